/-! ## the whole of both sides -/
def IC0 (α : Af) : Prop := (∀ e, e < 3 → ∀ u, u < 2 → (∃ n, n ≤ 60 ∧ α (idL e u) 1 = nI n) ∧ (α (idL e u) 0 = 0 ∨ α (idL e u) 0 = 1)) ∧ (∀ e, e < 3 → ∀ u, u < 9 → α (idS e u) 6 = 0 ∨ α (idS e u) 6 = 1) ∧ (∀ j, j < 60 → Ch (α idRb j)) ∧ (∀ e, e < 3 → ∀ j, j < 60 → Ch (α (idTp e) j))
def Rn (α ρ : Af) (n : Nat) : Prop := RowR α 0 (ρ mRow) n ∧ ∃ d, d ≤ 9999 ∧ ρ mRow 0 = nI d
def Rk1 (α ρ : Af) : Prop := α idB 7 = ρ idM 3 ∧ (¬ ρ idM 3 = 0 → ∃ n, RowR α 1 (ρ mKept) n ∧ ∃ d, d ≤ 9999 ∧ ρ mKept 0 = nI d)
def ShR (α ρ : Af) : Prop := ∀ s, s < 4 → q_okBits (ρ mBits s) = true ∧ α (idSh s) 0 = ρ mBits s ∧ ∃ m, m ≤ 24 ∧ α (idSh s) 1 = nI m ∧ ρ mSize s = nI m ∧ ∀ i, i < m → α (idSn s) i = ρ mCells (24 * s + i)
def TrR (α ρ : Af) : Prop := ∃ t, t ≤ 30 ∧ α idV 1 = nI t ∧ ρ idM 19 = nI t ∧ ∀ j, j < t → α idVt j = ρ mTrace j
def R (α ρ : Af) : Prop := (∃ n, Rn α ρ n) ∧ Rk1 α ρ ∧ (∀ j, j < 7 → α idEr j = ρ mErr j) ∧ ShR α ρ ∧ TrR α ρ ∧ IC0 α
def Same (p q : Int32 × Af) : Prop := p.1 = q.1 ∧ R p.2 q.2
theorem R.IC {α ρ : Af} (h : R α ρ) : IC α := by
  obtain ⟨⟨n, ⟨⟨h9, hn⟩, hsc, -, -, ⟨t, t1, t2, -⟩, ⟨w, w1, w2, -⟩, -⟩, -⟩, -, -, hsh, ⟨q, q1, q2, -⟩, hl, hs, hr, ht⟩ := h
  refine ⟨⟨n, h9, hsc.1.trans hn⟩, fun e he u hu => (hl e he u hu).1, fun e he => ⟨hs e he, fun u hu => (hl e he u hu).2, fun j hj => (ht e he j hj).2⟩, ⟨q, q1, q2⟩, ⟨t, t1, hsc.2.2.2.2.2.2.2.1.trans t2⟩, ⟨w, w1, hsc.2.2.2.2.2.2.2.2.trans w2⟩, fun s hs4 => ?_, hr, ht⟩
  obtain ⟨-, -, m, m1, m2, -⟩ := hsh s hs4
  exact ⟨m, m1, m2⟩
theorem R.IM {α ρ : Af} (h : R α ρ) : IM ρ := by
  obtain ⟨⟨n, hr, -⟩, -, -, hsh, ⟨q, q1, -, q2, -⟩, -⟩ := h
  obtain ⟨⟨h9, hn⟩, -, -, -, ⟨t, t1, t2, -⟩, ⟨w, w1, w2, -⟩, -⟩ := id hr
  refine ⟨⟨n, h9, hn, hr.Eb⟩, hr.Ml (by decide), hr.Ml (by decide), ⟨t, t1, t2⟩, ⟨w, w1, w2⟩, fun s hs4 => ?_, ⟨q, q1, q2⟩⟩
  obtain ⟨-, -, m, m1, -, m2, -⟩ := hsh s hs4
  exact ⟨m, m1, m2⟩
/-- the cells that the row now does not reach -/
def Kc (i : Nat) : Prop := i = 0 ∨ i = 2 ∨ i = 11 ∨ i = 14 ∨ (19 ≤ i ∧ i ≤ 30) ∨ i = 33 ∨ i = 34 ∨ i = 39 ∨ i = 40 ∨ (58 ≤ i ∧ i < 67)
theorem Rk1.of {α α' ρ ρ' : Af} (h : Rk1 α ρ) (ha : ∀ i, Kc i → α' i = α i) (h3 : ρ' idM 3 = ρ idM 3) (hk : ρ' mKept = ρ mKept) : Rk1 α' ρ' := by
  obtain ⟨h1, h2⟩ := h
  refine ⟨by rw [ha _ (by unfold Kc idB; omega), h3]; exact h1, fun hne => ?_⟩
  obtain ⟨n, r1, r2⟩ := h2 (by rw [← h3]; exact hne)
  rw [hk]
  have aD : α' (idD 1) = α (idD 1) := ha _ (by unfold Kc idD; omega)
  refine ⟨n, r1.cong (fun j _ _ _ _ _ => by rw [aD]) (fun u hu w _ => by rw [ha (idS 1 u) (by unfold Kc idS; omega)]) (fun u hu => ?_) (fun j _ => by rw [ha (idTp 1) (by unfold Kc idTp; omega)]) (fun j _ => by rw [ha (idWt 1) (by unfold Kc idWt; omega)]) (fun _ _ => rfl), r2⟩
  rw [ha (idL 1 u) (by unfold Kc idL; omega), ha (idLc 1 u) (by unfold Kc idLc; omega)]
  exact ⟨rfl, rfl, fun _ _ => rfl⟩
theorem ShR.of {α α' ρ ρ' : Af} (h : ShR α ρ) (ha : ∀ i, Kc i → α' i = α i) (h1 : ρ' mBits = ρ mBits) (h2 : ρ' mSize = ρ mSize) (h3 : ρ' mCells = ρ mCells) : ShR α' ρ' := fun s hs => by
  rw [h1, h2, h3, ha (idSh s) (by unfold Kc idSh; omega), ha (idSn s) (by unfold Kc idSn; omega)]
  exact h s hs
theorem TrR.of {α α' ρ ρ' : Af} (h : TrR α ρ) (ha : ∀ i, Kc i → α' i = α i) (h1 : ρ' idM 19 = ρ idM 19) (h2 : ρ' mTrace = ρ mTrace) : TrR α' ρ' := by
  unfold TrR
  rw [h1, h2, ha idV (by unfold Kc idV; omega), ha idVt (by unfold Kc idVt; omega)]
  exact h
/-- what is left, when the row now has changed -/
theorem R.row {α α' ρ ρ' : Af} {n : Nat} (h : R α ρ) (hr : Rn α' ρ' n) (hi : IC0 α') (ha : ∀ i, Kc i → α' i = α i) (hm3 : ρ' idM 3 = ρ idM 3) (hm19 : ρ' idM 19 = ρ idM 19) (hb : ∀ i, i = mKept ∨ i = mErr ∨ i = mBits ∨ i = mSize ∨ i = mCells ∨ i = mTrace → ρ' i = ρ i) : R α' ρ' := by
  obtain ⟨-, hk, he, hs, ht, -⟩ := h
  refine ⟨⟨n, hr⟩, hk.of ha hm3 (hb _ (Or.inl rfl)), fun j hj => ?_, hs.of ha (hb _ (by decide)) (hb _ (by decide)) (hb _ (by decide)), ht.of ha hm19 (hb _ (by decide)), hi⟩
  rw [ha idEr (by unfold Kc idEr; omega), hb mErr (by decide)]
  exact he j hj
theorem IC0.of {α α' : Af} (h : IC0 α) (hL : ∀ e, e < 3 → ∀ u, u < 2 → α' (idL e u) = α (idL e u)) (hS : ∀ e, e < 3 → ∀ u, u < 9 → α' (idS e u) 6 = α (idS e u) 6 ∨ α' (idS e u) 6 = 0 ∨ α' (idS e u) 6 = 1) (hR : α' idRb = α idRb) (hT : ∀ e, e < 3 → α' (idTp e) = α (idTp e)) : IC0 α' := by
  obtain ⟨a1, a2, a3, a4⟩ := h
  refine ⟨fun e he u hu => by rw [hL e he u hu]; exact a1 e he u hu, fun e he u hu => ?_, fun j hj => by rw [hR]; exact a3 j hj, fun e he j hj => by rw [hT e he]; exact a4 e he j hj⟩
  rcases hS e he u hu with q | q | q
  · rw [q]; exact a2 e he u hu
  · exact Or.inl q
  · exact Or.inr q
theorem R.err {α ρ : Af} {j : Nat} (h : R α ρ) (hj : j < 7) : Same (q_errP α j) (r_errP ρ j) := by
  refine ⟨rfl, ?_⟩
  show R (q_err α j) (r_err ρ j)
  obtain ⟨⟨n, hr, hd⟩, ⟨hk1, hk2⟩, he, hs, ht, hi⟩ := h
  have ne : ∀ i, i ≠ idEr → q_err α j i = α i := fun i hi => up_ne hi
  have nm : ∀ i, i ≠ mErr → r_err ρ j i = ρ i := fun i hi => up_ne hi
  have cg : ∀ e row m, e < 3 → RowR α e row m → RowR (q_err α j) e row m := fun e row m he2 h => h.cong (fun _ _ _ _ _ _ => by rw [ne _ (by unfold idD idEr; omega)]) (fun u hu _ _ => by rw [ne _ (by unfold idS idEr; omega)]) (fun u hu => by rw [ne _ (by unfold idL idEr; omega), ne _ (by unfold idLc idEr; omega)]; exact ⟨rfl, rfl, fun _ _ => rfl⟩) (fun _ _ => by rw [ne _ (by unfold idTp idEr; omega)]) (fun _ _ => by rw [ne _ (by unfold idWt idEr; omega)]) (fun _ _ => rfl)
  refine ⟨⟨n, ?_, by rw [nm mRow (by decide)]; exact hd⟩, ⟨by rw [ne idB (by decide), nm idM (by decide)]; exact hk1, fun q => ?_⟩, fun i hi7 => ?_, fun s hs4 => ?_, ?_, hi.of (fun e he u hu => ne _ (by unfold idL idEr; omega)) (fun e he u hu => Or.inl (by rw [ne _ (by unfold idS idEr; omega)])) (ne _ (by decide)) (fun e he => ne _ (by unfold idTp idEr; omega))⟩
  · rw [nm mRow (by decide)]; exact cg 0 _ n (by decide) hr
  · rw [nm mKept (by decide)]
    rw [nm idM (by decide)] at q
    obtain ⟨m, r1, r2⟩ := hk2 q
    exact ⟨m, cg 1 _ m (by decide) r1, r2⟩
  · show up α idEr j (α idEr j + 1) idEr i = up ρ mErr j (ρ mErr j + 1) mErr i
    rw [up_at, up_at, he i hi7, he j hj]
  · rw [nm mBits (by decide), nm mSize (by decide), nm mCells (by decide), ne (idSh s) (by unfold idSh idEr; omega), ne (idSn s) (by unfold idSn idEr; omega)]; exact hs s hs4
  · unfold TrR
    rw [nm idM (by decide), nm mTrace (by decide), ne idV (by decide), ne idVt (by decide)]; exact ht
