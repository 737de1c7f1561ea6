/-! ## calls on the tape, the waits, the laws -/
theorem RowR.mk' {α α' : Af} {e n : Nat} {row row' : Nat → Int32} (h : RowR α e row n) (hD : ∀ j, j ≠ 10 → j ≠ 12 → α' (idD e) j = α (idD e) j) (h10 : α' (idD e) 10 = row' 7) (h12 : α' (idD e) 12 = row' 8) (hS : ∀ u, u < 9 → α' (idS e u) = α (idS e u)) (hrow : ∀ k, k < 72 → k ≠ 7 → k ≠ 8 → row' k = row k) (hl : LwsR α' e row') (ht : TpR α' e row') (hw : WtR α' e row') : RowR α' e row' n := by
  obtain ⟨⟨h9, hn⟩, ⟨s1, s2, s3, s4, s5, s6, s7, s8, s9⟩, hsp, -, -, -, hrg⟩ := h
  refine ⟨⟨h9, by rw [hrow 2 (by decide) (by decide) (by decide)]; exact hn⟩, ⟨?_, ?_, ?_, ?_, ?_, ?_, ?_, h10, h12⟩, fun u hu => ?_, hl, ht, hw, ?_⟩
  · rw [hD 1 (by decide) (by decide), hrow 2 (by decide) (by decide) (by decide)]; exact s1
  · rw [hD 2 (by decide) (by decide), hrow 4 (by decide) (by decide) (by decide)]; exact s2
  · rw [hD 3 (by decide) (by decide), hrow 3 (by decide) (by decide) (by decide)]; exact s3
  · rw [hD 4 (by decide) (by decide), hrow 0 (by decide) (by decide) (by decide)]; exact s4
  · rw [hD 5 (by decide) (by decide), hrow 5 (by decide) (by decide) (by decide)]; exact s5
  · rw [hD 6 (by decide) (by decide), hrow 6 (by decide) (by decide) (by decide)]; exact s6
  · rw [hD 7 (by decide) (by decide), hrow 1 (by decide) (by decide) (by decide)]; exact s7
  · obtain ⟨a1, a2⟩ := hsp u hu
    have e2 : ∀ w, w < 7 → row' (mS u w) = row (mS u w) := fun w hw => hrow _ (mS_lt (by omega) hw) (by have := mS_ge (u := u) (w := w); omega) (by have := mS_ge (u := u) (w := w); omega)
    refine ⟨fun w hw => by rw [e2 w hw, hS u (by omega)]; exact a1 w hw, ?_⟩
    unfold SpOk at a2 ⊢
    simp only [e2 0 (by decide), e2 1 (by decide), e2 2 (by decide), e2 3 (by decide), e2 4 (by decide), e2 5 (by decide), e2 6 (by decide)]
    exact a2
  · unfold RgR
    rw [hrow 5 (by decide) (by decide) (by decide), hrow 6 (by decide) (by decide) (by decide)]; exact hrg
theorem R.row' {α α' ρ ρ' : Af} {n : Nat} (h : R α ρ) (hr : Rn α' ρ' n) (hi : IC0 α') (ha : ∀ i, Kc i → α' i = α i) (hb : ∀ i, i ≠ mRow → ρ' i = ρ i) : R α' ρ' :=
  h.row hr hi ha (by rw [hb idM (by decide)]) (by rw [hb idM (by decide)]) (fun i hi => hb i (by rcases hi with rfl | rfl | rfl | rfl | rfl | rfl <;> decide))
theorem e_untell {α ρ : Af} {use : Int32} (h : R α ρ) : Same (f_untell α use) (g_untell ρ use) := by
  obtain ⟨n, d, hq⟩ := h.q
  have hr := hq.2.1
  unfold f_untell g_untell
  by_cases c1 : q_within use 0 1 = true
  · rw [if_pos c1, if_pos (show q_isUse use = true from c1)]
    obtain ⟨u, -, hu, rfl⟩ := wi_of (v := use) (a := 0) (b := 1) rfl rfl (by decide) (by decide) c1
    rw [nI_clamp (by omega)]
    have hl := hr.2.2.2.1
    refine ⟨?_, ?_⟩
    · show (if α (idL 0 u) 0 = 0 then (0 : Int32) else 1) = if ρ mRow (aU u) ≤ 0 then 0 else 1
      rcases hl u (by omega) with ⟨a1, a2⟩ | ⟨a1, m, b1, b2, b3, b4, -⟩
      · rw [if_pos a1, a2]; rfl
      · rw [if_neg (by rw [a1]; decide), b4, if_neg (nI_nle b1 (by omega))]
    · show R (up α (idL 0 u) 0 0) (up ρ mRow (aU u) 0)
      have hu2 : u < 2 := by omega
      have r1 : ∀ k, k < 156 → up ρ mRow (aU u) 0 mRow k = ρ mRow k := fun k hk => by rw [up_row]; exact upd_ne (by unfold aU; omega)
      have nl : ∀ i, i ≠ idL 0 u → up α (idL 0 u) 0 0 i = α i := fun i hi => up_ne hi
      refine h.row' (n := n) ⟨hr.mk' (fun j _ _ => by rw [nl _ (by unfold idD idL; omega)]) ?_ ?_ (fun v hv => nl _ (by unfold idS idL; omega)) (fun k hk _ _ => r1 k (by omega)) (fun v hv => ?_) (hr.2.2.2.2.1.of (fun j _ => by rw [nl _ (by unfold idTp idL; omega)]) (r1 7 (by decide)) (fun k _ hk => r1 k (by omega))) (hr.2.2.2.2.2.1.of (fun j _ => by rw [nl _ (by unfold idWt idL; omega)]) (r1 8 (by decide)) (fun k _ hk => r1 k (by omega))), d, hq.2.2.2, by rw [r1 0 (by decide)]; exact hq.2.2.1⟩ ?_ (fun i hi => nl _ (by unfold Kc at hi; unfold idL; omega)) (fun i hi => up_ne hi)
      · rw [nl _ (by unfold idD idL; omega), r1 7 (by decide)]; exact hr.2.1.2.2.2.2.2.2.2.1
      · rw [nl _ (by unfold idD idL; omega), r1 8 (by decide)]; exact hr.2.1.2.2.2.2.2.2.2.2
      · by_cases e1 : v = u
        · subst e1
          exact Or.inl ⟨up_eq, up_eq⟩
        · have r2 : ∀ k, k ≠ aU u → up ρ mRow (aU u) 0 mRow k = ρ mRow k := fun k hk => up_ne2 hk
          refine (hl v hv).congr (by rw [nl _ (by unfold idL; omega)]) (by rw [nl _ (by unfold idL; omega)]) (fun i _ => by rw [nl _ (by unfold idLc idL; omega)]) (r2 _ (by unfold aU; omega)) (fun i hi => r2 _ ?_) (fun i hi => r2 _ ?_)
          · unfold aU; omega
          · unfold aU; omega
      · obtain ⟨i1, i2, i3, i4⟩ := h.2.2.2.2.2
        refine ⟨fun e he v hv => ?_, fun e he v hv => by rw [nl _ (by unfold idS idL; omega)]; exact i2 e he v hv, fun j hj => by rw [nl _ (by unfold idRb idL; omega)]; exact i3 j hj, fun e he j hj => by rw [nl _ (by unfold idTp idL; omega)]; exact i4 e he j hj⟩
        by_cases e1 : idL e v = idL 0 u
        · rw [e1]
          have e2 : e = 0 ∧ v = u := by unfold idL at e1; omega
          obtain ⟨rfl, rfl⟩ := e2
          rw [up_ne2 (by decide), up_eq]
          exact ⟨(i1 0 he v hv).1, Or.inl rfl⟩
        · rw [nl _ e1]; exact i1 e he v hv
  · rw [if_neg c1, if_neg (show ¬ q_isUse use = true from c1)]; exact h.err (by decide)
/-- a change of the waits -/
theorem Qq.waits {α α' ρ ρ' : Af} {n d : Nat} (hq : Qq α ρ n d) (hD : ∀ j, j ≠ 12 → α' (idD 0) j = α (idD 0) j) (h12 : α' (idD 0) 12 = ρ' mRow 8) (hw : WtR α' 0 (ρ' mRow)) (ha : ∀ i, i ≠ idD 0 → i ≠ idWt 0 → α' i = α i) (hrow : ∀ k, k ≠ 8 → ¬ (132 ≤ k ∧ k < 156) → ρ' mRow k = ρ mRow k) (hb : ∀ i, i ≠ mRow → ρ' i = ρ i) : R α' ρ' := by
  have hr := hq.2.1
  refine hq.1.row' (n := n) ⟨hr.mk' (fun j _ h2 => hD j h2) ?_ h12 (fun v hv => ha _ (by unfold idS idD; omega) (by unfold idS idWt; omega)) (fun k hk _ h8 => hrow k h8 (by omega)) (hr.2.2.2.1.of (fun u hu => ?_) (fun k hk _ => hrow k (by omega) (by omega))) (hr.2.2.2.2.1.of (fun j _ => by rw [ha _ (by decide) (by decide)]) (hrow 7 (by decide) (by omega)) (fun k hk hk2 => hrow k (by omega) (by omega))) hw, d, hq.2.2.2, by rw [hrow 0 (by decide) (by omega)]; exact hq.2.2.1⟩ (hq.1.2.2.2.2.2.of (fun e he u hu => ha _ (by unfold idL idD; omega) (by unfold idL idWt; omega)) (fun e he u hu => Or.inl (by rw [ha _ (by unfold idS idD; omega) (by unfold idS idWt; omega)])) (ha _ (by decide) (by decide)) (fun e he => ha _ (by unfold idTp idD; omega) (by unfold idTp idWt; omega))) (fun i hi => ha i (by unfold Kc at hi; unfold idD; omega) (by unfold Kc at hi; unfold idWt; omega)) hb
  · rw [hD 10 (by decide), hrow 7 (by decide) (by omega)]; exact hr.2.1.2.2.2.2.2.2.2.1
  · rw [ha _ (by unfold idL idD; omega) (by unfold idL idWt; omega), ha _ (by unfold idLc idD; omega) (by unfold idLc idWt; omega)]; exact ⟨rfl, rfl, fun _ _ => rfl⟩
theorem e_tell {α ρ : Af} {v : Int32} (h : R α ρ) : Same (f_tell α v) (g_tell ρ v) := by
  obtain ⟨n, d, hq⟩ := h.q
  obtain ⟨w, hw, w1, w2⟩ := hq.2.1.2.2.2.2.2.1
  have e12 := hq.2.1.2.1.2.2.2.2.2.2.2.2
  unfold f_tell g_tell r_tellS
  rw [e12, w1, nI_clamp (by omega)]
  by_cases c : w = 24
  · subst c
    rw [if_neg (by decide), if_pos (by decide)]
    exact h.err (by decide)
  · rw [if_pos (show nI w < 24 from (nI_ltI (a := w) (b := 24) (by omega) (by decide)).mpr (by omega)), if_neg (show ¬ nI w = 24 from fun q => c ((nI_eq (a := w) (b := 24) (by omega) (by decide)).mp q))]
    have a12 : up α (idWt 0) w v (idD 0) 12 = nI w := by rw [up_ne (by decide), e12, w1]
    have b8 : up ρ mRow (132 + w) v mRow 8 = nI w := by rw [up_ne2 (by omega), w1]
    rw [a12, b8]
    refine ⟨?_, ?_⟩
    · show up (up α (idWt 0) w v) (idD 0) 12 (nI w + 1) (idD 0) 12 = up (up ρ mRow (132 + w) v) mRow 8 (nI w + 1) mRow 8
      rw [up_eq, up_eq]
    · show R (up (up α (idWt 0) w v) (idD 0) 12 (nI w + 1)) (up (up ρ mRow (132 + w) v) mRow 8 (nI w + 1))
      refine hq.waits (fun j hj => by rw [up_ne2 hj, up_ne (by decide)]) (by rw [up_eq, up_eq]) ⟨w + 1, by omega, by rw [up_eq]; exact nI_1 w, fun j hj => ?_⟩ (fun i h1 h2 => by rw [up_ne h1, up_ne h2]) (fun k h1 h2 => by rw [up_ne2 h1, up_ne2 (by omega)]) (fun i hi => by rw [up_ne hi, up_ne hi])
      have l1 : up (up α (idWt 0) w v) (idD 0) 12 (nI w + 1) (idWt 0) j = if j = w then v else α (idWt 0) j := by rw [up_ne (by decide), up_at]
      have l2 : up (up ρ mRow (132 + w) v) mRow 8 (nI w + 1) mRow (132 + j) = if 132 + j = 132 + w then v else ρ mRow (132 + j) := by rw [up_ne2 (by omega), up_at]
      rw [l1, l2]
      by_cases q : j = w
      · rw [if_pos q, if_pos (by omega)]
      · rw [if_neg q, if_neg (by omega)]; exact w2 j (by omega)
theorem ck_eq {A ρ : Af} {n w : Nat} (h1 : ∀ i, i < n → A (idS 0 i) 4 = ρ mRow (mS i 4)) (h2 : ∀ i, i < w → A (idWt 0) i = ρ mRow (132 + i)) : ∀ j i, i + j = w → q_ck A n j i = r_ck ρ n j i
  | 0, _, _ => rfl
  | j + 1, i, hi => by
    simp only [q_ck, r_ck]
    by_cases c : i < n
    · rw [if_pos c, if_pos c, h1 i c, h2 i (by omega), ck_eq h1 h2 j (i + 1) (by omega)]
      by_cases c2 : ρ mRow (132 + i) = ρ mRow (mS i 4)
      · rw [if_pos c2, if_pos c2.symm]
      · rw [if_neg c2, if_neg (fun q => c2 q.symm)]
    · rw [if_neg c, if_neg c]
theorem e_check {α ρ : Af} (h : R α ρ) : Same (f_check α) (g_check ρ) := by
  obtain ⟨n, d, hq⟩ := h.q
  obtain ⟨h9, hn, hc⟩ := hq.n9
  obtain ⟨w, hw, w1, w2⟩ := hq.2.1.2.2.2.2.2.1
  have e12 := hq.2.1.2.1.2.2.2.2.2.2.2.2
  unfold f_check g_check
  rw [h.many, e12, hc, w1, show (nI w).toNatClampNeg = w from nI_clamp (by omega)]
  refine ⟨ck_eq (w := w) (fun i hi => ?_) (fun i hi => ?_) w 0 (by omega), ?_⟩
  · rw [up_ne (nD_S (by decide)), up_ne2 (by have := mS_ge (u := i) (w := 4); omega)]
    exact hq.rn.sp hi (by decide)
  · rw [up_ne (by decide), up_ne2 (by omega)]; exact w2 i hi
  · show R (up α (idD 0) 12 0) (up ρ mRow 8 0)
    refine hq.waits (fun j hj => up_ne2 hj) (by rw [up_eq, up_eq]) ⟨0, by decide, by rw [up_eq]; rfl, fun j hj => absurd hj (Nat.not_lt_zero j)⟩ (fun i h1 _ => up_ne h1) (fun k h1 _ => up_ne2 h1) (fun i hi => up_ne hi)
/-! ## right, as a sheet says -/
theorem right_eq {α ρ : Af} {e s n m : Nat} (hb : ∀ i, i < n → q_bearsU α e i = r_bearsU ρ i) (hc : ∀ i, i < m → α (idSn s) i = ρ mCells (24 * s + i)) : ∀ j i, i + j = m → q_right α e s n j i = r_right ρ s n j i
  | 0, _, _ => rfl
  | j + 1, i, hi => by
    simp only [q_right, r_right]
    by_cases c : i < n
    · rw [if_pos c, if_pos c, hb i c, hc i (by omega), right_eq hb hc j (i + 1) (by omega)]
      by_cases c2 : r_bearsU ρ i = ρ mCells (24 * s + i)
      · rw [if_pos c2, if_pos c2.symm]
      · rw [if_neg c2, if_neg (fun q => c2 q.symm)]
    · rw [if_neg c, if_neg c]
theorem R.nt {α ρ : Af} {v : Int32} (h : R α ρ) : (q_isSheet v = true ∧ ¬ q_miss (α (idSh v.toNatClampNeg) 0) = true ∧ r_nt ρ v = 0) ∨ (q_isSheet v = true ∧ q_miss (α (idSh v.toNatClampNeg) 0) = true ∧ r_ntP ρ v = r_errP ρ 2 ∧ ¬ r_nt ρ v = 0) ∨ (¬ q_isSheet v = true ∧ r_ntP ρ v = r_errP ρ 1 ∧ ¬ r_nt ρ v = 0) := by
  by_cases c1 : q_isSheet v = true
  · obtain ⟨s, hs, rfl⟩ := sh_of c1
    have hc : (nI s).toNatClampNeg = s := nI_clamp (by omega)
    obtain ⟨-, e1, -⟩ := h.2.2.2.1 s hs
    by_cases c2 : ρ mBits s = 0
    · refine Or.inr (Or.inl ⟨c1, ?_, ?_, ?_⟩)
      · rw [hc, e1]; unfold q_miss; rw [if_pos c2]
      · unfold r_ntP r_errP r_nt r_ntJ; rw [if_pos c1, if_pos c1, hc, if_pos c2]
      · unfold r_nt; rw [if_pos c1, hc, if_pos c2]; decide
    · refine Or.inl ⟨c1, ?_, ?_⟩
      · rw [hc, e1]; unfold q_miss; rw [if_neg c2]; decide
      · unfold r_nt; rw [if_pos c1, hc, if_neg c2]
  · refine Or.inr (Or.inr ⟨c1, ?_, ?_⟩)
    · unfold r_ntP r_errP r_nt r_ntJ; rw [if_neg c1, if_neg c1]
    · unfold r_nt; rw [if_neg c1]; decide
theorem e_judge {α ρ : Af} {v : Int32} (h : R α ρ) : Same (f_judge α v) (g_judge ρ v) := by
  obtain ⟨n, d, hq⟩ := h.q
  obtain ⟨h9, hn, hc⟩ := hq.n9
  unfold f_judge g_judge
  rcases h.nt (v := v) with ⟨c1, c2, c3⟩ | ⟨c1, c2, c3, c4⟩ | ⟨c1, c3, c4⟩
  · rw [if_pos c1, if_neg c2, if_pos c3, h.many, hc]
    obtain ⟨s, hs, rfl⟩ := sh_of c1
    obtain ⟨-, -, m, hm, m1, m2, m3⟩ := h.2.2.2.1 s hs
    rw [nI_clamp (by omega), m1, m2, nI_clamp (by omega)]
    refine ⟨?_, h⟩
    show nI (q_right α 0 s n m 0) = nI (r_right ρ s n m 0)
    rw [right_eq (fun i hi => hq.2.1.bears hi) m3 m 0 (by omega)]
  · rw [if_pos c1, if_pos c2, if_neg c4, c3]; exact h.err (by decide)
  · rw [if_neg c1, if_neg c4, c3]; exact h.err (by decide)
