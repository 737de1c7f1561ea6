/-! ## sheets -/
theorem R.shs {α α' ρ ρ' : Af} (h : R α ρ) (hs : ShR α' ρ') (ha : ∀ i, ¬ (23 ≤ i ∧ i ≤ 30) → α' i = α i) (hb : ∀ i, i ≠ mBits → i ≠ mSize → i ≠ mCells → ρ' i = ρ i) : R α' ρ' := by
  obtain ⟨⟨n, hr, hd⟩, ⟨hk1, hk2⟩, he, -, ht, hi⟩ := h
  have cg : ∀ e row m, e < 3 → RowR α e row m → RowR α' e row m := fun e row m he2 h => h.cong (fun _ _ _ _ _ _ => by rw [ha _ (by unfold idD; omega)]) (fun u hu _ _ => by rw [ha _ (by unfold idS; omega)]) (fun u hu => by rw [ha _ (by unfold idL; omega), ha _ (by unfold idLc; omega)]; exact ⟨rfl, rfl, fun _ _ => rfl⟩) (fun _ _ => by rw [ha _ (by unfold idTp; omega)]) (fun _ _ => by rw [ha _ (by unfold idWt; omega)]) (fun _ _ => rfl)
  have b1 := hb mRow (by decide) (by decide) (by decide)
  have b2 := hb mKept (by decide) (by decide) (by decide)
  have b3 := hb idM (by decide) (by decide) (by decide)
  refine ⟨⟨n, by rw [b1]; exact cg 0 _ n (by decide) hr, by rw [b1]; exact hd⟩, ⟨by rw [ha idB (by decide), b3]; exact hk1, fun q => ?_⟩, fun j hj => ?_, hs, ?_, hi.of (fun e he u hu => ha _ (by unfold idL; omega)) (fun e he u hu => Or.inl (by rw [ha _ (by unfold idS; omega)])) (ha _ (by decide)) (fun e he => ha _ (by unfold idTp; omega))⟩
  · rw [b2]
    rw [b3] at q
    obtain ⟨m, r1, r2⟩ := hk2 q
    exact ⟨m, cg 1 _ m (by decide) r1, r2⟩
  · rw [ha idEr (by decide), hb mErr (by decide) (by decide) (by decide)]; exact he j hj
  · unfold TrR
    rw [b3, hb mTrace (by decide) (by decide) (by decide), ha idV (by decide), ha idVt (by decide)]; exact ht
theorem q_zero_at {A : Af} {s : Nat} : ∀ n i, q_zero A s n (idSn s) i = if i < n then 0 else A (idSn s) i
  | 0, i => by rw [if_neg (by omega)]; rfl
  | n + 1, i => by
    simp only [q_zero]
    rw [up_at]
    by_cases e : i = n
    · rw [if_pos e, if_pos (by omega)]
    · rw [if_neg e, q_zero_at n i]
      by_cases e2 : i < n
      · rw [if_pos e2, if_pos (by omega)]
      · rw [if_neg e2, if_neg (by omega)]
theorem q_zero_ne {A : Af} {s i : Nat} (h : i ≠ idSn s) : ∀ n, q_zero A s n i = A i
  | 0 => rfl
  | n + 1 => by simp only [q_zero]; rw [up_ne h, q_zero_ne h n]
theorem r_clr_at {B : Af} {s : Nat} : ∀ n k, r_clr B s n mCells k = if 24 * s ≤ k ∧ k < 24 * s + n then 0 else B mCells k
  | 0, k => by rw [if_neg (by omega)]; rfl
  | n + 1, k => by
    simp only [r_clr]
    rw [up_at]
    by_cases e : k = 24 * s + n
    · rw [if_pos e, if_pos (by omega)]
    · rw [if_neg e, r_clr_at n k]
      by_cases e2 : 24 * s ≤ k ∧ k < 24 * s + n
      · rw [if_pos e2, if_pos (by omega)]
      · rw [if_neg e2, if_neg (by omega)]
theorem r_clr_ne {B : Af} {s i : Nat} (h : i ≠ mCells) : ∀ n, r_clr B s n i = B i
  | 0 => rfl
  | n + 1 => by simp only [r_clr]; rw [up_ne h, r_clr_ne h n]
theorem R.renew {α ρ : Af} {s m : Nat} {b : Int32} (h : R α ρ) (hs : s < 4) (hb : q_okBits b = true) (hm : m ≤ 24) : R (q_renew α s b (nI m)) (r_shS ρ s b (nI m)) := by
  have n1 : ∀ i, i ≠ idSn s → i ≠ idSh s → q_renew α s b (nI m) i = α i := fun i h1 h2 => by unfold q_renew; rw [q_zero_ne h1, up_ne h2, up_ne h2]
  refine h.shs (fun s' hs' => ?_) (fun i hi => n1 i (by unfold idSn; omega) (by unfold idSh; omega)) (fun i h1 h2 h3 => by unfold r_shS; rw [r_clr_ne h3, up_ne h2, up_ne h1])
  obtain ⟨k1, k2, z, z1, z2, z3, z4⟩ := h.2.2.2.1 s' hs'
  have eb : r_shS ρ s b (nI m) mBits s' = if s' = s then b else ρ mBits s' := by unfold r_shS; rw [r_clr_ne (by decide), up_ne (by decide), up_at]
  have ez : r_shS ρ s b (nI m) mSize s' = if s' = s then nI m else ρ mSize s' := by unfold r_shS; rw [r_clr_ne (by decide), up_at, up_ne (by decide)]
  have ec : ∀ k, r_shS ρ s b (nI m) mCells k = if 24 * s ≤ k ∧ k < 24 * s + 24 then 0 else ρ mCells k := fun k => by unfold r_shS; rw [r_clr_at, up_ne (by decide), up_ne (by decide)]
  rw [eb, ez]
  by_cases e : s' = s
  · subst e
    rw [if_pos rfl, if_pos rfl]
    refine ⟨hb, ?_, m, hm, ?_, rfl, fun i hi => ?_⟩
    · unfold q_renew; rw [q_zero_ne (by unfold idSh idSn; omega), up_ne2 (by decide), up_eq]
    · unfold q_renew; rw [q_zero_ne (by unfold idSh idSn; omega), up_eq]
    · rw [ec, if_pos (by omega)]
      unfold q_renew
      rw [q_zero_at, if_pos (by omega)]
  · rw [if_neg e, if_neg e, n1 _ (by unfold idSh idSn; omega) (by unfold idSh; omega), n1 _ (by unfold idSn; omega) (by unfold idSn idSh; omega)]
    exact ⟨k1, k2, z, z1, z2, z3, fun i hi => by rw [ec, if_neg (by omega)]; exact z4 i hi⟩
theorem okBits_pos {b : Int32} (h : q_okBits b = true) (h0 : ¬ b = 0) : ¬ b ≤ 0 := by
  unfold q_okBits at h
  rw [if_neg h0] at h
  by_cases c1 : b = 8
  · rw [c1]; decide
  rw [if_neg c1] at h
  by_cases c2 : b = 16
  · rw [c2]; decide
  rw [if_neg c2] at h
  by_cases c3 : b = 32
  · rw [c3]; decide
  rw [if_neg c3] at h
  cases h
theorem e_sheet {α ρ : Af} {v b n_ : Int32} (h : R α ρ) : Same (f_sheet α v b n_) (g_sheet ρ v b n_) := by
  unfold f_sheet g_sheet
  by_cases c1 : q_isSheet v = true
  · rw [if_pos c1, if_pos c1]
    obtain ⟨s, hs, rfl⟩ := sh_of c1
    rw [nI_clamp (by omega)]
    by_cases c2 : q_okBits b = true
    · rw [if_pos c2, if_pos c2]
      by_cases c3 : b = 0
      · rw [if_pos c3, if_pos (show b ≤ 0 by rw [c3]; decide), if_pos c3]
        exact ⟨rfl, h.renew (m := 0) hs c2 (by decide)⟩
      · rw [if_neg c3, if_neg (okBits_pos c2 c3), if_neg c3]
        by_cases c4 : (0 : Int32) ≤ n_
        · rw [if_pos c4, if_pos c4]
          by_cases c5 : n_ ≤ 24
          · rw [if_pos c5, if_pos c5]
            obtain ⟨m, hm, rfl⟩ := nI_of (x := n_) (fun q => by have k1 := Int32.lt_iff_toInt_lt.mp q; have k2 := Int32.le_iff_toInt_le.mp c4; omega)
            exact ⟨rfl, h.renew hs c2 ((nI_leI (a := m) (b := 24) hm (by decide)).mp c5)⟩
          · rw [if_neg c5, if_neg c5]; exact h.err (by decide)
        · rw [if_neg c4, if_neg c4]; exact h.err (by decide)
    · rw [if_neg c2, if_neg c2]; exact h.err (by decide)
  · rw [if_neg c1, if_neg c1]; exact h.err (by decide)
theorem e_put {α ρ : Af} {v i x : Int32} (h : R α ρ) : Same (f_put α v i x) (g_put ρ v i x) := by
  unfold f_put g_put
  rcases h.nt (v := v) with ⟨c1, c2, c3⟩ | ⟨c1, c2, c3, c4⟩ | ⟨c1, c3, c4⟩
  · rw [if_pos c1, if_neg c2, if_pos c3]
    obtain ⟨s, hs, rfl⟩ := sh_of c1
    obtain ⟨k1, k2, m, hm, m1, m2, m3⟩ := h.2.2.2.1 s hs
    rw [nI_clamp (by omega), k2, m1, m2]
    by_cases c5 : q_within i 0 (nI m - 1) = true
    · rw [if_pos c5, if_pos c5]
      obtain ⟨j, hj, rfl⟩ := hs_of (v := i) (n := m) (by omega) c5
      rw [nI_clamp (by omega)]
      refine ⟨rfl, ?_⟩
      show R (up α (idSn s) j (q_nar (ρ mBits s) x)) (up ρ mCells (24 * s + j) (q_nar (ρ mBits s) x))
      refine h.shs (fun s' hs' => ?_) (fun i hi => up_ne (by unfold idSn; omega)) (fun i _ _ h3 => up_ne h3)
      obtain ⟨k1, k2, z, z1, z2, z3, z4⟩ := h.2.2.2.1 s' hs'
      rw [up_ne (show idSh s' ≠ idSn s by unfold idSh idSn; omega), up_ne (show mBits ≠ mCells by decide), up_ne (show mSize ≠ mCells by decide)]
      refine ⟨k1, k2, z, z1, z2, z3, fun i hi => ?_⟩
      by_cases e : s' = s
      · subst e
        rw [up_at, up_at]
        by_cases e2 : i = j
        · rw [if_pos e2, if_pos (by omega)]
        · rw [if_neg e2, if_neg (by omega)]; exact z4 i hi
      · rw [up_ne (by unfold idSn; omega), up_ne2 (by omega)]; exact z4 i hi
    · rw [if_neg c5, if_neg c5]; exact h.err (by decide)
  · rw [if_pos c1, if_pos c2, if_neg c4, c3]; exact h.err (by decide)
  · rw [if_neg c1, if_neg c4, c3]; exact h.err (by decide)
/-! ## soaks -/
theorem Qq.sk {s m : Nat} (hs : s < 4) (hm : m ≤ 24) : ∀ (j i : Nat) {α ρ : Af} {n d : Nat}, Qq α ρ n d → (∀ i, i < m → α (idSn s) i = ρ mCells (24 * s + i)) → i + j = m → Same (q_sk s n j i α) (r_sk s n j i ρ)
  | 0, _, _, _, _, _, hq, _, _ => ⟨rfl, hq.1⟩
  | j + 1, i, α, ρ, n, d, hq, hc, hi => by
    simp only [q_sk, r_sk]
    by_cases c : i < n
    · rw [if_pos c, if_pos c, hc i (by omega)]
      by_cases c2 : q_within (ρ mCells (24 * s + i)) 0 9 = true
      · rw [if_pos c2, if_pos c2]
        obtain ⟨w, -, hw, ew⟩ := wi_of (v := ρ mCells (24 * s + i)) (a := 0) (b := 9) rfl rfl (by decide) (by decide) c2
        obtain ⟨o0, o1, o2, o3, o4, o5, o6⟩ := hq.rn.ok c
        refine Qq.sk hs hm j (i + 1) (hq.setS c (w := 5) (v := ρ mCells (24 * s + i)) (by decide) ⟨o0, o1, o2, o3, o4, ⟨w, hw, ew⟩, o6⟩) (fun k hk => ?_) (by omega)
        have h9 := hq.2.1.1.1
        rw [up_ne (by unfold idSn idS; omega), up_ne (by decide)]
        exact hc k hk
      · rw [if_neg c2, if_neg c2]; exact ⟨rfl, hq.1⟩
    · rw [if_neg c, if_neg c]; exact ⟨rfl, hq.1⟩
theorem e_soaks {α ρ : Af} {v : Int32} (h : R α ρ) : Same (f_soaks α v) (g_soaks ρ v) := by
  obtain ⟨n, d, hq⟩ := h.q
  obtain ⟨h9, hn, hc⟩ := hq.n9
  unfold f_soaks g_soaks
  rcases h.nt (v := v) with ⟨c1, c2, c3⟩ | ⟨c1, c2, c3, c4⟩ | ⟨c1, c3, c4⟩
  · rw [if_pos c1, if_neg c2, if_pos c3, h.many, hc]
    obtain ⟨s, hs, rfl⟩ := sh_of c1
    obtain ⟨-, -, m, hm, m1, m2, m3⟩ := h.2.2.2.1 s hs
    rw [nI_clamp (by omega), m1, m2, nI_clamp (by omega)]
    exact hq.sk hs hm m 0 m3 (by omega)
  · rw [if_pos c1, if_pos c2, if_neg c4, c3]; exact h.err (by decide)
  · rw [if_neg c1, if_neg c4, c3]; exact h.err (by decide)
