theorem q_miss_iff {b : Int32} : q_miss b = true ↔ b = 0 := by
  unfold q_miss
  by_cases c : b = 0
  · rw [if_pos c]; exact ⟨fun _ => c, fun _ => rfl⟩
  · rw [if_neg c]; exact ⟨fun h => (by cases h), fun h => absurd h c⟩
/-- an error of a move, told on both sides -/
theorem R.nmErr {α ρ : Af} {v i v2 j n_ : Int32} {q : Nat} (h : R α ρ) (hq : q < 7) (h1 : r_nm ρ v i v2 j n_ = -1000000000 - nI q) (h2 : r_nmJ ρ v i v2 j n_ = q) (h0 : ¬ (-1000000000 - nI q : Int32) = 0) : Same (q_errP α q) (g_move ρ v i v2 j n_) := by
  unfold g_move
  rw [h1, h2, if_neg h0]
  exact h.err hq
theorem e_move {α ρ : Af} {v i v2 j n_ : Int32} (h : R α ρ) : Same (f_move α v i v2 j n_) (g_move ρ v i v2 j n_) := by
  unfold f_move
  by_cases c1 : q_isSheet v = true
  rotate_left
  · rw [if_neg c1]
    exact h.nmErr (by decide) (by unfold r_nm; rw [if_neg c1]) (by unfold r_nmJ; rw [if_neg c1]) (by decide)
  rw [if_pos c1]
  by_cases c2 : q_isSheet v2 = true
  rotate_left
  · rw [if_neg c2]
    exact h.nmErr (by decide) (by unfold r_nm; rw [if_pos c1, if_neg c2]) (by unfold r_nmJ; rw [if_pos c1, if_neg c2]) (by decide)
  rw [if_pos c2]
  obtain ⟨s, hs, rfl⟩ := sh_of c1
  obtain ⟨s2, hs2, rfl⟩ := sh_of c2
  have es : (nI s).toNatClampNeg = s := nI_clamp (by omega)
  have es2 : (nI s2).toNatClampNeg = s2 := nI_clamp (by omega)
  obtain ⟨k1, k2, z, z24, a1, a2, a3⟩ := h.2.2.2.1 s hs
  obtain ⟨l1, l2, y, y24, b1, b2, b3⟩ := h.2.2.2.1 s2 hs2
  rw [es, es2, k2, l2, a1, b1]
  by_cases c3 : ρ mBits s = 0
  · rw [if_pos (q_miss_iff.mpr c3)]
    exact h.nmErr (by decide) (by unfold r_nm; rw [if_pos c1, if_pos c2, es, if_pos c3]) (by unfold r_nmJ; rw [if_pos c1, if_pos c2, es, if_pos c3]) (by decide)
  rw [if_neg (mt q_miss_iff.mp c3)]
  by_cases c4 : ρ mBits s2 = 0
  · rw [if_pos (q_miss_iff.mpr c4)]
    exact h.nmErr (by decide) (by unfold r_nm; rw [if_pos c1, if_pos c2, es, es2, if_neg c3, if_pos c4]) (by unfold r_nmJ; rw [if_pos c1, if_pos c2, es, es2, if_neg c3, if_pos c4]) (by decide)
  rw [if_neg (mt q_miss_iff.mp c4)]
  by_cases c5 : ρ mBits s = ρ mBits s2
  rotate_left
  · rw [if_neg c5]
    exact h.nmErr (by decide) (by unfold r_nm; rw [if_pos c1, if_pos c2, es, es2, if_neg c3, if_neg c4, if_neg c5]) (by unfold r_nmJ; rw [if_pos c1, if_pos c2, es, es2, if_neg c3, if_neg c4, if_neg c5]) (by decide)
  rw [if_pos c5]
  have hm := mvOk_iff (z1 := z) (z2 := y) (i := i) (j := j) (n := n_) z24 y24
  by_cases c6 : r_mvOk (nI z) (nI y) i j n_ = true
  · obtain ⟨r1, r2⟩ := hm.mp c6
    rw [if_pos r1, if_pos r2]
    have e0 : r_nm ρ (nI s) i (nI s2) j n_ = 0 := by unfold r_nm; rw [if_pos c1, if_pos c2, es, es2, if_neg c3, if_neg c4, if_pos c5, a2, b2, if_pos c6]
    unfold g_move
    rw [if_pos e0, es, es2]
    obtain ⟨p, q, m, rfl, rfl, rfl, p1, q1⟩ := mvOk_of z24 y24 c6
    rw [show (nI p).toNatClampNeg = p from nI_clamp (by omega), show (nI q).toNatClampNeg = q from nI_clamp (by omega), show (nI m).toNatClampNeg = m from nI_clamp (by omega)]
    have at' := fun k => r_mvL_at (ρ := ρ) (s := s) (i := p) (s2 := s2) (j := q) (n := m) (by omega) (by omega) m (Nat.le_refl _) k
    have ne' := fun k (hk : k ≠ mCells) => r_mvL_ne (ρ := ρ) (s := s) (i := p) (s2 := s2) (j := q) (n := m) hk m
    generalize r_mvL ρ s p s2 q m m = X at at' ne' ⊢
    refine ⟨rfl, ?_⟩
    show R (upR α (idSn s2) (va_cpy (α (idSn s)) (α (idSn s2)) p q m)) X
    refine h.shs (fun s' hs' => ?_) (fun i' hi' => upR_ne (by unfold idSn; omega)) (fun i' _ _ h3 => ne' i' h3)
    obtain ⟨m1, m2, x, x24, d1, d2, d3⟩ := h.2.2.2.1 s' hs'
    rw [ne' mBits (by decide), ne' mSize (by decide), upR_ne (show idSh s' ≠ idSn s2 by unfold idSh idSn; omega)]
    refine ⟨m1, m2, x, x24, d1, d2, fun k hk => ?_⟩
    rw [at']
    by_cases e : s' = s2
    · subst e
      have xy : x = y := by rw [d2] at b2; exact (nI_eq (by omega) (by omega)).mp b2
      rw [upR_eq]
      unfold va_cpy
      by_cases g : q ≤ k ∧ k < q + m
      · rw [if_pos g, if_pos (by refine ⟨by omega, by omega, ?_⟩; split <;> omega), show 24 * s + p + (24 * s' + k - (24 * s' + q)) = 24 * s + (p + (k - q)) by omega]
        exact a3 _ (by omega)
      · rw [if_neg g, if_neg (by omega)]
        exact d3 k hk
    · rw [upR_ne (by unfold idSn; omega), if_neg (by omega)]
      exact d3 k hk
  · have r3 : ¬ (q_hasRow (nI z) i n_ = true ∧ q_hasRow (nI y) j n_ = true) := fun q => c6 (hm.mpr q)
    have e1 : Same (q_errP α 1) (g_move ρ (nI s) i (nI s2) j n_) := h.nmErr (by decide) (by unfold r_nm; rw [if_pos c1, if_pos c2, es, es2, if_neg c3, if_neg c4, if_pos c5, a2, b2, if_neg c6]) (by unfold r_nmJ; rw [if_pos c1, if_pos c2, es, es2, if_neg c3, if_neg c4, if_pos c5]) (by decide)
    by_cases g1 : q_hasRow (nI z) i n_ = true
    · rw [if_pos g1, if_neg (fun g2 => r3 ⟨g1, g2⟩)]; exact e1
    · rw [if_neg g1]; exact e1
