theorem q_bkT_far {α : Af} {n i : Nat} (h9 : n ≤ 9) (hd : ¬ D2 i) : q_bkT α n i = α i := by
  unfold q_bkT
  rw [q_bakes_ne (fun v hv => by unfold D2 at hd; unfold idS; omega), q_take_ne (by unfold D2 at hd; unfold idD; omega) (fun v hv => by unfold D2 at hd; unfold idS; omega) (fun v hv => by unfold D2 at hd; unfold idL idLc; omega) (by unfold D2 at hd; unfold idTp; omega) (by unfold D2 at hd; unfold idWt; omega)]
theorem q_bkT_R0 {α ρ : Af} {n d : Nat} (hq : Qq α ρ n d) : RowR (q_bkT α n) 0 (ρ mRow) n := by
  have h9 := hq.2.1.1.1
  have f := fun i hd => q_bkT_far (α := α) (n := n) (i := i) h9 hd
  exact hq.2.1.cong (fun _ _ _ _ _ _ => by rw [f _ (by unfold D2 idD; omega)]) (fun u hu _ _ => by rw [f _ (by unfold D2 idS; omega)]) (fun u hu => by rw [f _ (by unfold D2 idL; omega), f _ (by unfold D2 idLc; omega)]; exact ⟨rfl, rfl, fun _ _ => rfl⟩) (fun _ _ => by rw [f _ (by unfold D2 idTp; omega)]) (fun _ _ => by rw [f _ (by unfold D2 idWt; omega)]) (fun _ _ => rfl)
theorem q_bakes_6 {T : Af} {e u n : Nat} (h9 : n ≤ 9) (hT : T (idS e u) 6 = 0 ∨ T (idS e u) 6 = 1) : q_bakes T e n (idS e u) 6 = 0 ∨ q_bakes T e n (idS e u) 6 = 1 := by
  by_cases c : u < n
  · left; rw [q_bakes_S n c h9]; rfl
  · rw [q_bakes_ne (fun v hv => by unfold idS; omega)]; exact hT
theorem q_bkT_IC {α : Af} {n : Nat} (h9 : n ≤ 9) (h : IC0 α) : IC0 (q_bkT α n) := by
  have h1 := h.take (e := 2) (e' := 0) (by decide) (by decide) (by decide)
  refine h1.of (fun e he u hu => q_bakes_ne (fun v hv => by unfold idL idS; omega)) (fun e he u hu => ?_) (q_bakes_ne (fun v hv => by unfold idRb idS; omega)) (fun e he => q_bakes_ne (fun v hv => by unfold idTp idS; omega))
  by_cases q : e = 2
  · subst q
    exact Or.inr (q_bakes_6 h9 (h1.2.1 2 he u hu))
  · exact Or.inl (by unfold q_bkT; rw [q_bakes_ne (fun v hv => by unfold idS; omega)])
theorem Qq.bkJ {α ρ : Af} {n d i k : Nat} {a b load : Int32} (hq : Qq α ρ n d) : q_joins (q_endsU (q_bkT α n) 0) ((q_bset α 0 load n &&& (nI i ^^^ (-1))) ||| (q_bset (q_bkT α n) 2 load n &&& nI i)) n a b = r_joins (r_endsU (r_bk ρ n a b load k).2) (r_fill (r_bkB (r_bk ρ n a b load k).2 (nI i)) (r_bk ρ n a b load k).2 n mBear) load n a b := by
  have h9 := hq.2.1.1.1
  have hr : (r_bk ρ n a b load k).2 mRow = ρ mRow := r_bk_ne (by decide) k
  have h0 := q_bkT_R0 hq
  refine joins_eq h9 (fun j hj => by rw [r_endsU_of hr]; exact h0.ends hj) (fun j hj => ?_)
  show ((q_bset α 0 load n &&& (nI i ^^^ (-1))) ||| (q_bset (q_bkT α n) 2 load n &&& nI i)).toBitVec.getLsbD j = _
  rw [bit_or, bit_and, bit_and, bit_not (by omega), show (q_bset α 0 load n).toBitVec.getLsbD j = _ from q_bset_bit n h9 (by omega), show (q_bset (q_bkT α n) 2 load n).toBitVec.getLsbD j = _ from q_bset_bit n h9 (by omega), decide_eq_true hj, Bool.true_and, Bool.true_and, hq.2.1.bears hj, bkB_eq hq hj, show (nI i).toBitVec.getLsbD j = i.testBit j from bit_nI (by omega), r_fill_at hj]
  unfold r_bkB
  rw [hr, r_bearsU_of hr]
  by_cases c : i.testBit j = true
  · rw [if_pos ((shr_bit (by omega)).mpr c), c]; simp
  · rw [if_neg (mt (shr_bit (by omega)).mp c), Bool.not_eq_true _ |>.mp c]; simp
theorem Qq.bk {α ρ : Af} {n d : Nat} {a b load : Int32} (hq : Qq α ρ n d) : ∀ i, q_bk (q_bkT α n) n (q_bset α 0 load n) (q_bset (q_bkT α n) 2 load n) a b i = (r_bk ρ n a b load i).1
  | 0 => rfl
  | i + 1 => by
    have ih := Qq.bk (a := a) (b := b) (load := load) hq i
    have hj := hq.bkJ (i := i) (k := i) (a := a) (b := b) (load := load)
    have hr : (r_bk ρ n a b load i).2 mRow = ρ mRow := r_bk_ne (by decide) i
    have hf : q_flour (q_bkT α n) 0 (nI i) n = r_flour (r_bk ρ n a b load i).2 (nI i) n := by
      rw [r_flour_of hr, ← bkT_flour hq n (Nat.le_refl _)]
      have h9 := hq.2.1.1.1
      have t : ∀ j, j ≤ n → q_flour (q_bkT α n) 0 (nI i) j = q_flour α 0 (nI i) j := by
        intro j
        induction j with
        | zero => intro _; rfl
        | succ j ihj =>
          intro hj2
          have e : q_takesU (q_bkT α n) 0 j = q_takesU α 0 j := by unfold q_takesU; rw [q_bkT_far h9 (by unfold D2 idS; omega)]
          simp only [q_flour]
          rw [ihj (by omega), e]
      exact t n (Nat.le_refl _)
    simp only [q_bk, r_bk]
    rw [hj, hf, ih]
    unfold r_bkT
    by_cases c1 : (r_bk ρ n a b load i).1.1 < 0
    · rw [if_pos c1, if_pos c1]
    · rw [if_neg c1, if_neg c1]
      by_cases c2 : (r_bk ρ n a b load i).1.2 ≤ r_flour (r_bk ρ n a b load i).2 (nI i) n
      · rw [if_pos c2, if_pos c2]
      · rw [if_neg c2, if_neg c2]
theorem e_baking {α ρ : Af} {a b load what : Int32} (h : R α ρ) : Same (f_baking α a b load what) (g_baking ρ a b load what) := by
  obtain ⟨n, d, hq⟩ := h.q
  obtain ⟨h9, hn, hc⟩ := hq.n9
  unfold f_baking g_baking q_bkR
  rw [h.many, hc]
  by_cases c1 : q_areTwo a b = true
  · rw [if_pos c1, if_pos c1]
    by_cases c2 : q_isLoad load = true
    · rw [if_pos c2, if_pos c2]
      by_cases c3 : q_within what 0 1 = true
      · rw [if_pos c3, if_pos c3, hq.bk]
        have hR : R (q_bkT α n) (r_bk ρ n a b load (2 ^ n)).2 := h.th (fun i hd => q_bkT_far h9 hd) (q_bkT_IC h9 h.2.2.2.2.2) (fun k _ => by rw [r_bk_ne (by decide)]) (fun i _ b _ => r_bk_ne b _)
        by_cases c4 : (0 : Int32) ≤ (r_bk ρ n a b load (2 ^ n)).1.1
        · rw [if_pos c4, if_pos c4]; exact ⟨rfl, hR⟩
        · rw [if_neg c4, if_neg c4]; exact hR.err (by decide)
      · rw [if_neg c3, if_neg c3]; exact h.err (by decide)
    · rw [if_neg c2, if_neg c2]; exact h.err (by decide)
  · rw [if_neg c1, if_neg c1]; exact h.err (by decide)
