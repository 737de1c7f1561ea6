/-! ## joined, load, odds -/
theorem R.fb {α ρ : Af} {n : Nat} (h : R α ρ) : R α (r_fb ρ n) := h.th (fun _ _ => rfl) h.2.2.2.2.2 (fun k _ => by rw [r_fb_ne (by decide)]) (fun i _ b _ => r_fb_ne b n)
theorem e_joined {α ρ : Af} {p load : Int32} (h : R α ρ) : Same (f_joined α p load) (g_joined ρ p load) := by
  obtain ⟨n, d, hq⟩ := h.q
  obtain ⟨h9, hn, hc⟩ := hq.n9
  unfold f_joined g_joined
  rw [h.many, hc]
  by_cases c1 : q_isPlace p = true
  · rw [if_pos c1, if_pos c1]
    by_cases c2 : q_isLoad load = true
    · rw [if_pos c2, if_pos c2]
      refine ⟨?_, h.fb⟩
      show q_reach (q_endsU α 0) (q_bset α 0 load n) n 8 (jshl 1 p) = r_reach (r_endsU ρ) (r_fb ρ n mBear) load n 8 (jshl 1 p)
      refine reach_eq h9 (fun i hi => hq.2.1.ends hi) (fun i hi => ?_) 8 _
      rw [q_bset_bit n h9 (by omega), decide_eq_true hi, Bool.true_and, r_fb_at hi, hq.2.1.bears hi]
    · rw [if_neg c2, if_neg c2]; exact h.err (by decide)
  · rw [if_neg c1, if_neg c1]; exact h.err (by decide)
theorem Qq.ld {α ρ : Af} {n d : Nat} {a b : Int32} (hq : Qq α ρ n d) : ∀ m, Same (q_ld α n a b m) (r_ld ρ n a b m)
  | 0 => hq.1.fb.err (by decide)
  | m + 1 => by
    simp only [q_ld, r_ld]
    rw [hq.2.1.joins]
    show Same (if r_joins (r_endsU ρ) (r_fb ρ n mBear) (nI m) n a b = true then _ else _) _
    by_cases c : r_joins (r_endsU ρ) (r_fb ρ n mBear) (nI m) n a b = true
    · rw [if_pos c, if_pos c]; exact ⟨rfl, hq.1.fb⟩
    · rw [if_neg c, if_neg c]; exact Qq.ld hq m
theorem e_load {α ρ : Af} {a b : Int32} (h : R α ρ) : Same (f_load α a b) (g_load ρ a b) := by
  obtain ⟨n, d, hq⟩ := h.q
  obtain ⟨h9, hn, hc⟩ := hq.n9
  unfold f_load g_load
  rw [h.many, hc]
  by_cases c1 : q_areTwo a b = true
  · rw [if_pos c1, if_pos c1]; exact hq.ld 100
  · rw [if_neg c1, if_neg c1]; exact h.err (by decide)
/-- between two rounds: the row stands as before -/
def Ob (α ρ β r : Af) (n : Nat) : Prop := RowR β 0 (r mRow) n ∧ (∀ i, ¬ D2 i → β i = α i) ∧ IC0 β ∧ (∀ k, k < 398 → r mBefore k = ρ mRow k) ∧ (∀ k, k < 398 → r mRow k = ρ mRow k) ∧ ∀ i, i ≠ mRow → i ≠ mBear → i ≠ mBefore → r i = ρ i
theorem Qq.ob {α ρ : Af} {n d : Nat} (hq : Qq α ρ n d) : Ob α ρ α (r_th ρ) n := by
  refine ⟨by rw [r_th_ne (by decide)]; exact hq.2.1, fun _ _ => rfl, hq.1.2.2.2.2.2, fun k hk => ?_, fun k _ => by rw [r_th_ne (by decide)], fun i _ _ h3 => r_th_ne h3⟩
  unfold r_th
  rw [r_copy_at (by decide), if_pos hk]
theorem Ob.round {α ρ β r : Af} {n i : Nat} {a b load : Int32} (h : Ob α ρ β r n) : q_joins (q_endsU (q_odT β n i) 2) (q_bset (q_odT β n i) 2 load n) n a b = r_areJ (r_od1 r n i) n a b load ∧ Ob α ρ (q_odT β n i) (r_bf (r_fb (r_od1 r n i) n)) n := by
  obtain ⟨h1, h2, h3, h4, h5, h6⟩ := h
  have h9 := h1.1.1
  have t1 : RowR (q_take β 2 0) 2 (r mRow) n := h1.take (by decide) (by decide) (by decide) (h3.lk (by decide))
  have t2 : RowR (up (q_take β 2 0) (idD 2) 2 (nI i)) 2 (up r mRow 4 (nI i) mRow) n := by rw [up_row]; exact t1.set (by decide) (Or.inl ⟨rfl, rfl⟩)
  have t3 : RowR (q_odT β n i) 2 (r_od1 r n i mRow) n := t2.day (by decide)
  have i1 : IC0 (up (q_take β 2 0) (idD 2) 2 (nI i)) := (h3.take (by decide) (by decide) (by decide)).of (fun e he u hu => up_ne (by unfold idL idD; omega)) (fun e he u hu => Or.inl (by rw [up_ne (by unfold idS idD; omega)])) (up_ne (by decide)) (fun e he => up_ne (by unfold idTp idD; omega))
  have nb : ∀ i', ¬ D2 i' → q_odT β n i i' = α i' := fun i' hd => by
    unfold q_odT
    rw [q_day_ne (by unfold D2 at hd; unfold idD; omega) (fun v hv => by unfold D2 at hd; unfold idS; omega), up_ne (by unfold D2 at hd; unfold idD; omega), q_take_ne (by unfold D2 at hd; unfold idD; omega) (fun v hv => by unfold D2 at hd; unfold idS; omega) (fun v hv => by unfold D2 at hd; unfold idL idLc; omega) (by unfold D2 at hd; unfold idTp; omega) (by unfold D2 at hd; unfold idWt; omega)]
    exact h2 i' hd
  have rr : ∀ k, k < 398 → r_bf (r_fb (r_od1 r n i) n) mRow k = r mRow k := fun k hk => by rw [r_odB_row hk, h4 k hk, h5 k hk]
  refine ⟨t3.joins, ?_, nb, i1.day2 h9, fun k hk => by rw [r_odB_bef]; exact h4 k hk, fun k hk => (rr k hk).trans (h5 k hk), fun i' a b c => ?_⟩
  · refine h1.cong (fun _ _ _ _ _ _ => ?_) (fun u hu _ _ => ?_) (fun u hu => ?_) (fun _ _ => ?_) (fun _ _ => ?_) rr
    · rw [nb _ (by unfold D2 idD; omega), h2 _ (by unfold D2 idD; omega)]
    · rw [nb _ (by unfold D2 idS; omega), h2 _ (by unfold D2 idS; omega)]
    · rw [nb _ (by unfold D2 idL; omega), nb _ (by unfold D2 idLc; omega), h2 _ (by unfold D2 idL; omega), h2 _ (by unfold D2 idLc; omega)]; exact ⟨rfl, rfl, fun _ _ => rfl⟩
    · rw [nb _ (by unfold D2 idTp; omega), h2 _ (by unfold D2 idTp; omega)]
    · rw [nb _ (by unfold D2 idWt; omega), h2 _ (by unfold D2 idWt; omega)]
  · unfold r_bf
    rw [r_copy_ne a, r_fb_ne b]
    unfold r_od1
    rw [r_go_ne a, up_ne a]; exact h6 i' a b c
theorem Ob.od {α ρ : Af} {n : Nat} {a b load : Int32} {r : Af} (h : Ob α ρ α r n) : ∀ i, (∃ c, c ≤ i ∧ (q_od α n load a b i).1 = nI c ∧ (r_od r n a b load i).1 = nI c) ∧ Ob α ρ (q_od α n load a b i).2 (r_od r n a b load i).2 n
  | 0 => ⟨⟨0, Nat.le_refl _, rfl, rfl⟩, h⟩
  | i + 1 => by
    obtain ⟨⟨c, c1, c2, c3⟩, h1⟩ := Ob.od h i
    obtain ⟨k1, k2⟩ := h1.round (i := i) (a := a) (b := b) (load := load)
    simp only [q_od, r_od]
    refine ⟨?_, k2⟩
    rw [k1, c2, c3]
    by_cases q : r_areJ (r_od1 (r_od r n a b load i).2 n i) n a b load = true
    · rw [if_pos q, q]
      exact ⟨c + 1, by omega, nI_1 c, nI_1 c⟩
    · rw [if_neg q, Bool.not_eq_true _ |>.mp q]
      exact ⟨c, by omega, rfl, Int32.add_zero _⟩
theorem gc_eq : ∀ c, c ≤ 10 → nI c / q_gcdM (nI c) = (r_gc 9 (nI c, 10)).1 ∧ 10 / q_gcdM (nI c) = (r_gc 9 (nI c, 10)).2 := by decide +kernel
theorem e_odds {α ρ : Af} {a b load part : Int32} (h : R α ρ) : Same (f_odds α a b load part) (g_odds ρ a b load part) := by
  obtain ⟨n, d, hq⟩ := h.q
  obtain ⟨h9, hn, hc⟩ := hq.n9
  unfold f_odds g_odds r_bfT
  rw [h.many, hc]
  by_cases c1 : q_areTwo a b = true
  · rw [if_pos c1, if_pos c1]
    by_cases c2 : q_isLoad load = true
    · rw [if_pos c2, if_pos c2]
      by_cases c3 : q_within part 0 1 = true
      · rw [if_pos c3, if_pos c3]
        obtain ⟨⟨c, k1, k2, k3⟩, k4⟩ := hq.ob.od (a := a) (b := b) (load := load) 10
        obtain ⟨g1, g2⟩ := gc_eq c k1
        rw [k2, k3, g1, g2]
        exact ⟨rfl, h.th k4.2.1 k4.2.2.1 k4.2.2.2.2.1 k4.2.2.2.2.2⟩
      · rw [if_neg c3, if_neg c3]; exact h.err (by decide)
    · rw [if_neg c2, if_neg c2]; exact h.err (by decide)
  · rw [if_neg c1, if_neg c1]; exact h.err (by decide)
