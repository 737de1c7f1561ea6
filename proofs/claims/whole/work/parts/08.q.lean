theorem load_pos {load : Int32} (h : q_isLoad load = true) : -1 < load := by
  obtain ⟨z, -, hz, rfl⟩ := wi_of (v := load) (a := 0) (b := 99) rfl rfl (by decide) (by decide) h
  refine Int32.lt_iff_toInt_lt.mpr ?_
  rw [nI_toInt (by omega)]
  have : Int32.toInt (-1) = -1 := by decide
  omega
/-- once a set is found it stays found -/
theorem r_et_full {ρ : Af} {n : Nat} {a b load : Int32} (h9 : n ≤ 9) (hl : -1 < load) (h2 : q_areTwo a b = true) : ¬ (r_et ρ n a b load (2 ^ n)).1 = -1 := by
  have hp := pow9 h9
  have h1 : 1 ≤ 2 ^ n := Nat.one_le_two_pow
  obtain ⟨m, hm⟩ : ∃ m, 2 ^ n = m + 1 := ⟨2 ^ n - 1, by omega⟩
  rw [hm]
  simp only [r_et]
  have hB := r_et_B (ρ := ρ) (n := n) (a := a) (b := b) (load := load) m (by omega)
  have hT : ¬ (r_etT n a b load (r_et ρ n a b load m) m).1 = -1 := by
    unfold r_etT
    rw [if_neg]
    · exact fun q => absurd (show (0 : Int32) ≤ -1 from by rw [← q]; exact nI_pos' (by omega)) (by decide)
    · refine none_joins (fun i hi => ?_) h2
      rw [r_fill_at hi]
      unfold r_etB
      have hb : m.testBit i = true := by
        have e : m = 2 ^ n - 1 := by omega
        rw [e, Nat.testBit_two_pow_sub_one]
        exact decide_eq_true hi
      rw [if_pos ((shr_bit (by omega)).mpr hb)]
      exact hl
  by_cases c : (r_et ρ n a b load m).1 < 0
  · rw [if_pos c]; exact hT
  · rw [if_neg c]
    have hn : ¬ (r_et ρ n a b load m).1 = -1 := fun q => c (by rw [q]; decide)
    split
    · exact hn
    · exact hT
theorem e_eating {α ρ : Af} {a b load what : Int32} (h : R α ρ) : Same (f_eating α a b load what) (g_eating ρ a b load what) := by
  obtain ⟨n, d, hq⟩ := h.q
  obtain ⟨h9, hn, hc⟩ := hq.n9
  unfold f_eating g_eating
  rw [h.many, hc]
  by_cases c1 : q_areTwo a b = true
  · rw [if_pos c1, if_pos c1]
    by_cases c2 : q_isLoad load = true
    · rw [if_pos c2, if_pos c2]
      by_cases c3 : q_within what 0 1 = true
      · rw [if_pos c3, if_pos c3]
        have hl := load_pos c2
        have hp := pow9 h9
        have hR : R α (r_et ρ n a b load (2 ^ n)).2 := h.th (fun _ _ => rfl) h.2.2.2.2.2 (fun k _ => by rw [r_et_ne (by decide)]) (fun i _ b _ => r_et_ne b _)
        rcases hq.et (a := a) (b := b) hl (2 ^ n) hp with ⟨-, -, ex⟩ | ⟨s, s5, e1, ex, e2⟩
        · exact absurd ex (r_et_full h9 hl c1)
        · refine ⟨?_, hR⟩
          show (if what = 0 then _ else _) = if what = 0 then r_bitV (r_et ρ n a b load (2 ^ n)).1 else (r_et ρ n a b load (2 ^ n)).1
          rw [ex, bitV_nI s5, e1, e2]
      · rw [if_neg c3, if_neg c3]; exact h.err (by decide)
    · rw [if_neg c2, if_neg c2]; exact h.err (by decide)
  · rw [if_neg c1, if_neg c1]; exact h.err (by decide)
