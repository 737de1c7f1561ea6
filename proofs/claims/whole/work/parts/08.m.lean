/-! ## move -/
theorem sub_le {z m : Nat} {i : Int32} (hz : z ≤ 24) (hi : ¬ i < 0) : (nI z - i).toInt = z - i.toInt := by
  have h0 : 0 ≤ i.toInt := by
    have := mt Int32.lt_iff_toInt_lt.mpr hi
    have z0 : Int32.toInt 0 = 0 := by decide
    omega
  have h1 := Int32.toInt_lt i
  rw [Int32.toInt_sub, nI_toInt (by omega)]
  exact Int.bmod_eq_of_le (by omega) (by omega)
theorem hasRow_iff {z : Nat} {i n : Int32} (hz : z ≤ 24) : q_hasRow (nI z) i n = true ↔ (¬ n < 0 ∧ ¬ i < 0 ∧ ¬ nI z - i < n) := by
  unfold q_hasRow
  by_cases c1 : i < 0
  · rw [if_pos c1]; exact ⟨fun h => (by cases h), fun h => absurd c1 h.2.1⟩
  rw [if_neg c1]
  by_cases c2 : n < 0
  · rw [if_pos c2]; exact ⟨fun h => (by cases h), fun h => absurd c2 h.1⟩
  rw [if_neg c2]
  have e1 := sub_le (m := 0) hz c1
  have e2 := sub_le (m := 0) hz c2
  have ez : (nI z).toInt = z := nI_toInt (by omega)
  have z0 : Int32.toInt 0 = 0 := by decide
  have i0 := mt Int32.lt_iff_toInt_lt.mpr c1
  by_cases c3 : nI z < n
  · rw [if_pos c3]
    refine ⟨fun h => (by cases h), fun h => absurd (Int32.lt_iff_toInt_lt.mpr ?_) h.2.2⟩
    have := Int32.lt_iff_toInt_lt.mp c3
    omega
  rw [if_neg c3]
  by_cases c4 : nI z - n < i
  · rw [if_pos c4]
    refine ⟨fun h => (by cases h), fun h => absurd (Int32.lt_iff_toInt_lt.mpr ?_) h.2.2⟩
    have := Int32.lt_iff_toInt_lt.mp c4
    omega
  · rw [if_neg c4]
    refine ⟨fun _ => ⟨c2, c1, fun q => c4 (Int32.lt_iff_toInt_lt.mpr ?_)⟩, fun _ => rfl⟩
    have := Int32.lt_iff_toInt_lt.mp q
    omega
theorem mvOk_iff {z1 z2 : Nat} {i j n : Int32} (h1 : z1 ≤ 24) (h2 : z2 ≤ 24) : r_mvOk (nI z1) (nI z2) i j n = true ↔ (q_hasRow (nI z1) i n = true ∧ q_hasRow (nI z2) j n = true) := by
  rw [hasRow_iff h1, hasRow_iff h2]
  unfold r_mvOk
  by_cases c1 : n < 0
  · rw [if_pos c1]; exact ⟨fun h => (by cases h), fun h => absurd c1 h.1.1⟩
  rw [if_neg c1]
  by_cases c2 : i < 0
  · rw [if_pos c2]; exact ⟨fun h => (by cases h), fun h => absurd c2 h.1.2.1⟩
  rw [if_neg c2]
  by_cases c3 : j < 0
  · rw [if_pos c3]; exact ⟨fun h => (by cases h), fun h => absurd c3 h.2.2.1⟩
  rw [if_neg c3]
  by_cases c4 : nI z1 - i < n
  · rw [if_pos c4]; exact ⟨fun h => (by cases h), fun h => absurd c4 h.1.2.2⟩
  rw [if_neg c4]
  by_cases c5 : nI z2 - j < n
  · rw [if_pos c5]; exact ⟨fun h => (by cases h), fun h => absurd c5 h.2.2.2⟩
  rw [if_neg c5]
  exact ⟨fun _ => ⟨⟨c1, c2, c4⟩, c1, c3, c5⟩, fun _ => rfl⟩
theorem r_mvL_ne {ρ : Af} {s i s2 j n k : Nat} (h : k ≠ mCells) : ∀ t, r_mvL ρ s i s2 j n t k = ρ k
  | 0 => rfl
  | t + 1 => by simp only [r_mvL]; rw [up_ne h, r_mvL_ne h t]
/-- after t steps: what is done, and what still stands -/
theorem r_mvL_at {ρ : Af} {s i s2 j n : Nat} (hi : i + n ≤ 24) (hj : j + n ≤ 24) : ∀ t, t ≤ n → ∀ k, r_mvL ρ s i s2 j n t mCells k = if 24 * s2 + j ≤ k ∧ k < 24 * s2 + j + n ∧ (if j ≤ i then k < 24 * s2 + j + t else 24 * s2 + j + n ≤ k + t) then ρ mCells (24 * s + i + (k - (24 * s2 + j))) else ρ mCells k
  | 0, _, k => by
    rw [if_neg]
    · rfl
    · split <;> omega
  | t + 1, ht, k => by
    have ih := r_mvL_at (ρ := ρ) (s := s) (s2 := s2) hi hj t (by omega)
    simp only [r_mvL]
    rw [up_at, ih, ih]
    unfold r_mvO
    by_cases c : j ≤ i
    · simp only [if_pos c]
      by_cases e : k = 24 * s2 + j + t
      · rw [if_pos e, if_pos (show 24 * s2 + j ≤ k ∧ k < 24 * s2 + j + n ∧ k < 24 * s2 + j + (t + 1) by omega), if_neg (by omega), show 24 * s + i + (k - (24 * s2 + j)) = 24 * s + i + t by omega]
      · rw [if_neg e]
        by_cases q : 24 * s2 + j ≤ k ∧ k < 24 * s2 + j + n ∧ k < 24 * s2 + j + t
        · rw [if_pos q, if_pos (by omega)]
        · rw [if_neg q, if_neg (by omega)]
    · simp only [if_neg c]
      by_cases e : k = 24 * s2 + j + (n - 1 - t)
      · rw [if_pos e, if_pos (show 24 * s2 + j ≤ k ∧ k < 24 * s2 + j + n ∧ 24 * s2 + j + n ≤ k + (t + 1) by omega), if_neg (by omega), show 24 * s + i + (k - (24 * s2 + j)) = 24 * s + i + (n - 1 - t) by omega]
      · rw [if_neg e]
        by_cases q : 24 * s2 + j ≤ k ∧ k < 24 * s2 + j + n ∧ 24 * s2 + j + n ≤ k + t
        · rw [if_pos q, if_pos (by omega)]
        · rw [if_neg q, if_neg (by omega)]
