/-- eating: what is best so far, on both sides -/
def EtI (c : Int32 × Int32) (x : Int32) : Prop := (c.2 = 10 ∧ c.1 = 0 ∧ x = -1) ∨ ∃ s, s < 512 ∧ c.1 = nI s ∧ x = nI s ∧ c.2 = nI (popc s)
theorem bitV_nI {s : Nat} (h : s < 512) : r_bitV (nI s) = nI (popc s) := by
  unfold r_bitV
  rw [if_neg (fun h : nI s = -1 => absurd (show (0 : Int32) ≤ -1 from by rw [← h]; exact nI_pos' (by omega)) (by decide)), nI_clamp (by omega)]
theorem Qq.etJ {α ρ : Af} {n d i k : Nat} {a b load : Int32} (hq : Qq α ρ n d) (hl : -1 < load) : q_joins (q_endsU α 0) (q_bset α 0 load n &&& (nI i ^^^ (-1))) n a b = r_joins (r_endsU (r_et ρ n a b load k).2) (r_fill (r_etB (r_et ρ n a b load k).2 (nI i)) (r_et ρ n a b load k).2 n mBear) load n a b := by
  have hr : (r_et ρ n a b load k).2 mRow = ρ mRow := r_et_ne (by decide) k
  rw [et_joins hq.2.1 hl]
  refine r_joins_of (fun j hj => by rw [r_endsU_of hr]) (fun j hj => ?_)
  rw [r_fill_at hj]
  unfold r_etB
  rw [r_bearsU_of hr]
theorem Qq.et {α ρ : Af} {n d : Nat} {a b load : Int32} (hq : Qq α ρ n d) (hl : -1 < load) : ∀ i, i ≤ 512 → EtI (q_et α n (q_bset α 0 load n) a b i) (r_et ρ n a b load i).1
  | 0, _ => Or.inl ⟨rfl, rfl, rfl⟩
  | i + 1, hi => by
    obtain ⟨bc, b9⟩ := bc_eq i (by omega)
    have hj := hq.etJ (i := i) (k := i) (a := a) (b := b) hl
    have ih := Qq.et (a := a) (b := b) hq hl i (by omega)
    simp only [q_et, r_et]
    rw [bc, hj]
    unfold r_etT
    rcases ih with ⟨e2, e1, ex⟩ | ⟨s, s5, e1, ex, e2⟩
    · rw [if_neg (show ¬ (q_et α n (q_bset α 0 load n) a b i).2 ≤ nI (popc i) from by
        rw [e2]; exact fun q => by have := (nI_leI (a := 10) (b := popc i) (by decide) (by omega)).mp q; omega), if_pos (show (r_et ρ n a b load i).1 < 0 by rw [ex]; decide)]
      by_cases c : r_joins (r_endsU (r_et ρ n a b load i).2) (r_fill (r_etB (r_et ρ n a b load i).2 (nI i)) (r_et ρ n a b load i).2 n mBear) load n a b = true
      · rw [if_pos c, if_pos c]; exact Or.inl ⟨e2, e1, ex⟩
      · rw [if_neg c, if_neg c]; exact Or.inr ⟨i, by omega, rfl, rfl, rfl⟩
    · have nx : ¬ (r_et ρ n a b load i).1 < 0 := by
        rw [ex]
        exact fun q => by have k1 := Int32.lt_iff_toInt_lt.mp q; rw [nI_toInt (by omega)] at k1; have z0 : Int32.toInt 0 = 0 := by decide
                          omega
      rw [if_neg nx, e2, ex, bitV_nI s5]
      by_cases c0 : nI (popc s) ≤ nI (popc i)
      · rw [if_pos c0, if_pos c0]; exact Or.inr ⟨s, s5, e1, ex, e2⟩
      · rw [if_neg c0, if_neg c0]
        by_cases c : r_joins (r_endsU (r_et ρ n a b load i).2) (r_fill (r_etB (r_et ρ n a b load i).2 (nI i)) (r_et ρ n a b load i).2 n mBear) load n a b = true
        · rw [if_pos c, if_pos c]; exact Or.inr ⟨s, s5, e1, rfl, e2⟩
        · rw [if_neg c, if_neg c]; exact Or.inr ⟨i, by omega, rfl, rfl, rfl⟩
