/-! ## baking and eating -/
theorem r_joins_of {E E' B B' : Nat → Int32} {load : Int32} {n : Nat} {a b : Int32} (hE : ∀ i, i < n → E i = E' i) (hB : ∀ i, i < n → B i = B' i) : r_joins E B load n a b = r_joins E' B' load n a b := by
  have hp : ∀ r m, m ≤ n → r_pass E B load r m = r_pass E' B' load r m := by
    intro r m
    induction m with
    | zero => intro _; rfl
    | succ m ih =>
      intro hm
      simp only [r_pass]
      rw [ih (by omega), hE m (by omega), hB m (by omega)]
  have hr : ∀ m r, r_reach E B load n m r = r_reach E' B' load n m r := by
    intro m
    induction m with
    | zero => intro r; rfl
    | succ m ih =>
      intro r
      simp only [r_reach]
      rw [hp r n (Nat.le_refl _), ih]
  unfold r_joins
  rw [hr]
theorem bit_nI {i j : Nat} (hj : j < 9) : bt (nI i) j = i.testBit j := by
  show (BitVec.ofNat 32 i).getLsbD j = _
  rw [BitVec.getLsbD_ofNat]
  simp [show j < 32 by omega]
theorem shr_bit {i j : Nat} (hj : j < 9) : (jshr (nI i) (nI j) &&& 1 = 1) ↔ i.testBit j = true := by
  rw [bitL hj]
  exact ⟨fun h => by rw [← bit_nI hj]; exact h, fun h => by rw [← bit_nI hj] at h; exact h⟩
/-- eating, one set: the class takes it from the set of all that bear -/
theorem et_joins {α ρ : Af} {n s : Nat} {a b load : Int32} (h : RowR α 0 (ρ mRow) n) (hl : -1 < load) : q_joins (q_endsU α 0) (q_bset α 0 load n &&& (nI s ^^^ (-1))) n a b = r_joins (r_endsU ρ) (r_etB ρ (nI s)) load n a b := by
  have h9 := h.1.1
  refine joins_eq h9 (fun i hi => h.ends hi) (fun i hi => ?_)
  show (q_bset α 0 load n &&& (nI s ^^^ (-1))).toBitVec.getLsbD i = _
  rw [bit_and, bit_not (by omega)]
  rw [show (q_bset α 0 load n).toBitVec.getLsbD i = _ from q_bset_bit n h9 (by omega), decide_eq_true hi, Bool.true_and, h.bears hi, show (nI s).toBitVec.getLsbD i = s.testBit i from bit_nI (by omega)]
  unfold r_etB
  by_cases c : s.testBit i = true
  · rw [if_pos ((shr_bit (by omega)).mpr c), c, decide_eq_true hl]; simp
  · rw [if_neg (mt (shr_bit (by omega)).mp c), Bool.not_eq_true _ |>.mp c]; simp
theorem bc_eq : ∀ i, i < 512 → q_bitCount (nI i) = nI (popc i) ∧ popc i ≤ 9 := by decide +kernel
theorem one_out : ∀ a, a < 8 → ∀ b, b < 8 → a ≠ b → ¬ (jshr (jshl 1 (nI a)) (nI b) &&& 1 = 1) := by decide
theorem reach_fix {E B : Nat → Int32} {load : Int32} {n m : Nat} {r : Int32} (h : r_pass E B load r n = r) : r_reach E B load n (m + 1) r = r := by
  simp only [r_reach]
  rw [if_pos h, h]
/-- nothing bears, and two are two: they are not joined -/
theorem none_joins {E B : Nat → Int32} {load : Int32} {n : Nat} {a b : Int32} (hB : ∀ i, i < n → B i < load) (h2 : q_areTwo a b = true) : ¬ r_joins E B load n a b = true := by
  obtain ⟨⟨x, hx, rfl⟩, ⟨y, hy, rfl⟩, hne⟩ := two_ok h2
  have hp : ∀ r m, m ≤ n → r_pass E B load r m = r := by
    intro r m
    induction m with
    | zero => intro _; rfl
    | succ m ih =>
      intro hm
      simp only [r_pass]
      rw [ih (by omega), if_pos (hB m (by omega))]
      refine Int32.toBitVec_inj.mp ?_
      rw [Int32.toBitVec_or]
      exact BitVec.or_zero
  unfold r_joins
  rw [reach_fix (m := 7) (hp _ n (Nat.le_refl _))]
  rw [if_neg (one_out x hx y hy (fun q => hne (by rw [q])))]
  decide
