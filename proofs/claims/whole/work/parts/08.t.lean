/-! ## feed -/
theorem and255 (y : Int64) : ∃ b, b < 256 ∧ (y &&& 255).toInt32 = nI b := by
  refine ⟨y.toBitVec.toNat % 256, Nat.mod_lt _ (by decide), ?_⟩
  refine Int32.toBitVec_inj.mp (BitVec.eq_of_toNat_eq ?_)
  show ((y &&& 255 : Int64).toBitVec.signExtend 32).toNat = (BitVec.ofNat 32 (y.toBitVec.toNat % 256)).toNat
  rw [BitVec.signExtend_eq_setWidth_of_le _ (by decide), Int64.toBitVec_and, BitVec.toNat_setWidth, BitVec.toNat_and, BitVec.toNat_ofNat]
  have e : (255 : Int64).toBitVec.toNat = 2 ^ 8 - 1 := by decide
  rw [e, Nat.and_two_pow_sub_one_eq_mod]
theorem nar_byte : ∀ b, b < 256 → vp_nar .char (ji2c (nI b)) = nI b := by decide +kernel
theorem sh64 : ∀ i, i < 8 → ((8 * nI i).toInt64.toUInt64 &&& Int64.toUInt64 63).toBitVec.toNat % 64 = 8 * i := by decide
theorem sh64' : ∀ i, i < 8 → (((8 * nI i).toInt64 &&& 63 : Int64).toBitVec.smod 64).toNat = 8 * i := by decide
theorem shr255 {w : Int64} {i : Nat} (hi : i < 8) : (jlushr w (8 * nI i)) &&& 255 = (jlshr w (8 * nI i)) &&& 255 := by
  refine Int64.toBitVec_inj.mp ?_
  rw [Int64.toBitVec_and, Int64.toBitVec_and]
  have e1 : (jlushr w (8 * nI i)).toBitVec = w.toBitVec >>> (8 * i) := by
    unfold jlushr
    show (w.toUInt64 >>> ((8 * nI i).toInt64.toUInt64 &&& Int64.toUInt64 63)).toBitVec = _
    rw [UInt64.toBitVec_shiftRight]
    show w.toBitVec >>> (((8 * nI i).toInt64.toUInt64 &&& Int64.toUInt64 63).toBitVec % 64).toNat = _
    rw [BitVec.toNat_umod]
    rw [show (64 : BitVec 64).toNat = 64 from rfl, sh64 i hi]
  have e2 : (jlshr w (8 * nI i)).toBitVec = w.toBitVec.sshiftRight (8 * i) := by
    unfold jlshr
    rw [Int64.toBitVec_shiftRight]
    show w.toBitVec.sshiftRight (((8 * nI i).toInt64 &&& 63 : Int64).toBitVec.smod 64).toNat = _
    rw [sh64' i hi]
  rw [e1, e2]
  apply BitVec.eq_of_getLsbD_eq
  intro j hj
  rw [BitVec.getLsbD_and, BitVec.getLsbD_and]
  by_cases c : j < 8
  · rw [BitVec.getLsbD_ushiftRight, BitVec.getLsbD_sshiftRight]
    simp [show ¬ 64 ≤ j by omega, show 8 * i + j < 64 by omega, show j < 64 by omega]
  · have z : (255 : Int64).toBitVec.getLsbD j = false := by
      show (BitVec.ofNat 64 255).getLsbD j = false
      rw [BitVec.getLsbD_ofNat]
      have : Nat.testBit 255 j = false := Nat.testBit_lt_two_pow (Nat.lt_of_lt_of_le (show 255 < 2 ^ 8 by decide) (Nat.pow_le_pow_right (by decide) (by omega)))
      rw [this, Bool.and_false]
    rw [z, Bool.and_false, Bool.and_false]
theorem byte_eq {w : Int64} {i : Nat} (hi : i < 8) : q_byte w i = r_byte w i ∧ ∃ b, b < 256 ∧ r_byte w i = nI b := by
  obtain ⟨b, hb, e⟩ := and255 (jlshr w (8 * nI i))
  refine ⟨?_, b, hb, e⟩
  unfold q_byte r_byte
  rw [shr255 hi, e]
  exact nar_byte b hb
