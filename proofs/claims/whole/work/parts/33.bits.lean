theorem bv_8 (b : BitVec 32) : (b <<< 24).sshiftRight 24 = (b.setWidth 8).signExtend 32 := by
  apply BitVec.eq_of_getLsbD_eq
  intro i hi
  rw [BitVec.getLsbD_sshiftRight, BitVec.getLsbD_signExtend]
  by_cases h : i < 8
  · simp [h, hi, show 24 + i < 32 by omega, show ¬ 32 ≤ i by omega]
  · simp [h, hi, show ¬ 24 + i < 32 by omega, show ¬ 32 ≤ i by omega, BitVec.msb_eq_getLsbD_last]
theorem bv_16 (b : BitVec 32) : (b <<< 16).sshiftRight 16 = (b.setWidth 16).signExtend 32 := by
  apply BitVec.eq_of_getLsbD_eq
  intro i hi
  rw [BitVec.getLsbD_sshiftRight, BitVec.getLsbD_signExtend]
  by_cases h : i < 16
  · simp [h, hi, show 16 + i < 32 by omega, show ¬ 32 ≤ i by omega]
  · simp [h, hi, show ¬ 16 + i < 32 by omega, show ¬ 32 ≤ i by omega, BitVec.msb_eq_getLsbD_last]
theorem ckWr_pv {b : Nat} (v : Int32) (h : b = 8 ∨ b = 16 ∨ b = 32) : ckWr b v = pvW b v := by
  rcases h with rfl | rfl | rfl
  · have e : (nI (32 - 8) &&& 31 : Int32).toBitVec.smod 32 = 24#32 := by decide
    have h1 : (v <<< (nI (32 - 8) &&& 31)).toBitVec = v.toBitVec <<< 24 := by
      show v.toBitVec <<< ((nI (32 - 8) &&& 31 : Int32).toBitVec.smod 32) = _
      rw [e]
      rfl
    rw [pvW, if_pos rfl, ckWr]
    refine congrArg Int32.ofBitVec (?_ : (v <<< (nI (32 - 8) &&& 31)).toBitVec.sshiftRight' ((nI (32 - 8) &&& 31 : Int32).toBitVec.smod 32) = v.toInt8.toBitVec.signExtend 32)
    have h2 : v.toInt8.toBitVec = v.toBitVec.setWidth 8 := by first | exact Int32.toBitVec_toInt8 v | exact BitVec.signExtend_eq_setWidth_of_le _ (by decide) | exact BitVec.signExtend_eq_setWidth_of_lt _ (by decide) | exact BitVec.signExtend_eq_setWidth_of_le (by decide)
    rw [h1, e, h2]
    exact bv_8 v.toBitVec
  · have e : (nI (32 - 16) &&& 31 : Int32).toBitVec.smod 32 = 16#32 := by decide
    have h1 : (v <<< (nI (32 - 16) &&& 31)).toBitVec = v.toBitVec <<< 16 := by
      show v.toBitVec <<< ((nI (32 - 16) &&& 31 : Int32).toBitVec.smod 32) = _
      rw [e]
      rfl
    rw [pvW, if_neg (by decide), if_pos rfl, ckWr]
    refine congrArg Int32.ofBitVec (?_ : (v <<< (nI (32 - 16) &&& 31)).toBitVec.sshiftRight' ((nI (32 - 16) &&& 31 : Int32).toBitVec.smod 32) = v.toInt16.toBitVec.signExtend 32)
    have h2 : v.toInt16.toBitVec = v.toBitVec.setWidth 16 := by first | exact Int32.toBitVec_toInt16 v | exact BitVec.signExtend_eq_setWidth_of_le _ (by decide) | exact BitVec.signExtend_eq_setWidth_of_lt _ (by decide) | exact BitVec.signExtend_eq_setWidth_of_le (by decide)
    rw [h1, e, h2]
    exact bv_16 v.toBitVec
  · show (v <<< (nI 0 &&& 31)) >>> (nI 0 &&& 31) = v
    rw [show nI 0 &&& 31 = 0 by decide, Int32.shiftLeft_zero, Int32.shiftRight_zero]
