-- a number cut to a short
theorem short_is (v : Int32) : v.toInt16.toInt32 = (v <<< ((16 : Int32) &&& 31)) >>> ((16 : Int32) &&& 31) := by
  apply b_ext
  intro i hi
  have h16 : ((16 : Int32) &&& 31) = (nI 16 &&& 31) := rfl
  rw [h16, b_sshr 16 (by decide) _ hi]
  have e : bt v.toInt16.toInt32 i = if i < 16 then bt v i else bt v 15 := by
    unfold bt
    show ((v.toBitVec.signExtend 16).signExtend 32).getLsbD i = _
    have hm : (BitVec.signExtend 16 v.toBitVec).msb = v.toBitVec.getLsbD 15 := by
      rw [BitVec.msb_eq_getLsbD_last, BitVec.getLsbD_signExtend]
      simp
    rw [BitVec.getLsbD_signExtend, BitVec.getLsbD_signExtend, hm]
    by_cases h : i < 16
    · rw [if_pos h]; simp [h, hi]
    · rw [if_neg h]; simp [h, hi]
  rw [e]
  by_cases h : i < 16
  · rw [if_pos h, if_pos (by omega), b_shl 16 (by decide) _ (by omega), decide_eq_true (by omega), Bool.true_and, show 16 + i - 16 = i by omega]
  · rw [if_neg h, if_neg (by omega), b_shl 16 (by decide) _ (by omega), decide_eq_true (by omega), Bool.true_and]
