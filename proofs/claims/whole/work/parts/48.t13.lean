/-! bits -/
theorem bv_sh (x : Int64) (s : UInt64) (t : Int64) (k : Nat) (hk : k ≤ 56) (hs : (s.toBitVec % 64#64).toNat = k) (ht : (t.toBitVec.smod 64#64).toNat = k) : (x.toUInt64 >>> s).toInt64.toInt32 &&& 255 = (x >>> t).toInt32 &&& 255 := by
  apply Int32.toBitVec_inj.mp
  show ((x.toBitVec.ushiftRight (s.toBitVec % 64#64).toNat).signExtend 32 &&& 255#32) = ((x.toBitVec.sshiftRight (t.toBitVec.smod 64#64).toNat).signExtend 32 &&& 255#32)
  rw [hs, ht]
  apply BitVec.eq_of_getLsbD_eq
  intro i hi
  rw [BitVec.getLsbD_and, BitVec.getLsbD_and, BitVec.getLsbD_signExtend, BitVec.getLsbD_signExtend]
  by_cases h8 : i < 8
  · have e1 : (x.toBitVec.ushiftRight k).getLsbD i = x.toBitVec.getLsbD (k + i) := BitVec.getLsbD_ushiftRight x.toBitVec k i
    rw [if_pos (by omega), if_pos (by omega), e1, BitVec.getLsbD_sshiftRight, if_pos (by omega)]
    have : decide (64 ≤ i) = false := by simp; omega
    rw [this]
    simp
  · have : ∀ i, i < 32 → ¬ i < 8 → (255#32).getLsbD i = false := by decide
    rw [this i hi h8]
    simp
theorem bv_8 (x : Int32) : (x <<< ((24 : Int32) &&& 31)) >>> ((24 : Int32) &&& 31) = x.toInt8.toInt32 := by
  apply Int32.toBitVec_inj.mp
  show (x.toBitVec <<< 24).sshiftRight 24 = (x.toBitVec.signExtend 8).signExtend 32
  apply BitVec.eq_of_getLsbD_eq
  intro i hi
  rw [BitVec.getLsbD_sshiftRight, BitVec.getLsbD_signExtend]
  have d1 : decide (32 ≤ i) = false := by simp; omega
  have d2 : decide (i < 32) = true := by simp; omega
  rw [d1, d2]
  by_cases h8 : i < 8
  · have d3 : decide (i < 8) = true := by simp; omega
    rw [if_pos (by omega), if_pos h8, BitVec.getLsbD_shiftLeft, BitVec.getLsbD_signExtend, d3, if_pos (by omega)]
    have d4 : decide (24 + i < 32) = true := by simp; omega
    have d5 : decide (24 + i < 24) = false := by simp
    rw [d4, d5, show 24 + i - 24 = i by omega]
    simp
  · rw [if_neg (by omega), if_neg h8, BitVec.msb_eq_getLsbD_last, BitVec.msb_eq_getLsbD_last, BitVec.getLsbD_shiftLeft, BitVec.getLsbD_signExtend]
    simp
theorem bv_16 (x : Int32) : (x <<< ((16 : Int32) &&& 31)) >>> ((16 : Int32) &&& 31) = x.toInt16.toInt32 := by
  apply Int32.toBitVec_inj.mp
  show (x.toBitVec <<< 16).sshiftRight 16 = (x.toBitVec.signExtend 16).signExtend 32
  apply BitVec.eq_of_getLsbD_eq
  intro i hi
  rw [BitVec.getLsbD_sshiftRight, BitVec.getLsbD_signExtend]
  have d1 : decide (32 ≤ i) = false := by simp; omega
  have d2 : decide (i < 32) = true := by simp; omega
  rw [d1, d2]
  by_cases h8 : i < 16
  · have d3 : decide (i < 16) = true := by simp; omega
    rw [if_pos (by omega), if_pos h8, BitVec.getLsbD_shiftLeft, BitVec.getLsbD_signExtend, d3, if_pos (by omega)]
    have d4 : decide (16 + i < 32) = true := by simp; omega
    have d5 : decide (16 + i < 16) = false := by simp
    rw [d4, d5, show 16 + i - 16 = i by omega]
    simp
  · rw [if_neg (by omega), if_neg h8, BitVec.msb_eq_getLsbD_last, BitVec.msb_eq_getLsbD_last, BitVec.getLsbD_shiftLeft, BitVec.getLsbD_signExtend]
    simp
theorem bv_255 {x : Int32} : 0 ≤ (x &&& 255).toInt ∧ (x &&& 255).toInt ≤ 255 := by
  have e : (x &&& 255).toInt = ((x.toBitVec &&& 255#32).toNat : Int) := by
    show (x.toBitVec &&& 255#32).toInt = _
    rw [BitVec.toInt_eq_toNat_cond, if_pos]
    rw [BitVec.toNat_and]
    have : x.toBitVec.toNat &&& (255#32).toNat ≤ (255#32).toNat := Nat.and_le_right
    have h : (255#32).toNat = 255 := by decide
    omega
  rw [e, BitVec.toNat_and]
  have : x.toBitVec.toNat &&& (255#32).toNat ≤ (255#32).toNat := Nat.and_le_right
  have h : (255#32).toNat = 255 := by decide
  omega
