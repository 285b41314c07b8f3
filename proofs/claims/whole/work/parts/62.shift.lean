/-! the reference shifts with the sign, the class without: the low byte is the same -/
theorem sar_bit {x : BitVec 32} {k : Nat} (hk : k ≤ 24) : (x.sshiftRight k) &&& 255#32 = (x >>> k) &&& 255#32 := by
  apply BitVec.eq_of_getLsbD_eq
  intro i hi
  rw [BitVec.getLsbD_and, BitVec.getLsbD_and]
  by_cases h8 : i < 8
  · congr 1
    rw [BitVec.getLsbD_sshiftRight, BitVec.getLsbD_ushiftRight]
    have h1 : ¬ 32 ≤ i := by omega
    have h2 : k + i < 32 := by omega
    simp [h1, h2]
  · have e : (255#32).getLsbD i = false := by
      have : (255#32).getLsbD i = Nat.testBit 255 i := by simp [BitVec.getLsbD]
      rw [this]
      exact Nat.testBit_lt_two_pow (Nat.lt_of_lt_of_le (by decide : 255 < 2 ^ 8) (Nat.pow_le_pow_right (by decide) (by omega)))
    rw [e, Bool.and_false, Bool.and_false]
theorem sar24 {x : Int32} : ((x >>> ((24 : Int32) &&& 31)) &&& 255) = bt x 24 := Int32.toBitVec_inj.mp (show (x.toBitVec.sshiftRight 24) &&& 255#32 = (x.toBitVec >>> 24) &&& 255#32 from sar_bit (by decide))
theorem sar16 {x : Int32} : ((x >>> ((16 : Int32) &&& 31)) &&& 255) = bt x 16 := Int32.toBitVec_inj.mp (show (x.toBitVec.sshiftRight 16) &&& 255#32 = (x.toBitVec >>> 16) &&& 255#32 from sar_bit (by decide))
theorem sar8 {x : Int32} : ((x >>> ((8 : Int32) &&& 31)) &&& 255) = bt x 8 := Int32.toBitVec_inj.mp (show (x.toBitVec.sshiftRight 8) &&& 255#32 = (x.toBitVec >>> 8) &&& 255#32 from sar_bit (by decide))
theorem sar0 {x : Int32} : ((x >>> ((0 : Int32) &&& 31)) &&& 255) = bt x 0 := Int32.toBitVec_inj.mp (show (x.toBitVec.sshiftRight 0) &&& 255#32 = (x.toBitVec >>> 0) &&& 255#32 from sar_bit (by decide))
