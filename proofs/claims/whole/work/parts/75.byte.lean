/-! ===== a byte out of an int, both ways ===== -/
def bR (a s : Int32) : Int32 := ((a.toUInt32 >>> (s.toUInt32 &&& Int32.toUInt32 31)).toInt32) &&& 255
theorem b255 : ∀ i, i < 8 → (255#8).getLsbD i = true := by decide
theorem by24 (a : Int32) : bC a 24 = (bR a 24).toInt8.toInt32 := by
  unfold bC bR
  congr 1
  apply Int8.toBitVec_inj.mp
  have e1 : ((24 : Int32) &&& 31) = 24 := by decide
  have e2 : (Int32.toUInt32 24 &&& Int32.toUInt32 31) = 24 := by decide
  rw [e1, e2]
  apply BitVec.eq_of_getLsbD_eq
  intro i hi
  simp
  rw [b255 i hi, Bool.and_true, BitVec.getLsbD_signExtend, BitVec.getLsbD_signExtend, BitVec.getLsbD_sshiftRight, BitVec.getLsbD_ushiftRight]
  have h1 : i < 32 := by omega
  have h2 : 24 + i < 32 := by omega
  have h3 : ¬ 32 ≤ i := by omega
  simp [h1, h2, h3]
theorem by16 (a : Int32) : bC a 16 = (bR a 16).toInt8.toInt32 := by
  unfold bC bR
  congr 1
  apply Int8.toBitVec_inj.mp
  have e1 : ((16 : Int32) &&& 31) = 16 := by decide
  have e2 : (Int32.toUInt32 16 &&& Int32.toUInt32 31) = 16 := by decide
  rw [e1, e2]
  apply BitVec.eq_of_getLsbD_eq
  intro i hi
  simp
  rw [b255 i hi, Bool.and_true, BitVec.getLsbD_signExtend, BitVec.getLsbD_signExtend, BitVec.getLsbD_sshiftRight, BitVec.getLsbD_ushiftRight]
  have h1 : i < 32 := by omega
  have h2 : 16 + i < 32 := by omega
  have h3 : ¬ 32 ≤ i := by omega
  simp [h1, h2, h3]
theorem by8 (a : Int32) : bC a 8 = (bR a 8).toInt8.toInt32 := by
  unfold bC bR
  congr 1
  apply Int8.toBitVec_inj.mp
  have e1 : ((8 : Int32) &&& 31) = 8 := by decide
  have e2 : (Int32.toUInt32 8 &&& Int32.toUInt32 31) = 8 := by decide
  rw [e1, e2]
  apply BitVec.eq_of_getLsbD_eq
  intro i hi
  simp
  rw [b255 i hi, Bool.and_true, BitVec.getLsbD_signExtend, BitVec.getLsbD_signExtend, BitVec.getLsbD_sshiftRight, BitVec.getLsbD_ushiftRight]
  have h1 : i < 32 := by omega
  have h2 : 8 + i < 32 := by omega
  have h3 : ¬ 32 ≤ i := by omega
  simp [h1, h2, h3]
theorem by0 (a : Int32) : bC a 0 = (bR a 0).toInt8.toInt32 := by
  unfold bC bR
  congr 1
  apply Int8.toBitVec_inj.mp
  have e1 : ((0 : Int32) &&& 31) = 0 := by decide
  have e2 : (Int32.toUInt32 0 &&& Int32.toUInt32 31) = 0 := by decide
  rw [e1, e2]
  apply BitVec.eq_of_getLsbD_eq
  intro i hi
  simp
  exact fun _ => b255 i hi
theorem bR_lt (a s : Int32) : ∃ b : Nat, b < 256 ∧ bR a s = nI b := by
  obtain ⟨j, hj, e⟩ := pk_andE ((a.toUInt32 >>> (s.toUInt32 &&& Int32.toUInt32 31)).toInt32) (m := 255) 8 (by decide)
  exact ⟨j, hj, e⟩
