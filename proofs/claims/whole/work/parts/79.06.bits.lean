/-! ===== flags as bits ===== -/
def bI (b : Bool) : Int32 := bif b then 1 else 0
theorem and1 (x : BitVec 32) : x &&& 1#32 = if x.getLsbD 0 then 1#32 else 0#32 := by
  apply BitVec.eq_of_getLsbD_eq
  intro i hi
  rw [BitVec.getLsbD_and, BitVec.getLsbD_one]
  by_cases e : i = 0
  · subst e
    cases hb : x.getLsbD 0 <;> simp
  · cases hb : x.getLsbD 0 <;> simp [e]
theorem fb0 (F : Int32) : (F >>> (nI 0 &&& 31)) &&& 1 = bI (F.toBitVec.getLsbD 0) := by
  have e1 : (nI 0 &&& 31 : Int32) = 0 := by decide
  rw [e1]
  apply Int32.toBitVec_inj.mp
  have e2 : ((F >>> (0 : Int32)) &&& 1).toBitVec = (F >>> (0 : Int32)).toBitVec &&& 1#32 := rfl
  rw [e2, and1]
  have e3 : (F >>> (0 : Int32)).toBitVec.getLsbD 0 = F.toBitVec.getLsbD 0 := by simp
  rw [e3]
  cases F.toBitVec.getLsbD 0 <;> rfl
theorem fb1 (F : Int32) : (F >>> (nI 1 &&& 31)) &&& 1 = bI (F.toBitVec.getLsbD 1) := by
  have e1 : (nI 1 &&& 31 : Int32) = 1 := by decide
  rw [e1]
  apply Int32.toBitVec_inj.mp
  have e2 : ((F >>> (1 : Int32)) &&& 1).toBitVec = (F >>> (1 : Int32)).toBitVec &&& 1#32 := rfl
  rw [e2, and1]
  have e3 : (F >>> (1 : Int32)).toBitVec.getLsbD 0 = F.toBitVec.getLsbD 1 := by simp [BitVec.getElem_sshiftRight]
  rw [e3]
  cases F.toBitVec.getLsbD 1 <;> rfl
theorem fb2 (F : Int32) : (F >>> (nI 2 &&& 31)) &&& 1 = bI (F.toBitVec.getLsbD 2) := by
  have e1 : (nI 2 &&& 31 : Int32) = 2 := by decide
  rw [e1]
  apply Int32.toBitVec_inj.mp
  have e2 : ((F >>> (2 : Int32)) &&& 1).toBitVec = (F >>> (2 : Int32)).toBitVec &&& 1#32 := rfl
  rw [e2, and1]
  have e3 : (F >>> (2 : Int32)).toBitVec.getLsbD 0 = F.toBitVec.getLsbD 2 := by simp [BitVec.getElem_sshiftRight]
  rw [e3]
  cases F.toBitVec.getLsbD 2 <;> rfl
theorem fb3 (F : Int32) : (F >>> (nI 3 &&& 31)) &&& 1 = bI (F.toBitVec.getLsbD 3) := by
  have e1 : (nI 3 &&& 31 : Int32) = 3 := by decide
  rw [e1]
  apply Int32.toBitVec_inj.mp
  have e2 : ((F >>> (3 : Int32)) &&& 1).toBitVec = (F >>> (3 : Int32)).toBitVec &&& 1#32 := rfl
  rw [e2, and1]
  have e3 : (F >>> (3 : Int32)).toBitVec.getLsbD 0 = F.toBitVec.getLsbD 3 := by simp [BitVec.getElem_sshiftRight]
  rw [e3]
  cases F.toBitVec.getLsbD 3 <;> rfl
theorem fb4 (F : Int32) : (F >>> (nI 4 &&& 31)) &&& 1 = bI (F.toBitVec.getLsbD 4) := by
  have e1 : (nI 4 &&& 31 : Int32) = 4 := by decide
  rw [e1]
  apply Int32.toBitVec_inj.mp
  have e2 : ((F >>> (4 : Int32)) &&& 1).toBitVec = (F >>> (4 : Int32)).toBitVec &&& 1#32 := rfl
  rw [e2, and1]
  have e3 : (F >>> (4 : Int32)).toBitVec.getLsbD 0 = F.toBitVec.getLsbD 4 := by simp [BitVec.getElem_sshiftRight]
  rw [e3]
  cases F.toBitVec.getLsbD 4 <;> rfl
theorem fb5 (F : Int32) : (F >>> (nI 5 &&& 31)) &&& 1 = bI (F.toBitVec.getLsbD 5) := by
  have e1 : (nI 5 &&& 31 : Int32) = 5 := by decide
  rw [e1]
  apply Int32.toBitVec_inj.mp
  have e2 : ((F >>> (5 : Int32)) &&& 1).toBitVec = (F >>> (5 : Int32)).toBitVec &&& 1#32 := rfl
  rw [e2, and1]
  have e3 : (F >>> (5 : Int32)).toBitVec.getLsbD 0 = F.toBitVec.getLsbD 5 := by simp [BitVec.getElem_sshiftRight]
  rw [e3]
  cases F.toBitVec.getLsbD 5 <;> rfl
theorem fb6 (F : Int32) : (F >>> (nI 6 &&& 31)) &&& 1 = bI (F.toBitVec.getLsbD 6) := by
  have e1 : (nI 6 &&& 31 : Int32) = 6 := by decide
  rw [e1]
  apply Int32.toBitVec_inj.mp
  have e2 : ((F >>> (6 : Int32)) &&& 1).toBitVec = (F >>> (6 : Int32)).toBitVec &&& 1#32 := rfl
  rw [e2, and1]
  have e3 : (F >>> (6 : Int32)).toBitVec.getLsbD 0 = F.toBitVec.getLsbD 6 := by simp [BitVec.getElem_sshiftRight]
  rw [e3]
  cases F.toBitVec.getLsbD 6 <;> rfl
theorem fb7 (F : Int32) : (F >>> (nI 7 &&& 31)) &&& 1 = bI (F.toBitVec.getLsbD 7) := by
  have e1 : (nI 7 &&& 31 : Int32) = 7 := by decide
  rw [e1]
  apply Int32.toBitVec_inj.mp
  have e2 : ((F >>> (7 : Int32)) &&& 1).toBitVec = (F >>> (7 : Int32)).toBitVec &&& 1#32 := rfl
  rw [e2, and1]
  have e3 : (F >>> (7 : Int32)).toBitVec.getLsbD 0 = F.toBitVec.getLsbD 7 := by simp [BitVec.getElem_sshiftRight]
  rw [e3]
  cases F.toBitVec.getLsbD 7 <;> rfl
theorem fbit (F : Int32) {k : Nat} (hk : k < 8) : (F >>> (nI k &&& 31)) &&& 1 = bI (F.toBitVec.getLsbD k) := by
  match k, hk with
  | 0, _ => exact fb0 F
  | 1, _ => exact fb1 F
  | 2, _ => exact fb2 F
  | 3, _ => exact fb3 F
  | 4, _ => exact fb4 F
  | 5, _ => exact fb5 F
  | 6, _ => exact fb6 F
  | 7, _ => exact fb7 F
  | n + 8, z => omega
theorem one_bit : ∀ j, j < 8 → ∀ k, k < 8 → ((1 : Int32) <<< (nI j &&& 31)).toBitVec.getLsbD k = decide (k = j) := by decide +kernel
theorem not_bit : ∀ j, j < 8 → ∀ k, k < 8 → (((1 : Int32) <<< (nI j &&& 31)) ^^^ (-1)).toBitVec.getLsbD k = !decide (k = j) := by decide +kernel
theorem or_bit (F : Int32) {j k : Nat} (hj : j < 8) (hk : k < 8) : (F ||| ((1 : Int32) <<< (nI j &&& 31))).toBitVec.getLsbD k = (F.toBitVec.getLsbD k || decide (k = j)) := by
  rw [Int32.toBitVec_or, BitVec.getLsbD_or, one_bit j hj k hk]
theorem an_bit (F : Int32) {j k : Nat} (hj : j < 8) (hk : k < 8) : (F &&& (((1 : Int32) <<< (nI j &&& 31)) ^^^ (-1))).toBitVec.getLsbD k = (F.toBitVec.getLsbD k && !decide (k = j)) := by
  rw [Int32.toBitVec_and, BitVec.getLsbD_and, not_bit j hj k hk]
