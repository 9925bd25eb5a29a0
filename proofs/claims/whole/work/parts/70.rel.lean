/-! ===== the class's half and the reference's half of a heap ===== -/
def cs (r : Nat) : Bool := (Nat.blt 9 r && Nat.blt r 22) || (Nat.blt 22 r && Nat.blt r 41)
def rs (r : Nat) : Bool := Nat.beq r 22 || (Nat.blt 40 r && Nat.blt r 99)
/-- a place that there is: rows have any, objects fewer than 128 -/
def pl (r i : Nat) : Bool := !Nat.beq (rTag r) 0 || Nat.blt i 128
/-- the class's ints; the reference's, but for what was thrown -/
def cN (f : MI) : MI := fun r o i => bif cs r && pl r i then f r o i else 0
def rN (f : MI) : MI := fun r o i => bif rs r && pl r i then (bif Nat.beq r 22 && Nat.beq i 90 then 0 else f r o i) else 0
def gN (g : MR) : MR := fun r o i => bif cs r && pl r i then g r o i else none
def bits (q : Nat → Bool) : Nat → Nat
  | 0 => 0
  | n + 1 => bits q n ||| (bif q n then ((2 ^ 128 - 1) <<< (n * 128)) else 0)
def refM : Nat := bits rs 100
def clsM : Nat := bits cs 100
theorem lid_div {r i : Nat} (hi : pl r i = true) : lid r i / 128 = r := by
  unfold lid
  unfold pl at hi
  cases hb : Nat.beq (rTag r) 0 with
  | false =>
    show r * 128 / 128 = r
    omega
  | true =>
    rw [hb] at hi
    have h1 : i + 1 ≤ 128 := Nat.le_of_ble_eq_true hi
    show (r * 128 + i) / 128 = r
    omega
theorem bits_at {q : Nat → Bool} : ∀ (n b : Nat), b / 128 < n → q (b / 128) = true → (bits q n).testBit b = true
  | 0, b, h, _ => absurd h (Nat.not_lt_zero _)
  | n + 1, b, h, hq => by
    unfold bits
    rw [Nat.testBit_or, Bool.or_eq_true]
    by_cases e : b / 128 = n
    · right
      rw [e] at hq
      rw [hq]
      show (((2 ^ 128 - 1) <<< (n * 128)) : Nat).testBit b = true
      rw [Nat.testBit_shiftLeft]
      have h1 : n * 128 ≤ b := by omega
      have h2 : b - n * 128 < 128 := by omega
      rw [Nat.testBit_two_pow_sub_one]
      simp [h1, h2]
    · exact Or.inl (bits_at n b (by omega) hq)
theorem mask_off {q : Nat → Bool} {m n b : Nat} (h : m &&& bits q n = 0) (hb : b / 128 < n) (hq : q (b / 128) = true) : m.testBit b = false := by
  have h1 : (m &&& bits q n).testBit b = false := by rw [h]; exact Nat.zero_testBit b
  rw [Nat.testBit_and, bits_at n b hb hq, Bool.and_true] at h1
  exact h1
theorem cs_lt {r : Nat} (h : cs r = true) : r < 100 := by
  unfold cs at h
  rw [Bool.or_eq_true, Bool.and_eq_true, Bool.and_eq_true] at h
  rcases h with ⟨-, h⟩ | ⟨-, h⟩
  · have : r + 1 ≤ 22 := Nat.le_of_ble_eq_true h
    omega
  · have : r + 1 ≤ 41 := Nat.le_of_ble_eq_true h
    omega
theorem rs_lt {r : Nat} (h : rs r = true) : r < 100 := by
  unfold rs at h
  rw [Bool.or_eq_true, Bool.and_eq_true] at h
  rcases h with h | ⟨-, h⟩
  · have := Nat.eq_of_beq_eq_true h
    omega
  · have : r + 1 ≤ 99 := Nat.le_of_ble_eq_true h
    omega
/-- a method that writes nothing of the reference's -/
theorem fm_ref {m : Nat} {h h' : MH} (hm : m &&& refM = 0) (hf : Fm m h h') : rN h'.1 = rN h.1 := by
  funext r o i
  unfold rN
  cases hr : rs r && pl r i with
  | false => rfl
  | true =>
    rw [Bool.and_eq_true] at hr
    have h1 : m.testBit (lid r i) = false := mask_off (q := rs) (n := 100) hm (by rw [lid_div hr.2]; exact rs_lt hr.1) (by rw [lid_div hr.2]; exact hr.1)
    have h2 : m.testBit (r * 128 + 127) = false := by
      have e : (r * 128 + 127) / 128 = r := by omega
      exact mask_off (q := rs) (n := 100) hm (by rw [e]; exact rs_lt hr.1) (by rw [e]; exact hr.1)
    rw [(hf.1 r o i h1 (Or.inr h2)).1]
theorem fm_cls {m : Nat} {h h' : MH} (hm : m &&& clsM = 0) (hf : Fm m h h') : cN h'.1 = cN h.1 ∧ gN h'.2.1 = gN h.2.1 ∧ h'.2.2.2.1 19 = h.2.2.2.1 19 := by
  have key : ∀ r i, cs r = true → pl r i = true → m.testBit (lid r i) = false ∧ m.testBit (r * 128 + 127) = false := by
    intro r i h1 h2
    refine ⟨mask_off (q := cs) (n := 100) hm (by rw [lid_div h2]; exact cs_lt h1) (by rw [lid_div h2]; exact h1), ?_⟩
    have e : (r * 128 + 127) / 128 = r := by omega
    exact mask_off (q := cs) (n := 100) hm (by rw [e]; exact cs_lt h1) (by rw [e]; exact h1)
  refine ⟨?_, ?_, hf.2.2.1 19 (key 19 0 rfl rfl).2⟩
  · funext r o i
    unfold cN
    cases hr : cs r && pl r i with
    | false => rfl
    | true =>
      rw [Bool.and_eq_true] at hr
      obtain ⟨h1, h2⟩ := key r i hr.1 hr.2
      rw [(hf.1 r o i h1 (Or.inr h2)).1]
  · funext r o i
    unfold gN
    cases hr : cs r && pl r i with
    | false => rfl
    | true =>
      rw [Bool.and_eq_true] at hr
      obtain ⟨h1, h2⟩ := key r i hr.1 hr.2
      rw [(hf.1 r o i h1 (Or.inr h2)).2.1]
theorem pub_masks : ([13, 93, 132, 135, 139, 144, 151, 208, 239, 243, 248, 251, 255, 258, 262, 266].all fun m => mEff m &&& refM == 0) = true ∧ ([14, 130, 134, 137, 141, 150, 153, 237, 241, 246, 250, 253, 257, 260, 264, 268, 131].all fun m => mEff m &&& clsM == 0) = true := by decide +kernel
