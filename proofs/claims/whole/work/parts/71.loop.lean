/-! ===== the law's loop, out of what each pair of calls does ===== -/
/-- the locals at the loop's head -/
def lsI (i : Nat) : List (Option MV) := [some (rv 1 (some 0)), some (rv 21 (some 0)), some (rv 22 (some 0)), some (rv 99 (some 0)), some (iv (Int32.ofNat i)), none, none]
theorem lll_I {i : Nat} {a b : Option MV} : lll (lsI i) [some (rv 1 (some 0)), some (rv 21 (some 0)), some (rv 22 (some 0)), some (rv 99 (some 0)), some (iv (Int32.ofNat i)), a, b] := by
  refine ⟨rfl, fun j v hj => ?_⟩
  match j, hj with
  | 0, hj => exact hj
  | 1, hj => exact hj
  | 2, hj => exact hj
  | 3, hj => exact hj
  | 4, hj => exact hj
  | 5, hj => cases hj
  | 6, hj => cases hj
  | n + 7, hj => cases hj
/-- a pair of calls whose answers are compared: the class by way of the law's method mw, the reference's mr -/
def prI (P : MP) (d : Nat) (I I' : MH → Prop) (mw mr : Nat) (as : List MV) : Prop := ∀ h, I h → ∃ (k b : Int32) (h1 h2 : MH),
  EL P d mw (rv 21 (some 0) :: (as ++ [rv 99 (some 0)])) h = some (.inl (some (iv k)), h1) ∧ EL P d mr (rv 22 (some 0) :: as) h1 = some (.inl (some (iv b)), h2) ∧ h2.1 22 0 90 = k ∧ (k = 0 → h2.2.2.1 99 0 0 = b.toInt64) ∧ I' h2
/-- where the answer is true or false -/
def prB (P : MP) (d : Nat) (I I' : MH → Prop) (mw mr : Nat) (as : List MV) : Prop := ∀ h, I h → ∃ (k b : Int32) (h1 h2 : MH),
  EL P d mw (rv 21 (some 0) :: (as ++ [rv 99 (some 0)])) h = some (.inl (some (iv k)), h1) ∧ EL P d mr (rv 22 (some 0) :: as) h1 = some (.inl (some (iv b)), h2) ∧ h2.1 22 0 90 = k ∧ (k = 0 → h2.2.2.1 99 0 0 = (if b = 0 then 0 else 1)) ∧ I' h2
def prF (P : MP) (d : Nat) (I I' : MH → Prop) (as : List MV) : Prop := ∀ h, I h → ∃ (k : Int32) (h1 h2 : MH),
  EL P d 13 (rv 21 (some 0) :: as) h = some (.inl (some (iv k)), h1) ∧ EL P d 14 (rv 22 (some 0) :: as) h1 = some (.inl (some (iv k)), h2) ∧ I' h2
def prO (P : MP) (d : Nat) (I I' : MH → Prop) : Prop := ∀ h, I h → ∃ (k : Int32) (h1 h2 : MH),
  EL P d 140 [rv 21 (some 0)] h = some (.inl (some (iv k)), h1) ∧ EL P d 141 [rv 22 (some 0)] h1 = some (.inl none, h2) ∧ h2.1 22 0 90 = k ∧ I' h2
theorem i_add {i c : Nat} : Int32.ofNat i + Int32.ofNat c = Int32.ofNat (i + c) := by
  rw [Int32.ofNat_add]
theorem i_nin {i L : Nat} (h : i < L) (hL : L ≤ 3072) : ¬ ino (Int32.ofNat i) L := by
  have h1 : (Int32.ofNat i).toNatClampNeg = i := nI_clamp (n := i) (by omega)
  have h2 : ¬ Int32.ofNat i < 0 := nI_pos (n := i) (by omega)
  rintro (z | z)
  · exact h2 z
  · rw [h1] at z
    omega
theorem i_sub6 {L : Nat} (h : 6 ≤ L) : Int32.ofNat L - 6 = Int32.ofNat (L - 6) := by
  obtain ⟨n, rfl⟩ : ∃ n, L = n + 6 := ⟨L - 6, by omega⟩
  rw [Nat.add_sub_cancel, Int32.ofNat_add]
  exact Int32.add_sub_cancel _ _
section Loop
variable {L : Nat} {xs : Nat → Int32} {d i : Nat} {h : MH} {x : MO}
theorem e_thrown (h : MH) : EL (mP L xs) (d + 1) 131 [rv 22 (some 0)] h = some (.inl (some (iv (h.1 22 0 90))), h) := EL_by (q_Ref_thrown_0 L xs _ _ h)
theorem e_thrown' (hd : 1 ≤ d) (h : MH) : EL (mP L xs) d 131 [rv 22 (some 0)] h = some (.inl (some (iv (h.1 22 0 90))), h) := EL_mono hd (e_thrown (d := 0) h)
theorem chk_ff {A B : MX} : chk false A B = B := rfl
theorem j_cmp {a b : Int64} (h : a = b) {A B C : MX} : (if a < b then A else if a = b then B else C) = B := by
  subst h
  rw [if_neg (fun z => by have := Int64.lt_iff_toInt_lt.mp z; omega), if_pos rfl]
end Loop
