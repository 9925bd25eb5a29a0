/-! ===== what a ride says ===== -/
section Says
variable {L : Nat} {xs : Nat → Int32} {d : Nat}
theorem r_has {f : MI} {g : MR} {u : MI} {r kd : Nat} (R : RM f g u r kd) {h : MH} (hu : h.1 = u) (b : Int32) : EL (mP L xs) (d + 1) 147 [rv 22 (some 0), iv (nI r), iv b] h = some (.inl (some (iv (if ([5, 6, 7, 17, 8, 26, 28, 31, 5] : List Int32).getD kd 0 &&& b = 0 then 0 else 1))), h) := by
  have h1 := R.lt
  have h2 := R.kl
  have h3 : h.1 42 0 kd = ([5, 6, 7, 17, 8, 26, 28, 31, 5] : List Int32).getD kd 0 := by
    rw [hu]
    obtain ⟨a0, a1, a2, a3, a4, a5, a6, a7, a8⟩ := R.ar
    match kd, h2 with
    | 0, _ => exact a0
    | 1, _ => exact a1
    | 2, _ => exact a2
    | 3, _ => exact a3
    | 4, _ => exact a4
    | 5, _ => exact a5
    | 6, _ => exact a6
    | 7, _ => exact a7
    | 8, _ => exact a8
  have h4 : h.1 49 0 r = nI kd := by rw [hu]; exact R.kr
  simp only [E_Ref_has, nin h1 (by decide : 12 < 2 ^ 31), nI_clamp (show r < 2 ^ 31 by omega), h4, nI_clamp (show kd < 2 ^ 31 by omega), nin (show kd < 9 by omega) (by decide : 9 < 2 ^ 31), if_false, ite_val, h3]
theorem r_hasT {f : MI} {g : MR} {u : MI} {r kd : Nat} (R : RM f g u r kd) {h : MH} (hu : h.1 = u) :
    EL (mP L xs) (d + 1) 147 [rv 22 (some 0), iv (nI r), iv 1] h = some (.inl (some (iv (bif aTu kd then 1 else 0))), h) ∧
    EL (mP L xs) (d + 1) 147 [rv 22 (some 0), iv (nI r), iv 2] h = some (.inl (some (iv (bif aLi kd then 1 else 0))), h) ∧
    EL (mP L xs) (d + 1) 147 [rv 22 (some 0), iv (nI r), iv 4] h = some (.inl (some (iv (bif aSe kd then 1 else 0))), h) ∧
    EL (mP L xs) (d + 1) 147 [rv 22 (some 0), iv (nI r), iv 8] h = some (.inl (some (iv (bif aLa kd then 1 else 0))), h) ∧
    EL (mP L xs) (d + 1) 147 [rv 22 (some 0), iv (nI r), iv 16] h = some (.inl (some (iv (bif aSo kd then 1 else 0))), h) := by
  have key : ∀ (b v : Int32), (if ([5, 6, 7, 17, 8, 26, 28, 31, 5] : List Int32).getD kd 0 &&& b = 0 then 0 else 1) = v → EL (mP L xs) (d + 1) 147 [rv 22 (some 0), iv (nI r), iv b] h = some (.inl (some (iv v)), h) := fun b v e => by rw [← e]; exact r_has R hu b
  have h2 := R.kl
  have all : ∀ k, k ≤ 8 → (if ([5, 6, 7, 17, 8, 26, 28, 31, 5] : List Int32).getD k 0 &&& 1 = 0 then (0 : Int32) else 1) = (bif aTu k then 1 else 0) ∧ (if ([5, 6, 7, 17, 8, 26, 28, 31, 5] : List Int32).getD k 0 &&& 2 = 0 then (0 : Int32) else 1) = (bif aLi k then 1 else 0) ∧ (if ([5, 6, 7, 17, 8, 26, 28, 31, 5] : List Int32).getD k 0 &&& 4 = 0 then (0 : Int32) else 1) = (bif aSe k then 1 else 0) ∧ (if ([5, 6, 7, 17, 8, 26, 28, 31, 5] : List Int32).getD k 0 &&& 8 = 0 then (0 : Int32) else 1) = (bif aLa k then 1 else 0) ∧ (if ([5, 6, 7, 17, 8, 26, 28, 31, 5] : List Int32).getD k 0 &&& 16 = 0 then (0 : Int32) else 1) = (bif aSo k then 1 else 0) := by decide +kernel
  obtain ⟨a1, a2, a3, a4, a5⟩ := all kd h2
  exact ⟨key _ _ a1, key _ _ a2, key _ _ a3, key _ _ a4, key _ _ a5⟩
theorem c_hasT {f : MI} {g : MR} {u : MI} {r kd : Nat} (R : RM f g u r kd) {h : MH} (hf : h.1 = f) :
    EL (mP L xs) (d + 1) 58 [rv 16 (some r), iv 1] h = some (.inl (some (iv (bif aTu kd then 1 else 0))), h) ∧
    EL (mP L xs) (d + 1) 58 [rv 16 (some r), iv 2] h = some (.inl (some (iv (bif aLi kd then 1 else 0))), h) ∧
    EL (mP L xs) (d + 1) 58 [rv 16 (some r), iv 4] h = some (.inl (some (iv (bif aSe kd then 1 else 0))), h) := by
  have h3 : h.1 16 r 5 = tabB 4 kd := by rw [hf]; exact R.ac
  have h2 := R.kl
  have all : ∀ k, k ≤ 8 → (if tabB 4 k &&& 1 = 0 then (0 : Int32) else 1) = (bif aTu k then 1 else 0) ∧ (if tabB 4 k &&& 2 = 0 then (0 : Int32) else 1) = (bif aLi k then 1 else 0) ∧ (if tabB 4 k &&& 4 = 0 then (0 : Int32) else 1) = (bif aSe k then 1 else 0) := by decide +kernel
  obtain ⟨a1, a2, a3⟩ := all kd h2
  simp only [E_Ride_has, h3, ite_val, a1, a2, a3, and_self]
end Says
