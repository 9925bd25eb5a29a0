/-! ===== read: steps, the small things ===== -/
def NW (u : MI) (kk : Nat) (p0 p1 p2 p3 p4 p5 : Int32) : MI := m3 (m3 (m3 (m3 (m3 (m3 (m3 u 59 0 kk p0) 60 0 kk p1) 61 0 kk p2) 62 0 kk p3) 63 0 kk p4) 64 0 kk p5) 22 0 41 (nI (kk + 1))
def NF (f : MI) (A : Nat) (kd pl : Int32) : MI := m3 (m3 (m2 f 19 A 0) 19 A 0 kd) 19 A 1 pl
def NG (g : MR) (A : Nat) (o gd : Option Nat) : MR := m3 (m3 (m2 g 19 A none) 19 A 2 o) 19 A 3 gd
def NX (X : ML × (Nat → Nat) × Nat × Nat) (A : Nat) : ML × (Nat → Nat) × Nat × Nat := (m2 X.1 19 A 0, m1 X.2.1 19 (A + 1), X.2.2.1 + 1, X.2.2.2 + 11)
/-- the innermost repeat or loop above -/
def CH (A : Nat) (f : MI) (g : MR) : Nat → Option Nat → Option Nat → Prop
  | 0, o, l => o = none ∧ l = none
  | m + 1, o, l => ∃ b, o = some b ∧ b < A ∧ (((f 19 b 0 = 313 ∨ f 19 b 0 = 314) ∧ l = some b) ∨ (¬ (f 19 b 0 = 313 ∨ f 19 b 0 = 314) ∧ CH A f g m (g 19 b 2) l))
def fitb (kd j : Nat) (lb : Bool) : Bool := if j = 0 then aTu kd && !(kd == 8) else if j = 1 then aLi kd else if j = 18 then aLa kd else if j = 2 then aSo kd else if j = 3 ∨ j = 4 then aSe kd else if j = 16 then lb else true
section Stp
variable {L : Nat} {xs : Nat → Int32} {d : Nat} {g : MR} {X : ML × (Nat → Nat) × Nat × Nat} {Y : MR × ML × (Nat → Nat) × Nat × Nat} {N k t A : Nat} {b : Nat → Nat} {sg : Nat → Int32} {f f2 u u2 : MI}
theorem r_op {kk : Nat} (hk : u 22 0 41 = nI kk) (h : kk < 6100) (p0 p1 p2 p3 p4 p5 : Int32) : EL (mP L xs) (d + 1) 119 [rv 22 (some 0), iv p0, iv p1, iv p2, iv p3, iv p4, iv p5] (u, Y) = some (.inl (some (iv (nI kk))), (NW u kk p0 p1 p2 p3 p4 p5, Y)) := by
  have e1 : (m3 u 59 0 kk p0) 22 0 41 = nI kk := (m3_r (by decide)).trans hk
  have e2 : (m3 (m3 u 59 0 kk p0) 60 0 kk p1) 22 0 41 = nI kk := (m3_r (by decide)).trans e1
  have e3 : (m3 (m3 (m3 u 59 0 kk p0) 60 0 kk p1) 61 0 kk p2) 22 0 41 = nI kk := (m3_r (by decide)).trans e2
  have e4 : (m3 (m3 (m3 (m3 u 59 0 kk p0) 60 0 kk p1) 61 0 kk p2) 62 0 kk p3) 22 0 41 = nI kk := (m3_r (by decide)).trans e3
  have e5 : (m3 (m3 (m3 (m3 (m3 u 59 0 kk p0) 60 0 kk p1) 61 0 kk p2) 62 0 kk p3) 63 0 kk p4) 22 0 41 = nI kk := (m3_r (by decide)).trans e4
  have e6 : (m3 (m3 (m3 (m3 (m3 (m3 u 59 0 kk p0) 60 0 kk p1) 61 0 kk p2) 62 0 kk p3) 63 0 kk p4) 64 0 kk p5) 22 0 41 = nI kk := (m3_r (by decide)).trans e5
  have hs1 : nI (kk + 1) - 1 = nI kk := by rw [← nI_1, Int32.add_sub_cancel]
  rw [E_Ref_newOp]
  simp only [hk, if_neg (nin h (show 6100 < 2 ^ 31 by decide)), nI_clamp (show kk < 2 ^ 31 by omega), e1, e2, e3, e4, e5, e6, nI_1, m3_eq, hs1]
  rfl
theorem c_turn {i : Nat} {l : Option Nat} : ∀ (m j : Nat) (o : Option Nat), CH A f g m o l → j + m ≤ 11 → RL (mP L xs) d 64 7 [some (rv 19 (some i)), some (rv 19 o), some (iv (nI j))] [] (f, g, X) = some (.inl (some (rv 19 l)), (f, g, X))
  | 0, j, o, ⟨h1, h2⟩, hj => by
    subst h1; subst h2
    rw [K_Step_turning_7, if_pos (show nI j < 12 from nI_lt (b := 12) (by omega) (by decide)), if_pos rfl]
  | m + 1, j, o, ⟨b, h1, hbA, h2⟩, hj => by
    subst h1
    rw [K_Step_turning_7, if_pos (show nI j < 12 from nI_lt (b := 12) (by omega) (by decide)), if_neg (by intro e; cases e), onS_s]
    rcases h2 with ⟨h2, h3⟩ | ⟨h2, h3⟩
    · subst h3
      rcases h2 with h2 | h2
      · rw [if_pos h2]
      · rw [if_neg (show ¬ f 19 b 0 = 313 by rw [h2]; decide), onS_s, if_pos h2]
    · rw [if_neg (fun e => h2 (Or.inl e)), onS_s, if_neg (fun e => h2 (Or.inr e)), onS_s, nI_1]
      exact c_turn m (j + 1) (g 19 b 2) h3 (by omega)
theorem CH.fr {f2 : MI} {g2 : MR} {A2 : Nat} (hA : A ≤ A2) (h1 : ∀ a, a < A → f2 19 a 0 = f 19 a 0 ∧ g2 19 a 2 = g 19 a 2) : ∀ {m : Nat} {o l : Option Nat}, CH A f g m o l → CH A2 f2 g2 m o l
  | 0, o, l, h4 => h4
  | m + 1, o, l, ⟨b, e, hb, h4⟩ => by
    obtain ⟨x1, x2⟩ := h1 b hb
    refine ⟨b, e, by omega, ?_⟩
    rw [x1, x2]
    rcases h4 with h4 | ⟨h4, h5⟩
    · exact Or.inl h4
    · exact Or.inr ⟨h4, CH.fr hA h1 h5⟩
theorem c_has {r kd : Nat} (hkd : kd ≤ 8) (hac : f 16 r 5 = tabB 4 kd) : EL (mP L xs) (d + 1) 58 [rv 16 (some r), iv 1] (f, g, X) = some (.inl (some (iv (bI (aTu kd)))), (f, g, X)) ∧ EL (mP L xs) (d + 1) 58 [rv 16 (some r), iv 32] (f, g, X) = some (.inl (some (iv (bI (kd == 8)))), (f, g, X)) ∧ EL (mP L xs) (d + 1) 58 [rv 16 (some r), iv 2] (f, g, X) = some (.inl (some (iv (bI (aLi kd)))), (f, g, X)) ∧ EL (mP L xs) (d + 1) 58 [rv 16 (some r), iv 4] (f, g, X) = some (.inl (some (iv (bI (aSe kd)))), (f, g, X)) ∧ EL (mP L xs) (d + 1) 58 [rv 16 (some r), iv 8] (f, g, X) = some (.inl (some (iv (bI (aLa kd)))), (f, g, X)) ∧ EL (mP L xs) (d + 1) 58 [rv 16 (some r), iv 16] (f, g, X) = some (.inl (some (iv (bI (aSo kd)))), (f, g, X)) := by
  have all : ∀ k, k ≤ 8 → (if tabB 4 k &&& 1 = 0 then (0 : Int32) else 1) = bI (aTu k) ∧ (if tabB 4 k &&& 32 = 0 then (0 : Int32) else 1) = bI (k == 8) ∧ (if tabB 4 k &&& 2 = 0 then (0 : Int32) else 1) = bI (aLi k) ∧ (if tabB 4 k &&& 4 = 0 then (0 : Int32) else 1) = bI (aSe k) ∧ (if tabB 4 k &&& 8 = 0 then (0 : Int32) else 1) = bI (aLa k) ∧ (if tabB 4 k &&& 16 = 0 then (0 : Int32) else 1) = bI (aSo k) := by decide +kernel
  obtain ⟨a1, a2, a3, a4, a5, a6⟩ := all kd hkd
  simp only [E_Ride_has, hac, ite_val, a1, a2, a3, a4, a5, a6, and_self]
theorem c_fits {r kd j a m : Nat} {l : Option Nat} (hkd : kd ≤ 8) (hac : f 16 r 5 = tabB 4 kd) (hj : j < 19) (hk : f 19 a 0 = nI (301 + j)) (hc : CH A f g m (g 19 a 2) l) (hm : m ≤ 11) : EL (mP L xs) (d + 2) 65 [rv 19 (some a), rv 16 (some r)] (f, g, X) = some (.inl (some (iv (bI (fitb kd j l.isSome)))), (f, g, X)) := by
  obtain ⟨h1, h2, h3, h4, h5, h6⟩ := c_has (L := L) (xs := xs) (d := d) (g := g) (X := X) (r := r) hkd hac
  have ht : EL (mP L xs) (d + 1) 64 [rv 19 (some a)] (f, g, X) = some (.inl (some (rv 19 l)), (f, g, X)) := by
    rw [E_Step_turning]
    exact c_turn m 0 (g 19 a 2) hc (by omega)
  rw [E_FairReader_fits]
  simp only [onS_s, hk]
  have hh : j = 0 ∨ j = 1 ∨ j = 2 ∨ j = 3 ∨ j = 4 ∨ j = 5 ∨ j = 6 ∨ j = 7 ∨ j = 8 ∨ j = 9 ∨ j = 10 ∨ j = 11 ∨ j = 12 ∨ j = 13 ∨ j = 14 ∨ j = 15 ∨ j = 16 ∨ j = 17 ∨ j = 18 := by omega
  rcases hh with rfl | rfl | rfl | rfl | rfl | rfl | rfl | rfl | rfl | rfl | rfl | rfl | rfl | rfl | rfl | rfl | rfl | rfl | rfl <;> simp (decide := true) only [if_true, if_false, h1, h2, h3, h4, h5, h6, ht, clI, clR, onS_s, bI_and, fitb]
  · cases aTu kd with
    | false => rfl
    | true => cases (kd == 8) <;> rfl
  all_goals first | rfl | (cases l <;> rfl)
theorem c_fits4 {a : Nat} {o : Option Nat} (hk : f 19 a 0 = 400) : EL (mP L xs) (d + 1) 65 [rv 19 (some a), rv 16 o] (f, g, X) = some (.inl (some (iv 1)), (f, g, X)) := by
  rw [E_FairReader_fits]
  simp (decide := true) only [onS_s, hk, if_false]
theorem r_fits {r kd j : Nat} {lb : Bool} (hr : r < 12) (hkd : kd ≤ 8) (h52 : u 22 0 52 = nI r) (h49 : u 49 0 r = nI kd) (ha : R_abl u) (hl : (u 22 0 54 = -1) = (lb = false)) (hj : j < 19) : EL (mP L xs) (d + 1) 110 [rv 22 (some 0), iv (nI (wm j))] (u, Y) = some (.inl (some (iv (bI (fitb kd j lb)))), (u, Y)) := by
  have h42 : u 42 0 kd = ([5, 6, 7, 17, 8, 26, 28, 31, 5] : List Int32).getD kd 0 := by
    obtain ⟨a0, a1, a2, a3, a4, a5, a6, a7, a8⟩ := ha
    have hh : kd = 0 ∨ kd = 1 ∨ kd = 2 ∨ kd = 3 ∨ kd = 4 ∨ kd = 5 ∨ kd = 6 ∨ kd = 7 ∨ kd = 8 := by omega
    rcases hh with rfl | rfl | rfl | rfl | rfl | rfl | rfl | rfl | rfl <;> assumption
  have all : ∀ k, k ≤ 8 → (if ([5, 6, 7, 17, 8, 26, 28, 31, 5] : List Int32).getD k 0 &&& 1 = 0 then (0 : Int32) else if nI k = 8 then 0 else 1) = bI (aTu k && !(k == 8)) ∧ (if ([5, 6, 7, 17, 8, 26, 28, 31, 5] : List Int32).getD k 0 &&& 2 = 0 then (0 : Int32) else 1) = bI (aLi k) ∧ (if ([5, 6, 7, 17, 8, 26, 28, 31, 5] : List Int32).getD k 0 &&& 4 = 0 then (0 : Int32) else 1) = bI (aSe k) ∧ (if ([5, 6, 7, 17, 8, 26, 28, 31, 5] : List Int32).getD k 0 &&& 8 = 0 then (0 : Int32) else 1) = bI (aLa k) ∧ (if ([5, 6, 7, 17, 8, 26, 28, 31, 5] : List Int32).getD k 0 &&& 16 = 0 then (0 : Int32) else 1) = bI (aSo k) := by decide +kernel
  obtain ⟨a1, a2, a3, a4, a5⟩ := all kd hkd
  rw [E_Ref_fits]
  simp only [h52, if_neg (nin hr (show 12 < 2 ^ 31 by decide)), nI_clamp (show r < 2 ^ 31 by omega), h49, if_neg (nin (show kd < 9 by omega) (show 9 < 2 ^ 31 by decide)), nI_clamp (show kd < 2 ^ 31 by omega), h42]
  have hh : j = 0 ∨ j = 1 ∨ j = 2 ∨ j = 3 ∨ j = 4 ∨ j = 5 ∨ j = 6 ∨ j = 7 ∨ j = 8 ∨ j = 9 ∨ j = 10 ∨ j = 11 ∨ j = 12 ∨ j = 13 ∨ j = 14 ∨ j = 15 ∨ j = 16 ∨ j = 17 ∨ j = 18 := by omega
  rcases hh with rfl | rfl | rfl | rfl | rfl | rfl | rfl | rfl | rfl | rfl | rfl | rfl | rfl | rfl | rfl | rfl | rfl | rfl | rfl <;> simp (decide := true) only [if_true, if_false, ite_val, a1, a2, a3, a4, a5, fitb, hl]
  all_goals first | rfl | (cases lb <;> rfl)
theorem r_fits4 {r kd : Nat} {j : Nat} (hr : r < 12) (hkd : kd ≤ 8) (h52 : u 22 0 52 = nI r) (h49 : u 49 0 r = nI kd) (hj : j < 4) : EL (mP L xs) (d + 1) 110 [rv 22 (some 0), iv (nI (41 + j))] (u, Y) = some (.inl (some (iv 1)), (u, Y)) := by
  rw [E_Ref_fits]
  simp only [h52, if_neg (nin hr (show 12 < 2 ^ 31 by decide)), nI_clamp (show r < 2 ^ 31 by omega), h49, if_neg (nin (show kd < 9 by omega) (show 9 < 2 ^ 31 by decide))]
  have hh : j = 0 ∨ j = 1 ∨ j = 2 ∨ j = 3 := by omega
  rcases hh with rfl | rfl | rfl | rfl <;> simp (decide := true) only [if_false]
end Stp
