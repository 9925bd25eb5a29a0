/-! ===== board ===== -/
section Brd
variable {L : Nat} {xs : Nat → Int32} {d : Nat} {X : ML × (Nat → Nat) × Nat × Nat} {Y : MR × ML × (Nat → Nat) × Nat × Nat}
variable {B B' n s q : Nat} {rd ps en dp : Nat → Nat} {lp : Nat → Option Nat} {f f1 f2 f' : MI} {g : MR} {u u1 u2 u' : MI} {r a b : Nat}
theorem sumN_hd {h : Nat → Int32} : ∀ {m : Nat}, sumN h (m + 1) = h 0 + sumN (fun i => h (i + 1)) m
  | 0 => by
    show (0 : Int32) + h 0 = h 0 + 0
    rw [Int32.zero_add, Int32.add_zero]
  | m + 1 => by
    show sumN h (m + 1) + h (m + 1) = h 0 + (sumN (fun i => h (i + 1)) m + h (m + 1))
    rw [sumN_hd (m := m), Int32.add_assoc]
theorem m3_no {α : Type} {f : Nat → Nat → Nat → α} {R o i R' o' i' : Nat} {v : α} (h : ¬ (R' = R ∧ o' = o ∧ i' = i)) : m3 f R o i v R' o' i' = f R' o' i' := by
  unfold m3
  by_cases h1 : R' = R
  · by_cases h2 : o' = o
    · rw [if_pos h1, if_pos h2, if_neg (fun h3 => h ⟨h1, h2, h3⟩)]
    · rw [if_pos h1, if_neg h2]
  · rw [if_neg h1]
theorem FqC.rf : FqC r f f := fun _ _ _ _ _ => rfl
theorem FqU.rf : FqU r u u := fun _ _ _ _ _ _ => rfl
/-- the rest of the groups, from k on -/
def QR (f u : MI) (r k j : Nat) : Prop := ∀ i, i < j → f 23 r (k + i) = u 94 0 (30 * r + i) ∧ f 24 r (k + i) = u 95 0 (30 * r + i) ∧ Upto (u 94 0 (30 * r + i)) 100
def BD (f u : MI) (r p m j k x0 : Nat) (f2 u2 : MI) (c x' : Nat) : Prop := (c ≤ m) ∧ (u2 93 0 r = nI (m - c)) ∧ (QR f2 u2 r c (m - c)) ∧ (x0 ≤ x') ∧ (x' ≤ p) ∧ (f2 15 r 2 = nI m) ∧ (f2 15 r 3 = f 15 r 3) ∧ (u2 78 0 r = u 78 0 r + nI (x' - x0)) ∧ (∃ w, f2 15 r 4 = f 15 r 4 + w ∧ u2 22 0 83 = u 22 0 83 + w) ∧ (f2 11 0 13 = f 11 0 13) ∧ (sumN (fun i => f2 23 r (c + i)) (m - c) + nI (x' - x0) = sumN (fun i => f 23 r (k + i)) j) ∧ (FqC r f f2) ∧ (FqU r (m3 u 78 0 r (u2 78 0 r)) u2)
theorem BD.cm {f u : MI} {r p m j k x0 : Nat} {f2 u2 : MI} {c x' : Nat} (x : BD f u r p m j k x0 f2 u2 c x') : c ≤ m := x.1
theorem BD.u9 {f u : MI} {r p m j k x0 : Nat} {f2 u2 : MI} {c x' : Nat} (x : BD f u r p m j k x0 f2 u2 c x') : u2 93 0 r = nI (m - c) := x.2.1
theorem BD.qr {f u : MI} {r p m j k x0 : Nat} {f2 u2 : MI} {c x' : Nat} (x : BD f u r p m j k x0 f2 u2 c x') : QR f2 u2 r c (m - c) := x.2.2.1
theorem BD.xl {f u : MI} {r p m j k x0 : Nat} {f2 u2 : MI} {c x' : Nat} (x : BD f u r p m j k x0 f2 u2 c x') : x0 ≤ x' := x.2.2.2.1
theorem BD.xp {f u : MI} {r p m j k x0 : Nat} {f2 u2 : MI} {c x' : Nat} (x : BD f u r p m j k x0 f2 u2 c x') : x' ≤ p := x.2.2.2.2.1
theorem BD.c2 {f u : MI} {r p m j k x0 : Nat} {f2 u2 : MI} {c x' : Nat} (x : BD f u r p m j k x0 f2 u2 c x') : f2 15 r 2 = nI m := x.2.2.2.2.2.1
theorem BD.c3 {f u : MI} {r p m j k x0 : Nat} {f2 u2 : MI} {c x' : Nat} (x : BD f u r p m j k x0 f2 u2 c x') : f2 15 r 3 = f 15 r 3 := x.2.2.2.2.2.2.1
theorem BD.ab {f u : MI} {r p m j k x0 : Nat} {f2 u2 : MI} {c x' : Nat} (x : BD f u r p m j k x0 f2 u2 c x') : u2 78 0 r = u 78 0 r + nI (x' - x0) := x.2.2.2.2.2.2.2.1
theorem BD.wt {f u : MI} {r p m j k x0 : Nat} {f2 u2 : MI} {c x' : Nat} (x : BD f u r p m j k x0 f2 u2 c x') : ∃ w, f2 15 r 4 = f 15 r 4 + w ∧ u2 22 0 83 = u 22 0 83 + w := x.2.2.2.2.2.2.2.2.1
theorem BD.c13 {f u : MI} {r p m j k x0 : Nat} {f2 u2 : MI} {c x' : Nat} (x : BD f u r p m j k x0 f2 u2 c x') : f2 11 0 13 = f 11 0 13 := x.2.2.2.2.2.2.2.2.2.1
theorem BD.sm {f u : MI} {r p m j k x0 : Nat} {f2 u2 : MI} {c x' : Nat} (x : BD f u r p m j k x0 f2 u2 c x') : sumN (fun i => f2 23 r (c + i)) (m - c) + nI (x' - x0) = sumN (fun i => f 23 r (k + i)) j := x.2.2.2.2.2.2.2.2.2.2.1
theorem BD.fc {f u : MI} {r p m j k x0 : Nat} {f2 u2 : MI} {c x' : Nat} (x : BD f u r p m j k x0 f2 u2 c x') : FqC r f f2 := x.2.2.2.2.2.2.2.2.2.2.2.1
theorem BD.fu {f u : MI} {r p m j k x0 : Nat} {f2 u2 : MI} {c x' : Nat} (x : BD f u r p m j k x0 f2 u2 c x') : FqU r (m3 u 78 0 r (u2 78 0 r)) u2 := x.2.2.2.2.2.2.2.2.2.2.2.2
theorem bd_loop (hr : r < 12) {p m : Nat} (hp : p ≤ 5) (hm : m ≤ 30) : ∀ (j k x : Nat) (f u : MI), k + j = m → x ≤ p → f 15 r 2 = nI m → u 93 0 r = nI j → QR f u r k j →
    ∃ (f2 u2 : MI) (c x' : Nat), (∀ d X z6, RL (mP L xs) d 172 13 [some (rv 15 (some r)), some (iv (nI p)), some (iv (u 22 0 79)), some (iv (nI x)), some (iv (nI k)), some (iv (nI k)), z6] [] (f, g, X) = mclV (EL (mP L xs) d 154 [rv 15 (some r), iv (nI c)] (f2, g, X)) (fun h1 => some (.inl (some (iv (nI x'))), (m3 h1.1 15 r 3 (h1.1 15 r 3 - nI x'), h1.2))) (fun e h => some (.inr e, h))) ∧
      (∀ d Y z3 z4, RL (mP L xs) (d + 1) 220 25 [some (rv 22 (some 0)), some (iv (nI r)), some (iv (nI (p - x))), z3, z4] [] (u, Y) = some (.inl none, (u2, Y))) ∧ BD f u r p m j k x f2 u2 c x'
  | 0, k, x, f, u, hk, hx, h2, h9, hQ => by
    refine ⟨f, u, k, x, fun d X z6 => ?_, fun d Y z3 z4 => ?_, ⟨by omega, ?_, ?_, Nat.le_refl _, hx, h2, rfl, ?_, ⟨0, (Int32.add_zero _).symm, (Int32.add_zero _).symm⟩, rfl, ?_, FqC.rf, ?_⟩⟩
    · rw [K_Queue_board_13]
      simp only [h2]
      rw [if_neg (nI_nlt (show m ≤ k by omega) (by omega))]
    · rw [K_Ref_board_25]
      simp (decide := true) only [if_neg (nin hr (show 12 < 2 ^ 31 by decide)), nI_clamp (show r < 2 ^ 31 by omega), h9, nI_0, if_false, ite_self]
    · rw [h9, show m - k = 0 by omega]
    · rw [show m - k = 0 by omega]; exact hQ
    · rw [Nat.sub_self, nI_0, Int32.add_zero]
    · rw [Nat.sub_self, nI_0, Int32.add_zero, show m - k = 0 by omega]
    · rw [m3_same rfl]; exact FqU.rf
  | j + 1, k, x, f, u, hk, hx, h2, h9, hQ => by
    have e0 : (30 : Int32) * nI r = nI (30 * r + 0) := by rw [show (30 : Int32) = nI 30 from rfl, nI_mul]; rfl
    have keyC := fun d X z6 => K_Queue_board_13 (L := L) (xs := xs) (d := d) (z6 := z6) r (nI p) (u 22 0 79) (nI x) (nI k) (nI k) (f, g, X)
    have keyU := fun d Y z3 z4 => K_Ref_board_25 (L := L) (xs := xs) (d := d) (z3 := z3) (z4 := z4) (nI r) (nI (p - x)) (u, Y)
    by_cases hxp : x = p
    · subst hxp
      refine ⟨f, u, k, x, fun d X z6 => ?_, fun d Y z3 z4 => ?_, ⟨by omega, by rw [h9, show m - k = j + 1 by omega], by rw [show m - k = j + 1 by omega]; exact hQ, Nat.le_refl _, hx, h2, rfl, by rw [Nat.sub_self, nI_0, Int32.add_zero], ⟨0, (Int32.add_zero _).symm, (Int32.add_zero _).symm⟩, rfl, by rw [Nat.sub_self, nI_0, Int32.add_zero, show m - k = j + 1 by omega], FqC.rf, by rw [m3_same rfl]; exact FqU.rf⟩⟩
      · rw [keyC]
        simp only [if_neg (nI_nlt (Nat.le_refl x) (show x < 2 ^ 31 by omega)), ite_self]
      · rw [keyU, Nat.sub_self, nI_0, if_neg (by decide)]
    · obtain ⟨q1, q2, z, z1, z2⟩ := hQ 0 (by omega)
      rw [Nat.add_zero] at q1 q2
      have q1' : f 23 r k = nI z := q1.trans z2
      have epx : nI p - nI x = nI (p - x) := nI_sub hx
      simp only [h2, if_pos (nI_lt (show k < m by omega) (show m < 2 ^ 31 by omega)), if_pos (show nI k < 30 from nI_lt (b := 30) (by omega) (by decide)), if_pos (nI_lt (show x < p by omega) (show p < 2 ^ 31 by omega)), if_neg (nin (show k < 30 by omega) (show 30 < 2 ^ 31 by decide)), nI_clamp (show k < 2 ^ 31 by omega), q1', epx] at keyC
      simp only [if_neg (nin hr (show 12 < 2 ^ 31 by decide)), nI_clamp (show r < 2 ^ 31 by omega), h9, if_pos (show 0 < nI (p - x) from nI_lt (a := 0) (by omega) (by omega)), if_pos (show 0 < nI (j + 1) from nI_lt (a := 0) (by omega) (by omega)), e0, if_neg (nin (show 30 * r + 0 < 360 by omega) (show 360 < 2 ^ 31 by decide)), nI_clamp (show 30 * r + 0 < 2 ^ 31 by omega), z2] at keyU
      by_cases hz : p - x < z
      · -- some of the group stay
        have ez : nI z - nI (p - x) = nI (z - (p - x)) := nI_sub (by omega)
        have exx : nI x + nI (p - x) = nI p := by rw [nI_add, show x + (p - x) = p by omega]
        have hnz : ¬ nI (z - (p - x)) = 0 := fun e => by
          have := (nI_eq (b := 0) (show z - (p - x) < 2 ^ 31 by omega) (by decide)).mp e
          omega
        simp only [if_pos (nI_lt hz (show z < 2 ^ 31 by omega)), ez, m3_r (show 23 ≠ 15 by decide), m3_eq, if_neg hnz, exx, m3_r (show 15 ≠ 23 by decide), m3_r (show 24 ≠ 23 by decide), q2] at keyC
        simp only [if_neg (nI_nlt (show p - x ≤ z by omega) (show z < 2 ^ 31 by omega)), K_Ref_board_63, if_neg (nin hr (show 12 < 2 ^ 31 by decide)), nI_clamp (show r < 2 ^ 31 by omega), if_neg (nin (show 30 * r + 0 < 360 by omega) (show 360 < 2 ^ 31 by decide)), nI_clamp (show 30 * r + 0 < 2 ^ 31 by omega), m3_r (show 94 ≠ 78 by decide), m3_r (show 94 ≠ 22 by decide), m3_r (show 78 ≠ 22 by decide), z2, ez, m3_eq, if_neg hnz, Int32.sub_self, show nI (p - x) - nI (p - x) = 0 from Int32.sub_self _] at keyU
        refine ⟨m3 (m3 f 23 r k (nI (z - (p - x)))) 15 r 4 (f 15 r 4 + nI (p - x) * (u 22 0 79 - u 95 0 (30 * r + 0))), m3 (m3 (m3 u 22 0 83 (u 22 0 83 + nI (p - x) * (u 22 0 79 - u 95 0 (30 * r + 0)))) 78 0 r (u 78 0 r + nI (p - x))) 94 0 (30 * r + 0) (nI (z - (p - x))), k, p, fun d X z6 => ?_, fun d Y z3 z4 => ?_, ⟨by omega, ?_, ?_, hx, Nat.le_refl _, ?_, ?_, ?_, ⟨_, m3_eq, rfl⟩, rfl, ?_, ?_, ?_⟩⟩
        · rw [keyC, K_Queue_board_13]
          simp only [if_neg (nI_nlt (Nat.le_refl p) (show p < 2 ^ 31 by omega)), ite_self]
        · rw [keyU, K_Ref_board_25, if_neg (by decide)]
        · rw [show m - k = j + 1 by omega]
          exact h9
        · rw [show m - k = j + 1 by omega]
          intro i hi
          by_cases hi0 : i = 0
          · subst hi0
            rw [show k + 0 = k from rfl, m3_r (by decide), m3_eq, m3_eq]
            exact ⟨rfl, q2, z - (p - x), by omega, rfl⟩
          · rw [m3_r (by decide), m3_i (show k + i ≠ k by omega), m3_i (show 30 * r + i ≠ 30 * r + 0 by omega)]
            exact hQ i hi
        · exact (m3_i (by decide)).trans h2
        · exact m3_i (by decide)
        · rw [m3_r (by decide), m3_eq]
        · rw [show m - k = j + 1 by omega, sumN_hd, sumN_hd]
          simp only [m3_r (show 23 ≠ 15 by decide)]
          rw [Nat.add_zero, m3_eq, q1', sumN_congr (g := fun i => f 23 r (k + (i + 1))) (fun i hi => m3_i (show k + (i + 1) ≠ k by omega)), Int32.add_comm (nI (z - (p - x))), Int32.add_assoc, nI_add, show z - (p - x) + (p - x) = z by omega, Int32.add_comm]
        · exact fun R o i h1 h3 => (m3_no (by omega)).trans (m3_no (by omega))
        · intro R o i h1 h3 h4
          rw [m3_no (by omega)]
          by_cases hR : R = 78 ∧ o = 0 ∧ i = r
          · obtain ⟨rfl, rfl, rfl⟩ := hR
            rw [m3_eq, m3_eq, m3_r (by decide), m3_eq]
          · rw [m3_no hR, m3_no hR, m3_no (by omega)]
      · -- the whole group
        have exx : nI x + nI z = nI (x + z) := nI_add _ _
        have esub : nI (p - x) - nI z = nI (p - (x + z)) := by rw [nI_sub (by omega), show p - x - z = p - (x + z) by omega]
        have keyU' : ∀ d Y z3 z4, RL (mP L xs) d 220 25 [some (rv 22 (some 0)), some (iv (nI r)), some (iv (nI (p - x))), z3, z4] [] (u, Y) = RL (mP L xs) d 220 63 [some (rv 22 (some 0)), some (iv (nI r)), some (iv (nI (p - x))), some (iv (nI (30 * r + 0))), z4] [iv (nI z)] (u, Y) := fun d Y z3 z4 => by
          rw [keyU]
          by_cases e : z < p - x
          · rw [if_pos (nI_lt e (by omega))]
          · rw [show p - x = z by omega, ite_self]
        simp only [if_neg (nI_nlt (show z ≤ p - x by omega) (show p - x < 2 ^ 31 by omega)), Int32.sub_self, m3_r (show 23 ≠ 15 by decide), m3_eq, if_true, exx, m3_r (show 15 ≠ 23 by decide), m3_r (show 24 ≠ 23 by decide), q2, nI_1] at keyC
        simp only [K_Ref_board_63, if_neg (nin hr (show 12 < 2 ^ 31 by decide)), nI_clamp (show r < 2 ^ 31 by omega), if_neg (nin (show 30 * r + 0 < 360 by omega) (show 360 < 2 ^ 31 by decide)), nI_clamp (show 30 * r + 0 < 2 ^ 31 by omega), m3_r (show 94 ≠ 78 by decide), m3_r (show 94 ≠ 22 by decide), m3_r (show 78 ≠ 22 by decide), z2, Int32.sub_self, m3_eq, if_true, esub] at keyU'
        generalize hW : nI z * (u 22 0 79 - u 95 0 (30 * r + 0)) = W at keyC keyU'
        have hl : ∀ d Y, EL (mP L xs) (d + 1) 210 [rv 22 (some 0), iv (nI r)] (m3 (m3 (m3 u 22 0 83 (u 22 0 83 + W)) 78 0 r (u 78 0 r + nI z)) 94 0 (30 * r + 0) 0, Y) = some (.inl none, (shU (m3 (m3 (m3 (m3 u 22 0 83 (u 22 0 83 + W)) 78 0 r (u 78 0 r + nI z)) 94 0 (30 * r + 0) 0) 93 0 r (nI j)) r j, Y)) := fun d Y => r_leaves hr (by omega) h9
        generalize hF : m3 (m3 f 23 r k 0) 15 r 4 (f 15 r 4 + W) = F at keyC
        generalize hV : shU (m3 (m3 (m3 (m3 u 22 0 83 (u 22 0 83 + W)) 78 0 r (u 78 0 r + nI z)) 94 0 (30 * r + 0) 0) 93 0 r (nI j)) r j = V at hl
        have V1 : ∀ R o i, ¬ (R = 93 ∧ i = r) → ¬ ((R = 94 ∨ R = 95) ∧ 30 * r ≤ i ∧ i < 30 * r + 30) → ¬ (R = 22 ∧ i = 83) → ¬ (R = 78 ∧ o = 0 ∧ i = r) → V R o i = u R o i := fun R o i h1 h3 h4 h5 => by
          rw [← hV, shU_ne (by omega), m3_no (by omega), m3_no (by omega), m3_no h5, m3_no (by omega)]
        have V2 : V 93 0 r = nI j := by rw [← hV, shU_ne (by omega), m3_eq]
        have V3 : V 78 0 r = u 78 0 r + nI z := by rw [← hV, shU_ne (by omega), m3_r (by decide), m3_r (by decide), m3_eq]
        have V4 : V 22 0 83 = u 22 0 83 + W := by rw [← hV, shU_ne (by omega), m3_r (by decide), m3_r (by decide), m3_r (by decide), m3_eq]
        have F1 : FqC r f F := fun R o i h1 h3 => by rw [← hF]; exact (m3_no (by omega)).trans (m3_no (by omega))
        have F2 : ∀ i, i ≠ k → F 23 r i = f 23 r i := fun i hi => by rw [← hF, m3_r (by decide), m3_i hi]
        have F3 : F 15 r 2 = nI m := by rw [← hF]; exact (m3_i (by decide)).trans h2
        have F4 : F 15 r 3 = f 15 r 3 := by rw [← hF]; exact m3_i (by decide)
        have F5 : F 15 r 4 = f 15 r 4 + W := by rw [← hF]; exact m3_eq
        have F6 : F 11 0 13 = f 11 0 13 := by rw [← hF]; rfl
        have F7 : ∀ i, F 24 r i = f 24 r i := fun i => by rw [← hF]; rfl
        have hQ2 : QR F V r (k + 1) j := fun i hi => by
          have h1 := hQ (i + 1) (by omega)
          rw [F2 _ (by omega), F7, show k + 1 + i = k + (i + 1) by omega]
          have v1 : V 94 0 (30 * r + i) = u 94 0 (30 * r + (i + 1)) := by
            rw [← hV, shU_in (Or.inl rfl) hi, m3_r (by decide), m3_i (show 30 * r + i + 1 ≠ 30 * r + 0 by omega)]
            rfl
          have v2 : V 95 0 (30 * r + i) = u 95 0 (30 * r + (i + 1)) := by
            rw [← hV, shU_in (Or.inr rfl) hi]
            rfl
          rw [v1, v2]
          exact h1
        have V5 : V 22 0 79 = u 22 0 79 := V1 22 0 79 (by omega) (by omega) (by omega) (by omega)
        obtain ⟨f2, u2, c, x', b1, b2, b3⟩ := bd_loop hr hp hm j (k + 1) (x + z) F V (by omega) (by omega) F3 V2 hQ2
        have xl := b3.xl
        refine ⟨f2, u2, c, x', fun d X z6 => ?_, fun d Y z3 z4 => ?_, ⟨b3.cm, b3.u9, b3.qr, by omega, b3.xp, b3.c2, b3.c3.trans F4, ?_, ?_, b3.c13.trans F6, ?_, F1.tr b3.fc, ?_⟩⟩
        · rw [keyC]
          have := b1 d X (some (iv (nI z)))
          rw [V5] at this
          exact this
        · rw [keyU', hl]
          exact b2 d Y _ _
        · rw [b3.ab, V3, Int32.add_assoc, nI_add, show z + (x' - (x + z)) = x' - x by omega]
        · obtain ⟨w, w1, w2⟩ := b3.wt
          exact ⟨W + w, by rw [w1, F5, Int32.add_assoc], by rw [w2, V4, Int32.add_assoc]⟩
        · have hs := b3.sm
          rw [sumN_congr (f := fun i => F 23 r (k + 1 + i)) (g := fun i => f 23 r (k + (i + 1))) (fun i hi => by rw [F2 _ (by omega), show k + 1 + i = k + (i + 1) by omega])] at hs
          rw [sumN_hd, Nat.add_zero, q1', ← hs, show x' - x = z + (x' - (x + z)) by omega, ← nI_add, ← Int32.add_assoc, ← Int32.add_assoc, Int32.add_comm (nI z)]
        · refine FqU.tr (u1 := m3 V 78 0 r (u2 78 0 r)) (fun R o i h1 h3 h4 => ?_) b3.fu
          by_cases hR : R = 78 ∧ o = 0 ∧ i = r
          · obtain ⟨rfl, rfl, rfl⟩ := hR
            rw [m3_eq, m3_eq]
          · rw [m3_no hR, m3_no hR]
            exact V1 R o i h1 h3 h4 hR
/-- as many as there is room for get on -/
theorem p_board (T : TT B n s q rd ps en dp lp f g u) (hr : r < n) : ∃ (x : Nat) (f3 u2 : MI) (p : Nat), (if f 27 r 4 - f 16 r 12 < 5 then f 27 r 4 - f 16 r 12 else 5) = nI p ∧
    (∀ d X, EL (mP L xs) (d + 2) 172 [rv 15 (some r), iv (nI p), iv (f 11 0 9)] (f, g, X) = some (.inl (some (iv (nI x))), (f3, g, X))) ∧
    (∀ d Y, EL (mP L xs) (d + 2) 220 [rv 22 (some 0), iv (nI r)] (u, Y) = some (.inl none, (u2, Y))) ∧
    TT B n s q rd ps en dp lp (m3 (m3 f3 16 r 12 (f 16 r 12 + nI x)) 11 0 13 (f3 11 0 13 + f3 15 r 4)) g u2 ∧ u2 87 0 r = u 87 0 r ∧ (∀ a, f3 19 a 0 = f 19 a 0) ∧ u2 59 = u 59 := by
  have hn := T.n12
  obtain ⟨⟨kd, M⟩, ⟨m, Q⟩, -⟩ := T.rr r hr
  obtain ⟨y, b, y1, y2, y3, y4⟩ := M.rg.ab
  have h12 : f 16 r 12 = nI y := M.mo.2.2.2.2.2.1.trans y3
  have h27 : f 27 r 4 = nI b := M.m4.trans y4
  have eby : nI b - nI y = nI (b - y) := nI_sub y1
  have hcl : f 11 0 9 = u 22 0 79 := T.gb.1
  have hm := Q.ml
  obtain ⟨f2, u2, c, x, b1, b2, b3⟩ := bd_loop (L := L) (xs := xs) (g := g) (r := r) (p := if b - y < 5 then b - y else 5) (m := m) (by omega) (by split <;> omega) Q.ml m 0 0 (m3 f 15 r 4 0) u (by omega) (by omega) ((m3_i (by decide)).trans Q.mc) Q.mr (fun i hi => by
    rw [Nat.zero_add]
    exact ⟨(Q.rw i hi).1, (Q.rw i hi).2, Q.rg i hi⟩)
  obtain ⟨f3, d1, d2, d3, d4, d5, d6, d7⟩ := c_drop (L := L) (xs := xs) (g := g) Q.ml b3.c2 b3.cm
  have hxp := b3.xp
  have hxy : y + x ≤ b := by
    have : x ≤ b - y := by
      revert hxp
      split <;> omega
    omega
  have hab : u2 78 0 r = nI (y + x) := by rw [b3.ab, y3, Nat.sub_zero, nI_add]
  refine ⟨x, m3 f3 15 r 3 (f3 15 r 3 - nI x), u2, if b - y < 5 then b - y else 5, ?_, fun d X => ?_, fun d Y => ?_, ?_, ?_, fun a => ?_, ?_⟩
  · rw [h12, h27, eby]
    by_cases z : b - y < 5
    · rw [if_pos z, if_pos (show nI (b - y) < 5 from nI_lt (b := 5) z (by decide))]
    · rw [if_neg z, if_neg (show ¬ nI (b - y) < 5 from nI_nlt (b := 5) (by omega) (by omega))]
      rfl
  · rw [E_Queue_board, hcl]
    have := b1 (d + 1) X none
    rw [nI_0] at this
    rw [this, d1 d X]
    rfl
  · rw [E_Ref_board]
    simp only [if_neg (nin (show r < 12 by omega) (show 12 < 2 ^ 31 by decide)), nI_clamp (show r < 2 ^ 31 by omega), y3, y4, eby]
    by_cases z : b - y < 5
    · have := b2 d Y none none
      rw [if_pos z, Nat.sub_zero] at this
      rw [if_neg (show ¬ 5 < nI (b - y) from nI_nlt (a := 5) (by omega) (by decide)), this]
    · have := b2 d Y none none
      rw [if_neg z, Nat.sub_zero] at this
      by_cases z5 : b - y = 5
      · rw [z5]
        exact this
      · rw [if_pos (show 5 < nI (b - y) from nI_lt (a := 5) (by omega) (by omega))]
        exact this
  · have T1 := TT_m12 (v := nI (y + x)) T hr (fun kd M => Rng_78 M.rg ⟨y + x, b, hxy, y2, rfl, y4⟩)
    have e12 : f 16 r 12 + nI x = nI (y + x) := by rw [h12, nI_add]
    rw [e12]
    have G1 : FqC r (m3 f 15 r 4 0) f3 := b3.fc.tr d4
    obtain ⟨w, w1, w2⟩ := b3.wt
    rw [m3_eq, Int32.zero_add] at w1
    have hwt : f 11 0 13 = u 22 0 83 := T.gb.2.2.2.2.1
    have hfu := b3.fu
    rw [hab] at hfu
    refine TT_que (m := m - c) T1 hr (fun R o i h1 h3 => ?_) hfu ⟨by omega, ?_, b3.u9, fun k hk => ?_, ?_, fun k hk => ?_⟩ ?_
    · by_cases hR : R = 16 ∧ o = r ∧ i = 12
      · obtain ⟨rfl, rfl, rfl⟩ := hR
        rw [m3_r (by decide), m3_eq, m3_eq]
      · rw [m3_no (by omega), m3_no hR, m3_no hR, m3_no (by omega), G1 R o i h1 h3, m3_no (by omega)]
    · rw [m3_r (by decide), m3_r (by decide), m3_i (by decide)]
      exact d2
    · have h1 := d3 k hk
      have h2 := b3.qr k hk
      exact ⟨h1.1.trans h2.1, h1.2.trans h2.2.1⟩
    · rw [m3_r (by decide), m3_r (by decide), m3_eq, d5, b3.c3, m3_i (by decide), Q.sm]
      have hs := b3.sm
      rw [Nat.sub_zero] at hs
      show sumN (f 23 r) m - nI x = sumN (f3 23 r) (m - c)
      rw [sumN_congr (f := f3 23 r) (g := fun i => f2 23 r (c + i)) (fun i hi => (d3 i hi).1)]
      rw [sumN_congr (f := fun i => (m3 f 15 r 4 0) 23 r (0 + i)) (g := f 23 r) (fun i hi => by rw [Nat.zero_add]; rfl)] at hs
      rw [← hs, Int32.add_sub_cancel]
    · exact (b3.qr k hk).2.2
    · rw [m3_eq]
      show f3 11 0 13 + (m3 f3 15 r 3 (f3 15 r 3 - nI x)) 15 r 4 = u2 22 0 83
      rw [m3_i (by decide), d7, d6, b3.c13, w1, w2]
      show f 11 0 13 + w = u 22 0 83 + w
      rw [hwt]
  · exact (b3.fu 87 0 r (by omega) (by omega) (by omega)).trans (m3_r (by decide))
  · rw [m3_r (by decide), d4 19 a 0 (by omega) (by omega), b3.fc 19 a 0 (by omega) (by omega)]
    rfl
  · funext o i
    exact (b3.fu 59 o i (by omega) (by omega) (by omega)).trans (m3_r (by decide))
end Brd
