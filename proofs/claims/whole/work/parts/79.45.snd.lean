/-! ===== those who came too long ago leave ===== -/
section Snd
variable {L : Nat} {xs : Nat → Int32} {d : Nat} {X : ML × (Nat → Nat) × Nat × Nat} {Y : MR × ML × (Nat → Nat) × Nat × Nat}
variable {B B' n s q : Nat} {rd ps en dp : Nat → Nat} {lp : Nat → Option Nat} {f f1 f2 f' : MI} {g : MR} {u u1 u2 u' : MI} {r a b : Nat}
theorem sn_loop (hr : r < 12) {m : Nat} (hm : m ≤ 30) (h2 : f 15 r 2 = nI m) : ∀ (j k v : Nat) (u : MI), k + j = m → v ≤ 100 * k → u 93 0 r = nI j → QR f u r k j →
    ∃ (u2 : MI) (c w : Nat), c ≤ m ∧ w ≤ 100 * c ∧ (∀ d X, RL (mP L xs) d 155 4 [some (rv 15 (some r)), some (iv (u 22 0 79)), some (iv (nI v)), some (iv (nI k))] [] (f, g, X) = mclV (EL (mP L xs) d 154 [rv 15 (some r), iv (nI c)] (f, g, X)) (fun h1 => some (.inl (some (iv (nI w))), (m3 h1.1 15 r 3 (h1.1 15 r 3 - nI w), h1.2))) (fun e h => some (.inr e, h))) ∧
      (∀ d Y, RL (mP L xs) (d + 1) 236 22 [some (rv 22 (some 0)), some (iv (nI r)), some (iv (nI v))] [] (u, Y) = RL (mP L xs) (d + 1) 236 70 [some (rv 22 (some 0)), some (iv (nI r)), some (iv (nI w))] [] (u2, Y)) ∧
      u2 93 0 r = nI (m - c) ∧ QR f u2 r c (m - c) ∧ (FqU r u u2 ∧ u2 22 0 83 = u 22 0 83) ∧ sumN (fun i => f 23 r (c + i)) (m - c) + nI w = sumN (fun i => f 23 r (k + i)) j + nI v
  | 0, k, v, u, hk, hv, h9, hQ => by
    refine ⟨u, k, v, by omega, hv, fun d X => ?_, fun d Y => ?_, by rw [h9, show m - k = 0 by omega], by rw [show m - k = 0 by omega]; exact hQ, ⟨FqU.rf, rfl⟩, by rw [show m - k = 0 by omega]⟩
    · rw [K_Queue_leavers_4]
      simp only [h2]
      rw [if_neg (nI_nlt (show m ≤ k by omega) (by omega))]
    · rw [K_Ref_ticks_22]
      simp (decide := true) only [if_neg (nin hr (show 12 < 2 ^ 31 by decide)), nI_clamp (show r < 2 ^ 31 by omega), h9, nI_0, if_false]
  | j + 1, k, v, u, hk, hv, h9, hQ => by
    have e0 : (30 : Int32) * nI r = nI (30 * r + 0) := by rw [show (30 : Int32) = nI 30 from rfl, nI_mul]; rfl
    have keyC := fun d X => K_Queue_leavers_4 (L := L) (xs := xs) (d := d) r (u 22 0 79) (nI v) (nI k) (f, g, X)
    have keyU := fun d Y => K_Ref_ticks_22 (L := L) (xs := xs) (d := d) (nI r) (nI v) (u, Y)
    obtain ⟨q1, q2, z, z1, z2⟩ := hQ 0 (by omega)
    rw [Nat.add_zero] at q1 q2
    have q1' : f 23 r k = nI z := q1.trans z2
    simp only [h2, if_pos (nI_lt (show k < m by omega) (show m < 2 ^ 31 by omega)), if_pos (show nI k < 30 from nI_lt (b := 30) (by omega) (by decide)), if_neg (nin (show k < 30 by omega) (show 30 < 2 ^ 31 by decide)), nI_clamp (show k < 2 ^ 31 by omega), q1', q2, nI_add, nI_1] at keyC
    simp only [if_neg (nin hr (show 12 < 2 ^ 31 by decide)), nI_clamp (show r < 2 ^ 31 by omega), h9, if_pos (show 0 < nI (j + 1) from nI_lt (a := 0) (by omega) (by omega)), e0, if_neg (nin (show 30 * r + 0 < 360 by omega) (show 360 < 2 ^ 31 by decide)), nI_clamp (show 30 * r + 0 < 2 ^ 31 by omega), z2, nI_add] at keyU
    by_cases hc : 60 < u 22 0 79 - u 95 0 (30 * r + 0)
    · simp only [if_pos hc] at keyC keyU
      have hl : ∀ d Y, EL (mP L xs) (d + 1) 210 [rv 22 (some 0), iv (nI r)] (u, Y) = some (.inl none, (shU (m3 u 93 0 r (nI j)) r j, Y)) := fun d Y => r_leaves hr (by omega) h9
      generalize hV : shU (m3 u 93 0 r (nI j)) r j = V at hl
      have V1 : ∀ R o i, ¬ (R = 93 ∧ i = r) → ¬ ((R = 94 ∨ R = 95) ∧ 30 * r ≤ i ∧ i < 30 * r + 30) → V R o i = u R o i := fun R o i h1 h3 => by
        rw [← hV, shU_ne (by omega), m3_no (by omega)]
      have V2 : V 93 0 r = nI j := by rw [← hV, shU_ne (by omega), m3_eq]
      have hQ2 : QR f V r (k + 1) j := fun i hi => by
        have h1 := hQ (i + 1) (by omega)
        rw [show k + 1 + i = k + (i + 1) by omega]
        have v1 : V 94 0 (30 * r + i) = u 94 0 (30 * r + (i + 1)) := by
          rw [← hV, shU_in (Or.inl rfl) hi, m3_r (by decide)]
          rfl
        have v2 : V 95 0 (30 * r + i) = u 95 0 (30 * r + (i + 1)) := by
          rw [← hV, shU_in (Or.inr rfl) hi, m3_r (by decide)]
          rfl
        rw [v1, v2]
        exact h1
      have V5 : V 22 0 79 = u 22 0 79 := V1 22 0 79 (by omega) (by omega)
      obtain ⟨u2, c, w, b1, b2, b3, b4, b5, b6, b7, b8⟩ := sn_loop hr hm h2 j (k + 1) (v + z) V (by omega) (by omega) V2 hQ2
      refine ⟨u2, c, w, b1, b2, fun d X => ?_, fun d Y => ?_, b5, b6, ⟨FqU.tr (fun R o i h1 h3 _ => V1 R o i h1 h3) b7.1, b7.2.trans (V1 22 0 83 (by omega) (by omega))⟩, ?_⟩
      · rw [keyC]
        have := b3 d X
        rw [V5] at this
        exact this
      · rw [keyU, hl]
        exact b4 d Y
      · have hd : f 23 r (k + 0) = nI z := q1'
        rw [b8, sumN_hd, hd, sumN_congr (f := fun i => f 23 r (k + 1 + i)) (g := fun i => f 23 r (k + (i + 1))) (fun i hi => by rw [show k + 1 + i = k + (i + 1) by omega]), Int32.add_comm (nI z), Int32.add_assoc, nI_add, Nat.add_comm v z]
    · simp only [if_neg hc] at keyC keyU
      exact ⟨u, k, v, by omega, hv, keyC, fun d Y => keyU (d + 1) Y, by rw [h9, show m - k = j + 1 by omega], by rw [show m - k = j + 1 by omega]; exact hQ, ⟨FqU.rf, rfl⟩, by rw [show m - k = j + 1 by omega]⟩
theorem p_send (T : TT B n s q rd ps en dp lp f g u) (hB : B < 2 ^ 30) (hr : r < n) : ∃ (f2 u2 : MI) (w : Int32), (∀ d X, EL (mP L xs) (d + 3) 157 [rv 17 (some 0), rv 16 (some r)] (f, g, X) = some (.inl none, (f2, g, X))) ∧
    (∀ d Y, RL (mP L xs) (d + 1) 236 22 [some (rv 22 (some 0)), some (iv (nI r)), some (iv 0)] [] (u, Y) = RL (mP L xs) (d + 1) 236 12 [some (rv 22 (some 0)), some (iv (nI (r + 1))), some (iv w)] [] (u2, Y)) ∧ TT (B + 1) n s q rd ps en dp lp f2 g u2 := by
  have hn := T.n12
  obtain ⟨⟨kd, M⟩, ⟨m, Q⟩, -⟩ := T.rr r hr
  have hcl : f 11 0 9 = u 22 0 79 := T.gb.1
  obtain ⟨u2, c, w, b1, b2, b3, b4, b5, b6, b7, b8⟩ := sn_loop (L := L) (xs := xs) (g := g) (r := r) (f := f) (m := m) (by omega) Q.ml Q.mc m 0 0 u (by omega) (by omega) Q.mr (fun i hi => by
    rw [Nat.zero_add]
    exact ⟨(Q.rw i hi).1, (Q.rw i hi).2, Q.rg i hi⟩)
  have hm := Q.ml
  obtain ⟨f3, d1, d2, d3, d4, d5, d6, d7⟩ := c_drop (L := L) (xs := xs) (g := g) Q.ml Q.mc b1
  have T2 : TT B n s q rd ps en dp lp (m3 f3 15 r 3 (f3 15 r 3 - nI w)) g u2 := by
    refine TT_que (m := m - c) T hr (fun R o i h1 h3 => ?_) b7.1 ⟨by omega, ?_, b5, fun k hk => ?_, ?_, fun k hk => ?_⟩ ?_
    · rw [m3_no (by omega), d4 R o i h1 h3]
    · exact (m3_i (by decide)).trans d2
    · have h1 := d3 k hk
      have h2 := b6 k hk
      rw [m3_r (by decide), m3_r (by decide)]
      exact ⟨h1.1.trans h2.1, h1.2.trans h2.2.1⟩
    · rw [m3_eq, d5, Q.sm]
      show sumN (f 23 r) m - nI w = sumN (f3 23 r) (m - c)
      rw [sumN_congr (f := f3 23 r) (g := fun i => f 23 r (c + i)) (fun i hi => (d3 i hi).1)]
      rw [sumN_congr (f := fun i => f 23 r (0 + i)) (g := f 23 r) (fun i hi => by rw [Nat.zero_add]), nI_0, Int32.add_zero] at b8
      rw [← b8, Int32.add_sub_cancel]
    · exact (b6 k hk).2.2
    · rw [m3_r (by decide), d7, b7.2]
      exact T.gb.2.2.2.2.1
  have hix : ∀ v, (m3 (m3 f3 15 r 3 (f3 15 r 3 - nI w)) 11 0 12 v) 16 r 0 = nI r := fun v => by
    obtain ⟨kd2, M2⟩ := (T2.rr r hr).rm
    exact (m3_r (by decide)).trans M2.ix
  have hg2 : (m3 f3 15 r 3 (f3 15 r 3 - nI w)) 11 0 12 = u2 22 0 82 := T2.gb.2.2.2.1
  have T3 := TT_gon (v := u2 22 0 82 + nI w) T2
  rw [nI_0] at b3 b4
  by_cases hw : 0 < nI w
  · obtain ⟨f4, u4, n1, n2, n3, -, -⟩ := p_note (L := L) (xs := xs) T3 hB 4 (nI r) (nI w)
    refine ⟨f4, u4, nI w, fun d X => ?_, fun d Y => ?_, n3⟩
    · rw [E_Runner_sendOff]
      simp only [onS_s]
      rw [E_Queue_leavers]
      simp only [hcl, b3, d1 d X, clV, clI, if_pos hw, hg2]
      rw [hix, n1 (d + 1) X]
      rfl
    · rw [b4, K_Ref_ticks_70, if_pos hw]
      simp only [n2 d Y, clV, nI_1]
  · have hw0 : w = 0 := by
      by_cases z : w = 0
      · exact z
      · exact absurd (show 0 < nI w from nI_lt (a := 0) (by omega) (by omega)) hw
    subst hw0
    refine ⟨_, u2, nI 0, fun d X => ?_, fun d Y => ?_, T2.le (by omega)⟩
    · rw [E_Runner_sendOff]
      simp only [onS_s]
      rw [E_Queue_leavers]
      simp only [hcl, b3, d1 d X, clV, clI, if_neg hw]
    · rw [b4, K_Ref_ticks_70, if_neg hw, nI_1, nI_0, Int32.add_zero, m3_same rfl]
end Snd
