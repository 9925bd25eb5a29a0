/-! ===== promise 10: measure, the pair ===== -/
section MeasP
variable {L : Nat} {xs : Nat → Int32} {d i : Nat} {SC : MI → MR → MI → Nat → Prop}
theorem w_meas {a b v : Int32} {h h1 : MH} (hc : EL (mP L xs) d 239 [rv 21 (some 0), iv a, iv b] h = some (.inl (some (iv v)), h1)) : EL (mP L xs) (d + 1) 240 (rv 21 (some 0) :: ([iv a, iv b] ++ [rv 99 (some 0)])) h = some (.inl (some (iv 0)), (h1.1, h1.2.1, m3 h1.2.2.1 99 0 0 v.toInt64, h1.2.2.2)) := by
  refine EL_by (j := 11) (cut := []) ?_
  rw [show minit 240 (rv 21 (some 0) :: ([iv a, iv b] ++ [rv 99 (some 0)])) = [some (rv 21 (some 0)), some (iv a), some (iv b), some (rv 99 (some 0)), none] from rfl, q_Law_measure_0, hc]
  rfl
theorem w_measX {a b k : Int32} {e : Nat} {h h1 : MH} (he : (e = 1 ∧ k = 1) ∨ (e = 3 ∧ k = 2)) (hc : EL (mP L xs) d 239 [rv 21 (some 0), iv a, iv b] h = some (.inr e, h1)) : EL (mP L xs) (d + 1) 240 (rv 21 (some 0) :: ([iv a, iv b] ++ [rv 99 (some 0)])) h = some (.inl (some (iv k)), cat h1) := by
  refine EL_by (j := 11) (cut := []) ?_
  rw [show minit 240 (rv 21 (some 0) :: ([iv a, iv b] ++ [rv 99 (some 0)])) = [some (rv 21 (some 0)), some (iv a), some (iv b), some (rv 99 (some 0)), none] from rfl, q_Law_measure_0, hc]
  rcases he with ⟨rfl, rfl⟩ | ⟨rfl, rfl⟩ <;> rfl
def okRW (n m : Int32) (a b : Int32) : Prop := (¬ a < 0 ∧ a < n) ∧ ¬ b < 0 ∧ ¬ m < b
theorem r_meas0 {a b w : Int32} {h : MH} (hw : (okRW (h.1 22 0 20) 10 a b ∧ w = 1) ∨ (¬ okRW (h.1 22 0 20) 10 a b ∧ w = 0)) {x : MO} (hq : RL (mP L xs) (d + 1) 241 24 [some (rv 22 (some 0)), some (iv a), some (iv b)] [iv w, rv 22 (some 0)] h = some x) : EL (mP L xs) (d + 2) 241 [rv 22 (some 0), iv a, iv b] h = some x := by
  refine EL_by (j := 12) (cut := [24]) ?_
  rw [show minit 241 [rv 22 (some 0), iv a, iv b] = [some (rv 22 (some 0)), some (iv a), some (iv b)] from rfl, q_Ref_measure_0, e_isRide]
  simp only [mclI]
  rcases hw with ⟨⟨z1, z2, z3⟩, rfl⟩ | ⟨hn, rfl⟩
  · rw [if_pos z1, if_neg (by decide), if_neg z2, if_neg z3]
    exact hq
  · by_cases z1 : ¬ a < 0 ∧ a < h.1 22 0 20
    · rw [if_pos z1, if_neg (by decide)]
      by_cases z2 : b < 0
      · rw [if_pos z2]; exact hq
      · rw [if_neg z2]
        by_cases z3 : 10 < b
        · rw [if_pos z3]; exact hq
        · exact absurd ⟨z1, z2, z3⟩ hn
    · rw [if_neg z1, if_pos rfl]
      exact hq
theorem r_meas {a b t : Int32} {h : MH} (ht : (h.1 22 0 19 = 0 ∧ t = 1) ∨ (¬ h.1 22 0 19 = 0 ∧ ¬ okRW (h.1 22 0 20) 10 a b ∧ t = 2)) : EL (mP L xs) (d + 2) 241 [rv 22 (some 0), iv a, iv b] h = some (.inl (some (iv 0)), (m3 h.1 22 0 90 t, h.2)) := by
  have key : ∀ w : Int32, (h.1 22 0 19 = 0 ∧ t = 1) ∨ (¬ h.1 22 0 19 = 0 ∧ w = 0 ∧ t = 2) → RL (mP L xs) (d + 1) 241 24 [some (rv 22 (some 0)), some (iv a), some (iv b)] [iv w, rv 22 (some 0)] h = some (.inl (some (iv 0)), (m3 h.1 22 0 90 t, h.2)) := by
    intro w hw
    refine RL_cut (j := 10) (cut := [24]) ?_
    rw [q_Ref_measure_24]
    rcases hw with ⟨z1, rfl⟩ | ⟨z1, rfl, rfl⟩
    · rw [e_may w 1 1 h (by rw [if_pos z1])]
      rfl
    · rw [e_may 0 1 2 h (by rw [if_neg z1]; rfl)]
      rfl
  rcases ht with ⟨z1, rfl⟩ | ⟨z1, z2, rfl⟩
  · by_cases hk : okRW (h.1 22 0 20) 10 a b
    · exact r_meas0 (Or.inl ⟨hk, rfl⟩) (key 1 (Or.inl ⟨z1, rfl⟩))
    · exact r_meas0 (Or.inr ⟨hk, rfl⟩) (key 0 (Or.inl ⟨z1, rfl⟩))
  · exact r_meas0 (Or.inr ⟨z2, rfl⟩) (key 0 (Or.inr ⟨z1, rfl, rfl⟩))
/-- the eleven measures -/
def mesV (h : MH) (r m : Nat) (b : Int32) : Int32 := if b = 0 then h.1 49 0 r else if b = 1 then h.1 73 0 r else if b = 2 then h.1 74 0 r else if b = 3 then h.1 75 0 r else if b = 4 then h.1 76 0 r else if b = 5 then h.1 78 0 r else if b = 6 then h.1 79 0 r else if b = 7 then h.1 80 0 r else if b = 8 then h.1 81 0 r else if b = 9 then sumN (fun q => h.1 94 0 (30 * r + q)) m else h.1 55 0 r
theorem r_measV {r m : Nat} {b : Int32} {h : MH} (hr : r < 12) (hm : m ≤ 30) (hg : h.1 93 0 r = nI m) (hs : ¬ h.1 22 0 19 = 0) : RL (mP L xs) (d + 1) 241 24 [some (rv 22 (some 0)), some (iv (nI r)), some (iv b)] [iv 1, rv 22 (some 0)] h = some (.inl (some (iv (mesV h r m b))), (m3 h.1 22 0 90 0, h.2)) := by
  refine RL_cut (j := 10) (cut := [24]) ?_
  rw [q_Ref_measure_24, e_may 1 1 0 h (by rw [if_neg hs]; rfl)]
  simp only [mclI, if_true]
  rw [if_neg (by decide)]
  simp only [if_neg (nI_in hr (by decide : (12 : Nat) < 2 ^ 31)), nI_clamp (show r < 2 ^ 31 by omega)]
  rw [e_Rqueue (h := (m3 h.1 22 0 90 0, h.2)) hr hm hg]
  unfold mesV
  by_cases c0 : b = 0
  · rw [if_pos c0, if_pos c0]; rfl
  rw [if_neg c0, if_neg c0]
  by_cases c1 : b = 1
  · rw [if_pos c1, if_pos c1]; rfl
  rw [if_neg c1, if_neg c1]
  by_cases c2 : b = 2
  · rw [if_pos c2, if_pos c2]; rfl
  rw [if_neg c2, if_neg c2]
  by_cases c3 : b = 3
  · rw [if_pos c3, if_pos c3]; rfl
  rw [if_neg c3, if_neg c3]
  by_cases c4 : b = 4
  · rw [if_pos c4, if_pos c4]; rfl
  rw [if_neg c4, if_neg c4]
  by_cases c5 : b = 5
  · rw [if_pos c5, if_pos c5]; rfl
  rw [if_neg c5, if_neg c5]
  by_cases c6 : b = 6
  · rw [if_pos c6, if_pos c6]; rfl
  rw [if_neg c6, if_neg c6]
  by_cases c7 : b = 7
  · rw [if_pos c7, if_pos c7]; rfl
  rw [if_neg c7, if_neg c7]
  by_cases c8 : b = 8
  · rw [if_pos c8, if_pos c8]; rfl
  rw [if_neg c8, if_neg c8]
  by_cases c9 : b = 9
  · rw [if_pos c9, if_pos c9]; rfl
  rw [if_neg c9, if_neg c9]
  rfl
theorem p_measure (a b : Int32) : prI (mP L xs) (d + 4) (Iv (R_fair SC) i) (Iv (R_fair SC) (i + 6)) 240 241 [iv a, iv b] := by
  intro h hI
  obtain ⟨ht, ⟨y1, y2, f3, f4⟩, f5⟩ := hI.1
  have f3' : h.1 21 0 5 = h.1 22 0 19 := f3
  have hq := q_House_measure_0 L xs (EL (mP L xs) (d + 2)) (RL (mP L xs) (d + 2) 239) a b h
  by_cases hs : h.1 21 0 5 = 0
  · exact ⟨1, 0, cat (thr h), (m3 h.1 22 0 90 1, (cat (thr h)).2), w_measX (Or.inl ⟨rfl, rfl⟩) (EL_by (hq.trans (by rw [e_ride0 hs]; rfl))), EL_mono (Nat.le_add_right (d + 2) 2) (r_meas (h := cat (thr h)) (Or.inl ⟨f3'.symm.trans hs, rfl⟩)), rfl, fun z => absurd z (by decide), Iv_ro hI rfl rfl (Nat.le_refl _) (Nat.le_refl _)⟩
  · have hs' : ¬ h.1 22 0 19 = 0 := fun z => hs (f3'.trans z)
    obtain ⟨n, s, q, ⟨⟨n1, n12⟩, -, -, ⟨k1, k2⟩, -⟩, -, -, -, -, hrd⟩ := f5 (f4.resolve_left hs)
    have k1' : h.1 11 0 4 = nI n := k1
    have k2' : h.1 22 0 20 = nI n := k2
    by_cases hk : okRW (h.1 22 0 20) 10 a b
    · obtain ⟨⟨z1, z2⟩, z3, z4⟩ := hk
      obtain ⟨r, hr9, rfl⟩ := nI_of z1
      have hr : r < n := (nI_ltI hr9 (by omega)).mp (by rw [← k2']; exact z2)
      obtain ⟨⟨kd, -, d1, d2, -, -, ⟨-, -, -, -, d4, -⟩, -⟩, ⟨o1, o2, o3, o4, o5, o6, o7, o8, o9⟩, ⟨m, hm, u1, u2, u3, u4⟩, -⟩ := hrd r hr
      have hv : EL (mP L xs) (d + 2) 238 [rv 16 (some r), iv b] h = some (.inl (some (iv (mesV h r m b))), h) := by
        refine EL_mono (Nat.le_add_left 1 (d + 1)) (EL_by (d := 0) ((q_Ride_measured_0 L xs _ _ r b h).trans ?_))
        have e0 : h.1 16 r 4 = h.1 49 0 r := Eq.trans d1 (Eq.symm d2)
        have e9 : h.1 15 r 3 = sumN (fun q => h.1 94 0 (30 * r + q)) m := Eq.trans u4 (sumN_congr (fun k hk => (u3 k hk).1))
        have e1 : h.1 16 r 7 = h.1 73 0 r := o1
        have e2 : h.1 16 r 8 = h.1 74 0 r := o2
        have e3 : h.1 16 r 9 = h.1 75 0 r := o3
        have e4 : h.1 16 r 10 = h.1 76 0 r := o4
        have e5 : h.1 16 r 12 = h.1 78 0 r := o6
        have e6 : h.1 16 r 13 = h.1 79 0 r := o7
        have e7 : h.1 16 r 14 = h.1 80 0 r := o8
        have e8 : h.1 16 r 15 = h.1 81 0 r := o9
        have e10 : h.1 27 r 4 = h.1 55 0 r := d4
        rw [e0, e1, e2, e3, e4, e5, e6, e7, e8, e9, e10]
        unfold mesV
        by_cases c0 : b = 0
        · rw [if_pos c0, if_pos c0]
        rw [if_neg c0, if_neg c0]
        by_cases c1 : b = 1
        · rw [if_pos c1, if_pos c1]
        rw [if_neg c1, if_neg c1]
        by_cases c2 : b = 2
        · rw [if_pos c2, if_pos c2]
        rw [if_neg c2, if_neg c2]
        by_cases c3 : b = 3
        · rw [if_pos c3, if_pos c3]
        rw [if_neg c3, if_neg c3]
        by_cases c4 : b = 4
        · rw [if_pos c4, if_pos c4]
        rw [if_neg c4, if_neg c4]
        by_cases c5 : b = 5
        · rw [if_pos c5, if_pos c5]
        rw [if_neg c5, if_neg c5]
        by_cases c6 : b = 6
        · rw [if_pos c6, if_pos c6]
        rw [if_neg c6, if_neg c6]
        by_cases c7 : b = 7
        · rw [if_pos c7, if_pos c7]
        rw [if_neg c7, if_neg c7]
        by_cases c8 : b = 8
        · rw [if_pos c8, if_pos c8]
        rw [if_neg c8, if_neg c8]
        by_cases c9 : b = 9
        · rw [if_pos c9, if_pos c9]
        rw [if_neg c9, if_neg c9]
      refine ⟨0, mesV h r m b, (h.1, h.2.1, m3 h.2.2.1 99 0 0 (mesV h r m b).toInt64, h.2.2.2), (m3 h.1 22 0 90 0, h.2.1, m3 h.2.2.1 99 0 0 (mesV h r m b).toInt64, h.2.2.2), w_meas (h1 := h) (EL_by (hq.trans ?_)), ?_, rfl, fun _ => rfl, Iv_ro hI rfl rfl (Nat.le_succ _) (Nat.le_add_right _ _)⟩
      · rw [e_ride hs (by omega) (by rw [k1', ← k2']; exact z2)]
        simp only [mclR, if_true]
        rw [if_neg z3, if_neg z4]
        simp only [onS]
        rw [hv]
        rfl
      · exact EL_mono (Nat.le_add_right (d + 2) 2) (r_meas0 (h := (h.1, h.2.1, m3 h.2.2.1 99 0 0 (mesV h r m b).toInt64, h.2.2.2)) (w := 1) (Or.inl ⟨⟨⟨z1, z2⟩, z3, z4⟩, rfl⟩) (r_measV (by omega) hm u2 hs'))
    · refine ⟨2, 0, cat (thr h), (m3 h.1 22 0 90 2, (cat (thr h)).2), w_measX (h1 := thr h) (Or.inr ⟨rfl, rfl⟩) (EL_by (hq.trans ?_)), EL_mono (Nat.le_add_right (d + 2) 2) (r_meas (h := cat (thr h)) (Or.inr ⟨hs', hk, rfl⟩)), rfl, fun z => absurd z (by decide), Iv_ro hI rfl rfl (Nat.le_refl _) (Nat.le_refl _)⟩
      by_cases z1 : ¬ a < 0 ∧ a < h.1 11 0 4
      · obtain ⟨r, hr9, rfl⟩ := nI_of z1.1
        have hr : r < n := (nI_ltI hr9 (by omega)).mp (by rw [← k1']; exact z1.2)
        rw [e_ride hs (by omega) z1.2]
        simp only [mclR, if_true]
        by_cases z2 : b < 0
        · rw [if_pos z2]; rfl
        · rw [if_neg z2]
          by_cases z3 : 10 < b
          · rw [if_pos z3]; rfl
          · exact absurd ⟨⟨z1.1, by rw [k2', ← k1']; exact z1.2⟩, z2, z3⟩ hk
      · rw [e_ride3 hs z1]
        rfl
end MeasP
