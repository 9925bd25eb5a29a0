/-! ===== promise 14: isUp ===== -/
section Flag
variable {L : Nat} {xs : Nat → Int32} {d i : Nat} {SC : MI → MR → MI → Nat → Prop}
theorem e_nFlag0 {a : Int32} {h : MH} (hs : h.1 21 0 5 = 0) : EL (mP L xs) (d + 2) 254 [rv 21 (some 0), iv a] h = some (.inr 1, thr h) := EL_by ((q_House_needFlag_0 L xs _ _ a h).trans (by rw [e_need0 hs]; rfl))
theorem e_nFlag3 {a : Int32} {h : MH} (hs : ¬ h.1 21 0 5 = 0) (hb : ¬ (¬ a < 0 ∧ a < h.1 11 0 6)) : EL (mP L xs) (d + 2) 254 [rv 21 (some 0), iv a] h = some (.inr 3, thr h) := EL_by ((q_House_needFlag_0 L xs _ _ a h).trans (by
  rw [e_need1 hs]
  simp only [mclV]
  by_cases z : a < 0
  · rw [if_pos z]; rfl
  · rw [if_neg z, if_neg (fun y => hb ⟨z, y⟩)]; rfl))
theorem e_nFlag {a : Int32} {h : MH} (hs : ¬ h.1 21 0 5 = 0) (h1 : ¬ a < 0) (h2 : a < h.1 11 0 6) : EL (mP L xs) (d + 2) 254 [rv 21 (some 0), iv a] h = some (.inl none, h) := EL_by ((q_House_needFlag_0 L xs _ _ a h).trans (by
  rw [e_need1 hs]
  simp only [mclV]
  rw [if_neg h1, if_pos h2]))
theorem e_flagUp (a : Int32) (h : MH) : EL (mP L xs) (d + 1) 159 [rv 11 (some 0), iv a] h = some (.inl (some (iv (if (h.1 11 0 7 >>> (a &&& 31)) &&& 1 = 0 then 0 else 1))), h) := EL_by ((q_Fair_flagUp_0 L xs _ _ a h).trans (by
  by_cases z : (h.1 11 0 7 >>> (a &&& 31)) &&& 1 = 0
  · rw [if_pos z, if_pos z]
  · rw [if_neg z, if_neg z]))
theorem w_isUp {a v : Int32} {h h1 : MH} (hc : EL (mP L xs) d 255 [rv 21 (some 0), iv a] h = some (.inl (some (iv v)), h1)) : EL (mP L xs) (d + 1) 256 (rv 21 (some 0) :: ([iv a] ++ [rv 99 (some 0)])) h = some (.inl (some (iv 0)), (h1.1, h1.2.1, m3 h1.2.2.1 99 0 0 (if v = 0 then 0 else 1), h1.2.2.2)) := by
  refine EL_by (j := 12) (cut := []) ?_
  rw [show minit 256 (rv 21 (some 0) :: ([iv a] ++ [rv 99 (some 0)])) = [some (rv 21 (some 0)), some (iv a), some (rv 99 (some 0)), none] from rfl, q_Law_isUp_0, hc]
  simp only [mclI]
  by_cases z : v = 0
  · rw [if_pos z, if_pos z]
  · rw [if_neg z, if_neg z]
theorem w_isUpX {a k : Int32} {e : Nat} {h h1 : MH} (he : (e = 1 ∧ k = 1) ∨ (e = 3 ∧ k = 2)) (hc : EL (mP L xs) d 255 [rv 21 (some 0), iv a] h = some (.inr e, h1)) : EL (mP L xs) (d + 1) 256 (rv 21 (some 0) :: ([iv a] ++ [rv 99 (some 0)])) h = some (.inl (some (iv k)), cat h1) := by
  refine EL_by (j := 12) (cut := []) ?_
  rw [show minit 256 (rv 21 (some 0) :: ([iv a] ++ [rv 99 (some 0)])) = [some (rv 21 (some 0)), some (iv a), some (rv 99 (some 0)), none] from rfl, q_Law_isUp_0, hc]
  rcases he with ⟨rfl, rfl⟩ | ⟨rfl, rfl⟩ <;> rfl
theorem r_isUp {a t : Int32} {h : MH} (ht0 : t ≠ 0) (ht : (if h.1 22 0 19 = 0 then (1 : Int32) else if ¬ a < 0 ∧ a < h.1 22 0 22 then 0 else 2) = t) : EL (mP L xs) (d + 2) 257 [rv 22 (some 0), iv a] h = some (.inl (some (iv 0)), (m3 h.1 22 0 90 t, h.2)) := by
  refine EL_by (j := 20) (cut := []) ?_
  rw [show minit 257 [rv 22 (some 0), iv a] = [some (rv 22 (some 0)), some (iv a)] from rfl, q_Ref_isUp_0]
  have hm0 : EL (mP L xs) (d + 1) 148 [rv 22 (some 0), iv 0, iv 1] h = some (.inl (some (iv 0)), (m3 h.1 22 0 90 (if h.1 22 0 19 = 0 then 1 else 2), h.2)) := by
    have z := e_may (L := L) (xs := xs) (d := d) 0 1 (if h.1 22 0 19 = 0 then 1 else 2) h (by by_cases z : h.1 22 0 19 = 0 <;> simp [z])
    rw [z]
    by_cases z : h.1 22 0 19 = 0 <;> simp [z]
  by_cases z : a < 0
  · rw [if_pos z, hm0]
    simp only [mclI, if_true]
    rw [← ht]
    by_cases z2 : h.1 22 0 19 = 0
    · simp [z2]
    · simp [z2, z]
  · rw [if_neg z]
    by_cases z3 : a < h.1 22 0 22
    · have h19 : h.1 22 0 19 = 0 := by
        by_cases y : h.1 22 0 19 = 0
        · exact y
        · rw [if_neg y, if_pos ⟨z, z3⟩] at ht
          exact absurd ht.symm ht0
      rw [if_pos z3, e_may 1 1 1 h (by rw [if_pos h19])]
      rw [if_pos h19] at ht
      subst ht
      rfl
    · rw [if_neg z3, hm0]
      simp only [mclI, if_true]
      rw [← ht]
      by_cases z2 : h.1 22 0 19 = 0
      · simp [z2]
      · simp [z2, z3]
theorem p_isUp (a : Int32) : prB (mP L xs) (d + 4) (Iv (R_fair SC) i) (Iv (R_fair SC) (i + 6)) 256 257 [iv a] := by
  intro h hI
  obtain ⟨ht, ⟨y1, y2, f3, f4⟩, f5⟩ := hI.1
  have f3' : h.1 21 0 5 = h.1 22 0 19 := f3
  have hq := q_House_isUp_0 L xs (EL (mP L xs) (d + 2)) (RL (mP L xs) (d + 2) 255) a h
  by_cases hs : h.1 21 0 5 = 0
  · exact ⟨1, 0, cat (thr h), (m3 h.1 22 0 90 1, (cat (thr h)).2), w_isUpX (Or.inl ⟨rfl, rfl⟩) (EL_by (hq.trans (by rw [e_nFlag0 hs]; rfl))), EL_mono (Nat.le_add_right (d + 2) 2) (r_isUp (h := cat (thr h)) (by decide) (if_pos (f3'.symm.trans hs))), rfl, fun z => absurd z (by decide), Iv_ro hI rfl rfl (Nat.le_refl _) (Nat.le_refl _)⟩
  · have hs' : ¬ h.1 22 0 19 = 0 := fun z => hs (f3'.trans z)
    obtain ⟨n, s, q, ⟨-, -, hq8, -, -, ⟨k1, k2⟩, -⟩, -, -, -, hfl, -⟩ := f5 (f4.resolve_left hs)
    have k1' : h.1 11 0 6 = nI q := k1
    have k2' : h.1 22 0 22 = nI q := k2
    by_cases hin : ¬ a < 0 ∧ a < nI q
    · obtain ⟨j, hj, rfl⟩ := nI_of hin.1
      have hjs : j < q := (nI_ltI hj (by omega)).mp hin.2
      have hv : h.1 92 0 j = (h.1 11 0 7 >>> (nI j &&& 31)) &&& 1 := hfl j hjs
      refine ⟨0, if h.1 92 0 j = 0 then 0 else 1, (h.1, h.2.1, m3 h.2.2.1 99 0 0 (if (if h.1 92 0 j = 0 then (0 : Int32) else 1) = 0 then 0 else 1), h.2.2.2), (m3 h.1 22 0 90 0, h.2.1, m3 h.2.2.1 99 0 0 (if (if h.1 92 0 j = 0 then (0 : Int32) else 1) = 0 then 0 else 1), h.2.2.2), w_isUp (h1 := h) (EL_by (hq.trans ?_)), ?_, rfl, fun _ => rfl, Iv_ro hI rfl rfl (Nat.le_succ _) (Nat.le_add_right _ _)⟩
      · rw [e_nFlag hs hin.1 (by rw [k1']; exact hin.2)]
        simp only [mclV]
        rw [EL_mono (Nat.le_add_left 1 (d + 1)) (e_flagUp (d := 0) (nI j) h), ← hv]
        simp only [mclI]
        by_cases z : h.1 92 0 j = 0
        · rw [if_pos z]; rfl
        · rw [if_neg z]; rfl
      · refine EL_mono (Nat.le_add_right (d + 2) 2) (EL_by (j := 20) (cut := []) ?_)
        rw [show minit 257 [rv 22 (some 0), iv (nI j)] = [some (rv 22 (some 0)), some (iv (nI j))] from rfl, q_Ref_isUp_0, if_neg hin.1]
        show (if nI j < h.1 22 0 22 then _ else _) = _
        rw [k2', if_pos hin.2, e_may 1 1 0 _ (by rw [if_neg (show ¬ h.1 22 0 19 = 0 from hs')]; rfl)]
        simp only [mclI, if_true]
        rw [if_neg (by decide), if_neg (nI_in (by omega) (by decide)), nI_clamp (by omega)]
        by_cases z : h.1 92 0 j = 0
        · rw [if_pos z, if_pos (show (m3 h.1 22 0 90 0) 92 0 j = 0 from z)]
        · rw [if_neg z, if_neg (show ¬ (m3 h.1 22 0 90 0) 92 0 j = 0 from z)]
    · refine ⟨2, 0, cat (thr h), (m3 h.1 22 0 90 2, (cat (thr h)).2), w_isUpX (h1 := thr h) (Or.inr ⟨rfl, rfl⟩) (EL_by (hq.trans ?_)), EL_mono (Nat.le_add_right (d + 2) 2) (r_isUp (h := cat (thr h)) (by decide) ?_), rfl, fun z => absurd z (by decide), Iv_ro hI rfl rfl (Nat.le_refl _) (Nat.le_refl _)⟩
      · rw [e_nFlag3 hs (by rw [k1']; exact hin)]
        rfl
      · show (if h.1 22 0 19 = 0 then (1 : Int32) else if ¬ a < 0 ∧ a < h.1 22 0 22 then 0 else 2) = 2
        rw [if_neg hs', k2', if_neg hin]
end Flag
