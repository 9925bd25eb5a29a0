/-! ===== promise 13: free ===== -/
section Free
variable {L : Nat} {xs : Nat → Int32} {d i : Nat} {SC : MI → MR → MI → Nat → Prop}
/-- the law's method over a call of the class that gave an int, or threw -/
theorem w_free {a v : Int32} {h h1 : MH} (hc : EL (mP L xs) d 251 [rv 21 (some 0), iv a] h = some (.inl (some (iv v)), h1)) : EL (mP L xs) (d + 1) 252 (rv 21 (some 0) :: ([iv a] ++ [rv 99 (some 0)])) h = some (.inl (some (iv 0)), (h1.1, h1.2.1, m3 h1.2.2.1 99 0 0 v.toInt64, h1.2.2.2)) := by
  refine EL_by (j := 10) (cut := []) ?_
  rw [show minit 252 (rv 21 (some 0) :: ([iv a] ++ [rv 99 (some 0)])) = [some (rv 21 (some 0)), some (iv a), some (rv 99 (some 0)), none] from rfl, q_Law_free_0, hc]
  rfl
theorem w_free1 {a : Int32} {h h1 : MH} (hc : EL (mP L xs) d 251 [rv 21 (some 0), iv a] h = some (.inr 1, h1)) : EL (mP L xs) (d + 1) 252 (rv 21 (some 0) :: ([iv a] ++ [rv 99 (some 0)])) h = some (.inl (some (iv 1)), cat h1) := by
  refine EL_by (j := 10) (cut := []) ?_
  rw [show minit 252 (rv 21 (some 0) :: ([iv a] ++ [rv 99 (some 0)])) = [some (rv 21 (some 0)), some (iv a), some (rv 99 (some 0)), none] from rfl, q_Law_free_0, hc]
  rfl
theorem w_free3 {a : Int32} {h h1 : MH} (hc : EL (mP L xs) d 251 [rv 21 (some 0), iv a] h = some (.inr 3, h1)) : EL (mP L xs) (d + 1) 252 (rv 21 (some 0) :: ([iv a] ++ [rv 99 (some 0)])) h = some (.inl (some (iv 2)), cat h1) := by
  refine EL_by (j := 10) (cut := []) ?_
  rw [show minit 252 (rv 21 (some 0) :: ([iv a] ++ [rv 99 (some 0)])) = [some (rv 21 (some 0)), some (iv a), some (rv 99 (some 0)), none] from rfl, q_Law_free_0, hc]
  rfl
/-- the reference refuses -/
theorem r_free {a t : Int32} {h : MH} (ht0 : t ≠ 0) (ht : (if h.1 22 0 19 = 0 then (1 : Int32) else if ¬ a < 0 ∧ a < h.1 22 0 21 then 0 else 2) = t) : EL (mP L xs) (d + 2) 253 [rv 22 (some 0), iv a] h = some (.inl (some (iv 0)), (m3 h.1 22 0 90 t, h.2)) := by
  refine EL_by (j := 18) (cut := []) ?_
  rw [show minit 253 [rv 22 (some 0), iv a] = [some (rv 22 (some 0)), some (iv a)] from rfl, q_Ref_free_0]
  have hm0 : EL (mP L xs) (d + 1) 148 [rv 22 (some 0), iv 0, iv 1] h = some (.inl (some (iv 0)), (m3 h.1 22 0 90 (if h.1 22 0 19 = 0 then 1 else 2), h.2)) := by
    have z := e_may (L := L) (xs := xs) (d := d) 0 1 (if h.1 22 0 19 = 0 then 1 else 2) h (by by_cases z : h.1 22 0 19 = 0 <;> simp [z])
    rw [z]
    by_cases z : h.1 22 0 19 = 0 <;> simp [z]
  by_cases z : a < 0
  · rw [if_pos z, hm0]
    simp only [mclI, if_true]
    rw [← ht]
    by_cases z2 : h.1 22 0 19 = 0
    · simp [z2]
    · simp [z2, z]
  · rw [if_neg z]
    by_cases z3 : a < h.1 22 0 21
    · have h19 : h.1 22 0 19 = 0 := by
        by_cases y : h.1 22 0 19 = 0
        · exact y
        · rw [if_neg y, if_pos ⟨z, z3⟩] at ht
          exact absurd ht.symm ht0
      rw [if_pos z3, e_may 1 1 1 h (by rw [if_pos h19])]
      rw [if_pos h19] at ht
      subst ht
      rfl
    · rw [if_neg z3, hm0]
      simp only [mclI, if_true]
      rw [← ht]
      by_cases z2 : h.1 22 0 19 = 0
      · simp [z2]
      · simp [z2, z3]
theorem p_free (a : Int32) : prI (mP L xs) (d + 3) (Iv (R_fair SC) i) (Iv (R_fair SC) (i + 6)) 252 253 [iv a] := by
  intro h hI
  obtain ⟨ht, ⟨y1, y2, f3, f4⟩, f5⟩ := hI.1
  have f3' : h.1 21 0 5 = h.1 22 0 19 := f3
  have hq := q_House_free_0 L xs (EL (mP L xs) (d + 1)) (RL (mP L xs) (d + 1) 251) a h
  by_cases hs : h.1 21 0 5 = 0
  · refine ⟨1, 0, cat (thr h), (m3 h.1 22 0 90 1, (cat (thr h)).2), w_free1 (EL_by (hq.trans (by rw [e_need0 hs]; rfl))), EL_mono (Nat.le_succ (d + 2)) (r_free (h := cat (thr h)) (by decide) (if_pos (f3'.symm.trans hs))), rfl, fun z => absurd z (by decide), Iv_ro hI rfl rfl (Nat.le_refl _) (Nat.le_refl _)⟩
  · have hs' : ¬ h.1 22 0 19 = 0 := fun z => hs (f3'.trans z)
    obtain ⟨n, s, q, ⟨-, hs6, -, -, ⟨k1, k2⟩, -⟩, -, -, hst, -⟩ := f5 (f4.resolve_left hs)
    have k1' : h.1 11 0 5 = nI s := k1
    have k2' : h.1 22 0 21 = nI s := k2
    by_cases hin : ¬ a < 0 ∧ a < nI s
    · obtain ⟨j, hj, rfl⟩ := nI_of hin.1
      have hjs : j < s := (nI_ltI hj (by omega)).mp hin.2
      have hv : h.1 30 0 j = h.1 91 0 j := (hst j hjs).1
      refine ⟨0, h.1 91 0 j, (h.1, h.2.1, m3 h.2.2.1 99 0 0 (h.1 91 0 j).toInt64, h.2.2.2), (m3 h.1 22 0 90 0, h.2.1, m3 h.2.2.1 99 0 0 (h.1 91 0 j).toInt64, h.2.2.2), w_free (h1 := h) (EL_by (hq.trans ?_)), ?_, rfl, fun _ => rfl, Iv_ro hI rfl rfl (Nat.le_succ _) (Nat.le_add_right _ _)⟩
      · rw [e_need1 hs]
        simp only [mclV]
        rw [if_neg hin.1, k1', if_pos hin.2, if_pos (show nI j < 6 from nI_lt (a := j) (b := 6) (by omega) (by decide)), if_neg (nI_in (by omega) (by decide)), nI_clamp (by omega), hv]
      · refine EL_mono (Nat.le_succ (d + 2)) (EL_by (j := 18) (cut := []) ?_)
        rw [show minit 253 [rv 22 (some 0), iv (nI j)] = [some (rv 22 (some 0)), some (iv (nI j))] from rfl, q_Ref_free_0, if_neg hin.1]
        show (if nI j < h.1 22 0 21 then _ else _) = _
        rw [k2', if_pos hin.2, e_may 1 1 0 _ (by rw [if_neg (show ¬ h.1 22 0 19 = 0 from hs')]; rfl)]
        simp only [mclI, if_true]
        rw [if_neg (by decide), if_neg (nI_in (by omega) (by decide)), nI_clamp (by omega)]
        rfl
    · refine ⟨2, 0, cat (thr h), (m3 h.1 22 0 90 2, (cat (thr h)).2), w_free3 (h1 := thr h) (EL_by (hq.trans ?_)), EL_mono (Nat.le_succ (d + 2)) (r_free (h := cat (thr h)) (by decide) ?_), rfl, fun z => absurd z (by decide), Iv_ro hI rfl rfl (Nat.le_refl _) (Nat.le_refl _)⟩
      · rw [e_need1 hs]
        simp only [mclV]
        by_cases z : a < 0
        · rw [if_pos z]; rfl
        · rw [if_neg z, k1', if_neg (fun y => hin ⟨z, y⟩)]; rfl
      · show (if h.1 22 0 19 = 0 then (1 : Int32) else if ¬ a < 0 ∧ a < h.1 22 0 21 then 0 else 2) = 2
        rw [if_neg hs', k2', if_neg hin]
end Free
