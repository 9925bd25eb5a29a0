/-! ===== promise 10: measure ===== -/
theorem sumN_congr {f g : Nat → Int32} : ∀ {n : Nat}, (∀ k, k < n → f k = g k) → sumN f n = sumN g n
  | 0, _ => rfl
  | n + 1, h => by
    unfold sumN
    rw [sumN_congr (fun k hk => h k (by omega)), h n (by omega)]
section Meas
variable {L : Nat} {xs : Nat → Int32} {d i : Nat} {SC : MI → MR → MI → Nat → Prop}
theorem e_ride0 {a : Int32} {h : MH} (hs : h.1 21 0 5 = 0) : EL (mP L xs) (d + 2) 142 [rv 21 (some 0), iv a] h = some (.inr 1, thr h) := EL_by ((q_House_rideOf_0 L xs _ _ a h).trans (by rw [e_need0 hs]; rfl))
theorem e_ride3 {a : Int32} {h : MH} (hs : ¬ h.1 21 0 5 = 0) (hb : ¬ (¬ a < 0 ∧ a < h.1 11 0 4)) : EL (mP L xs) (d + 2) 142 [rv 21 (some 0), iv a] h = some (.inr 3, thr h) := EL_by ((q_House_rideOf_0 L xs _ _ a h).trans (by
  rw [e_need1 hs]
  simp only [mclV]
  by_cases z : a < 0
  · rw [if_pos z]; rfl
  · rw [if_neg z, if_neg (fun y => hb ⟨z, y⟩)]; rfl))
theorem e_ride {r : Nat} {h : MH} (hs : ¬ h.1 21 0 5 = 0) (hr : r < 12) (h2 : nI r < h.1 11 0 4) : EL (mP L xs) (d + 2) 142 [rv 21 (some 0), iv (nI r)] h = some (.inl (some (rv 16 (some r))), h) := EL_by ((q_House_rideOf_0 L xs _ _ (nI r) h).trans (by
  rw [e_need1 hs]
  simp only [mclV]
  rw [if_neg (nI_pos (by omega)), if_pos h2, if_pos (show nI r < 12 from nI_lt (a := r) (b := 12) hr (by decide)), if_neg (nI_in hr (by decide)), nI_clamp (by omega)]))
theorem e_isRide (a : Int32) (h : MH) : EL (mP L xs) (d + 1) 146 [rv 22 (some 0), iv a] h = some (.inl (some (iv (if ¬ a < 0 ∧ a < h.1 22 0 20 then 1 else 0))), h) := EL_by ((q_Ref_isRide_0 L xs _ _ a h).trans (by
  by_cases z : a < 0
  · rw [if_pos z, if_neg (fun y => y.1 z)]
  · rw [if_neg z]
    by_cases y : a < h.1 22 0 20
    · rw [if_pos y, if_pos ⟨z, y⟩]
    · rw [if_neg y, if_neg (fun w => y w.2)]))
/-- the reference counts a queue -/
theorem rq_loop {r m : Nat} {h : MH} (hr : r < 12) (hm : m ≤ 30) (hg : h.1 93 0 r = nI m) : ∀ (j k : Nat) (v : Int32), k + j = m → v = sumN (fun q => h.1 94 0 (30 * r + q)) k → RL (mP L xs) d 149 4 [some (rv 22 (some 0)), some (iv (nI r)), some (iv v), some (iv (nI k))] [] h = some (.inl (some (iv (sumN (fun q => h.1 94 0 (30 * r + q)) m))), h)
  | 0, k, v, hk, hv => by
    have e : k = m := by omega
    subst e
    refine RL_cut (j := 19) (cut := [4]) ?_
    rw [q_Ref_queue_4, if_neg (nI_in hr (by decide)), nI_clamp (by omega), hg, if_neg (nI_nlt (Nat.le_refl _) (by omega)), hv]
  | j + 1, k, v, hk, hv => by
    refine RL_cut (j := 19) (cut := [4]) ?_
    rw [q_Ref_queue_4, if_neg (nI_in hr (by decide)), nI_clamp (by omega), hg, if_pos (nI_lt (by omega) (by omega)), show (30 : Int32) = nI 30 from rfl, nI_mul, nI_add, if_neg (nI_in (by omega) (by decide)), nI_clamp (by omega), nI_1]
    exact rq_loop hr hm hg j (k + 1) _ (by omega) (by rw [hv]; rfl)
theorem e_Rqueue {r m : Nat} {h : MH} (hr : r < 12) (hm : m ≤ 30) (hg : h.1 93 0 r = nI m) : EL (mP L xs) (d + 1) 149 [rv 22 (some 0), iv (nI r)] h = some (.inl (some (iv (sumN (fun q => h.1 94 0 (30 * r + q)) m))), h) := by
  refine EL_by (j := 4) (cut := [4]) ?_
  rw [show minit 149 [rv 22 (some 0), iv (nI r)] = [some (rv 22 (some 0)), some (iv (nI r)), none, none] from rfl, q_Ref_queue_0]
  exact rq_loop hr hm hg m 0 0 (by omega) rfl
end Meas
