/-! ===== promise 15: set ===== -/
section SetP
variable {L : Nat} {xs : Nat → Int32} {d i : Nat} {SC : MI → MR → MI → Nat → Prop}
/-- the flags' int behind a put -/
def putF (F : Int32) (a v : Int32) : Int32 := if v = 0 then F &&& (((1 : Int32) <<< (a &&& 31)) ^^^ (-1)) else F ||| ((1 : Int32) <<< (a &&& 31))
theorem e_putFlag (a v : Int32) (h : MH) : EL (mP L xs) (d + 1) 179 [rv 11 (some 0), iv a, iv v] h = some (.inl none, (m3 h.1 11 0 7 (putF (h.1 11 0 7) a v), h.2)) := EL_by ((q_Fair_putFlag_0 L xs _ _ a v h).trans (by
  unfold putF
  by_cases z : v = 0
  · rw [if_pos z, if_pos z]
  · rw [if_neg z, if_neg z]))
theorem w_set {a b v : Int32} {h h1 : MH} (hc : EL (mP L xs) d 258 [rv 21 (some 0), iv a, iv b] h = some (.inl (some (iv v)), h1)) : EL (mP L xs) (d + 1) 259 (rv 21 (some 0) :: ([iv a, iv b] ++ [rv 99 (some 0)])) h = some (.inl (some (iv 0)), (h1.1, h1.2.1, m3 h1.2.2.1 99 0 0 (if v = 0 then 0 else 1), h1.2.2.2)) := by
  refine EL_by (j := 13) (cut := []) ?_
  rw [show minit 259 (rv 21 (some 0) :: ([iv a, iv b] ++ [rv 99 (some 0)])) = [some (rv 21 (some 0)), some (iv a), some (iv b), some (rv 99 (some 0)), none] from rfl, q_Law_set_0, hc]
  simp only [mclI]
  by_cases z : v = 0
  · rw [if_pos z, if_pos z]
  · rw [if_neg z, if_neg z]
theorem w_setX {a b k : Int32} {e : Nat} {h h1 : MH} (he : (e = 1 ∧ k = 1) ∨ (e = 3 ∧ k = 2)) (hc : EL (mP L xs) d 258 [rv 21 (some 0), iv a, iv b] h = some (.inr e, h1)) : EL (mP L xs) (d + 1) 259 (rv 21 (some 0) :: ([iv a, iv b] ++ [rv 99 (some 0)])) h = some (.inl (some (iv k)), cat h1) := by
  refine EL_by (j := 13) (cut := []) ?_
  rw [show minit 259 (rv 21 (some 0) :: ([iv a, iv b] ++ [rv 99 (some 0)])) = [some (rv 21 (some 0)), some (iv a), some (iv b), some (rv 99 (some 0)), none] from rfl, q_Law_set_0, hc]
  rcases he with ⟨rfl, rfl⟩ | ⟨rfl, rfl⟩ <;> rfl
theorem r_set0 {a b w : Int32} {h : MH} (hw : ((¬ a < 0 ∧ a < h.1 22 0 22) ∧ w = 1) ∨ (¬ (¬ a < 0 ∧ a < h.1 22 0 22) ∧ w = 0)) {x : MO} (hq : RL (mP L xs) d 260 18 [some (rv 22 (some 0)), some (iv a), some (iv b), none] [iv w, rv 22 (some 0)] h = some x) : EL (mP L xs) (d + 1) 260 [rv 22 (some 0), iv a, iv b] h = some x := by
  refine EL_by (j := 9) (cut := [18]) ?_
  rw [show minit 260 [rv 22 (some 0), iv a, iv b] = [some (rv 22 (some 0)), some (iv a), some (iv b), none] from rfl, q_Ref_set_0]
  rcases hw with ⟨⟨z1, z2⟩, rfl⟩ | ⟨hn, rfl⟩
  · rw [if_neg z1, if_pos z2]
    exact hq
  · by_cases z1 : a < 0
    · rw [if_pos z1]; exact hq
    · rw [if_neg z1]
      by_cases z2 : a < h.1 22 0 22
      · exact absurd ⟨z1, z2⟩ hn
      · rw [if_neg z2]; exact hq
theorem r_set {a b t : Int32} {h : MH} (ht : (h.1 22 0 19 = 0 ∧ t = 1) ∨ (¬ h.1 22 0 19 = 0 ∧ ¬ (¬ a < 0 ∧ a < h.1 22 0 22) ∧ t = 2)) : EL (mP L xs) (d + 2) 260 [rv 22 (some 0), iv a, iv b] h = some (.inl (some (iv 0)), (m3 h.1 22 0 90 t, h.2)) := by
  have key : ∀ w : Int32, (h.1 22 0 19 = 0 ∧ t = 1) ∨ (¬ h.1 22 0 19 = 0 ∧ w = 0 ∧ t = 2) → RL (mP L xs) (d + 1) 260 18 [some (rv 22 (some 0)), some (iv a), some (iv b), none] [iv w, rv 22 (some 0)] h = some (.inl (some (iv 0)), (m3 h.1 22 0 90 t, h.2)) := by
    intro w hw
    refine RL_cut (j := 19) (cut := [18]) ?_
    rw [q_Ref_set_18]
    rcases hw with ⟨z1, rfl⟩ | ⟨z1, rfl, rfl⟩
    · rw [e_may w 1 1 h (by rw [if_pos z1])]
      rfl
    · rw [e_may 0 1 2 h (by rw [if_neg z1]; rfl)]
      rfl
  rcases ht with ⟨z1, rfl⟩ | ⟨z1, z2, rfl⟩
  · by_cases hk : ¬ a < 0 ∧ a < h.1 22 0 22
    · exact r_set0 (Or.inl ⟨hk, rfl⟩) (key 1 (Or.inl ⟨z1, rfl⟩))
    · exact r_set0 (Or.inr ⟨hk, rfl⟩) (key 0 (Or.inl ⟨z1, rfl⟩))
  · exact r_set0 (Or.inr ⟨z2, rfl⟩) (key 0 (Or.inr ⟨z1, rfl, rfl⟩))
theorem putF_bit (F : Int32) {j k : Nat} {v : Int32} (hv : v = 0 ∨ v = 1) (hj : j < 8) (hk : k < 8) : (putF F (nI j) v >>> (nI k &&& 31)) &&& 1 = if k = j then v else (F >>> (nI k &&& 31)) &&& 1 := by
  rw [fbit _ hk, fbit _ hk]
  unfold putF
  rcases hv with rfl | rfl
  · rw [if_pos rfl, an_bit F hj hk]
    by_cases e : k = j
    · subst e; simp [bI]
    · simp [e, bI]
  · rw [if_neg (by decide), or_bit F hj hk]
    by_cases e : k = j
    · subst e; simp [bI]
    · simp [e, bI]
theorem fair_set {f u : MI} {g : MR} {j : Nat} {v : Int32} (hj : j < 8) (hv : v = 0 ∨ v = 1) (hSC : ∀ r, SC f g u r → SC (m3 f 11 0 7 (putF (f 11 0 7) (nI j) v)) g (m3 u 92 0 j v) r) (h : R_fair SC f g u) : R_fair SC (m3 f 11 0 7 (putF (f 11 0 7) (nI j) v)) g (m3 u 92 0 j v) := by
  obtain ⟨n, s, q, h1, h2, h3, h4, h5, h6⟩ := h
  refine ⟨n, s, q, h1, h2, h3, h4, fun k hk => ?_, fun r hr => ⟨(h6 r hr).1, (h6 r hr).2.1, (h6 r hr).2.2.1, (h6 r hr).2.2.2.1, hSC r (h6 r hr).2.2.2.2⟩⟩
  have hq8 : q ≤ 8 := h1.2.2.1
  show m3 u 92 0 j v 92 0 k = (putF (f 11 0 7) (nI j) v >>> (nI k &&& 31)) &&& 1
  rw [putF_bit _ hv hj (by omega)]
  by_cases e : k = j
  · rw [if_pos e, e]
    simp [m3]
  · rw [if_neg e, ← h5 k hk]
    simp [m3, e]
theorem p_set (hSC2 : ∀ f g u (j : Nat) (v w : Int32) r, SC f g u r → SC (m3 f 11 0 7 w) g (m3 u 92 0 j v) r) (a v : Int32) (hv : v = 0 ∨ v = 1) : prB (mP L xs) (d + 4) (Iv (R_fair SC) i) (Iv (R_fair SC) (i + 6)) 259 260 [iv a, iv v] := by
  intro h hI
  obtain ⟨ht, ⟨y1, y2, f3, f4⟩, f5⟩ := hI.1
  have f3' : h.1 21 0 5 = h.1 22 0 19 := f3
  have hq := q_House_set_0 L xs (EL (mP L xs) (d + 2)) (RL (mP L xs) (d + 2) 258) a v h
  by_cases hs : h.1 21 0 5 = 0
  · exact ⟨1, 0, cat (thr h), (m3 h.1 22 0 90 1, (cat (thr h)).2), w_setX (Or.inl ⟨rfl, rfl⟩) (EL_by (hq.trans (by rw [e_nFlag0 hs]; rfl))), EL_mono (Nat.le_add_right (d + 2) 2) (r_set (h := cat (thr h)) (Or.inl ⟨f3'.symm.trans hs, rfl⟩)), rfl, fun z => absurd z (by decide), Iv_ro hI rfl rfl (Nat.le_refl _) (Nat.le_refl _)⟩
  · have hs' : ¬ h.1 22 0 19 = 0 := fun z => hs (f3'.trans z)
    obtain ⟨n, s, q, ⟨-, -, hq8, -, -, ⟨k1, k2⟩, -⟩, -, -, -, hfl, -⟩ := f5 (f4.resolve_left hs)
    have k1' : h.1 11 0 6 = nI q := k1
    have k2' : h.1 22 0 22 = nI q := k2
    by_cases hin : ¬ a < 0 ∧ a < nI q
    · obtain ⟨j, hj, rfl⟩ := nI_of hin.1
      have hjs : j < q := (nI_ltI hj (by omega)).mp hin.2
      have hj8 : j < 8 := by omega
      have hu : h.1 92 0 j = (h.1 11 0 7 >>> (nI j &&& 31)) &&& 1 := hfl j hjs
      have hu2 : (if h.1 92 0 j = 0 then (0 : Int32) else 1) = h.1 92 0 j := by
        rw [hu, fbit _ hj8]
        cases (h.1 11 0 7).toBitVec.getLsbD j <;> decide
      have hv1 : v &&& 1 = v := by rcases hv with rfl | rfl <;> decide
      refine ⟨0, if h.1 92 0 j = v then 0 else 1, (m3 h.1 11 0 7 (putF (h.1 11 0 7) (nI j) v), h.2.1, m3 h.2.2.1 99 0 0 (if (if h.1 92 0 j = v then (0 : Int32) else 1) = 0 then 0 else 1), h.2.2.2), (m3 (m3 (m3 h.1 11 0 7 (putF (h.1 11 0 7) (nI j) v)) 22 0 90 0) 92 0 j v, h.2.1, m3 h.2.2.1 99 0 0 (if (if h.1 92 0 j = v then (0 : Int32) else 1) = 0 then 0 else 1), h.2.2.2), w_set (h1 := (m3 h.1 11 0 7 (putF (h.1 11 0 7) (nI j) v), h.2)) (EL_by (hq.trans ?_)), ?_, rfl, fun _ => rfl, ⟨?_, Res_step hI.2 rfl (Nat.le_succ _) (Nat.le_add_right _ _)⟩⟩
      · rw [e_nFlag hs hin.1 (by rw [k1']; exact hin.2)]
        simp only [mclV]
        rw [EL_mono (Nat.le_add_left 1 (d + 1)) (e_flagUp (d := 0) (nI j) h), ← hu, hu2]
        simp only [mclI]
        rw [EL_mono (Nat.le_add_left 1 (d + 1)) (e_putFlag (d := 0) (nI j) v h)]
        simp only []
        by_cases z : h.1 92 0 j = v
        · rw [if_pos z, if_pos z]
        · rw [if_neg z, if_neg z]
      · refine EL_mono (Nat.le_add_right (d + 2) 2) (r_set0 (w := 1) (Or.inl ⟨⟨hin.1, ?_⟩, rfl⟩) (RL_cut (j := 19) (cut := [18]) ?_))
        · show nI j < h.1 22 0 22
          rw [k2']
          exact hin.2
        · rw [q_Ref_set_18, e_may 1 1 0 _ (by show (if h.1 22 0 19 = 0 then (1 : Int32) else if (1 : Int32) = 0 then 2 else if (1 : Int32) = 0 then 3 else 0) = 0; rw [if_neg hs']; rfl)]
          simp only [mclI, if_true]
          rw [if_neg (by decide)]
          simp only [if_neg (nI_in hj8 (by decide : (8 : Nat) < 2 ^ 31)), nI_clamp (show j < 2 ^ 31 by omega), hv1]
          by_cases z : h.1 92 0 j = v
          · rw [if_pos z, if_pos (show (m3 (m3 h.1 11 0 7 (putF (h.1 11 0 7) (nI j) v)) 22 0 90 0) 92 0 j = v from z)]
          · rw [if_neg z, if_neg (show ¬ (m3 (m3 h.1 11 0 7 (putF (h.1 11 0 7) (nI j) v)) 22 0 90 0) 92 0 j = v from z)]
      · show RelF (R_fair SC) (cN (m3 (m3 (m3 h.1 11 0 7 (putF (h.1 11 0 7) (nI j) v)) 22 0 90 0) 92 0 j v)) (gN h.2.1) (rN (m3 (m3 (m3 h.1 11 0 7 (putF (h.1 11 0 7) (nI j) v)) 22 0 90 0) 92 0 j v))
        rw [cN_ref rfl, cN_thr, cN_put rfl, rN_put rfl rfl, rN_thr, rN_cls rfl]
        exact ⟨ht, ⟨y1, y2, f3, f4⟩, fun z => fair_set (f := cN h.1) hj8 hv (fun r => hSC2 _ _ _ j v _ r) (f5 z)⟩
    · refine ⟨2, 0, cat (thr h), (m3 h.1 22 0 90 2, (cat (thr h)).2), w_setX (h1 := thr h) (Or.inr ⟨rfl, rfl⟩) (EL_by (hq.trans ?_)), EL_mono (Nat.le_add_right (d + 2) 2) (r_set (h := cat (thr h)) (Or.inr ⟨hs', ?_, rfl⟩)), rfl, fun z => absurd z (by decide), Iv_ro hI rfl rfl (Nat.le_refl _) (Nat.le_refl _)⟩
      · rw [e_nFlag3 hs (by rw [k1']; exact hin)]
        rfl
      · show ¬ (¬ a < 0 ∧ a < h.1 22 0 22)
        rw [k2']
        exact hin
end SetP
