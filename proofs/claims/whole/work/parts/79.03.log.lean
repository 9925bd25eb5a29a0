/-! ===== promise 17: log ===== -/
theorem nI_mul (a b : Nat) : nI a * nI b = nI (a * b) := (Int32.ofNat_mul a b).symm
section Log
variable {L : Nat} {xs : Nat → Int32} {d i : Nat} {SC : MI → MR → MI → Nat → Prop}
theorem w_log {a b v : Int32} {h h1 : MH} (hc : EL (mP L xs) d 266 [rv 21 (some 0), iv a, iv b] h = some (.inl (some (iv v)), h1)) : EL (mP L xs) (d + 1) 267 (rv 21 (some 0) :: ([iv a, iv b] ++ [rv 99 (some 0)])) h = some (.inl (some (iv 0)), (h1.1, h1.2.1, m3 h1.2.2.1 99 0 0 v.toInt64, h1.2.2.2)) := by
  refine EL_by (j := 11) (cut := []) ?_
  rw [show minit 267 (rv 21 (some 0) :: ([iv a, iv b] ++ [rv 99 (some 0)])) = [some (rv 21 (some 0)), some (iv a), some (iv b), some (rv 99 (some 0)), none] from rfl, q_Law_log_0, hc]
  rfl
theorem w_logX {a b k : Int32} {e : Nat} {h h1 : MH} (he : (e = 1 ∧ k = 1) ∨ (e = 3 ∧ k = 2)) (hc : EL (mP L xs) d 266 [rv 21 (some 0), iv a, iv b] h = some (.inr e, h1)) : EL (mP L xs) (d + 1) 267 (rv 21 (some 0) :: ([iv a, iv b] ++ [rv 99 (some 0)])) h = some (.inl (some (iv k)), cat h1) := by
  refine EL_by (j := 11) (cut := []) ?_
  rw [show minit 267 (rv 21 (some 0) :: ([iv a, iv b] ++ [rv 99 (some 0)])) = [some (rv 21 (some 0)), some (iv a), some (iv b), some (rv 99 (some 0)), none] from rfl, q_Law_log_0, hc]
  rcases he with ⟨rfl, rfl⟩ | ⟨rfl, rfl⟩ <;> rfl
/-- the reference, in range or not -/
def okLog (l : Int32) (a b : Int32) : Prop := ¬ a < 0 ∧ a < l ∧ a < 400 ∧ ¬ b < 0 ∧ ¬ 3 < b
theorem r_log0 {a b w : Int32} {h : MH} (hw : (okLog (h.1 22 0 84) a b ∧ w = 1) ∨ (¬ okLog (h.1 22 0 84) a b ∧ w = 0)) {x : MO} (hq : RL (mP L xs) d 268 33 [some (rv 22 (some 0)), some (iv a), some (iv b), none] [iv w] h = some x) : EL (mP L xs) (d + 1) 268 [rv 22 (some 0), iv a, iv b] h = some x := by
  refine EL_by (j := 16) (cut := [33]) ?_
  rw [show minit 268 [rv 22 (some 0), iv a, iv b] = [some (rv 22 (some 0)), some (iv a), some (iv b), none] from rfl, q_Ref_log_0]
  rcases hw with ⟨⟨z1, z2, z3, z4, z5⟩, rfl⟩ | ⟨hn, rfl⟩
  · rw [if_neg z1, if_pos z2, if_pos z3, if_neg z4, if_neg z5]
    exact hq
  · by_cases z1 : a < 0
    · rw [if_pos z1]; exact hq
    · rw [if_neg z1]
      by_cases z2 : a < h.1 22 0 84
      · rw [if_pos z2]
        by_cases z3 : a < 400
        · rw [if_pos z3]
          by_cases z4 : b < 0
          · rw [if_pos z4]; exact hq
          · rw [if_neg z4]
            by_cases z5 : 3 < b
            · rw [if_pos z5]; exact hq
            · exact absurd ⟨z1, z2, z3, z4, z5⟩ hn
        · rw [if_neg z3]; exact hq
      · rw [if_neg z2]; exact hq
theorem r_log {a b t : Int32} {h : MH} (ht : (h.1 22 0 19 = 0 ∧ t = 1) ∨ (¬ h.1 22 0 19 = 0 ∧ ¬ okLog (h.1 22 0 84) a b ∧ t = 2)) : EL (mP L xs) (d + 2) 268 [rv 22 (some 0), iv a, iv b] h = some (.inl (some (iv 0)), (m3 h.1 22 0 90 t, h.2)) := by
  have key : ∀ w : Int32, (h.1 22 0 19 = 0 ∧ t = 1) ∨ (¬ h.1 22 0 19 = 0 ∧ w = 0 ∧ t = 2) → RL (mP L xs) (d + 1) 268 33 [some (rv 22 (some 0)), some (iv a), some (iv b), none] [iv w] h = some (.inl (some (iv 0)), (m3 h.1 22 0 90 t, h.2)) := by
    intro w hw
    refine RL_cut (j := 16) (cut := [33]) ?_
    rw [q_Ref_log_33]
    rcases hw with ⟨z1, rfl⟩ | ⟨z1, rfl, rfl⟩
    · rw [e_may w 1 1 h (by rw [if_pos z1])]
      rfl
    · rw [e_may 0 1 2 h (by rw [if_neg z1]; rfl)]
      rfl
  rcases ht with ⟨z1, rfl⟩ | ⟨z1, z2, rfl⟩
  · by_cases hk : okLog (h.1 22 0 84) a b
    · exact r_log0 (Or.inl ⟨hk, rfl⟩) (key 1 (Or.inl ⟨z1, rfl⟩))
    · exact r_log0 (Or.inr ⟨hk, rfl⟩) (key 0 (Or.inl ⟨z1, rfl⟩))
  · exact r_log0 (Or.inr ⟨z2, rfl⟩) (key 0 (Or.inr ⟨z1, rfl, rfl⟩))
theorem lt4 {b : Int32} : ¬ 3 < b ↔ b < 4 := by
  have e3 : (3 : Int32).toInt = 3 := rfl
  have e4 : (4 : Int32).toInt = 4 := rfl
  constructor
  · intro z
    have := Int32.le_iff_toInt_le.mp (Int32.not_lt.mp z)
    exact Int32.lt_iff_toInt_lt.mpr (by omega)
  · intro z y
    have z1 := Int32.lt_iff_toInt_lt.mp z
    have z2 := Int32.lt_iff_toInt_lt.mp y
    omega
theorem p_log (a b : Int32) : prI (mP L xs) (d + 3) (Iv (R_fair SC) i) (Iv (R_fair SC) (i + 6)) 267 268 [iv a, iv b] := by
  intro h hI
  obtain ⟨ht, ⟨y1, y2, f3, f4⟩, f5⟩ := hI.1
  have f3' : h.1 21 0 5 = h.1 22 0 19 := f3
  have hq := q_House_log_0 L xs (EL (mP L xs) (d + 1)) (RL (mP L xs) (d + 1) 266) a b h
  by_cases hs : h.1 21 0 5 = 0
  · exact ⟨1, 0, cat (thr h), (m3 h.1 22 0 90 1, (cat (thr h)).2), w_logX (Or.inl ⟨rfl, rfl⟩) (EL_by (hq.trans (by rw [e_need0 hs]; rfl))), EL_mono (Nat.le_succ (d + 2)) (r_log (h := cat (thr h)) (Or.inl ⟨f3'.symm.trans hs, rfl⟩)), rfl, fun z => absurd z (by decide), Iv_ro hI rfl rfl (Nat.le_refl _) (Nat.le_refl _)⟩
  · have hs' : ¬ h.1 22 0 19 = 0 := fun z => hs (f3'.trans z)
    obtain ⟨n, s, q, -, ⟨-, -, -, -, -, g6⟩, ⟨l, hl, k2, hlog⟩, -⟩ := f5 (f4.resolve_left hs)
    have g6' : h.1 11 0 14 = h.1 22 0 84 := g6
    have k2' : h.1 22 0 84 = nI l := k2
    by_cases hk : okLog (h.1 22 0 84) a b
    · obtain ⟨z1, z2, z3, z4, z5⟩ := hk
      obtain ⟨j, hj, rfl⟩ := nI_of z1
      obtain ⟨c, hc, rfl⟩ := nI_of z4
      have hj4 : j < 400 := (nI_ltI hj (b := 400) (by decide)).mp z3
      have hc4 : c < 4 := (nI_ltI hc (b := 4) (by decide)).mp (lt4.mp z5)
      have hjl : j < l := (nI_ltI hj (by omega)).mp (by rw [← k2']; exact z2)
      have hv : h.1 31 0 (j * 4 + c) = h.1 96 0 (j * 4 + c) := hlog (j * 4 + c) (by omega) (by omega)
      have e1 : nI j * 4 + nI c = nI (j * 4 + c) := by rw [show (4 : Int32) = nI 4 from rfl, nI_mul, nI_add]
      have e2 : 4 * nI j + nI c = nI (j * 4 + c) := by rw [show (4 : Int32) = nI 4 from rfl, nI_mul, nI_add, Nat.mul_comm]
      refine ⟨0, h.1 96 0 (j * 4 + c), (h.1, h.2.1, m3 h.2.2.1 99 0 0 (h.1 96 0 (j * 4 + c)).toInt64, h.2.2.2), (m3 h.1 22 0 90 0, h.2.1, m3 h.2.2.1 99 0 0 (h.1 96 0 (j * 4 + c)).toInt64, h.2.2.2), w_log (h1 := h) (EL_by (hq.trans ?_)), ?_, rfl, fun _ => rfl, Iv_ro hI rfl rfl (Nat.le_succ _) (Nat.le_add_right _ _)⟩
      · have hl : EL (mP L xs) (d + 1) 265 [rv 11 (some 0), iv (nI j), iv (nI c)] h = some (.inl (some (iv (h.1 96 0 (j * 4 + c)))), h) := by
          refine EL_by ((q_Fair_logged_0 L xs _ _ (nI j) (nI c) h).trans ?_)
          rw [e1, if_neg (nI_pos (by omega)), if_pos (show nI (j * 4 + c) < 1600 from nI_lt (a := j * 4 + c) (b := 1600) (by omega) (by decide)), if_neg (nI_in (by omega) (by decide)), nI_clamp (by omega), hv]
        rw [e_need1 hs]
        simp only [mclV]
        rw [if_neg z1, g6', if_pos z2, if_pos z3, if_neg z4, if_pos (lt4.mp z5), hl]
        rfl
      · refine EL_mono (Nat.le_succ (d + 2)) (r_log0 (h := (h.1, h.2.1, m3 h.2.2.1 99 0 0 (h.1 96 0 (j * 4 + c)).toInt64, h.2.2.2)) (w := 1) (Or.inl ⟨⟨z1, z2, z3, z4, z5⟩, rfl⟩) (RL_cut (j := 16) (cut := [33]) ?_))
        rw [q_Ref_log_33, e_may 1 1 0 _ (by rw [if_neg (show ¬ h.1 22 0 19 = 0 from hs')]; rfl)]
        simp only [mclI, if_true]
        rw [if_neg (by decide), e2, if_neg (nI_in (by omega) (by decide)), nI_clamp (by omega)]
        rfl
    · refine ⟨2, 0, cat (thr h), (m3 h.1 22 0 90 2, (cat (thr h)).2), w_logX (h1 := thr h) (Or.inr ⟨rfl, rfl⟩) (EL_by (hq.trans ?_)), EL_mono (Nat.le_succ (d + 2)) (r_log (h := cat (thr h)) (Or.inr ⟨hs', hk, rfl⟩)), rfl, fun z => absurd z (by decide), Iv_ro hI rfl rfl (Nat.le_refl _) (Nat.le_refl _)⟩
      rw [e_need1 hs]
      simp only [mclV]
      by_cases z1 : a < 0
      · rw [if_pos z1]; rfl
      · rw [if_neg z1, g6']
        by_cases z2 : a < h.1 22 0 84
        · rw [if_pos z2]
          by_cases z3 : a < 400
          · rw [if_pos z3]
            by_cases z4 : b < 0
            · rw [if_pos z4]; rfl
            · rw [if_neg z4]
              by_cases z5 : b < 4
              · exact absurd ⟨z1, z2, z3, z4, lt4.mpr z5⟩ hk
              · rw [if_neg z5]; rfl
          · rw [if_neg z3]; rfl
        · rw [if_neg z2]; rfl
end Log
