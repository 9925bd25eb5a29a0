/-! ===== promise 7: come ===== -/
section Com
variable {L : Nat} {xs : Nat → Int32} {d D i B : Nat} {RF : MI → MR → MI → Prop}
theorem c_joinQ {f : MI} {g : MR} {r m : Nat} {b c : Int32} (h2 : f 15 r 2 = nI m) (hm : m < 30) (X : ML × (Nat → Nat) × Nat × Nat) : EL (mP L xs) (d + 1) 143 [rv 15 (some r), iv b, iv c] (f, g, X) = some (.inl (some (iv (f 15 r 3 + b))), (m3 (m3 (m3 (m3 f 23 r m b) 24 r m c) 15 r 2 (nI (m + 1))) 15 r 3 (f 15 r 3 + b), g, X)) := by
  have e1 : (m3 f 23 r m b) 15 r 2 = nI m := (m3_r (by decide)).trans h2
  have e2 : (m3 (m3 f 23 r m b) 24 r m c) 15 r 2 = nI m := (m3_r (by decide)).trans e1
  have e3 : (m3 (m3 (m3 f 23 r m b) 24 r m c) 15 r 2 (nI (m + 1))) 15 r 3 = f 15 r 3 := (m3_i (by decide)).trans ((m3_r (by decide)).trans (m3_r (by decide)))
  rw [E_Queue_join]
  simp only [h2, if_pos (show nI m < 30 from nI_lt (b := 30) hm (by decide)), if_neg (nin hm (show 30 < 2 ^ 31 by decide)), nI_clamp (show m < 2 ^ 31 by omega), e1, e2, nI_1, e3, m3_eq]
theorem come_nt {a b : Int32} {h0 : MH} (hs : h0.1 22 0 19 = 0) : EL (mP L xs) (d + 2) 150 [rv 22 (some 0), iv a, iv b] h0 = some (.inl (some (iv 0)), (m3 h0.1 22 0 90 1, h0.2)) := by
  rw [E_Ref_come, if_pos hs, K_Ref_come_20, if_pos rfl, K_Ref_come_52, e_may (h := h0) 0 0 1 (if_pos hs), clI]
  rfl
theorem p_come (a b : Int32) (hBB : B < 2 ^ 30) : prI (mP L xs) (d + 8) (Iv (RFx B) i) (Iv (RFx B) (i + 6)) 145 150 [iv a, iv b] := by
  intro h hI
  obtain ⟨ht, ⟨y1, y2, f3, f4⟩, f5⟩ := hI.1
  have f3' : h.1 21 0 5 = h.1 22 0 19 := f3
  by_cases hs : h.1 21 0 5 = 0
  · have hs' : h.1 22 0 19 = 0 := f3'.symm.trans hs
    refine pr_exc (t := 1) hI (by decide) ?_ (fun h0 e => ?_)
    · simp only [List.cons_append, List.nil_append, E_Law_come, E_House_come, e_ride0 hs, clRx, clIx, if_true]; rfl
    · exact come_nt (by rw [e]; exact hs')
  · have hs' : ¬ h.1 22 0 19 = 0 := fun z => hs (f3'.trans z)
    have TX0 := Iv_tt hI hs
    have TX1 := TX0
    obtain ⟨n, s, q, rd, ps, en, dp, lp, T, A9⟩ := TX0
    have hn := T.n12
    have hB := T.lg
    have k1' : h.1 11 0 4 = nI n := T.cn.2.2.2.1.1
    have k2' : h.1 22 0 20 = nI n := T.cn.2.2.2.1.2
    by_cases hk : ¬ a < 0 ∧ a < nI n
    · obtain ⟨z1, z2⟩ := hk
      obtain ⟨r, hr9, rfl⟩ := nI_of z1
      have hr : r < n := (nI_ltI hr9 (by omega)).mp z2
      have nn : ¬ ino (nI r) 12 := nin (by omega) (by decide)
      have cl : (nI r).toNatClampNeg = r := nI_clamp (by omega)
      obtain ⟨⟨kd, M⟩, ⟨m, Q⟩, -⟩ := T.rr r hr
      have her := e_ride (L := L) (xs := xs) (d := d + 4) hs (show r < 12 by omega) (by rw [k1']; exact z2)
      have hse : EL (mP L xs) (d + 6) 58 [rv 16 (some r), iv 4] h = some (.inl (some (iv (bif aSe kd then 1 else 0))), h) := (c_hasT (L := L) (xs := xs) (d := d + 5) M (h := h) rfl).2.2
      have hir : ∀ h0 : MH, h0.1 22 0 20 = nI n → EL (mP L xs) (d + 7) 146 [rv 22 (some 0), iv (nI r)] h0 = some (.inl (some (iv 1)), h0) := fun h0 e => by
        rw [e_isRide, if_pos ⟨z1, by rw [e]; exact z2⟩]
      have hm3 : ∀ h0 : MH, h0.1 = h.1 → EL (mP L xs) (d + 7) 148 [rv 22 (some 0), iv 1, iv 0] h0 = some (.inl (some (iv 0)), (m3 h0.1 22 0 90 3, h0.2)) := fun h0 e => e_may (h := h0) 1 0 3 (by rw [e, if_neg hs']; rfl)
      have hbeg : ∀ h0 : MH, h0.1 = h.1 → EL (mP L xs) (d + 8) 150 [rv 22 (some 0), iv (nI r), iv b] h0 = RL (mP L xs) (d + 7) 150 20 [some (rv 22 (some 0)), some (iv (nI r)), some (iv b), none] [iv 1] h0 := fun h0 e => by
        rw [E_Ref_come, if_neg (by rw [e]; exact hs'), hir h0 (by rw [e]; exact k2'), clI, if_neg (by decide)]
      by_cases c1 : b < 1
      · refine pr_exc (t := 3) hI (by decide) ?_ (fun h0 e => ?_)
        · simp only [List.cons_append, List.nil_append, E_Law_come, E_House_come, her, clR, if_pos c1, clIx]; rfl
        · rw [hbeg h0 e, K_Ref_come_20, if_neg (by decide), if_pos c1, K_Ref_come_52, hm3 h0 e, clI, if_pos rfl]
      by_cases c2 : 100 < b
      · refine pr_exc (t := 3) hI (by decide) ?_ (fun h0 e => ?_)
        · simp only [List.cons_append, List.nil_append, E_Law_come, E_House_come, her, clR, if_neg c1, if_pos c2, clIx]; rfl
        · rw [hbeg h0 e, K_Ref_come_20, if_neg (by decide), if_neg c1, if_pos c2, K_Ref_come_52, hm3 h0 e, clI, if_pos rfl]
      obtain ⟨x, x1, rfl⟩ : Upto b 100 := upto_of (v := b) (n := 100) (fun z => c1 (by
        rw [i_lt] at z ⊢
        have e0 : (0 : Int32).toInt = 0 := by decide
        have e1 : (1 : Int32).toInt = 1 := by decide
        omega)) c2 (by decide)
      have hsr : ∀ h0 : MH, h0.1 = h.1 → EL (mP L xs) (d + 7) 147 [rv 22 (some 0), iv (nI r), iv 4] h0 = some (.inl (some (iv (bif aSe kd then 1 else 0))), h0) := fun h0 e => (r_hasT (L := L) (xs := xs) (d := d + 6) M (h := h0) e).2.2.1
      cases hS : aSe kd with
      | false =>
        rw [hS] at hse hsr
        refine pr_exc (t := 3) hI (by decide) ?_ (fun h0 e => ?_)
        · simp only [List.cons_append, List.nil_append, E_Law_come, E_House_come, her, clR, if_neg c1, if_neg c2, onS_s, hse, clI, cond_false, if_true, clIx]; rfl
        · rw [hbeg h0 e, K_Ref_come_20, if_neg (by decide), if_neg c1, if_neg c2, hsr h0 e, clI, cond_false, if_pos rfl, K_Ref_come_52, hm3 h0 e, clI, if_pos rfl]
      | true =>
        rw [hS] at hse hsr
        have hml := Q.ml
        have h2 : h.1 15 r 2 = nI m := Q.mc
        by_cases c3 : m = 30
        · refine pr_val (v := -1) hI ?_ (fun h0 e => ?_)
          · have hj : EL (mP L xs) (d + 6) 143 [rv 15 (some r), iv (nI x), iv (h.1 11 0 9)] h = some (.inl (some (iv (-1))), h) := by
              rw [E_Queue_join, h2, c3, if_neg (by decide)]
            simp only [List.cons_append, List.nil_append, E_Law_come, E_House_come, her, clR, if_neg c1, if_neg c2, onS_s, hse, clI, cond_true, if_neg (show ¬ (1 : Int32) = 0 by decide), hj]
          · have e93 : (m3 h0.1 22 0 90 0) 93 0 r = 30 := by
              rw [m3_r (by decide), e, Q.mr, c3]
              rfl
            rw [hbeg h0 e, K_Ref_come_20, if_neg (by decide), if_neg c1, if_neg c2, hsr h0 e, clI, cond_true, if_neg (show ¬ (1 : Int32) = 0 by decide), K_Ref_come_52, may_1 (d := d + 6) (h0 := h0) (by rw [e]; exact hs'), clI, if_neg (show ¬ (1 : Int32) = 0 by decide)]
            simp only [nn, if_false, cl, e93, if_true]
        · have hm : m < 30 := by omega
          have hj := c_joinQ (L := L) (xs := xs) (d := d + 5) (f := h.1) (g := h.2.1) (b := nI x) (c := h.1 11 0 9) h2 hm h.2.2
          generalize hF : m3 (m3 (m3 (m3 h.1 23 r m (nI x)) 24 r m (h.1 11 0 9)) 15 r 2 (nI (m + 1))) 15 r 3 (h.1 15 r 3 + nI x) = F at hj
          have hj' : EL (mP L xs) (d + 6) 143 [rv 15 (some r), iv (nI x), iv (h.1 11 0 9)] h = some (.inl (some (iv (h.1 15 r 3 + nI x))), (F, h.2.1, h.2.2)) := hj
          have FR : ∀ R o j, ¬ (o = r ∧ (R = 23 ∨ R = 24 ∨ R = 15)) → F R o j = h.1 R o j := fun R o j z => by rw [← hF, m3_no (by omega), m3_no (by omega), m3_no (by omega), m3_no (by omega)]
          have eF : rN F = rN h.1 := by rw [← hF, rN_cls rfl, rN_cls rfl, rN_cls rfl, rN_cls rfl]
          generalize hXX : m3 h.2.2.1 99 0 0 (h.1 15 r 3 + nI x).toInt64 = XX
          generalize hU : m3 (m3 (m3 (m3 F 22 0 90 0) 94 0 (30 * r + m) (nI x)) 95 0 (30 * r + m) (F 22 0 79)) 93 0 r (nI (m + 1)) = U
          have hq : F 93 0 r = nI m := (FR 93 0 r (by omega)).trans Q.mr
          have T1 : TT B n s q rd ps en dp lp h.1 h.2.1 (m3 F 22 0 90 0) := TT_cr rfl rfl ((rN_thr F 0).trans eF) T
          have F23 : ∀ k, F 23 r k = if k = m then nI x else h.1 23 r k := fun k => by
            by_cases z : k = m
            · rw [if_pos z, z, ← hF, m3_r (by decide), m3_r (by decide), m3_r (by decide), m3_eq]
            · rw [if_neg z, ← hF, m3_r (by decide), m3_r (by decide), m3_r (by decide), m3_i z]
          have F24 : ∀ k, F 24 r k = if k = m then h.1 11 0 9 else h.1 24 r k := fun k => by
            by_cases z : k = m
            · rw [if_pos z, z, ← hF, m3_r (by decide), m3_r (by decide), m3_eq]
            · rw [if_neg z, ← hF, m3_r (by decide), m3_r (by decide), m3_i z, m3_r (by decide)]
          have U94 : ∀ k, U 94 0 (30 * r + k) = if k = m then nI x else h.1 94 0 (30 * r + k) := fun k => by
            by_cases z : k = m
            · rw [if_pos z, z, ← hU, m3_r (by decide), m3_r (by decide), m3_eq]
            · rw [if_neg z, ← hU, m3_r (by decide), m3_r (by decide), m3_i (by omega), m3_r (by decide), FR 94 0 _ (by omega)]
          have U95 : ∀ k, U 95 0 (30 * r + k) = if k = m then h.1 22 0 79 else h.1 95 0 (30 * r + k) := fun k => by
            by_cases z : k = m
            · rw [if_pos z, z, ← hU, m3_r (by decide), m3_eq, FR 22 0 79 (by omega)]
            · rw [if_neg z, ← hU, m3_r (by decide), m3_i (by omega), m3_r (by decide), m3_r (by decide), FR 95 0 _ (by omega)]
          have hcl : h.1 11 0 9 = h.1 22 0 79 := T.gb.1
          have hsum : sumN (F 23 r) (m + 1) = h.1 15 r 3 + nI x := by
            show sumN (F 23 r) m + F 23 r m = _
            rw [F23, if_pos rfl, Q.sm, sumN_congr (fun k hk => by rw [F23, if_neg (by omega)])]
          have hRQ : RQ F U r (m + 1) := by
            refine ⟨by omega, ?_, ?_, fun k hk => ?_, ?_, fun k hk => ?_⟩
            · rw [← hF, m3_i (by decide), m3_eq]
            · rw [← hU, m3_eq]
            · rw [F23, F24, U94, U95]
              by_cases z : k = m
              · rw [if_pos z, if_pos z, if_pos z, if_pos z]
                exact ⟨rfl, hcl⟩
              · rw [if_neg z, if_neg z, if_neg z, if_neg z]
                exact Q.rw k (by omega)
            · rw [hsum, ← hF, m3_eq]
            · rw [U94]
              by_cases z : k = m
              · rw [if_pos z]
                exact ⟨x, x1, rfl⟩
              · rw [if_neg z]
                exact Q.rg k (by omega)
          have T2 : TT B n s q rd ps en dp lp F h.2.1 U := by
            refine TT_que T1 hr (fun R o j w1 w2 => FR R o j w1) (fun R o j w1 w2 w3 => ?_) hRQ ?_
            · rw [← hU, m3_no (by omega), m3_no (by omega), m3_no (by omega)]
            · rw [FR 11 0 13 (by omega), ← hU, m3_r (by decide), m3_r (by decide), m3_r (by decide), m3_i (by decide), FR 22 0 83 (by omega)]
              exact T.gb.2.2.2.2.1
          have eU : cN U = cN F := by rw [← hU, cN_ref rfl, cN_ref rfl, cN_ref rfl, cN_thr]
          have UR : ∀ R o j, ¬ (R = 22 ∧ j = 90) → ¬ (R = 94 ∨ R = 95 ∨ R = 93) → U R o j = F R o j := fun R o j w1 w2 => by rw [← hU, m3_no (by omega), m3_no (by omega), m3_no (by omega), m3_no (by omega)]
          refine ⟨0, h.1 15 r 3 + nI x, (F, h.2.1, XX, h.2.2.2), (U, h.2.1, XX, h.2.2.2), ?_, ?_, ?_, fun _ => ?_, ?_⟩
          · simp only [List.cons_append, List.nil_append, E_Law_come, E_House_come, her, clR, if_neg c1, if_neg c2, onS_s, hse, clI, cond_true, if_neg (show ¬ (1 : Int32) = 0 by decide), hj', hXX]
          · have e19 : F 22 0 19 = h.1 22 0 19 := FR 22 0 19 (by omega)
            have e20 : F 22 0 20 = nI n := (FR 22 0 20 (by omega)).trans k2'
            have MF : RM h.1 h.2.1 F r kd := by
              have e42 : F 42 = h.1 42 := by funext o j; exact FR 42 o j (by omega)
              have MM := M
              unfold RM R_mot Rng R_abl at MM ⊢
              simp only [e42, FR 49 0 r (by omega), FR 50 0 r (by omega), FR 51 0 r (by omega), FR 52 0 r (by omega), FR 53 0 r (by omega), FR 54 0 r (by omega), FR 55 0 r (by omega), FR 56 0 r (by omega), FR 73 0 r (by omega), FR 74 0 r (by omega), FR 75 0 r (by omega), FR 76 0 r (by omega), FR 77 0 r (by omega), FR 78 0 r (by omega), FR 79 0 r (by omega), FR 80 0 r (by omega), FR 81 0 r (by omega)]
              exact MM
            have hsF : EL (mP L xs) (d + 7) 147 [rv 22 (some 0), iv (nI r), iv 4] (F, h.2.1, XX, h.2.2.2) = some (.inl (some (iv (bif aSe kd then 1 else 0))), (F, h.2.1, XX, h.2.2.2)) := (r_hasT (L := L) (xs := xs) (d := d + 6) MF (h := (F, h.2.1, XX, h.2.2.2)) rfl).2.2.1
            rw [hS] at hsF
            have e0 : (30 : Int32) * nI r + nI m = nI (30 * r + m) := by rw [show (30 : Int32) * nI r = nI (30 * r) from nI_mul 30 r, nI_add]
            have g1 : (m3 F 22 0 90 0) 93 0 r = nI m := (m3_r (by decide)).trans hq
            have g2 : (m3 (m3 F 22 0 90 0) 94 0 (30 * r + m) (nI x)) 93 0 r = nI m := (m3_r (by decide)).trans g1
            have g3 : (m3 (m3 F 22 0 90 0) 94 0 (30 * r + m) (nI x)) 22 0 79 = F 22 0 79 := (m3_r (by decide)).trans (m3_i (by decide))
            have g4 : (m3 (m3 (m3 F 22 0 90 0) 94 0 (30 * r + m) (nI x)) 95 0 (30 * r + m) (F 22 0 79)) 93 0 r = nI m := (m3_r (by decide)).trans g2
            have n30 : ¬ nI m = 30 := fun z => c3 ((nI_eq (b := 30) (by omega) (by decide)).mp z)
            have hqq : EL (mP L xs) (d + 7) 149 [rv 22 (some 0), iv (nI r)] (U, h.2.1, XX, h.2.2.2) = some (.inl (some (iv (h.1 15 r 3 + nI x))), (U, h.2.1, XX, h.2.2.2)) := by
              rw [e_Rqueue (d := d + 6) (h := (U, h.2.1, XX, h.2.2.2)) (m := m + 1) (by omega) (by omega) hRQ.mr, ← hsum, sumN_congr (fun k hk => (hRQ.rw k hk).1.symm)]
            have hbF : EL (mP L xs) (d + 8) 150 [rv 22 (some 0), iv (nI r), iv (nI x)] (F, h.2.1, XX, h.2.2.2) = RL (mP L xs) (d + 7) 150 20 [some (rv 22 (some 0)), some (iv (nI r)), some (iv (nI x)), none] [iv 1] (F, h.2.1, XX, h.2.2.2) := by
              rw [E_Ref_come, if_neg (by show ¬ F 22 0 19 = 0; rw [e19]; exact hs'), hir (F, h.2.1, XX, h.2.2.2) e20, clI, if_neg (by decide)]
            refine hbF.trans ?_
            rw [K_Ref_come_20, if_neg (by decide), if_neg c1, if_neg c2, hsF, clI, cond_true, if_neg (show ¬ (1 : Int32) = 0 by decide), K_Ref_come_52, may_1 (d := d + 6) (h0 := (F, h.2.1, XX, h.2.2.2)) (by show ¬ F 22 0 19 = 0; rw [e19]; exact hs'), clI, if_neg (show ¬ (1 : Int32) = 0 by decide)]
            simp only [nn, if_false, cl, g1, if_neg n30, e0, if_neg (nin (show 30 * r + m < 360 by omega) (show 360 < 2 ^ 31 by decide)), nI_clamp (show 30 * r + m < 2 ^ 31 by omega), g2, g3, g4, nI_1, hU, hqq, clI]
          · show U 22 0 90 = 0
            rw [← hU, m3_r (by decide), m3_r (by decide), m3_r (by decide), m3_eq]
          · show XX 99 0 0 = _
            rw [← hXX, m3_eq]
          · have eUF : ∀ R o j, ¬ (R = 22 ∧ j = 90) → ¬ (R = 94 ∨ R = 95 ∨ R = 93) → ¬ (R = 23 ∨ R = 24 ∨ R = 15) → U R o j = h.1 R o j := fun R o j w1 w2 w3 => (UR R o j w1 w2).trans (FR R o j (by omega))
            obtain ⟨l, l1, l2, -⟩ := hB
            refine Iv_st hI (fun j hj => eUF 21 0 j (by omega) (by omega) (by omega)) (fun k => eUF 40 0 k (by omega) (by omega) (by omega)) (fun j hj => eUF 22 0 j (by omega) (by omega) (by omega)) (fun k => eUF 43 0 k (by omega) (by omega) (by omega)) ⟨n, s, q, rd, ps, en, dp, lp, TT_cr (f := F) (g := h.2.1) (u := U) eU rfl rfl T2, fun k hk => ?_⟩ ?_ (Nat.le_succ _) (Nat.le_add_right _ _)
            · show Upto (U 58 0 k) 9
              rw [eUF 58 0 k (by omega) (by omega) (by omega)]
              exact A9 k hk
            · exact hBB
    · refine pr_exc (t := 2) hI (by decide) ?_ (fun h0 e => ?_)
      · simp only [List.cons_append, List.nil_append, E_Law_come, E_House_come, e_ride3 (d := d + 4) hs (show ¬ (¬ a < 0 ∧ a < h.1 11 0 4) by rw [k1']; exact hk), clRx, clIx]; rfl
      · rw [E_Ref_come, if_neg (by rw [e]; exact hs'), e_isRide, if_neg (show ¬ (¬ a < 0 ∧ a < h0.1 22 0 20) by rw [e, k2']; exact hk), clI, if_pos rfl, K_Ref_come_20, if_pos rfl, K_Ref_come_52, e_may (h := h0) 0 0 2 (by rw [e, if_neg hs']; rfl), clI]
        rfl
end Com
