/-! ===== the questions that change nothing; set ===== -/
section Set2
variable {L : Nat} {xs : Nat → Int32} {d i : Nat} {SC : MI → MR → MI → Nat → Prop}
theorem p_set2 (hSC2 : ∀ f g u (j : Nat) (v : Int32) r, j < 8 → (v = 0 ∨ v = 1) → SC f g u r → SC (m3 f 11 0 7 (putF (f 11 0 7) (nI j) v)) g (m3 u 92 0 j v) r) (a v : Int32) (hv : v = 0 ∨ v = 1) : prB (mP L xs) (d + 4) (Iv (R_fair SC) i) (Iv (R_fair SC) (i + 6)) 259 260 [iv a, iv v] := by
  intro h hI
  obtain ⟨ht, ⟨y1, y2, f3, f4⟩, f5⟩ := hI.1
  have f3' : h.1 21 0 5 = h.1 22 0 19 := f3
  have hq := q_House_set_0 L xs (EL (mP L xs) (d + 2)) (RL (mP L xs) (d + 2) 258) a v h
  by_cases hs : h.1 21 0 5 = 0
  · exact ⟨1, 0, cat (thr h), (m3 h.1 22 0 90 1, (cat (thr h)).2), w_setX (Or.inl ⟨rfl, rfl⟩) (EL_by (hq.trans (by rw [e_nFlag0 hs]; rfl))), EL_mono (Nat.le_add_right (d + 2) 2) (r_set (h := cat (thr h)) (Or.inl ⟨f3'.symm.trans hs, rfl⟩)), rfl, fun z => absurd z (by decide), Iv_ro hI rfl rfl (Nat.le_refl _) (Nat.le_refl _)⟩
  · have hs' : ¬ h.1 22 0 19 = 0 := fun z => hs (f3'.trans z)
    obtain ⟨n, s, q, ⟨-, -, hq8, -, -, ⟨k1, k2⟩, -⟩, -, -, -, hfl, -⟩ := f5 (f4.resolve_left hs)
    have k1' : h.1 11 0 6 = nI q := k1
    have k2' : h.1 22 0 22 = nI q := k2
    by_cases hin : ¬ a < 0 ∧ a < nI q
    · obtain ⟨j, hj, rfl⟩ := nI_of hin.1
      have hjs : j < q := (nI_ltI hj (by omega)).mp hin.2
      have hj8 : j < 8 := by omega
      have hu : h.1 92 0 j = (h.1 11 0 7 >>> (nI j &&& 31)) &&& 1 := hfl j hjs
      have hu2 : (if h.1 92 0 j = 0 then (0 : Int32) else 1) = h.1 92 0 j := by
        rw [hu, fbit _ hj8]
        cases (h.1 11 0 7).toBitVec.getLsbD j <;> decide
      have hv1 : v &&& 1 = v := by rcases hv with rfl | rfl <;> decide
      refine ⟨0, if h.1 92 0 j = v then 0 else 1, (m3 h.1 11 0 7 (putF (h.1 11 0 7) (nI j) v), h.2.1, m3 h.2.2.1 99 0 0 (if (if h.1 92 0 j = v then (0 : Int32) else 1) = 0 then 0 else 1), h.2.2.2), (m3 (m3 (m3 h.1 11 0 7 (putF (h.1 11 0 7) (nI j) v)) 22 0 90 0) 92 0 j v, h.2.1, m3 h.2.2.1 99 0 0 (if (if h.1 92 0 j = v then (0 : Int32) else 1) = 0 then 0 else 1), h.2.2.2), w_set (h1 := (m3 h.1 11 0 7 (putF (h.1 11 0 7) (nI j) v), h.2)) (EL_by (hq.trans ?_)), ?_, rfl, fun _ => rfl, ⟨?_, Res_step hI.2 rfl (Nat.le_succ _) (Nat.le_add_right _ _)⟩⟩
      · rw [e_nFlag hs hin.1 (by rw [k1']; exact hin.2)]
        simp only [mclV]
        rw [EL_mono (Nat.le_add_left 1 (d + 1)) (e_flagUp (d := 0) (nI j) h), ← hu, hu2]
        simp only [mclI]
        rw [EL_mono (Nat.le_add_left 1 (d + 1)) (e_putFlag (d := 0) (nI j) v h)]
        simp only []
        by_cases z : h.1 92 0 j = v
        · rw [if_pos z, if_pos z]
        · rw [if_neg z, if_neg z]
      · refine EL_mono (Nat.le_add_right (d + 2) 2) (r_set0 (w := 1) (Or.inl ⟨⟨hin.1, ?_⟩, rfl⟩) (RL_cut (j := 19) (cut := [18]) ?_))
        · show nI j < h.1 22 0 22
          rw [k2']
          exact hin.2
        · rw [q_Ref_set_18, e_may 1 1 0 _ (by show (if h.1 22 0 19 = 0 then (1 : Int32) else if (1 : Int32) = 0 then 2 else if (1 : Int32) = 0 then 3 else 0) = 0; rw [if_neg hs']; rfl)]
          simp only [mclI, if_true]
          rw [if_neg (by decide)]
          simp only [if_neg (nI_in hj8 (by decide : (8 : Nat) < 2 ^ 31)), nI_clamp (show j < 2 ^ 31 by omega), hv1]
          by_cases z : h.1 92 0 j = v
          · rw [if_pos z, if_pos (show (m3 (m3 h.1 11 0 7 (putF (h.1 11 0 7) (nI j) v)) 22 0 90 0) 92 0 j = v from z)]
          · rw [if_neg z, if_neg (show ¬ (m3 (m3 h.1 11 0 7 (putF (h.1 11 0 7) (nI j) v)) 22 0 90 0) 92 0 j = v from z)]
      · show RelF (R_fair SC) (cN (m3 (m3 (m3 h.1 11 0 7 (putF (h.1 11 0 7) (nI j) v)) 22 0 90 0) 92 0 j v)) (gN h.2.1) (rN (m3 (m3 (m3 h.1 11 0 7 (putF (h.1 11 0 7) (nI j) v)) 22 0 90 0) 92 0 j v))
        rw [cN_ref rfl, cN_thr, cN_put rfl, rN_put rfl rfl, rN_thr, rN_cls rfl]
        exact ⟨ht, ⟨y1, y2, f3, f4⟩, fun z => fair_set (f := cN h.1) hj8 hv (fun r => hSC2 _ _ _ j v r hj8 hv) (f5 z)⟩
    · refine ⟨2, 0, cat (thr h), (m3 h.1 22 0 90 2, (cat (thr h)).2), w_setX (h1 := thr h) (Or.inr ⟨rfl, rfl⟩) (EL_by (hq.trans ?_)), EL_mono (Nat.le_add_right (d + 2) 2) (r_set (h := cat (thr h)) (Or.inr ⟨hs', ?_, rfl⟩)), rfl, fun z => absurd z (by decide), Iv_ro hI rfl rfl (Nat.le_refl _) (Nat.le_refl _)⟩
      · rw [e_nFlag3 hs (by rw [k1']; exact hin)]
        rfl
      · show ¬ (¬ a < 0 ∧ a < h.1 22 0 22)
        rw [k2']
        exact hin
end Set2
section Ro
variable {L : Nat} {xs : Nat → Int32} {d D i B : Nat} {RF : MI → MR → MI → Prop}
theorem pr_val {mw mr : Nat} {as : List MV} {h : MH} (hI : Iv RF i h) {v : Int32} (hw : EL (mP L xs) D mw (rv 21 (some 0) :: (as ++ [rv 99 (some 0)])) h = some (.inl (some (iv 0)), (h.1, h.2.1, m3 h.2.2.1 99 0 0 v.toInt64, h.2.2.2)))
    (hr : ∀ h0 : MH, h0.1 = h.1 → EL (mP L xs) D mr (rv 22 (some 0) :: as) h0 = some (.inl (some (iv v)), (m3 h0.1 22 0 90 0, h0.2))) :
    ∃ (k b : Int32) (h1 h2 : MH), EL (mP L xs) D mw (rv 21 (some 0) :: (as ++ [rv 99 (some 0)])) h = some (.inl (some (iv k)), h1) ∧ EL (mP L xs) D mr (rv 22 (some 0) :: as) h1 = some (.inl (some (iv b)), h2) ∧ h2.1 22 0 90 = k ∧ (k = 0 → h2.2.2.1 99 0 0 = b.toInt64) ∧ Iv RF (i + 6) h2 :=
  ⟨0, v, _, _, hw, hr _ rfl, rfl, fun _ => rfl, Iv_ro hI rfl rfl (Nat.le_succ _) (Nat.le_add_right _ _)⟩
theorem pr_exc {mw mr : Nat} {as : List MV} {h : MH} (hI : Iv RF i h) {t : Int32} (ht : t ≠ 0) (hw : EL (mP L xs) D mw (rv 21 (some 0) :: (as ++ [rv 99 (some 0)])) h = some (.inl (some (iv t)), cat (thr h)))
    (hr : ∀ h0 : MH, h0.1 = h.1 → EL (mP L xs) D mr (rv 22 (some 0) :: as) h0 = some (.inl (some (iv 0)), (m3 h0.1 22 0 90 t, h0.2))) :
    ∃ (k b : Int32) (h1 h2 : MH), EL (mP L xs) D mw (rv 21 (some 0) :: (as ++ [rv 99 (some 0)])) h = some (.inl (some (iv k)), h1) ∧ EL (mP L xs) D mr (rv 22 (some 0) :: as) h1 = some (.inl (some (iv b)), h2) ∧ h2.1 22 0 90 = k ∧ (k = 0 → h2.2.2.1 99 0 0 = b.toInt64) ∧ Iv RF (i + 6) h2 :=
  ⟨t, 0, _, _, hw, hr _ rfl, rfl, fun z => absurd z ht, Iv_ro hI rfl rfl (Nat.le_refl _) (Nat.le_refl _)⟩
/-- may, by what is so -/
theorem may_1 {h0 : MH} (hs : ¬ h0.1 22 0 19 = 0) : EL (mP L xs) (d + 1) 148 [rv 22 (some 0), iv 1, iv 1] h0 = some (.inl (some (iv 1)), (m3 h0.1 22 0 90 0, h0.2)) := e_may (h := h0) 1 1 0 (by rw [if_neg hs]; rfl)
theorem may_0 {h0 : MH} (hs : ¬ h0.1 22 0 19 = 0) : EL (mP L xs) (d + 1) 148 [rv 22 (some 0), iv 0, iv 1] h0 = some (.inl (some (iv 0)), (m3 h0.1 22 0 90 2, h0.2)) := e_may (h := h0) 0 1 2 (by rw [if_neg hs]; rfl)
theorem may_n {w : Int32} {h0 : MH} (hs : h0.1 22 0 19 = 0) : EL (mP L xs) (d + 1) 148 [rv 22 (some 0), iv w, iv 1] h0 = some (.inl (some (iv 0)), (m3 h0.1 22 0 90 1, h0.2)) := e_may (h := h0) w 1 1 (if_pos hs)
theorem TX_thr {f : MI} {g : MR} {u : MI} {t : Int32} (T : TX B f g u) : TX B f g (m3 u 22 0 90 t) := T.cr rfl rfl (rN_thr u t)
/-! ===== promise 11: says ===== -/
theorem p_says (a b : Int32) : prI (mP L xs) (d + 8) (Iv (RFx B) i) (Iv (RFx B) (i + 6)) 244 246 [iv a, iv b] := by
  intro h hI
  obtain ⟨ht, ⟨y1, y2, f3, f4⟩, f5⟩ := hI.1
  have f3' : h.1 21 0 5 = h.1 22 0 19 := f3
  by_cases hs : h.1 21 0 5 = 0
  · have hs' : h.1 22 0 19 = 0 := f3'.symm.trans hs
    refine pr_exc (t := 1) hI (by decide) ?_ (fun h0 e => ?_)
    · simp only [List.cons_append, List.nil_append, E_Law_says, E_House_says, e_ride0 hs, clRx, clIx, if_true]; rfl
    · have hm : ∀ w : Int32, EL (mP L xs) (d + 7) 148 [rv 22 (some 0), iv w, iv 1] h0 = some (.inl (some (iv 0)), (m3 h0.1 22 0 90 1, h0.2)) := fun w => may_n (by rw [e]; exact hs')
      simp only [E_Ref_says, K_Ref_says_23, e_isRide, clI, hm, if_true, ite_self]
  · have hs' : ¬ h.1 22 0 19 = 0 := fun z => hs (f3'.trans z)
    have TX0 := Iv_tt hI hs
    obtain ⟨n, s, q, rd, ps, en, dp, lp, T, -⟩ := TX_thr (t := 0) TX0
    have hn := T.n12
    have k1' : h.1 11 0 4 = nI n := T.cn.2.2.2.1.1
    have k2' : h.1 22 0 20 = nI n := T.cn.2.2.2.1.2
    have m1 := fun (h0 : MH) (e : h0.1 = h.1) => may_1 (L := L) (xs := xs) (d := d + 6) (h0 := h0) (by rw [e]; exact hs')
    have m0 := fun (h0 : MH) (e : h0.1 = h.1) => may_0 (L := L) (xs := xs) (d := d + 6) (h0 := h0) (by rw [e]; exact hs')
    by_cases hk : ¬ a < 0 ∧ a < nI n
    · obtain ⟨z1, z2⟩ := hk
      obtain ⟨r, hr9, rfl⟩ := nI_of z1
      have hr : r < n := (nI_ltI hr9 (by omega)).mp z2
      obtain ⟨⟨kd, M⟩, -⟩ := T.rr r hr
      have her := e_ride (L := L) (xs := xs) (d := d + 4) hs (show r < 12 by omega) (by rw [k1']; exact z2)
      have hir : ∀ h0 : MH, h0.1 = h.1 → EL (mP L xs) (d + 7) 146 [rv 22 (some 0), iv (nI r)] h0 = some (.inl (some (iv 1)), h0) := fun h0 e => by
        rw [e_isRide, if_pos ⟨z1, by rw [e, k2']; exact z2⟩]
      by_cases hb : ¬ b < 0 ∧ ¬ 4 < b
      · have go : ∀ v : Int32, EL (mP L xs) (d + 7) 243 [rv 21 (some 0), iv (nI r), iv b] h = some (.inl (some (iv v)), h) → (∀ h0 : MH, h0.1 = h.1 → RL (mP L xs) (d + 7) 246 23 [some (rv 22 (some 0)), some (iv (nI r)), some (iv b)] [iv 1, rv 22 (some 0)] h0 = some (.inl (some (iv v)), (m3 h0.1 22 0 90 0, h0.2))) → _ := fun v c1 c2 => pr_val (L := L) (xs := xs) (mw := 244) (mr := 246) (as := [iv (nI r), iv b]) (D := d + 8) (v := v) hI (by
          simp only [List.cons_append, List.nil_append, E_Law_says, c1, clI]) (fun h0 e => by
          rw [E_Ref_says, hir h0 e, clI, if_neg (show ¬ (1 : Int32) = 0 by decide), if_neg hb.1, if_neg hb.2, c2 h0 e])
        obtain ⟨j, hj, rfl⟩ := nI_of2 (M := 4) (n := 4) rfl hb.1 (Int32.not_lt.mp hb.2)
        match j, hj with
        | 0, _ =>
          obtain ⟨v, -, v1, v2⟩ := b_uni (L := L) (xs := xs) (f := h.1) (g := h.2.1) (u := m3 h.1 22 0 90 0) (Pv := fun _ => True) (mc := 196) (ac := [rv 16 (some r)]) (mr := 232) (ar := [rv 22 (some 0), iv (nI r)]) (fun d X Y => by
            obtain ⟨k, k1, k2, k3⟩ := b_draw (L := L) (xs := xs) (d := d) M (hc := (h.1, h.2.1, X)) (hr := (m3 h.1 22 0 90 0, Y)) rfl rfl
            exact ⟨nI k, trivial, k2, k3⟩)
          have v1' : EL (mP L xs) (d + 6) 196 [rv 16 (some r)] h = some (.inl (some (iv v)), h) := v1 (d + 4) h.2.2
          refine go v ?_ (fun h0 e => ?_)
          · rw [E_House_says, her, clR, if_pos nI_0, onS_s, v1', clI]
          · have v2' : EL (mP L xs) (d + 7) 232 [rv 22 (some 0), iv (nI r)] (m3 h0.1 22 0 90 0, h0.2) = some (.inl (some (iv v)), (m3 h0.1 22 0 90 0, h0.2)) := by
              rw [e]
              exact v2 (d + 5) h0.2
            rw [K_Ref_says_23, m1 h0 e, clI, if_neg (by decide), if_pos nI_0, v2', clI]
        | 1, _ =>
          obtain ⟨v, -, v1, v2⟩ := b_uni (L := L) (xs := xs) (f := h.1) (g := h.2.1) (u := m3 h.1 22 0 90 0) (Pv := fun _ => True) (mc := 242) (ac := [rv 16 (some r)]) (mr := 245) (ar := [rv 22 (some 0), iv (nI r)]) (fun d X Y => by
            obtain ⟨k, k1, k2, k3⟩ := b_noise (L := L) (xs := xs) (d := d) M (hc := (h.1, h.2.1, X)) (hr := (m3 h.1 22 0 90 0, Y)) rfl rfl
            exact ⟨nI k, trivial, k2, k3⟩)
          have v1' : EL (mP L xs) (d + 6) 242 [rv 16 (some r)] h = some (.inl (some (iv v)), h) := v1 (d + 4) h.2.2
          refine go v ?_ (fun h0 e => ?_)
          · rw [E_House_says, her, clR, if_neg (by decide), if_pos (by decide), onS_s, v1', clI]
          · have v2' : EL (mP L xs) (d + 7) 245 [rv 22 (some 0), iv (nI r)] (m3 h0.1 22 0 90 0, h0.2) = some (.inl (some (iv v)), (m3 h0.1 22 0 90 0, h0.2)) := by
              rw [e]
              exact v2 (d + 5) h0.2
            rw [K_Ref_says_23, m1 h0 e, clI, if_neg (by decide), if_neg (by decide), if_pos (by decide), v2', clI]
        | 2, _ =>
          obtain ⟨v, -, v1, v2⟩ := b_uni (L := L) (xs := xs) (f := h.1) (g := h.2.1) (u := m3 h.1 22 0 90 0) (Pv := fun _ => True) (mc := 205) (ac := [rv 16 (some r)]) (mr := 235) (ar := [rv 22 (some 0), iv (nI r)]) (fun d X Y => by
            obtain ⟨k, k1, k2, k3⟩ := b_tear (L := L) (xs := xs) (d := d) M (hc := (h.1, h.2.1, X)) (hr := (m3 h.1 22 0 90 0, Y)) rfl rfl
            exact ⟨nI k, trivial, k2, k3⟩)
          have v1' : EL (mP L xs) (d + 6) 205 [rv 16 (some r)] h = some (.inl (some (iv v)), h) := v1 (d + 4) h.2.2
          refine go v ?_ (fun h0 e => ?_)
          · rw [E_House_says, her, clR, if_neg (by decide), if_neg (by decide), if_pos (by decide), onS_s, v1', clI]
          · have v2' : EL (mP L xs) (d + 7) 235 [rv 22 (some 0), iv (nI r)] (m3 h0.1 22 0 90 0, h0.2) = some (.inl (some (iv v)), (m3 h0.1 22 0 90 0, h0.2)) := by
              rw [e]
              exact v2 (d + 5) h0.2
            rw [K_Ref_says_23, m1 h0 e, clI, if_neg (by decide), if_neg (by decide), if_neg (by decide), if_pos (by decide), v2', clI]
        | 3, _ =>
          obtain ⟨v, v0, v1, v2⟩ := b_uni (L := L) (xs := xs) (f := h.1) (g := h.2.1) (u := m3 h.1 22 0 90 0) (Pv := fun v => v = 0 ∨ v = 1) (mc := 170) (ac := [rv 16 (some r)]) (mr := 219) (ar := [rv 22 (some 0), iv (nI r)]) (fun d X Y => by
            obtain ⟨k, k2, k3⟩ := b_calm (L := L) (xs := xs) (d := d) M (hc := (h.1, h.2.1, X)) (hr := (m3 h.1 22 0 90 0, Y)) rfl rfl
            exact ⟨_, by cases k; exact Or.inl rfl; exact Or.inr rfl, k2, k3⟩)
          have v1' : EL (mP L xs) (d + 6) 170 [rv 16 (some r)] h = some (.inl (some (iv v)), h) := v1 (d + 4) h.2.2
          have hv : (if v = 0 then (0 : Int32) else 1) = v := by rcases v0 with rfl | rfl <;> decide
          refine go v ?_ (fun h0 e => ?_)
          · rw [E_House_says, her, clR, if_neg (by decide), if_neg (by decide), if_neg (by decide), if_pos (by decide), onS_s, v1', clI, ite_val, hv]
          · have v2' : EL (mP L xs) (d + 7) 219 [rv 22 (some 0), iv (nI r)] (m3 h0.1 22 0 90 0, h0.2) = some (.inl (some (iv v)), (m3 h0.1 22 0 90 0, h0.2)) := by
              rw [e]
              exact v2 (d + 5) h0.2
            rw [K_Ref_says_23, m1 h0 e, clI, if_neg (by decide), if_neg (by decide), if_neg (by decide), if_neg (by decide), if_pos (by decide), v2', clI, ite_val, hv]
        | 4, _ =>
          obtain ⟨v, -, v1, v2⟩ := b_uni (L := L) (xs := xs) (f := h.1) (g := h.2.1) (u := m3 h.1 22 0 90 0) (Pv := fun _ => True) (mc := 203) (ac := [rv 16 (some r)]) (mr := 234) (ar := [rv 22 (some 0), iv (nI r)]) (fun d X Y => by
            obtain ⟨k, k2, k3⟩ := b_limit (L := L) (xs := xs) (d := d) M (hc := (h.1, h.2.1, X)) (hr := (m3 h.1 22 0 90 0, Y)) rfl rfl
            exact ⟨k, trivial, k2, k3⟩)
          have v1' : EL (mP L xs) (d + 6) 203 [rv 16 (some r)] h = some (.inl (some (iv v)), h) := v1 (d + 4) h.2.2
          refine go v ?_ (fun h0 e => ?_)
          · rw [E_House_says, her, clR, if_neg (by decide), if_neg (by decide), if_neg (by decide), if_neg (by decide), if_pos (by decide), onS_s, v1', clI]
          · have v2' : EL (mP L xs) (d + 7) 234 [rv 22 (some 0), iv (nI r)] (m3 h0.1 22 0 90 0, h0.2) = some (.inl (some (iv v)), (m3 h0.1 22 0 90 0, h0.2)) := by
              rw [e]
              exact v2 (d + 5) h0.2
            rw [K_Ref_says_23, m1 h0 e, clI, if_neg (by decide), if_neg (by decide), if_neg (by decide), if_neg (by decide), if_neg (by decide), v2', clI]
      · refine pr_exc (t := 2) hI (by decide) ?_ (fun h0 e => ?_)
        · have b0 : ¬ b = 0 := fun z => hb (by subst z; decide)
          have b1 : ¬ b = 1 := fun z => hb (by subst z; decide)
          have b2 : ¬ b = 2 := fun z => hb (by subst z; decide)
          have b3 : ¬ b = 3 := fun z => hb (by subst z; decide)
          have b4 : ¬ b = 4 := fun z => hb (by subst z; decide)
          simp only [List.cons_append, List.nil_append, E_Law_says, E_House_says, her, clR, if_neg b0, if_neg b1, if_neg b2, if_neg b3, if_neg b4, clIx]; rfl
        · rw [E_Ref_says, hir h0 e, clI, if_neg (show ¬ (1 : Int32) = 0 by decide)]
          by_cases c1 : b < 0
          · rw [if_pos c1, K_Ref_says_23, m0 h0 e, clI, if_pos rfl]
          · rw [if_neg c1, if_pos (Decidable.by_contra (fun z => hb ⟨c1, z⟩)), K_Ref_says_23, m0 h0 e, clI, if_pos rfl]
    · refine pr_exc (t := 2) hI (by decide) ?_ (fun h0 e => ?_)
      · simp only [List.cons_append, List.nil_append, E_Law_says, E_House_says, e_ride3 (d := d + 4) hs (show ¬ (¬ a < 0 ∧ a < h.1 11 0 4) by rw [k1']; exact hk), clRx, clIx]; rfl
      · rw [E_Ref_says, e_isRide, if_neg (show ¬ (¬ a < 0 ∧ a < h0.1 22 0 20) by rw [e, k2']; exact hk), clI, if_pos rfl, K_Ref_says_23, m0 h0 e, clI, if_pos rfl]
end Ro
