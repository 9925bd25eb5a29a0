/-! ===== script, total ===== -/
section Qst
variable {L : Nat} {xs : Nat → Int32} {d D i B : Nat} {RF : MI → MR → MI → Prop}
/-! ===== promise 12: script ===== -/
theorem p_script (a b : Int32) : prI (mP L xs) (d + 8) (Iv (RFx B) i) (Iv (RFx B) (i + 6)) 249 250 [iv a, iv b] := by
  intro h hI
  obtain ⟨ht, ⟨y1, y2, f3, f4⟩, f5⟩ := hI.1
  have f3' : h.1 21 0 5 = h.1 22 0 19 := f3
  by_cases hs : h.1 21 0 5 = 0
  · have hs' : h.1 22 0 19 = 0 := f3'.symm.trans hs
    refine pr_exc (t := 1) hI (by decide) ?_ (fun h0 e => ?_)
    · simp only [List.cons_append, List.nil_append, E_Law_script, E_House_script, e_ride0 hs, clRx, clIx, if_true]; rfl
    · have hm : ∀ w : Int32, EL (mP L xs) (d + 7) 148 [rv 22 (some 0), iv w, iv 1] h0 = some (.inl (some (iv 0)), (m3 h0.1 22 0 90 1, h0.2)) := fun w => may_n (by rw [e]; exact hs')
      simp only [E_Ref_script, K_Ref_script_24, e_isRide, clI, hm, if_true, ite_self]
  · have hs' : ¬ h.1 22 0 19 = 0 := fun z => hs (f3'.trans z)
    have TX0 := Iv_tt hI hs
    obtain ⟨n, s, q, rd, ps, en, dp, lp, T, -⟩ := TX0
    have hn := T.n12
    have k1' : h.1 11 0 4 = nI n := T.cn.2.2.2.1.1
    have k2' : h.1 22 0 20 = nI n := T.cn.2.2.2.1.2
    have m1 := fun (h0 : MH) (e : h0.1 = h.1) => may_1 (L := L) (xs := xs) (d := d + 6) (h0 := h0) (by rw [e]; exact hs')
    have m0 := fun (h0 : MH) (e : h0.1 = h.1) => may_0 (L := L) (xs := xs) (d := d + 6) (h0 := h0) (by rw [e]; exact hs')
    by_cases hk : ¬ a < 0 ∧ a < nI n
    · obtain ⟨z1, z2⟩ := hk
      obtain ⟨r, hr9, rfl⟩ := nI_of z1
      have hr : r < n := (nI_ltI hr9 (by omega)).mp z2
      have her := e_ride (L := L) (xs := xs) (d := d + 4) hs (show r < 12 by omega) (by rw [k1']; exact z2)
      have hir : ∀ h0 : MH, h0.1 = h.1 → EL (mP L xs) (d + 7) 146 [rv 22 (some 0), iv (nI r)] h0 = some (.inl (some (iv 1)), h0) := fun h0 e => by
        rw [e_isRide, if_pos ⟨z1, by rw [e, k2']; exact z2⟩]
      have nn : ¬ ino (nI r) 12 := nin (by omega) (by decide)
      have cl : (nI r).toNatClampNeg = r := nI_clamp (by omega)
      obtain ⟨q1, q2, q3, q4, q5⟩ := (T.rr r hr).ra
      by_cases hb : ¬ b < 0 ∧ ¬ 7 < b
      · have go : ∀ v : Int32, EL (mP L xs) (d + 6) 247 [rv 18 (some r), iv b] h = some (.inl (some (iv v)), h) → (∀ h0 : MH, h0.1 = h.1 → RL (mP L xs) (d + 7) 250 24 [some (rv 22 (some 0)), some (iv (nI r)), some (iv b)] [iv 1, rv 22 (some 0)] h0 = some (.inl (some (iv v)), (m3 h0.1 22 0 90 0, h0.2))) → _ := fun v c1 c2 => pr_val (L := L) (xs := xs) (mw := 249) (mr := 250) (as := [iv (nI r), iv b]) (D := d + 8) (v := v) hI (by
          simp only [List.cons_append, List.nil_append, E_Law_script, E_House_script, her, clR, if_neg hb.1, if_neg hb.2, onS_s, c1, clI]) (fun h0 e => by
          rw [E_Ref_script, hir h0 e, clI, if_neg (show ¬ (1 : Int32) = 0 by decide), if_neg hb.1, if_neg hb.2, c2 h0 e])
        obtain ⟨j, hj, rfl⟩ := nI_of2 (M := 7) (n := 7) rfl hb.1 (Int32.not_lt.mp hb.2)
        have kc := E_Script_told (L := L) (xs := xs) (d := d + 5) r (nI j) h
        have ku := fun (h0 : MH) (e : h0.1 = h.1) => (K_Ref_script_24 (L := L) (xs := xs) (d := d + 7) (nI r) (nI j) 1 h0).trans (by rw [m1 h0 e, clI])
        simp only [nn, if_false, cl, if_neg (show ¬ (1 : Int32) = 0 by decide)] at ku
        by_cases j4 : 4 ≤ j
        · obtain ⟨k, rfl⟩ : ∃ k, j = k + 4 := ⟨j - 4, by omega⟩
          have e0 : ¬ nI (k + 4) = 0 := fun z => by have := (nI_eq (b := 0) (by omega) (by decide)).mp z; omega
          have e1 : ¬ nI (k + 4) = 1 := fun z => by have := (nI_eq (b := 1) (by omega) (by decide)).mp z; omega
          have e2 : ¬ nI (k + 4) = 2 := fun z => by have := (nI_eq (b := 2) (by omega) (by decide)).mp z; omega
          have e3 : ¬ nI (k + 4) = 3 := fun z => by have := (nI_eq (b := 3) (by omega) (by decide)).mp z; omega
          have es : nI (k + 4) - 4 = nI k := nI_sub (a := k + 4) (b := 4) (by omega)
          have et : (4 : Int32) * nI r + nI (k + 4) - 4 = nI (4 * r + k) := by
            rw [show (4 : Int32) * nI r = nI (4 * r) from nI_mul 4 r, nI_add]
            exact nI_sub (a := 4 * r + (k + 4)) (b := 4) (by omega)
          refine go (h.1 88 0 (4 * r + k)) ?_ (fun h0 e => ?_)
          · rw [kc, if_neg e0, if_neg e1, if_neg e2, if_neg e3, es, if_neg (nI_pos (by omega)), if_pos (show nI k < 4 from nI_lt (b := 4) (by omega) (by decide)), if_neg (nin (show k < 4 by omega) (by decide)), nI_clamp (by omega), q4 k (by omega)]
          · rw [ku h0 e, if_neg e0, if_neg e1, if_neg e2, if_neg e3, et, if_neg (nin (show 4 * r + k < 48 by omega) (by decide)), nI_clamp (by omega), m3_r (by decide), e]
        · match j, j4 with
          | 0, _ =>
            refine go (h.1 82 0 r) ?_ (fun h0 e => ?_)
            · rw [kc, if_pos nI_0, q1]
            · rw [ku h0 e, if_pos nI_0, m3_r (by decide), e]
          | 1, _ =>
            refine go (h.1 83 0 r) ?_ (fun h0 e => ?_)
            · rw [kc, if_neg (by decide), if_pos (by decide), q2]
            · rw [ku h0 e, if_neg (by decide), if_pos (by decide), m3_r (by decide), e]
          | 2, _ =>
            have kc2 : EL (mP L xs) (d + 6) 247 [rv 18 (some r), iv (nI 2)] h = _ := kc.trans (by rw [if_neg (by decide), if_neg (by decide), if_pos (by decide)])
            have ku2 := fun h0 e => (ku h0 e).trans (by rw [if_neg (by decide), if_neg (by decide), if_pos (by decide), m3_r (show 82 ≠ 22 by decide), m3_r (show 84 ≠ 22 by decide), e])
            simp only [m3_r (show 59 ≠ 22 by decide), m3_r (show 60 ≠ 22 by decide)] at ku2
            rcases (T.rr r hr).po with ⟨x, A⟩ | ⟨h1, h2⟩ | ⟨h1, h2, k, x1, x2, x3, -⟩
            · have H := T.loc hr A.rd
              have hpl := H.pl
              have hop : h.1 59 0 (ps x) ≠ 54 := by
                by_cases z : h.1 19 x 0 = 401
                · rcases H.kd with y | y | y
                  · simp (decide := true) only [KdA, z, false_and, and_false, or_false] at y
                  · simp (decide := true) only [KdB, z, false_and, or_false] at y
                  · obtain ⟨-, b, -, ⟨-, y⟩ | ⟨-, y⟩, -⟩ := y <;> rw [y] <;> decide
                · exact (H.op z).2.2
              refine go (h.1 60 0 (ps x)) ?_ (fun h0 e => ?_)
              · rw [kc2, A.sp, if_neg (fun z => nomatch z), onS_s, H.at_]
              · rw [ku2 h0 e, e]
                simp only [A.st, if_true, A.nx, if_neg (nin hpl (show 6100 < 2 ^ 31 by decide)), nI_clamp (show ps x < 2 ^ 31 by omega), if_neg hop]
            · have h82 : h.1 82 0 r ≠ 0 := by rcases h2 with h2 | h2 <;> rw [h2] <;> decide
              refine go (-1) ?_ (fun h0 e => ?_)
              · rw [kc2, h1, if_pos rfl]
              · rw [ku2 h0 e, if_neg h82, e]
            · refine go (-1) ?_ (fun h0 e => ?_)
              · rw [kc2, h1, if_pos rfl]
              · rw [ku2 h0 e, e]
                simp only [h2, if_true, x2, if_neg (nin x1 (show 6100 < 2 ^ 31 by decide)), nI_clamp (show k < 2 ^ 31 by omega), x3]
          | 3, _ =>
            refine go (h.1 85 0 r) ?_ (fun h0 e => ?_)
            · rw [kc, if_neg (by decide), if_neg (by decide), if_neg (by decide), if_pos (by decide), q3]
            · rw [ku h0 e, if_neg (by decide), if_neg (by decide), if_neg (by decide), if_pos (by decide), m3_r (by decide), e]
          | j + 4, z => exact absurd (by omega) z
      · refine pr_exc (t := 2) hI (by decide) ?_ (fun h0 e => ?_)
        · by_cases c1 : b < 0
          · simp only [List.cons_append, List.nil_append, E_Law_script, E_House_script, her, clR, if_pos c1, clIx]; rfl
          · simp only [List.cons_append, List.nil_append, E_Law_script, E_House_script, her, clR, if_neg c1, if_pos (show 7 < b from Decidable.by_contra (fun z => hb ⟨c1, z⟩)), clIx]; rfl
        · rw [E_Ref_script, hir h0 e, clI, if_neg (show ¬ (1 : Int32) = 0 by decide)]
          by_cases c1 : b < 0
          · rw [if_pos c1, K_Ref_script_24, m0 h0 e, clI, if_pos rfl]
          · rw [if_neg c1, if_pos (Decidable.by_contra (fun z => hb ⟨c1, z⟩)), K_Ref_script_24, m0 h0 e, clI, if_pos rfl]
    · refine pr_exc (t := 2) hI (by decide) ?_ (fun h0 e => ?_)
      · simp only [List.cons_append, List.nil_append, E_Law_script, E_House_script, e_ride3 (d := d + 4) hs (show ¬ (¬ a < 0 ∧ a < h.1 11 0 4) by rw [k1']; exact hk), clRx, clIx]; rfl
      · rw [E_Ref_script, e_isRide, if_neg (show ¬ (¬ a < 0 ∧ a < h0.1 22 0 20) by rw [e, k2']; exact hk), clI, if_pos rfl, K_Ref_script_24, m0 h0 e, clI, if_pos rfl]
/-! ===== promise 16: total ===== -/
variable {n s q : Nat} {rd ps en dp : Nat → Nat} {lp : Nat → Option Nat} {f : MI} {g : MR} {u : MI}
theorem tl_d {D : Nat → Nat} (T : TT B n s q rd ps en dp lp f g u) (hD : DR L xs f g D n) : ∀ (j k d : Nat) (Y : MR × ML × (Nat → Nat) × Nat × Nat), k + j = n → RL (mP L xs) (d + 2) 264 29 [some (rv 22 (some 0)), some (iv 5), some (iv (nI (sN D k))), some (iv (nI k))] [] (u, Y) = some (.inl (some (iv (nI (sN D n)))), (u, Y))
  | 0, k, d, Y, hk => by
    have hn := T.n12
    have e : k = n := by omega
    subst e
    have hcn : u 22 0 20 = nI k := T.cn.2.2.2.1.2
    rw [K_Ref_total_29]
    simp only [hcn]
    rw [if_neg (nI_nlt (Nat.le_refl k) (by omega)), if_neg (by decide), if_neg (by decide), if_neg (by decide), if_neg (by decide), if_neg (by decide), if_pos trivial]
  | j + 1, k, d, Y, hk => by
    have hn := T.n12
    have hcn : u 22 0 20 = nI n := T.cn.2.2.2.1.2
    rw [K_Ref_total_29]
    simp only [hcn, if_pos (nI_lt (show k < n by omega) (show n < 2 ^ 31 by omega)), if_true, dr_u T hD (show k < n by omega), clI, nI_add, nI_1]
    exact tl_d T hD j (k + 1) d Y (by omega)
theorem tl_0 {b : Int32} (T : TT B n s q rd ps en dp lp f g u) (h5 : ¬ b = 5) (h6 : ¬ b = 6) : ∀ (j k d : Nat) (Y : MR × ML × (Nat → Nat) × Nat × Nat), k + j = n → RL (mP L xs) d 264 29 [some (rv 22 (some 0)), some (iv b), some (iv 0), some (iv (nI k))] [] (u, Y) = RL (mP L xs) d 264 29 [some (rv 22 (some 0)), some (iv b), some (iv 0), some (iv (nI n))] [] (u, Y)
  | 0, k, d, Y, hk => by
    have e : k = n := by omega
    subst e
    rfl
  | j + 1, k, d, Y, hk => by
    have hn := T.n12
    have hcn : u 22 0 20 = nI n := T.cn.2.2.2.1.2
    rw [K_Ref_total_29]
    simp only [hcn, if_pos (nI_lt (show k < n by omega) (show n < 2 ^ 31 by omega)), if_neg h5, if_neg h6, nI_1]
    exact tl_0 T h5 h6 j (k + 1) d Y (by omega)
theorem tl_n (T : TT B n s q rd ps en dp lp f g u) : ∀ (j k : Nat) (v : Int32), k + j = n → ∃ w : Int32, (∀ d X, RL (mP L xs) (d + 2) 261 4 [some (rv 11 (some 0)), some (iv v), some (iv (nI k))] [] (f, g, X) = some (.inl (some (iv w)), (f, g, X))) ∧
    (∀ d Y, RL (mP L xs) (d + 2) 264 29 [some (rv 22 (some 0)), some (iv 6), some (iv v), some (iv (nI k))] [] (u, Y) = some (.inl (some (iv w)), (u, Y)))
  | 0, k, v, hk => by
    have hn := T.n12
    have e : k = n := by omega
    subst e
    have hcn : u 22 0 20 = nI k := T.cn.2.2.2.1.2
    have hcc : f 11 0 4 = nI k := T.cn.2.2.2.1.1
    refine ⟨v, fun d X => ?_, fun d Y => ?_⟩
    · rw [K_Fair_greatestNoise_4]
      simp only [hcc]
      rw [if_neg (nI_nlt (Nat.le_refl k) (by omega))]
    · rw [K_Ref_total_29]
      simp only [hcn]
      rw [if_neg (nI_nlt (Nat.le_refl k) (by omega)), if_neg (by decide), if_neg (by decide), if_neg (by decide), if_neg (by decide), if_neg (by decide), if_neg (by decide), if_pos trivial]
  | j + 1, k, v, hk => by
    have hn := T.n12
    have hcn : u 22 0 20 = nI n := T.cn.2.2.2.1.2
    have hcc : f 11 0 4 = nI n := T.cn.2.2.2.1.1
    obtain ⟨⟨kd, M⟩, -⟩ := T.rr k (by omega)
    obtain ⟨x, -, v1, v2⟩ := b_uni (L := L) (xs := xs) (f := f) (g := g) (u := u) (Pv := fun _ => True) (mc := 242) (ac := [rv 16 (some k)]) (mr := 245) (ar := [rv 22 (some 0), iv (nI k)]) (fun d X Y => by
      obtain ⟨k', k1, k2, k3⟩ := b_noise (L := L) (xs := xs) (d := d) M (hc := (f, g, X)) (hr := (u, Y)) rfl rfl
      exact ⟨nI k', trivial, k2, k3⟩)
    obtain ⟨w, w1, w2⟩ := tl_n T j (k + 1) (if v < x then x else v) (by omega)
    refine ⟨w, fun d X => ?_, fun d Y => ?_⟩
    · rw [K_Fair_greatestNoise_4]
      simp only [hcc, if_pos (nI_lt (show k < n by omega) (show n < 2 ^ 31 by omega)), if_pos (show nI k < 12 from nI_lt (b := 12) (by omega) (by decide)), if_neg (nin (show k < 12 by omega) (show 12 < 2 ^ 31 by decide)), nI_clamp (show k < 2 ^ 31 by omega), v1, clI, nI_1]
      exact w1 d X
    · rw [K_Ref_total_29]
      simp only [hcn, if_pos (nI_lt (show k < n by omega) (show n < 2 ^ 31 by omega)), if_neg (show ¬ (6 : Int32) = 5 by decide), if_true, v2, clI, nI_1]
      have := w2 d Y
      by_cases z : v < x
      · rw [if_pos z] at this ⊢
        exact this
      · rw [if_neg z] at this ⊢
        exact this
theorem p_total (a : Int32) : prI (mP L xs) (d + 8) (Iv (RFx B) i) (Iv (RFx B) (i + 6)) 263 264 [iv a] := by
  intro h hI
  obtain ⟨ht, ⟨y1, y2, f3, f4⟩, f5⟩ := hI.1
  have f3' : h.1 21 0 5 = h.1 22 0 19 := f3
  by_cases hs : h.1 21 0 5 = 0
  · have hs' : h.1 22 0 19 = 0 := f3'.symm.trans hs
    refine pr_exc (t := 1) hI (by decide) ?_ (fun h0 e => ?_)
    · simp only [List.cons_append, List.nil_append, E_Law_total, E_House_total, e_need0 hs, clVx, clIx, if_true]; rfl
    · have hm : ∀ w : Int32, EL (mP L xs) (d + 7) 148 [rv 22 (some 0), iv w, iv 1] h0 = some (.inl (some (iv 0)), (m3 h0.1 22 0 90 1, h0.2)) := fun w => may_n (by rw [e]; exact hs')
      simp only [E_Ref_total, clI, hm, if_true, ite_self]
  · have hs' : ¬ h.1 22 0 19 = 0 := fun z => hs (f3'.trans z)
    have hn1 := e_need1 (L := L) (xs := xs) (d := d + 5) hs
    obtain ⟨n, s, q, rd, ps, en, dp, lp, T, -⟩ := TX_thr (t := 0) (Iv_tt hI hs)
    have hn := T.n12
    have m1 := fun (h0 : MH) (e : h0.1 = h.1) => may_1 (L := L) (xs := xs) (d := d + 6) (h0 := h0) (by rw [e]; exact hs')
    have m0 := fun (h0 : MH) (e : h0.1 = h.1) => may_0 (L := L) (xs := xs) (d := d + 6) (h0 := h0) (by rw [e]; exact hs')
    by_cases hb : ¬ a < 0 ∧ ¬ 7 < a
    · have go : ∀ v : Int32, EL (mP L xs) (d + 7) 262 [rv 21 (some 0), iv a] h = some (.inl (some (iv v)), h) → (∀ Y, RL (mP L xs) (d + 7) 264 29 [some (rv 22 (some 0)), some (iv a), some (iv 0), some (iv 0)] [] (m3 h.1 22 0 90 0, Y) = some (.inl (some (iv v)), (m3 h.1 22 0 90 0, Y))) → _ := fun v c1 c2 => pr_val (L := L) (xs := xs) (mw := 263) (mr := 264) (as := [iv a]) (D := d + 8) (v := v) hI (by
        simp only [List.cons_append, List.nil_append, E_Law_total, c1, clI]) (fun h0 e => by
        rw [E_Ref_total, if_neg hb.1, if_neg hb.2, m1 h0 e, clI, if_neg (show ¬ (1 : Int32) = 0 by decide), e, c2])
      obtain ⟨g1, g2, g3, g4, g5, g6⟩ := T.gb
      have kc := E_House_total (L := L) (xs := xs) (d := d + 6) a h
      rw [hn1, clV] at kc
      have ku : ¬ a = 5 → ¬ a = 6 → ∀ Y, RL (mP L xs) (d + 7) 264 29 [some (rv 22 (some 0)), some (iv a), some (iv 0), some (iv 0)] [] (m3 h.1 22 0 90 0, Y) = _ := fun h5 h6 Y => (tl_0 (L := L) (xs := xs) T h5 h6 n 0 (d + 7) Y (by omega)).trans (K_Ref_total_29 (L := L) (xs := xs) (d := d + 7) a 0 (nI n) (m3 h.1 22 0 90 0, Y))
      have hcn : (m3 h.1 22 0 90 0) 22 0 20 = nI n := T.cn.2.2.2.1.2
      simp only [hcn, if_neg (nI_nlt (Nat.le_refl n) (show n < 2 ^ 31 by omega))] at ku
      obtain ⟨j, hj, rfl⟩ := nI_of2 (M := 7) (n := 7) rfl hb.1 (Int32.not_lt.mp hb.2)
      match j, hj with
      | 0, _ =>
        refine go (h.1 22 0 79) ?_ (fun Y => ?_)
        · rw [kc, if_pos (by decide), g1]; rfl
        · rw [ku (by decide) (by decide), if_pos (by decide)]; rfl
      | 1, _ =>
        refine go (h.1 22 0 81) ?_ (fun Y => ?_)
        · rw [kc, if_neg (by decide), if_pos (by decide), g3]; rfl
        · rw [ku (by decide) (by decide), if_neg (by decide), if_pos (by decide)]; rfl
      | 2, _ =>
        refine go (h.1 22 0 82) ?_ (fun Y => ?_)
        · rw [kc, if_neg (by decide), if_neg (by decide), if_pos (by decide), g4]; rfl
        · rw [ku (by decide) (by decide), if_neg (by decide), if_neg (by decide), if_pos (by decide)]; rfl
      | 3, _ =>
        refine go (h.1 22 0 83) ?_ (fun Y => ?_)
        · rw [kc, if_neg (by decide), if_neg (by decide), if_neg (by decide), if_pos (by decide), g5]; rfl
        · rw [ku (by decide) (by decide), if_neg (by decide), if_neg (by decide), if_neg (by decide), if_pos (by decide)]; rfl
      | 4, _ =>
        refine go (h.1 22 0 84) ?_ (fun Y => ?_)
        · rw [kc, if_neg (by decide), if_neg (by decide), if_neg (by decide), if_neg (by decide), if_pos (by decide), g6]; rfl
        · rw [ku (by decide) (by decide), if_neg (by decide), if_neg (by decide), if_neg (by decide), if_neg (by decide), if_pos (by decide)]; rfl
      | 5, _ =>
        obtain ⟨D, hD⟩ := dr_ex (L := L) (xs := xs) T
        have x1 : RL (mP L xs) (d + 5) 197 4 [some (rv 11 (some 0)), some (iv 0), some (iv 0)] [] h = some (.inl (some (iv (nI (sN D n)))), h) := ad_c T hD n 0 (d + 3) h.2.2 (by omega)
        refine go (nI (sN D n)) ?_ (fun Y => ?_)
        · rw [kc, if_neg (by decide), if_neg (by decide), if_neg (by decide), if_neg (by decide), if_neg (by decide), if_pos (by decide), E_Fair_allDraws, x1, clI]
        · exact tl_d T hD n 0 (d + 5) Y (by omega)
      | 6, _ =>
        obtain ⟨w, w1, w2⟩ := tl_n (L := L) (xs := xs) T n 0 0 (by omega)
        have x1 : RL (mP L xs) (d + 5) 261 4 [some (rv 11 (some 0)), some (iv 0), some (iv 0)] [] h = some (.inl (some (iv w)), h) := w1 (d + 3) h.2.2
        refine go w ?_ (fun Y => ?_)
        · rw [kc, if_neg (by decide), if_neg (by decide), if_neg (by decide), if_neg (by decide), if_neg (by decide), if_neg (by decide), if_pos (by decide), E_Fair_greatestNoise, x1, clI]
        · exact w2 (d + 5) Y
      | 7, _ =>
        refine go (h.1 22 0 80) ?_ (fun Y => ?_)
        · rw [kc, if_neg (by decide), if_neg (by decide), if_neg (by decide), if_neg (by decide), if_neg (by decide), if_neg (by decide), if_neg (by decide), if_pos (by decide), g2]; rfl
        · rw [ku (by decide) (by decide), if_neg (by decide), if_neg (by decide), if_neg (by decide), if_neg (by decide), if_neg (by decide), if_neg (by decide), if_neg (by decide), if_pos (by decide)]; rfl
    · refine pr_exc (t := 2) hI (by decide) ?_ (fun h0 e => ?_)
      · have b0 : ¬ a = 0 := fun z => hb (by subst z; decide)
        have b1 : ¬ a = 1 := fun z => hb (by subst z; decide)
        have b2 : ¬ a = 2 := fun z => hb (by subst z; decide)
        have b3 : ¬ a = 3 := fun z => hb (by subst z; decide)
        have b4 : ¬ a = 4 := fun z => hb (by subst z; decide)
        have b5 : ¬ a = 5 := fun z => hb (by subst z; decide)
        have b6 : ¬ a = 6 := fun z => hb (by subst z; decide)
        have b7 : ¬ a = 7 := fun z => hb (by subst z; decide)
        simp only [List.cons_append, List.nil_append, E_Law_total, E_House_total, hn1, clV, if_neg b0, if_neg b1, if_neg b2, if_neg b3, if_neg b4, if_neg b5, if_neg b6, if_neg b7, clIx]; rfl
      · rw [E_Ref_total]
        by_cases c1 : a < 0
        · rw [if_pos c1, m0 h0 e, clI, if_pos rfl]
        · rw [if_neg c1, if_pos (Decidable.by_contra (fun z => hb ⟨c1, z⟩)), m0 h0 e, clI, if_pos rfl]
end Qst
