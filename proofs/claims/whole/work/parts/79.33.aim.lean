/-! ===== spin, lift, glow, sound ===== -/
section Aim
variable {L : Nat} {xs : Nat → Int32} {d : Nat} {X : ML × (Nat → Nat) × Nat × Nat} {Y : MR × ML × (Nat → Nat) × Nat × Nat}
variable {B n s q : Nat} {rd ps en dp : Nat → Nat} {lp : Nat → Option Nat} {f f1 : MI} {g : MR} {u u1 : MI} {r a : Nat}
theorem upto_of {v : Int32} {n : Nat} (h1 : ¬ v < 0) (h2 : ¬ nI n < v) (hn : n < 2 ^ 31) : Upto v n := by
  obtain ⟨j, hj, rfl⟩ := nI_of h1
  exact ⟨j, Nat.le_of_not_lt (fun z => h2 (nI_lt z hj)), rfl⟩
theorem sz_of {v : Int32} (h1 : ¬ v < -100) (h2 : ¬ 100 < v) : ∃ s : Nat, s ≤ 100 ∧ Sz v s := by
  rw [i_lt] at h1 h2
  have e1 : (-100 : Int32).toInt = -100 := by decide
  have e2 : (100 : Int32).toInt = 100 := by decide
  rw [e1] at h1
  rw [e2] at h2
  by_cases z : 0 ≤ v.toInt
  · refine ⟨v.toInt.toNat, by omega, Or.inl ?_⟩
    apply i_eq
    rw [nI_toInt (by omega)]
    omega
  · refine ⟨(-v.toInt).toNat, by omega, Or.inr ?_⟩
    apply i_eq
    rw [ng_toInt (by omega)]
    omega
theorem pf_301 (T : TT B n s q rd ps en dp lp f g u) (hB : B + 2 < 2 ^ 30) (hr : r < n) (h3 : g 18 r 3 = some a) (hk : f 19 a 0 = 301) (ho : u 59 0 (ps a) = 4) (he : en a = ps a + 1) (F : FMx f u n (f 19 a 4) (u 61 0 (ps a))) : RES L xs d X Y B n s q rd ps en dp lp r f g u a := by
  have A := T.live hr h3
  obtain ⟨v, w, f1, u1, z, h1, h2, h3, h4, h5, m1, m2⟩ := p_val (L := L) (xs := xs) (d := d + 7) (X := X) (Y := Y) T hr F
  have h1 : EL (mP L xs) (d + 10) 165 [rv 10 (some 0), iv (f 19 a 4), rv 16 (some r)] (f, g, X) = some (.inl (some (iv v)), (f1, g, X)) := h1
  have h2 : EL (mP L xs) (d + 10) 216 [rv 22 (some 0), iv (u 61 0 (ps a)), iv (nI r)] (u, Y) = some (.inl (some (iv w)), (u1, Y)) := h2
  have T1 := TT_ns m1 m2 T
  have A1 := T1.live hr A.sp
  have hpl := (T.loc hr A.rd).pl
  have H1 := T1.loc hr A.rd
  have hn := T.n12
  have hk1 : f1 19 a 0 = 301 := (mk_at m1 19 a 0 rfl).trans hk
  have ho1 : u1 59 0 (ps a) = 4 := (mk_at m2 59 0 _ rfl).trans ho
  have hwe : f1 16 r 15 = u1 81 0 r := by
    obtain ⟨⟨kd, M⟩, -⟩ := T1.rr r hr
    exact M.mo.2.2.2.2.2.2.2.2
  have key := E_Runner_perform (L := L) (xs := xs) (d := d + 11) (some r) (some r) (some a) (f, g, X)
  simp (decide := true) only [onS_s, hk, if_true, if_false, E_Runner_aim, h1, clI, hk1, K_Runner_aim_51, K_Runner_aim_89, h3, hwe] at key
  have keu := E_Ref_does (L := L) (xs := xs) (d := d + 11) (nI r) (u, Y)
  simp (decide := true) only [if_neg (nin (show r < 12 by omega) (show 12 < 2 ^ 31 by decide)), nI_clamp (show r < 2 ^ 31 by omega), A.nx, if_neg (nin hpl (show 6100 < 2 ^ 31 by decide)), nI_clamp (show ps a < 2 ^ 31 by omega), ho, if_true, if_false, K_Ref_does_58, E_Ref_worked, h2, clI, h4, ho1, K_Ref_worked_63, K_Ref_worked_91, K_Ref_worked_120, nI_1] at keu
  cases z with
  | true =>
    simp (decide := true) only [bI, cond_true, if_false, clI] at key keu
    refine res_stall T1 hB hr A.sp (v := 6) (by decide) key (fun u2 hu => ?_)
    rw [keu, hu (d + 6) Y]
    rfl
  | false =>
    have hw := h5 rfl
    subst hw
    simp (decide := true) only [bI, cond_false, if_true, clI] at key keu
    by_cases z1 : w < -100
    · simp only [if_pos z1, clI] at key keu
      refine res_stall T1 hB hr A.sp (v := 2) (by decide) key (fun u2 hu => ?_)
      rw [keu, hu (d + 6) Y]
      rfl
    simp only [if_neg z1] at key keu
    by_cases z2 : 100 < w
    · simp only [if_pos z2, clI] at key keu
      refine res_stall T1 hB hr A.sp (v := 2) (by decide) key (fun u2 hu => ?_)
      rw [keu, hu (d + 6) Y]
      rfl
    simp only [if_neg z2] at key keu
    have T2 := TT_m8 (v := w) T1 hr (fun kd M => by
      have hft := H1.ft kd M.kl M.kr
      exact Rng_74 M.rg (sz_of z1 z2) (fun z => absurd (hft.1 hk1) (by rw [z]; decide)))
    have fin : ∀ (_ : EL (mP L xs) (d + 12) 182 [rv 17 (some 0), rv 16 (some r), rv 18 (some r), rv 19 (some a)] (f, g, X) = mclI (mclV (EL (mP L xs) (d + 10) 166 [rv 16 (some r), iv 301, iv w] (f1, g, X)) (fun h3 => mclR (EL (mP L xs) (d + 10) 168 [rv 19 (some a)] h3) 19 (fun o7 h6 => mclV (EL (mP L xs) (d + 10) 89 [rv 18 (some r), rv 19 o7] h6) (fun h8 => some (.inl (some (iv 0)), h8)) (fun e h => some (.inr e, h))) (fun e h => some (.inr e, h))) (fun e h => some (.inr e, h))) (fun x h => some (.inl (some (iv x)), h)) (fun e h => some (.inr e, h)))
        (_ : EL (mP L xs) (d + 12) 227 [rv 22 (some 0), iv (nI r)] (u, Y) = mclV (mclV (EL (mP L xs) (d + 10) 217 [rv 22 (some 0), iv (nI r), iv (nI (ps a + 1))] (m3 u1 74 0 r w, Y)) (fun h7 => some (.inl none, h7)) (fun e h => some (.inr e, h))) (fun h1 => some (.inl (some (iv 1)), h1)) (fun e h => some (.inr e, h))), RES L xs d X Y B n s q rd ps en dp lp r f g u a := by
      intro key keu
      refine res_adv T2 (by omega) hr A.sp (by rw [show (m3 f1 16 r 8 w) 19 a 0 = 301 from hk1]; decide) (fun o ho => ?_) (fun u2 hu => ?_)
      · rw [key]
        simp (decide := true) only [E_Ride_take, if_true, if_false, clV, ho, clR, E_Script_goOn, clI]
      · rw [keu, ← he, hu]
        rfl
    by_cases z3 : w = 0
    · simp only [if_pos z3] at key keu
      exact fin key keu
    simp only [if_neg z3] at key keu
    by_cases z4 : 1000 < u1 81 0 r
    · simp only [if_pos z4, clI] at key keu
      refine res_stall T1 hB hr A.sp (v := 5) (by decide) key (fun u2 hu => ?_)
      rw [keu, hu (d + 6) Y]
      rfl
    simp only [if_neg z4] at key keu
    exact fin key keu
theorem pf_302 (T : TT B n s q rd ps en dp lp f g u) (hB : B + 2 < 2 ^ 30) (hr : r < n) (h3 : g 18 r 3 = some a) (hk : f 19 a 0 = 302) (ho : u 59 0 (ps a) = 5) (he : en a = ps a + 1) (F : FMx f u n (f 19 a 4) (u 61 0 (ps a))) : RES L xs d X Y B n s q rd ps en dp lp r f g u a := by
  have A := T.live hr h3
  obtain ⟨v, w, f1, u1, z, h1, h2, h3, h4, h5, m1, m2⟩ := p_val (L := L) (xs := xs) (d := d + 7) (X := X) (Y := Y) T hr F
  have h1 : EL (mP L xs) (d + 10) 165 [rv 10 (some 0), iv (f 19 a 4), rv 16 (some r)] (f, g, X) = some (.inl (some (iv v)), (f1, g, X)) := h1
  have h2 : EL (mP L xs) (d + 10) 216 [rv 22 (some 0), iv (u 61 0 (ps a)), iv (nI r)] (u, Y) = some (.inl (some (iv w)), (u1, Y)) := h2
  have T1 := TT_ns m1 m2 T
  have A1 := T1.live hr A.sp
  have hpl := (T.loc hr A.rd).pl
  have H1 := T1.loc hr A.rd
  have hn := T.n12
  have hk1 : f1 19 a 0 = 302 := (mk_at m1 19 a 0 rfl).trans hk
  have ho1 : u1 59 0 (ps a) = 5 := (mk_at m2 59 0 _ rfl).trans ho
  have hwe : f1 16 r 15 = u1 81 0 r := by
    obtain ⟨⟨kd, M⟩, -⟩ := T1.rr r hr
    exact M.mo.2.2.2.2.2.2.2.2
  have key := E_Runner_perform (L := L) (xs := xs) (d := d + 11) (some r) (some r) (some a) (f, g, X)
  simp (decide := true) only [onS_s, hk, if_true, if_false, E_Runner_aim, h1, clI, hk1, K_Runner_aim_51, K_Runner_aim_89, h3, hwe] at key
  have keu := E_Ref_does (L := L) (xs := xs) (d := d + 11) (nI r) (u, Y)
  simp (decide := true) only [if_neg (nin (show r < 12 by omega) (show 12 < 2 ^ 31 by decide)), nI_clamp (show r < 2 ^ 31 by omega), A.nx, if_neg (nin hpl (show 6100 < 2 ^ 31 by decide)), nI_clamp (show ps a < 2 ^ 31 by omega), ho, if_true, if_false, K_Ref_does_58, E_Ref_worked, h2, clI, h4, ho1, K_Ref_worked_63, K_Ref_worked_91, K_Ref_worked_120, nI_1] at keu
  cases z with
  | true =>
    simp (decide := true) only [bI, cond_true, if_false, clI] at key keu
    refine res_stall T1 hB hr A.sp (v := 6) (by decide) key (fun u2 hu => ?_)
    rw [keu, hu (d + 6) Y]
    rfl
  | false =>
    have hw := h5 rfl
    subst hw
    simp (decide := true) only [bI, cond_false, if_true, clI] at key keu
    by_cases z1 : w < 0
    · simp only [if_pos z1, clI] at key keu
      refine res_stall T1 hB hr A.sp (v := 2) (by decide) key (fun u2 hu => ?_)
      rw [keu, hu (d + 6) Y]
      rfl
    simp only [if_neg z1] at key keu
    by_cases z2 : 1000 < w
    · simp only [if_pos z2, clI] at key keu
      refine res_stall T1 hB hr A.sp (v := 2) (by decide) key (fun u2 hu => ?_)
      rw [keu, hu (d + 6) Y]
      rfl
    simp only [if_neg z2] at key keu
    have T2 := TT_m10 (v := w) T1 hr (fun kd M => by
      have hft := H1.ft kd M.kl M.kr
      exact Rng_76 M.rg (upto_of (n := 1000) z1 z2 (by decide)) (fun z => absurd (hft.2.1 hk1) (by rw [z]; decide)))
    have fin : ∀ (_ : EL (mP L xs) (d + 12) 182 [rv 17 (some 0), rv 16 (some r), rv 18 (some r), rv 19 (some a)] (f, g, X) = mclI (mclV (EL (mP L xs) (d + 10) 166 [rv 16 (some r), iv 302, iv w] (f1, g, X)) (fun h3 => mclR (EL (mP L xs) (d + 10) 168 [rv 19 (some a)] h3) 19 (fun o7 h6 => mclV (EL (mP L xs) (d + 10) 89 [rv 18 (some r), rv 19 o7] h6) (fun h8 => some (.inl (some (iv 0)), h8)) (fun e h => some (.inr e, h))) (fun e h => some (.inr e, h))) (fun e h => some (.inr e, h))) (fun x h => some (.inl (some (iv x)), h)) (fun e h => some (.inr e, h)))
        (_ : EL (mP L xs) (d + 12) 227 [rv 22 (some 0), iv (nI r)] (u, Y) = mclV (mclV (EL (mP L xs) (d + 10) 217 [rv 22 (some 0), iv (nI r), iv (nI (ps a + 1))] (m3 u1 76 0 r w, Y)) (fun h7 => some (.inl none, h7)) (fun e h => some (.inr e, h))) (fun h1 => some (.inl (some (iv 1)), h1)) (fun e h => some (.inr e, h))), RES L xs d X Y B n s q rd ps en dp lp r f g u a := by
      intro key keu
      refine res_adv T2 (by omega) hr A.sp (by rw [show (m3 f1 16 r 10 w) 19 a 0 = 302 from hk1]; decide) (fun o ho => ?_) (fun u2 hu => ?_)
      · rw [key]
        simp (decide := true) only [E_Ride_take, if_true, if_false, clV, ho, clR, E_Script_goOn, clI]
      · rw [keu, ← he, hu]
        rfl
    by_cases z3 : w = 0
    · simp only [if_pos z3] at key keu
      exact fin key keu
    simp only [if_neg z3] at key keu
    by_cases z4 : 1000 < u1 81 0 r
    · simp only [if_pos z4, clI] at key keu
      refine res_stall T1 hB hr A.sp (v := 5) (by decide) key (fun u2 hu => ?_)
      rw [keu, hu (d + 6) Y]
      rfl
    simp only [if_neg z4] at key keu
    exact fin key keu
theorem pf_319 (T : TT B n s q rd ps en dp lp f g u) (hB : B + 2 < 2 ^ 30) (hr : r < n) (h3 : g 18 r 3 = some a) (hk : f 19 a 0 = 319) (ho : u 59 0 (ps a) = 6) (he : en a = ps a + 1) (F : FMx f u n (f 19 a 4) (u 61 0 (ps a))) : RES L xs d X Y B n s q rd ps en dp lp r f g u a := by
  have A := T.live hr h3
  obtain ⟨v, w, f1, u1, z, h1, h2, h3, h4, h5, m1, m2⟩ := p_val (L := L) (xs := xs) (d := d + 7) (X := X) (Y := Y) T hr F
  have h1 : EL (mP L xs) (d + 10) 165 [rv 10 (some 0), iv (f 19 a 4), rv 16 (some r)] (f, g, X) = some (.inl (some (iv v)), (f1, g, X)) := h1
  have h2 : EL (mP L xs) (d + 10) 216 [rv 22 (some 0), iv (u 61 0 (ps a)), iv (nI r)] (u, Y) = some (.inl (some (iv w)), (u1, Y)) := h2
  have T1 := TT_ns m1 m2 T
  have A1 := T1.live hr A.sp
  have hpl := (T.loc hr A.rd).pl
  have H1 := T1.loc hr A.rd
  have hn := T.n12
  have hk1 : f1 19 a 0 = 319 := (mk_at m1 19 a 0 rfl).trans hk
  have ho1 : u1 59 0 (ps a) = 6 := (mk_at m2 59 0 _ rfl).trans ho
  have hwe : f1 16 r 15 = u1 81 0 r := by
    obtain ⟨⟨kd, M⟩, -⟩ := T1.rr r hr
    exact M.mo.2.2.2.2.2.2.2.2
  have key := E_Runner_perform (L := L) (xs := xs) (d := d + 11) (some r) (some r) (some a) (f, g, X)
  simp (decide := true) only [onS_s, hk, if_true, if_false, E_Runner_aim, h1, clI, hk1, K_Runner_aim_51, K_Runner_aim_89, h3, hwe] at key
  have keu := E_Ref_does (L := L) (xs := xs) (d := d + 11) (nI r) (u, Y)
  simp (decide := true) only [if_neg (nin (show r < 12 by omega) (show 12 < 2 ^ 31 by decide)), nI_clamp (show r < 2 ^ 31 by omega), A.nx, if_neg (nin hpl (show 6100 < 2 ^ 31 by decide)), nI_clamp (show ps a < 2 ^ 31 by omega), ho, if_true, if_false, K_Ref_does_58, E_Ref_worked, h2, clI, h4, ho1, K_Ref_worked_63, K_Ref_worked_91, K_Ref_worked_120, nI_1] at keu
  cases z with
  | true =>
    simp (decide := true) only [bI, cond_true, if_false, clI] at key keu
    refine res_stall T1 hB hr A.sp (v := 6) (by decide) key (fun u2 hu => ?_)
    rw [keu, hu (d + 6) Y]
    rfl
  | false =>
    have hw := h5 rfl
    subst hw
    simp (decide := true) only [bI, cond_false, if_true, clI] at key keu
    by_cases z1 : w < 0
    · simp only [if_pos z1, clI] at key keu
      refine res_stall T1 hB hr A.sp (v := 2) (by decide) key (fun u2 hu => ?_)
      rw [keu, hu (d + 6) Y]
      rfl
    simp only [if_neg z1] at key keu
    by_cases z2 : 100 < w
    · simp only [if_pos z2, clI] at key keu
      refine res_stall T1 hB hr A.sp (v := 2) (by decide) key (fun u2 hu => ?_)
      rw [keu, hu (d + 6) Y]
      rfl
    simp only [if_neg z2] at key keu
    have T2 := TT_m13 (v := w) T1 hr (fun kd M => by
      have hft := H1.ft kd M.kl M.kr
      exact Rng_79 M.rg (upto_of (n := 100) z1 z2 (by decide)) (fun z => absurd (hft.2.2.1 hk1) (by rw [z]; decide)))
    have fin : ∀ (_ : EL (mP L xs) (d + 12) 182 [rv 17 (some 0), rv 16 (some r), rv 18 (some r), rv 19 (some a)] (f, g, X) = mclI (mclV (EL (mP L xs) (d + 10) 166 [rv 16 (some r), iv 319, iv w] (f1, g, X)) (fun h3 => mclR (EL (mP L xs) (d + 10) 168 [rv 19 (some a)] h3) 19 (fun o7 h6 => mclV (EL (mP L xs) (d + 10) 89 [rv 18 (some r), rv 19 o7] h6) (fun h8 => some (.inl (some (iv 0)), h8)) (fun e h => some (.inr e, h))) (fun e h => some (.inr e, h))) (fun e h => some (.inr e, h))) (fun x h => some (.inl (some (iv x)), h)) (fun e h => some (.inr e, h)))
        (_ : EL (mP L xs) (d + 12) 227 [rv 22 (some 0), iv (nI r)] (u, Y) = mclV (mclV (EL (mP L xs) (d + 10) 217 [rv 22 (some 0), iv (nI r), iv (nI (ps a + 1))] (m3 u1 79 0 r w, Y)) (fun h7 => some (.inl none, h7)) (fun e h => some (.inr e, h))) (fun h1 => some (.inl (some (iv 1)), h1)) (fun e h => some (.inr e, h))), RES L xs d X Y B n s q rd ps en dp lp r f g u a := by
      intro key keu
      refine res_adv T2 (by omega) hr A.sp (by rw [show (m3 f1 16 r 13 w) 19 a 0 = 319 from hk1]; decide) (fun o ho => ?_) (fun u2 hu => ?_)
      · rw [key]
        simp (decide := true) only [E_Ride_take, if_true, if_false, clV, ho, clR, E_Script_goOn, clI]
      · rw [keu, ← he, hu]
        rfl
    exact fin key keu
theorem pf_303 (T : TT B n s q rd ps en dp lp f g u) (hB : B + 2 < 2 ^ 30) (hr : r < n) (h3 : g 18 r 3 = some a) (hk : f 19 a 0 = 303) (ho : u 59 0 (ps a) = 7) (he : en a = ps a + 1) (F : FMx f u n (f 19 a 4) (u 61 0 (ps a))) : RES L xs d X Y B n s q rd ps en dp lp r f g u a := by
  have A := T.live hr h3
  obtain ⟨v, w, f1, u1, z, h1, h2, h3, h4, h5, m1, m2⟩ := p_val (L := L) (xs := xs) (d := d + 7) (X := X) (Y := Y) T hr F
  have h1 : EL (mP L xs) (d + 10) 165 [rv 10 (some 0), iv (f 19 a 4), rv 16 (some r)] (f, g, X) = some (.inl (some (iv v)), (f1, g, X)) := h1
  have h2 : EL (mP L xs) (d + 10) 216 [rv 22 (some 0), iv (u 61 0 (ps a)), iv (nI r)] (u, Y) = some (.inl (some (iv w)), (u1, Y)) := h2
  have T1 := TT_ns m1 m2 T
  have A1 := T1.live hr A.sp
  have hpl := (T.loc hr A.rd).pl
  have H1 := T1.loc hr A.rd
  have hn := T.n12
  have hk1 : f1 19 a 0 = 303 := (mk_at m1 19 a 0 rfl).trans hk
  have ho1 : u1 59 0 (ps a) = 7 := (mk_at m2 59 0 _ rfl).trans ho
  have hwe : f1 16 r 15 = u1 81 0 r := by
    obtain ⟨⟨kd, M⟩, -⟩ := T1.rr r hr
    exact M.mo.2.2.2.2.2.2.2.2
  have key := E_Runner_perform (L := L) (xs := xs) (d := d + 11) (some r) (some r) (some a) (f, g, X)
  simp (decide := true) only [onS_s, hk, if_true, if_false, E_Runner_aim, h1, clI, hk1, K_Runner_aim_51, K_Runner_aim_89, h3, hwe] at key
  have keu := E_Ref_does (L := L) (xs := xs) (d := d + 11) (nI r) (u, Y)
  simp (decide := true) only [if_neg (nin (show r < 12 by omega) (show 12 < 2 ^ 31 by decide)), nI_clamp (show r < 2 ^ 31 by omega), A.nx, if_neg (nin hpl (show 6100 < 2 ^ 31 by decide)), nI_clamp (show ps a < 2 ^ 31 by omega), ho, if_true, if_false, K_Ref_does_58, E_Ref_worked, h2, clI, h4, ho1, K_Ref_worked_63, K_Ref_worked_91, K_Ref_worked_120, nI_1] at keu
  cases z with
  | true =>
    simp (decide := true) only [bI, cond_true, if_false, clI] at key keu
    refine res_stall T1 hB hr A.sp (v := 6) (by decide) key (fun u2 hu => ?_)
    rw [keu, hu (d + 6) Y]
    rfl
  | false =>
    have hw := h5 rfl
    subst hw
    simp (decide := true) only [bI, cond_false, if_true, clI] at key keu
    by_cases z1 : w < 0
    · simp only [if_pos z1, clI] at key keu
      refine res_stall T1 hB hr A.sp (v := 2) (by decide) key (fun u2 hu => ?_)
      rw [keu, hu (d + 6) Y]
      rfl
    simp only [if_neg z1] at key keu
    by_cases z2 : 100 < w
    · simp only [if_pos z2, clI] at key keu
      refine res_stall T1 hB hr A.sp (v := 2) (by decide) key (fun u2 hu => ?_)
      rw [keu, hu (d + 6) Y]
      rfl
    simp only [if_neg z2] at key keu
    have T2 := TT_m14 (v := w) T1 hr (fun kd M => by
      have hft := H1.ft kd M.kl M.kr
      exact Rng_80 M.rg (upto_of (n := 100) z1 z2 (by decide)) (fun z => absurd (hft.2.2.2 hk1) (by rw [z]; decide)))
    have fin : ∀ (_ : EL (mP L xs) (d + 12) 182 [rv 17 (some 0), rv 16 (some r), rv 18 (some r), rv 19 (some a)] (f, g, X) = mclI (mclV (EL (mP L xs) (d + 10) 166 [rv 16 (some r), iv 303, iv w] (f1, g, X)) (fun h3 => mclR (EL (mP L xs) (d + 10) 168 [rv 19 (some a)] h3) 19 (fun o7 h6 => mclV (EL (mP L xs) (d + 10) 89 [rv 18 (some r), rv 19 o7] h6) (fun h8 => some (.inl (some (iv 0)), h8)) (fun e h => some (.inr e, h))) (fun e h => some (.inr e, h))) (fun e h => some (.inr e, h))) (fun x h => some (.inl (some (iv x)), h)) (fun e h => some (.inr e, h)))
        (_ : EL (mP L xs) (d + 12) 227 [rv 22 (some 0), iv (nI r)] (u, Y) = mclV (mclV (EL (mP L xs) (d + 10) 217 [rv 22 (some 0), iv (nI r), iv (nI (ps a + 1))] (m3 u1 80 0 r w, Y)) (fun h7 => some (.inl none, h7)) (fun e h => some (.inr e, h))) (fun h1 => some (.inl (some (iv 1)), h1)) (fun e h => some (.inr e, h))), RES L xs d X Y B n s q rd ps en dp lp r f g u a := by
      intro key keu
      refine res_adv T2 (by omega) hr A.sp (by rw [show (m3 f1 16 r 14 w) 19 a 0 = 303 from hk1]; decide) (fun o ho => ?_) (fun u2 hu => ?_)
      · rw [key]
        simp (decide := true) only [E_Ride_take, if_true, if_false, clV, ho, clR, E_Script_goOn, clI]
      · rw [keu, ← he, hu]
        rfl
    exact fin key keu
end Aim
