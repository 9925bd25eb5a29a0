/-! ===== flags, questions, blocks ===== -/
section Kinds2
variable {L : Nat} {xs : Nat → Int32} {d : Nat} {X : ML × (Nat → Nat) × Nat × Nat} {Y : MR × ML × (Nat → Nat) × Nat × Nat}
variable {B B' n s q : Nat} {rd ps en dp : Nat → Nat} {lp : Nat → Option Nat} {f f1 f2 f' : MI} {g : MR} {u u1 u2 u' : MI} {r a b : Nat}
/-- a change of what belongs to no ride -/
theorem TT_glob (T : TT B n s q rd ps en dp lp f g u) (hC : ∀ r', EqC f f' r') (hU : ∀ r', EqU u u' r') (h6 : ∀ b, f' 19 b 6 = f 19 b 6)
    (m1 : mk stC f' = mk stC f) (m3 : mk stU u' = mk stU u) (c1 : R_cnt f' u' n s q) (c2 : R_glb f' u') (c3 : ∃ l : Nat, l ≤ B' ∧ u' 22 0 84 = nI l ∧ ∀ k, k < 1600 → k < 4 * l → f' 31 0 k = u' 96 0 k) (c4 : R_stf f' u' s) (c5 : Stf u' n s) (c6 : R_flg f' u' q) : TT B' n s q rd ps en dp lp f' g u' := by
  refine ⟨c1, c2, c3, c4, c5, c6, by rw [m1, m3]; exact T.st, fun r' hr' => ?_⟩
  exact RR_fr T hr' (hC r') (hU r') (fun b => mk_at m1 19 b 0 rfl) (fun b hb => h6 b) rfl rfl rfl
theorem TT_flag (T : TT B n s q rd ps en dp lp f g u) {j : Nat} (hj : j < 8) {v : Int32} (hv : v = 0 ∨ v = 1) : TT B n s q rd ps en dp lp (m3 f 11 0 7 (putF (f 11 0 7) (nI j) v)) g (m3 u 92 0 j v) := by
  refine TT_glob T (fun r' => EqC.gl rfl) (fun r' => EqU.gl rfl) (fun b => rfl) (mk_m3 rfl) (mk_m3 rfl) T.cn T.gb T.lg T.sf T.ss (fun k hk => ?_)
  have hq : q ≤ 8 := T.cn.2.2.1
  show m3 u 92 0 j v 92 0 k = (putF (f 11 0 7) (nI j) v >>> (nI k &&& 31)) &&& 1
  rw [putF_bit _ hv hj (by omega)]
  by_cases e : k = j
  · rw [if_pos e, e, m3_eq]
  · rw [if_neg e, m3_i e]
    exact T.fl k hk
theorem pf_311 (T : TT B n s q rd ps en dp lp f g u) (hB : B + 2 < 2 ^ 30) (hr : r < n) (h3 : g 18 r 3 = some a) (hk : f 19 a 0 = 311) (ho : u 59 0 (ps a) = 15) (he : en a = ps a + 1) {k : Nat} (ks : k < q) (hn1 : f 19 a 5 = nI k) (hn2 : u 61 0 (ps a) = nI k) : RES L xs d X Y B n s q rd ps en dp lp r f g u a := by
  have A := T.live hr h3
  have hpl := (T.loc hr A.rd).pl
  have hn := T.n12
  have q8 : q ≤ 8 := T.cn.2.2.1
  have k8 : k < 8 := by omega
  have key := E_Runner_perform (L := L) (xs := xs) (d := d + 11) (some r) (some r) (some a) (f, g, X)
  simp (decide := true) only [onS_s, hk, if_true, if_false, e_putFlag, hn1, clV] at key
  have keu := E_Ref_does (L := L) (xs := xs) (d := d + 11) (nI r) (u, Y)
  simp (decide := true) only [if_neg (nin (show r < 12 by omega) (show 12 < 2 ^ 31 by decide)), nI_clamp (show r < 2 ^ 31 by omega), A.nx, if_neg (nin hpl (show 6100 < 2 ^ 31 by decide)), nI_clamp (show ps a < 2 ^ 31 by omega), ho, if_true, if_false, E_Ref_shares, hn2, if_neg (nin k8 (show 8 < 2 ^ 31 by decide)), nI_clamp (show k < 2 ^ 31 by omega), nI_1, show (1 : Int32) &&& 1 = 1 from rfl] at keu
  have T2 := TT_flag T k8 (v := 1) (Or.inr rfl)
  refine res_adv T2 (by omega) hr A.sp (by rw [show (m3 f 11 0 7 (putF (f 11 0 7) (nI k) 1)) 19 a 0 = 311 from hk]; decide) (fun o ho => ?_) (fun u2 hu => ?_)
  · rw [key]
    simp (decide := true) only [clV, ho, clR, E_Script_goOn, clI]
  · rw [keu, ← he, hu]
    rfl
theorem pf_312 (T : TT B n s q rd ps en dp lp f g u) (hB : B + 2 < 2 ^ 30) (hr : r < n) (h3 : g 18 r 3 = some a) (hk : f 19 a 0 = 312) (ho : u 59 0 (ps a) = 16) (he : en a = ps a + 1) {k : Nat} (ks : k < q) (hn1 : f 19 a 5 = nI k) (hn2 : u 61 0 (ps a) = nI k) : RES L xs d X Y B n s q rd ps en dp lp r f g u a := by
  have A := T.live hr h3
  have hpl := (T.loc hr A.rd).pl
  have hn := T.n12
  have q8 : q ≤ 8 := T.cn.2.2.1
  have k8 : k < 8 := by omega
  have key := E_Runner_perform (L := L) (xs := xs) (d := d + 11) (some r) (some r) (some a) (f, g, X)
  simp (decide := true) only [onS_s, hk, if_true, if_false, e_putFlag, hn1, clV] at key
  have keu := E_Ref_does (L := L) (xs := xs) (d := d + 11) (nI r) (u, Y)
  simp (decide := true) only [if_neg (nin (show r < 12 by omega) (show 12 < 2 ^ 31 by decide)), nI_clamp (show r < 2 ^ 31 by omega), A.nx, if_neg (nin hpl (show 6100 < 2 ^ 31 by decide)), nI_clamp (show ps a < 2 ^ 31 by omega), ho, if_true, if_false, E_Ref_shares, hn2, if_neg (nin k8 (show 8 < 2 ^ 31 by decide)), nI_clamp (show k < 2 ^ 31 by omega), nI_1, show (0 : Int32) &&& 1 = 0 from rfl] at keu
  have T2 := TT_flag T k8 (v := 0) (Or.inl rfl)
  refine res_adv T2 (by omega) hr A.sp (by rw [show (m3 f 11 0 7 (putF (f 11 0 7) (nI k) 0)) 19 a 0 = 312 from hk]; decide) (fun o ho => ?_) (fun u2 hu => ?_)
  · rw [key]
    simp (decide := true) only [clV, ho, clR, E_Script_goOn, clI]
  · rw [keu, ← he, hu]
    rfl
theorem pf_308 (T : TT B n s q rd ps en dp lp f g u) (hB : B + 2 < 2 ^ 30) (hr : r < n) (h3 : g 18 r 3 = some a) (hk : f 19 a 0 = 308) (ho : u 59 0 (ps a) = 12) (he : en a = ps a + 1) (F : CDx f u n q (f 19 a 4) (u 61 0 (ps a))) : RES L xs d X Y B n s q rd ps en dp lp r f g u a := by
  have A := T.live hr h3
  obtain ⟨w, f1, u1, z, tv, h1, h2, h3, h4, h5, m1, m2⟩ := p_cnd (L := L) (xs := xs) (d := d + 5) (X := X) (Y := Y) T hr F
  have h1 : EL (mP L xs) (d + 10) 165 [rv 10 (some 0), iv (f 19 a 4), rv 16 (some r)] (f, g, X) = some (.inl (some (iv w)), (f1, g, X)) := EL_mono (by omega) h1
  have h2 : EL (mP L xs) (d + 10) 223 [rv 22 (some 0), iv (u 61 0 (ps a)), iv (nI r)] (u, Y) = some (.inl (some (iv (bI tv))), (u1, Y)) := h2
  have T1 := TT_ns m1 m2 T
  have A1 := T1.live hr A.sp
  have hpl := (T.loc hr A.rd).pl
  have hn := T.n12
  have hk1 : f1 19 a 0 = 308 := (mk_at m1 19 a 0 rfl).trans hk
  have key := E_Runner_perform (L := L) (xs := xs) (d := d + 11) (some r) (some r) (some a) (f, g, X)
  simp (decide := true) only [onS_s, hk, if_true, if_false, E_Runner_decide, h1, clI, h3, hk1, K_Runner_decide_20] at key
  have keu := E_Ref_does (L := L) (xs := xs) (d := d + 11) (nI r) (u, Y)
  simp (decide := true) only [if_neg (nin (show r < 12 by omega) (show 12 < 2 ^ 31 by decide)), nI_clamp (show r < 2 ^ 31 by omega), A.nx, if_neg (nin hpl (show 6100 < 2 ^ 31 by decide)), nI_clamp (show ps a < 2 ^ 31 by omega), ho, if_true, if_false, E_Ref_shares, h2, clI, h4, nI_1] at keu
  cases z with
  | true =>
    simp (decide := true) only [bI, cond_true, if_false, clI, ite_self] at key keu
    refine res_stall T1 hB hr A.sp (v := 6) (by decide) key (fun u2 hu => ?_)
    rw [keu, hu (d + 6) Y]
    rfl
  | false =>
    have hw := h5 rfl
    subst hw
    cases tv with
    | false =>
      simp (decide := true) only [bI, cond_false, if_true, if_false, clI] at key keu
      exact ⟨-1, f1, g, false, u1, key, keu, Or.inr (Or.inl ⟨rfl, rfl, (PG_live T1 (by rw [A.sp]; exact fun z => nomatch z) A1.st).le (by omega)⟩)⟩
    | true =>
      simp (decide := true) only [bI, cond_false, cond_true, if_true, if_false, clI] at key keu
      refine res_adv T1 (by omega) hr A.sp (by rw [hk1]; decide) (fun o ho => ?_) (fun u2 hu => ?_)
      · rw [key]
        simp (decide := true) only [clV, ho, clR, E_Script_goOn, clI]
      · rw [keu, ← he, hu]
        rfl
theorem Loc.b313 (H : Loc f g u rd ps en dp lp n s q r a) (hk : f 19 a 0 = 313) : u 59 0 (ps a) = 17 ∧ FMx f u n (f 19 a 4) (u 61 0 (ps a)) ∧ u 62 0 (ps a) = nI (en a) ∧ u 63 0 (ps a) = nI (dp a) ∧ BlkAt f g u rd ps en dp r a (g 19 a 8) (ps a + 1) ∧ g 19 a 10 ≠ none := by
  rcases H.kd with h | h | h
  · simp (decide := true) only [KdA, hk, false_and, and_false, or_false] at h
  · simp (decide := true) only [KdB, hk, false_and, or_false, true_and] at h
    exact h
  · simp (decide := true) only [KdT, hk, false_and] at h
theorem Loc.b314 (H : Loc f g u rd ps en dp lp n s q r a) (hk : f 19 a 0 = 314) : u 59 0 (ps a) = 18 ∧ u 62 0 (ps a) = nI (en a) ∧ BlkAt f g u rd ps en dp r a (g 19 a 8) (ps a + 1) ∧ g 19 a 10 ≠ none := by
  rcases H.kd with h | h | h
  · simp (decide := true) only [KdA, hk, false_and, and_false, or_false] at h
  · simp (decide := true) only [KdB, hk, false_and, or_false, false_or, true_and] at h
    exact h
  · simp (decide := true) only [KdT, hk, false_and] at h
theorem Loc.b315 (H : Loc f g u rd ps en dp lp n s q r a) (hk : f 19 a 0 = 315) : u 59 0 (ps a) = 19 ∧ CDx f u n q (f 19 a 4) (u 61 0 (ps a)) ∧ (∃ j : Nat, u 62 0 (ps a) = nI j ∧ BlkAt f g u rd ps en dp r a (g 19 a 8) (ps a + 1) ∧ BlkAt f g u rd ps en dp r a (g 19 a 9) j) ∧ g 19 a 10 = none := by
  rcases H.kd with h | h | h
  · simp (decide := true) only [KdA, hk, false_and, and_false, or_false] at h
  · simp (decide := true) only [KdB, hk, false_and, or_false, false_or, true_and] at h
    exact h
  · simp (decide := true) only [KdT, hk, false_and] at h
theorem Loc.b316 (H : Loc f g u rd ps en dp lp n s q r a) (hk : f 19 a 0 = 316) : u 59 0 (ps a) = 20 ∧ (∃ j : Nat, u 62 0 (ps a) = nI j ∧ BlkAt f g u rd ps en dp r a (g 19 a 8) (ps a + 1) ∧ BlkAt f g u rd ps en dp r a (g 19 a 9) j) ∧ g 19 a 10 = none := by
  rcases H.kd with h | h | h
  · simp (decide := true) only [KdA, hk, false_and, and_false, or_false] at h
  · simp (decide := true) only [KdB, hk, false_and, or_false, false_or, true_and] at h
    exact h
  · simp (decide := true) only [KdT, hk, false_and] at h
theorem pf_315 (T : TT B n s q rd ps en dp lp f g u) (hB : B + 2 < 2 ^ 30) (hr : r < n) (h3 : g 18 r 3 = some a) (hk : f 19 a 0 = 315) : RES L xs d X Y B n s q rd ps en dp lp r f g u a := by
  have A := T.live hr h3
  have H := T.loc hr A.rd
  obtain ⟨ho, F, -, -⟩ := H.b315 hk
  obtain ⟨w, f1, u1, z, tv, h1, h2, h3, h4, h5, m1, m2⟩ := p_cnd (L := L) (xs := xs) (d := d + 6) (X := X) (Y := Y) T hr F
  have h1 : EL (mP L xs) (d + 10) 165 [rv 10 (some 0), iv (f 19 a 4), rv 16 (some r)] (f, g, X) = some (.inl (some (iv w)), (f1, g, X)) := EL_mono (by omega) h1
  have h2 : EL (mP L xs) (d + 11) 223 [rv 22 (some 0), iv (u 61 0 (ps a)), iv (nI r)] (u, Y) = some (.inl (some (iv (bI tv))), (u1, Y)) := h2
  have T1 := TT_ns m1 m2 T
  have A1 := T1.live hr A.sp
  have hpl := (T.loc hr A.rd).pl
  have hn := T.n12
  have hk1 : f1 19 a 0 = 315 := (mk_at m1 19 a 0 rfl).trans hk
  have H1 := T1.loc hr A.rd
  obtain ⟨-, -, ⟨j, j1, j2, j3⟩, -⟩ := H1.b315 hk1
  have hde := H1.de (by rw [hk1]; decide)
  have hAT : AT f1 g u1 dp r (some a) := AT_in (by rw [hk1]; decide) A1.tn
  have key := E_Runner_perform (L := L) (xs := xs) (d := d + 11) (some r) (some r) (some a) (f, g, X)
  simp (decide := true) only [onS_s, hk, if_true, if_false, E_Runner_decide, h1, clI, h3, hk1, K_Runner_decide_20] at key
  have keu := E_Ref_does (L := L) (xs := xs) (d := d + 11) (nI r) (u, Y)
  simp (decide := true) only [if_neg (nin (show r < 12 by omega) (show 12 < 2 ^ 31 by decide)), nI_clamp (show r < 2 ^ 31 by omega), A.nx, if_neg (nin hpl (show 6100 < 2 ^ 31 by decide)), nI_clamp (show ps a < 2 ^ 31 by omega), ho, if_true, if_false, K_Ref_does_58, h2, clI, h4, nI_1, j1] at keu
  cases z with
  | true =>
    simp (decide := true) only [bI, cond_true, if_false, clI, ite_self] at key keu
    refine res_stall T1 hB hr A.sp (v := 6) (by decide) key (fun u2 hu => ?_)
    rw [keu, hu (d + 7) Y]
    rfl
  | false =>
    have hw := h5 rfl
    subst hw
    cases tv with
    | false =>
      simp (decide := true) only [bI, cond_false, if_true, if_false, clI] at key keu
      refine res_into T1 (by omega) hr (Mid.rf T1 hr) A1.st A.rd (Or.inr (Or.inr (Or.inl hk1))) hde j3 hAT (fun o ho => ?_) (fun u2 hu => ?_)
      · rw [key]
        simp (decide := true) only [clV, ho, clR, E_Script_goOn, clI]
      · rw [keu, hu]
        rfl
    | true =>
      simp (decide := true) only [bI, cond_false, cond_true, if_true, if_false, clI] at key keu
      refine res_into T1 (by omega) hr (Mid.rf T1 hr) A1.st A.rd (Or.inr (Or.inr (Or.inl hk1))) hde j2 hAT (fun o ho => ?_) (fun u2 hu => ?_)
      · rw [key]
        simp (decide := true) only [clV, ho, clR, E_Script_goOn, clI]
      · rw [keu, hu]
        rfl
theorem pf_316 (T : TT B n s q rd ps en dp lp f g u) (hB : B + 2 < 2 ^ 30) (hr : r < n) (h3 : g 18 r 3 = some a) (hk : f 19 a 0 = 316) : RES L xs d X Y B n s q rd ps en dp lp r f g u a := by
  have A := T.live hr h3
  have H := T.loc hr A.rd
  obtain ⟨ho, ⟨j, j1, j2, j3⟩, -⟩ := H.b316 hk
  have hpl := H.pl
  have hn := T.n12
  have hde := H.de (by rw [hk]; decide)
  have hAT : AT f g u dp r (some a) := AT_in (by rw [hk]; decide) A.tn
  have key := E_Runner_perform (L := L) (xs := xs) (d := d + 11) (some r) (some r) (some a) (f, g, X)
  simp (decide := true) only [onS_s, hk, if_true, if_false, E_Runner_enter, K_Runner_enter_51] at key
  have keu := E_Ref_does (L := L) (xs := xs) (d := d + 11) (nI r) (u, Y)
  simp (decide := true) only [if_neg (nin (show r < 12 by omega) (show 12 < 2 ^ 31 by decide)), nI_clamp (show r < 2 ^ 31 by omega), A.nx, if_neg (nin hpl (show 6100 < 2 ^ 31 by decide)), nI_clamp (show ps a < 2 ^ 31 by omega), ho, if_true, if_false, K_Ref_does_58, nI_1] at keu
  refine res_into T (by omega) hr (Mid.rf T hr) A.st A.rd (Or.inr (Or.inr (Or.inr hk))) hde j2 hAT (fun o ho => ?_) (fun u2 hu => ?_)
  · rw [key]
    simp (decide := true) only [clV, ho, clR, E_Script_goOn, clI]
  · rw [keu, hu]
    rfl
theorem pf_314 (T : TT B n s q rd ps en dp lp f g u) (hB : B + 2 < 2 ^ 30) (hr : r < n) (h3 : g 18 r 3 = some a) (hk : f 19 a 0 = 314) : RES L xs d X Y B n s q rd ps en dp lp r f g u a := by
  have A := T.live hr h3
  have H := T.loc hr A.rd
  obtain ⟨ho, j1, j2, -⟩ := H.b314 hk
  have hpl := H.pl
  have hn := T.n12
  have hde := H.de (by rw [hk]; decide)
  have hAT : AT f g u dp r (some a) := AT_in (by rw [hk]; decide) A.tn
  have key := E_Runner_perform (L := L) (xs := xs) (d := d + 11) (some r) (some r) (some a) (f, g, X)
  simp (decide := true) only [onS_s, hk, if_true, if_false, E_Runner_enter, K_Runner_enter_51] at key
  have keu := E_Ref_does (L := L) (xs := xs) (d := d + 11) (nI r) (u, Y)
  simp (decide := true) only [if_neg (nin (show r < 12 by omega) (show 12 < 2 ^ 31 by decide)), nI_clamp (show r < 2 ^ 31 by omega), A.nx, if_neg (nin hpl (show 6100 < 2 ^ 31 by decide)), nI_clamp (show ps a < 2 ^ 31 by omega), ho, if_true, if_false, K_Ref_does_58, nI_1] at keu
  refine res_into T (by omega) hr (Mid.rf T hr) A.st A.rd (Or.inr (Or.inl hk)) hde j2 hAT (fun o ho => ?_) (fun u2 hu => ?_)
  · rw [key]
    simp (decide := true) only [clV, ho, clR, E_Script_goOn, clI]
  · rw [keu, hu]
    rfl
theorem AT_lt (T : SS n s q rd ps en dp lp f g u) (hr : r < n) (ha : rd a = r) (h0 : ∀ b, f' 19 b 0 = f 19 b 0) (h6 : ∀ b, b ≠ a → f' 19 b 6 = f 19 b 6) (hu : ∀ k, k < dp a → u' 89 0 (11 * r + k) = u 89 0 (11 * r + k)) (A : AT f g u dp r (g 19 a 2)) : AT f' g u' dp r (g 19 a 2) := by
  intro j b hb hk
  rw [h0] at hk
  obtain ⟨q1, q2, q3⟩ := up_rd T hr j a b ha hb
  obtain ⟨t, t1, t2, t3, t4⟩ := A j b hb hk
  exact ⟨t, t1, t2, (hu _ q2).trans t3, (h6 b (fun e => by rw [e] at q2; omega)).trans t4⟩
theorem AT_new {t : Nat} (T : SS n s q rd ps en dp lp f g u) (hr : r < n) (ha : rd a = r) (h1 : 1 ≤ t) (h2 : t < 2 ^ 31) (A : AT f g u dp r (g 19 a 2)) : AT (m3 f 19 a 6 (nI (t - 1))) g (m3 u 89 0 (11 * r + dp a) (nI t)) dp r (some a) := by
  intro j b hb hk
  cases j with
  | zero =>
    have e : some a = some b := hb
    cases e
    exact ⟨t, h1, h2, m3_eq, m3_eq⟩
  | succ j => exact AT_lt (f := f) (u := u) T hr ha (fun b => m3_i (by decide)) (fun b hb => m3_o hb) (fun k hk => m3_i (by omega)) A j b hb hk
theorem pf_401 (T : TT B n s q rd ps en dp lp f g u) (hB : B + 2 < 2 ^ 30) (hr : r < n) (h3 : g 18 r 3 = some a) (hK : KdT f g u ps dp a) : RES L xs d X Y B n s q rd ps en dp lp r f g u a := by
  have A := T.live hr h3
  have H := T.loc hr A.rd
  obtain ⟨hk, b, hb, hop, h61, h63⟩ := hK
  have hpl := H.pl
  have hn := T.n12
  have how : rd b = r ∧ dp b ≤ 10 := by
    rcases H.ow with ⟨o1, -⟩ | ⟨b', o1, o2, o3, o4, o5, -⟩
    · rw [hb] at o1; cases o1
    · rw [hb] at o1; cases o1; exact ⟨o2, o5⟩
  have hA := A.tn
  rw [hb] at hA
  have Hb := T.loc hr how.1
  have hdb := how.2
  have e11 : 11 * nI r + nI (dp b) = nI (11 * r + dp b) := by rw [show (11 : Int32) = nI 11 from rfl, nI_mul, nI_add]
  have key := E_Runner_perform (L := L) (xs := xs) (d := d + 11) (some r) (some r) (some a) (f, g, X)
  have keu := E_Ref_does (L := L) (xs := xs) (d := d + 11) (nI r) (u, Y)
  rcases hop with ⟨k3, ho⟩ | ⟨k4, ho⟩
  · obtain ⟨t, t1, t2, t3, t4⟩ := hA 0 b rfl k3
    have hp := A.ag hk b hb k3
    rw [t4] at hp
    have ht : 2 ≤ t := by
      refine Nat.le_of_not_lt (fun z => ?_)
      have : t - 1 = 0 := by omega
      rw [this, nI_0] at hp
      exact absurd hp (by decide)
    have e1 : nI (t - 1) - 1 = nI (t - 1 - 1) := nI_sub (b := 1) (by omega)
    have e2 : nI t - 1 = nI (t - 1) := nI_sub (b := 1) (by omega)
    simp (decide := true) only [onS_s, hk, if_true, if_false, E_Runner_enter, hb, reduceCtorEq, k3, t4, e1] at key
    simp (decide := true) only [if_neg (nin (show r < 12 by omega) (show 12 < 2 ^ 31 by decide)), nI_clamp (show r < 2 ^ 31 by omega), A.nx, if_neg (nin hpl (show 6100 < 2 ^ 31 by decide)), nI_clamp (show ps a < 2 ^ 31 by omega), ho, if_true, if_false, K_Ref_does_58, h63, e11, if_neg (nin (show 11 * r + dp b < 132 by omega) (show 132 < 2 ^ 31 by decide)), nI_clamp (show 11 * r + dp b < 2 ^ 31 by omega), t3, e2, m3_r (show 61 ≠ 89 by decide), h61, nI_1] at keu
    have M : Mid rd f (m3 f 19 b 6 (nI (t - 1 - 1))) u (m3 u 89 0 (11 * r + dp b) (nI (t - 1))) r := ((Mid.rf T hr).c19 how.1).u89 how.2
    have Hb2 := (SS_mid T M).loc hr how.1
    have k3' : (m3 f 19 b 6 (nI (t - 1 - 1))) 19 b 0 = 313 := (m3_i (by decide)).trans k3
    refine res_into T (by omega) hr M A.st how.1 (Or.inl k3') how.2 (Hb2.b313 k3').2.2.2.2.1 (AT_new T.sS hr how.1 (by omega) (by omega) (AT_own hA)) (fun o ho => ?_) (fun u2 hu => ?_)
    · rw [key]
      simp (decide := true) only [clV, ho, clR, E_Script_goOn, clI]
    · rw [keu, hu]
      rfl
  · simp (decide := true) only [onS_s, hk, if_true, if_false, E_Runner_enter, hb, reduceCtorEq, k4] at key
    simp (decide := true) only [if_neg (nin (show r < 12 by omega) (show 12 < 2 ^ 31 by decide)), nI_clamp (show r < 2 ^ 31 by omega), A.nx, if_neg (nin hpl (show 6100 < 2 ^ 31 by decide)), nI_clamp (show ps a < 2 ^ 31 by omega), ho, if_true, if_false, K_Ref_does_58, h61, nI_1] at keu
    refine res_into T (by omega) hr (Mid.rf T hr) A.st how.1 (Or.inr (Or.inl k4)) how.2 (Hb.b314 k4).2.2.1 hA (fun o ho => ?_) (fun u2 hu => ?_)
    · rw [key]
      simp (decide := true) only [clV, ho, clR, E_Script_goOn, clI]
    · rw [keu, hu]
      rfl
theorem pf_313 (T : TT B n s q rd ps en dp lp f g u) (hB : B + 2 < 2 ^ 30) (hr : r < n) (h3 : g 18 r 3 = some a) (hk : f 19 a 0 = 313) : RES L xs d X Y B n s q rd ps en dp lp r f g u a := by
  have A := T.live hr h3
  have H := T.loc hr A.rd
  obtain ⟨ho, F, h62, h63, -⟩ := H.b313 hk
  obtain ⟨v, w, f1, u1, z, h1, h2, h3, h4, h5, m1, m2⟩ := p_val (L := L) (xs := xs) (d := d + 7) (X := X) (Y := Y) T hr F
  have h1 : EL (mP L xs) (d + 10) 165 [rv 10 (some 0), iv (f 19 a 4), rv 16 (some r)] (f, g, X) = some (.inl (some (iv v)), (f1, g, X)) := h1
  have h2 : EL (mP L xs) (d + 10) 216 [rv 22 (some 0), iv (u 61 0 (ps a)), iv (nI r)] (u, Y) = some (.inl (some (iv w)), (u1, Y)) := h2
  have T1 := TT_ns m1 m2 T
  have A1 := T1.live hr A.sp
  have hpl := H.pl
  have hn := T.n12
  have hde := H.de (by rw [hk]; decide)
  have hk1 : f1 19 a 0 = 313 := (mk_at m1 19 a 0 rfl).trans hk
  have ho1 : u1 59 0 (ps a) = 17 := (mk_at m2 59 0 _ rfl).trans ho
  have h62 : u1 62 0 (ps a) = nI (en a) := (mk_at m2 62 0 _ rfl).trans h62
  have h63 : u1 63 0 (ps a) = nI (dp a) := (mk_at m2 63 0 _ rfl).trans h63
  have e11 : 11 * nI r + nI (dp a) = nI (11 * r + dp a) := by rw [show (11 : Int32) = nI 11 from rfl, nI_mul, nI_add]
  have key := E_Runner_perform (L := L) (xs := xs) (d := d + 11) (some r) (some r) (some a) (f, g, X)
  simp (decide := true) only [onS_s, hk, if_true, if_false, E_Runner_enter, K_Runner_enter_51, h1, clI, h3] at key
  have keu := E_Ref_does (L := L) (xs := xs) (d := d + 11) (nI r) (u, Y)
  simp (decide := true) only [if_neg (nin (show r < 12 by omega) (show 12 < 2 ^ 31 by decide)), nI_clamp (show r < 2 ^ 31 by omega), A.nx, if_neg (nin hpl (show 6100 < 2 ^ 31 by decide)), nI_clamp (show ps a < 2 ^ 31 by omega), ho, if_true, if_false, K_Ref_does_58, E_Ref_worked, h2, clI, h4, ho1, K_Ref_worked_63, K_Ref_worked_91, K_Ref_worked_120, nI_1, h63, e11, if_neg (nin (show 11 * r + dp a < 132 by omega) (show 132 < 2 ^ 31 by decide)), nI_clamp (show 11 * r + dp a < 2 ^ 31 by omega), m3_r (show 62 ≠ 89 by decide), h62] at keu
  cases z with
  | true =>
    simp (decide := true) only [bI, cond_true, if_false, clI] at key keu
    refine res_stall T1 hB hr A.sp (v := 6) (by decide) key (fun u2 hu => ?_)
    rw [keu, hu (d + 6) Y]
    rfl
  | false =>
    have hw := h5 rfl
    subst hw
    simp (decide := true) only [bI, cond_false, if_true, clI] at key keu
    by_cases z1 : w < 1
    · simp only [if_pos z1] at key keu
      have M : Mid rd f1 f1 u1 (m3 u1 89 0 (11 * r + dp a) w) r := (Mid.rf T1 hr).u89 hde
      obtain ⟨o, u2, p1, p2, p3⟩ := p_adv (L := L) (xs := xs) T1 (by omega) hr A.rd (by rw [hk1]; decide) M A1.st (AT_lt (f := f1) (u := u1) T1.sS hr A.rd (fun b => rfl) (fun b _ => rfl) (fun k hk => m3_i (by omega)) A1.tn)
      refine ⟨0, m3 f1 18 r 4 0, m3 g 18 r 3 o, true, u2, ?_, ?_, Or.inl ⟨rfl, p3.le (by omega), (fun z => nomatch z)⟩⟩
      · rw [key]
        simp (decide := true) only [clV, p1, clR, E_Script_goOn, clI]
      · rw [keu, p2]
        rfl
    · have hw0 : ¬ w < 0 := fun z => z1 (by
        rw [i_lt] at z ⊢
        have e0 : (0 : Int32).toInt = 0 := by decide
        have e1 : (1 : Int32).toInt = 1 := by decide
        rw [e0] at z
        rw [e1]
        omega)
      obtain ⟨t, ht, rfl⟩ := nI_of hw0
      have t1 : 1 ≤ t := by
        refine Nat.le_of_not_lt (fun z => z1 ?_)
        exact nI_lt (b := 1) z (by decide)
      have e1 : nI t - 1 = nI (t - 1) := nI_sub (b := 1) t1
      simp only [if_neg z1, e1] at key keu
      have M : Mid rd f1 (m3 f1 19 a 6 (nI (t - 1))) u1 (m3 u1 89 0 (11 * r + dp a) (nI t)) r := ((Mid.rf T1 hr).c19 A.rd).u89 hde
      have Hb2 := (SS_mid T1 M).loc hr A.rd
      have k3' : (m3 f1 19 a 6 (nI (t - 1))) 19 a 0 = 313 := (m3_i (by decide)).trans hk1
      refine res_into T1 (by omega) hr M A1.st A.rd (Or.inl k3') hde (Hb2.b313 k3').2.2.2.2.1 (AT_new T1.sS hr A.rd t1 ht A1.tn) (fun o ho => ?_) (fun u2 hu => ?_)
      · rw [key]
        simp (decide := true) only [clV, ho, clR, E_Script_goOn, clI]
      · rw [keu, hu]
        rfl
/-- the loop or repeat that a step stands in -/
theorem tr_loop (T : SS n s q rd ps en dp lp f g u) (hr : r < n) : ∀ (D a j : Nat), dp a = D → j + D ≤ 12 → rd a = r → lp a = some b → AT f g u dp r (g 19 a 2) →
    (∀ d X i, RL (mP L xs) d 64 7 [some (rv 19 (some i)), some (rv 19 (g 19 a 2)), some (iv (nI j))] [] (f, g, X) = some (.inl (some (rv 19 (some b))), (f, g, X))) ∧ rd b = r ∧ dp b ≤ 10 ∧ (f 19 b 0 = 313 ∨ f 19 b 0 = 314) ∧ AT f g u dp r (g 19 b 2)
  | D, a, j, hD, hj, ha, hl, hA => by
    have H := T.loc hr ha
    rcases H.ow with ⟨o1, o2, o3, o4⟩ | ⟨c, o1, o2, o3, o4, o5, o6, o7⟩
    · rw [o4] at hl; cases hl
    · have key := fun d X i => K_Step_turning_7 (L := L) (xs := xs) (d := d) i (some c) (nI j) (f, g, X)
      simp only [if_pos (lt12 (show j < 12 by omega)), onS_s, reduceCtorEq, if_false] at key
      rw [o1] at hA ⊢
      by_cases k3 : f 19 c 0 = 313
      · rw [o7, if_pos (Or.inl k3)] at hl
        cases hl
        exact ⟨fun d X i => by rw [key, if_pos k3], o2, o5, Or.inl k3, AT_own hA⟩
      by_cases k4 : f 19 c 0 = 314
      · rw [o7, if_pos (Or.inr k4)] at hl
        cases hl
        exact ⟨fun d X i => by rw [key, if_neg k3, if_pos k4], o2, o5, Or.inr k4, AT_own hA⟩
      rw [o7, if_neg (not_or.mpr ⟨k3, k4⟩)] at hl
      have hDb : dp c < D := by omega
      obtain ⟨h1, h2⟩ := tr_loop T hr (dp c) c (j + 1) rfl (by omega) o2 hl (AT_own hA)
      refine ⟨fun d X i => ?_, h2⟩
      rw [key, if_neg k3, if_neg k4, nI_1]
      exact h1 d X i
  termination_by D => D
theorem pf_317 (T : TT B n s q rd ps en dp lp f g u) (hB : B + 2 < 2 ^ 30) (hr : r < n) (h3 : g 18 r 3 = some a) (hk : f 19 a 0 = 317) (ho : u 59 0 (ps a) = 21) (hl : lp a = some b) (h61 : u 61 0 (ps a) = nI (ps b)) : RES L xs d X Y B n s q rd ps en dp lp r f g u a := by
  have A := T.live hr h3
  have H := T.loc hr A.rd
  have hpl := H.pl
  have hn := T.n12
  have hde := H.de (by rw [hk]; decide)
  obtain ⟨b1, b2, b3, b4, b5⟩ := tr_loop (L := L) (xs := xs) T.sS hr (dp a) a 0 rfl (by omega) A.rd hl A.tn
  have Hb := T.loc hr b2
  have hplb := Hb.pl
  have h62 : u 62 0 (ps b) = nI (en b) := by
    rcases b4 with b4 | b4
    · exact (Hb.b313 b4).2.2.1
    · exact (Hb.b314 b4).2.1
  have hkb : f 19 b 0 ≠ 401 := by
    rcases b4 with b4 | b4 <;> rw [b4] <;> decide
  obtain ⟨o, u2, p1, p2, p3⟩ := p_adv (L := L) (xs := xs) T (by omega) hr b2 hkb (Mid.rf T hr) A.st b5
  have key := E_Runner_perform (L := L) (xs := xs) (d := d + 11) (some r) (some r) (some a) (f, g, X)
  have b1' : EL (mP L xs) (d + 11) 64 [rv 19 (some a)] (f, g, X) = some (.inl (some (rv 19 (some b))), (f, g, X)) := by
    rw [E_Step_turning]
    exact b1 (d + 10) X a
  simp (decide := true) only [onS_s, hk, if_true, if_false, b1', clR, reduceCtorEq, p1, E_Script_goOn, clV] at key
  have keu := E_Ref_does (L := L) (xs := xs) (d := d + 11) (nI r) (u, Y)
  simp (decide := true) only [if_neg (nin (show r < 12 by omega) (show 12 < 2 ^ 31 by decide)), nI_clamp (show r < 2 ^ 31 by omega), A.nx, if_neg (nin hpl (show 6100 < 2 ^ 31 by decide)), nI_clamp (show ps a < 2 ^ 31 by omega), ho, if_true, if_false, K_Ref_does_58, h61, if_neg (nin hplb (show 6100 < 2 ^ 31 by decide)), nI_clamp (show ps b < 2 ^ 31 by omega), h62, p2, clV] at keu
  exact ⟨0, m3 f 18 r 4 0, m3 g 18 r 3 o, true, u2, key, keu, Or.inl ⟨rfl, p3.le (by omega), (fun z => nomatch z)⟩⟩
end Kinds2
