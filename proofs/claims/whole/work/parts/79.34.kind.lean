/-! ===== the other kinds of a step ===== -/
section Kinds
variable {L : Nat} {xs : Nat → Int32} {d : Nat} {X : ML × (Nat → Nat) × Nat × Nat} {Y : MR × ML × (Nat → Nat) × Nat × Nat}
variable {B n s q : Nat} {rd ps en dp : Nat → Nat} {lp : Nat → Option Nat} {f f1 f2 : MI} {g : MR} {u u1 u2 : MI} {r a b : Nat}
theorem Mid.tr (M : Mid rd f f1 u u1 r) (N : Mid rd f1 f2 u1 u2 r) : Mid rd f f2 u u2 r := ⟨N.e1.trans M.e1, fun r' h => (N.hC r' h).trans (M.hC r' h), fun b h => (N.h6 b h).trans (M.h6 b h), N.e2.trans M.e2, fun r' h => (M.hU r' h).tr (N.hU r' h), N.s6, N.s7, N.s8⟩
theorem Mid.c5 (M : Mid rd f f1 u u1 r) {v : Int32} : Mid rd f (m3 f1 18 r 5 v) u u1 r := ⟨(mk_m3 rfl).trans M.e1, fun r' h => (m3_row (Or.inr h)).trans (M.hC r' h), fun b h => (m3_r (by decide)).trans (M.h6 b h), M.e2, M.hU, (m3_i (by decide)).trans M.s6, (m3_i (by decide)).trans M.s7, (m3_i (by decide)).trans M.s8⟩
theorem Mid.u86 (M : Mid rd f f1 u u1 r) {v : Int32} : Mid rd f f1 u (m3 u1 86 0 r v) r := ⟨M.e1, M.hC, M.h6, (mk_m3 rfl).trans M.e2, fun r' h => (M.hU r' h).tr (EqU.s1 (by decide) h), M.s6, M.s7, M.s8⟩
theorem Mid.u89 (M : Mid rd f f1 u u1 r) {k : Nat} (hk : k ≤ 10) {w : Int32} : Mid rd f f1 u (m3 u1 89 0 (11 * r + k) w) r := ⟨M.e1, M.hC, M.h6, (mk_m3 rfl).trans M.e2, fun r' h => (M.hU r' h).tr (EqU.s2 (Or.inr (Or.inl ⟨rfl, rfl, hk⟩)) h), M.s6, M.s7, M.s8⟩
theorem Mid.c19 (M : Mid rd f f1 u u1 r) (hb : rd b = r) {v : Int32} : Mid rd f (m3 f1 19 b 6 v) u u1 r := ⟨(mk_m3 rfl).trans M.e1, fun r' h => (m3_row (Or.inl (by decide))).trans (M.hC r' h), fun c h => (m3_o (fun e : c = b => h (by rw [e]; exact hb))).trans (M.h6 c h), M.e2, M.hU, (m3_r (by decide)).trans M.s6, (m3_r (by decide)).trans M.s7, (m3_r (by decide)).trans M.s8⟩
theorem AT_in (hk : f 19 a 0 ≠ 313) (h : AT f g u dp r (g 19 a 2)) : AT f g u dp r (some a) := fun j b hb h3 => by
  cases j with
  | zero =>
    have e : some a = some b := hb
    cases e
    exact absurd h3 hk
  | succ j => exact h j b hb h3
/-- into a block, as RES wants it -/
theorem res_into (T : TT B n s q rd ps en dp lp f1 g u1) (hB : B < 2 ^ 30) (hr : r < n) (M : Mid rd f1 f2 u1 u2 r) (h0 : u2 82 0 r = 0) {b k : Nat} {o : Option Nat} (hb : rd b = r) (hk : blk (f2 19 b 0)) (hd : dp b ≤ 10) (K : BlkAt f2 g u2 rd ps en dp r b o k) (hA : AT f2 g u2 dp r (some b))
    (h1 : ∀ o', (∀ d X, EL (mP L xs) (d + 3) 175 [rv 19 (some b), rv 19 o] (f2, g, X) = some (.inl (some (rv 19 o')), (f2, g, X))) → EL (mP L xs) (d + 12) 182 [rv 17 (some 0), rv 16 (some r), rv 18 (some r), rv 19 (some a)] (f, g, X) = some (.inl (some (iv 0)), (m3 f2 18 r 4 0, m3 g 18 r 3 o', X)))
    (h2 : ∀ u3, (∀ d Y, EL (mP L xs) (d + 3) 217 [rv 22 (some 0), iv (nI r), iv (nI k)] (u2, Y) = some (.inl none, (u3, Y))) → EL (mP L xs) (d + 12) 227 [rv 22 (some 0), iv (nI r)] (u, Y) = some (.inl (some (iv 1)), (u3, Y))) :
    RES L xs d X Y B n s q rd ps en dp lp r f g u a := by
  obtain ⟨o', k', p1, p2, p3⟩ := p_into (L := L) (xs := xs) (SS_mid T M) hr hb hk hd K hA
  obtain ⟨u3, h4, h5⟩ := p_go (L := L) (xs := xs) T hB hr M h0 p3 p2
  exact ⟨0, m3 f2 18 r 4 0, m3 g 18 r 3 o', true, u3, h1 o' p1, h2 u3 h4, Or.inl ⟨rfl, h5.le (by omega), (fun z => nomatch z)⟩⟩
theorem pf_400 (T : TT B n s q rd ps en dp lp f g u) (hB : B + 2 < 2 ^ 30) (hr : r < n) (h3 : g 18 r 3 = some a) (hk : f 19 a 0 = 400) (ho : u 59 0 (ps a) = 50) (he : en a = ps a + 1) (F : FMx f u n (f 19 a 4) (u 61 0 (ps a))) {k : Nat} (k4 : k < 4) (hn1 : f 19 a 5 = nI k) (hn2 : u 62 0 (ps a) = nI k) : RES L xs d X Y B n s q rd ps en dp lp r f g u a := by
  have A := T.live hr h3
  obtain ⟨v, w, f1, u1, z, h1, h2, h3, h4, h5, m1, m2⟩ := p_val (L := L) (xs := xs) (d := d + 7) (X := X) (Y := Y) T hr F
  have h1 : EL (mP L xs) (d + 10) 165 [rv 10 (some 0), iv (f 19 a 4), rv 16 (some r)] (f, g, X) = some (.inl (some (iv v)), (f1, g, X)) := h1
  have h2 : EL (mP L xs) (d + 10) 216 [rv 22 (some 0), iv (u 61 0 (ps a)), iv (nI r)] (u, Y) = some (.inl (some (iv w)), (u1, Y)) := h2
  have T1 := TT_ns m1 m2 T
  have hpl := (T.loc hr A.rd).pl
  have hn := T.n12
  have hk1 : f1 19 a 0 = 400 := (mk_at m1 19 a 0 rfl).trans hk
  have hn1 : f1 19 a 5 = nI k := (mk_at m1 19 a 5 rfl).trans hn1
  have hn2 : u1 62 0 (ps a) = nI k := (mk_at m2 62 0 _ rfl).trans hn2
  have ho1 : u1 59 0 (ps a) = 50 := (mk_at m2 59 0 _ rfl).trans ho
  have e4 : 4 * nI r + nI k = nI (4 * r + k) := by rw [show (4 : Int32) = nI 4 from rfl, nI_mul, nI_add]
  have key := E_Runner_perform (L := L) (xs := xs) (d := d + 11) (some r) (some r) (some a) (f, g, X)
  simp (decide := true) only [onS_s, hk, if_true, if_false, E_Runner_assign, h1, clI, h3, hn1, if_neg (nI_pos (show k < 2 ^ 31 by omega)), if_pos (show nI k < 4 from nI_lt (b := 4) k4 (by decide)), if_neg (nin k4 (show 4 < 2 ^ 31 by decide)), nI_clamp (show k < 2 ^ 31 by omega)] at key
  have keu := E_Ref_does (L := L) (xs := xs) (d := d + 11) (nI r) (u, Y)
  simp (decide := true) only [if_neg (nin (show r < 12 by omega) (show 12 < 2 ^ 31 by decide)), nI_clamp (show r < 2 ^ 31 by omega), A.nx, if_neg (nin hpl (show 6100 < 2 ^ 31 by decide)), nI_clamp (show ps a < 2 ^ 31 by omega), ho, if_true, if_false, K_Ref_does_58, E_Ref_worked, h2, clI, h4, ho1, K_Ref_worked_63, K_Ref_worked_91, K_Ref_worked_120, nI_1, hn2, e4, if_neg (nin (show 4 * r + k < 48 by omega) (show 48 < 2 ^ 31 by decide)), nI_clamp (show 4 * r + k < 2 ^ 31 by omega)] at keu
  cases z with
  | true =>
    simp (decide := true) only [bI, cond_true, if_false, clI] at key keu
    refine res_stall T1 hB hr A.sp (v := 6) (by decide) key (fun u2 hu => ?_)
    rw [keu, hu (d + 6) Y]
    rfl
  | false =>
    have hw := h5 rfl
    subst hw
    simp (decide := true) only [bI, cond_false, if_true, clI] at key keu
    have T2 := TT_reg (v := w) T1 hr k4
    refine res_adv T2 (by omega) hr A.sp (by rw [show (m3 f1 25 r k w) 19 a 0 = 400 from hk1]; decide) (fun o ho => ?_) (fun u2 hu => ?_)
    · rw [key]
      simp (decide := true) only [clV, ho, clR, E_Script_goOn, clI]
    · rw [keu, ← he, hu]
      rfl
theorem pf_318 (T : TT B n s q rd ps en dp lp f g u) (hB : B + 2 < 2 ^ 30) (hr : r < n) (h3 : g 18 r 3 = some a) (hk : f 19 a 0 = 318) (ho : u 59 0 (ps a) = 22) : RES L xs d X Y B n s q rd ps en dp lp r f g u a := by
  have A := T.live hr h3
  have hpl := (T.loc hr A.rd).pl
  have hn := T.n12
  obtain ⟨u2, h1, h2⟩ := p_ovr (L := L) (xs := xs) T (by omega) hr (Mid.rf T hr) A.st
  have key := E_Runner_perform (L := L) (xs := xs) (d := d + 11) (some r) (some r) (some a) (f, g, X)
  simp (decide := true) only [onS_s, hk, if_true, if_false, E_Script_goOn, clV] at key
  have keu := E_Ref_does (L := L) (xs := xs) (d := d + 11) (nI r) (u, Y)
  simp (decide := true) only [if_neg (nin (show r < 12 by omega) (show 12 < 2 ^ 31 by decide)), nI_clamp (show r < 2 ^ 31 by omega), A.nx, if_neg (nin hpl (show 6100 < 2 ^ 31 by decide)), nI_clamp (show ps a < 2 ^ 31 by omega), ho, if_true, if_false, K_Ref_does_58, h1, clV] at keu
  exact ⟨0, _, _, false, u2, key, keu, Or.inl ⟨rfl, h2.le (by omega), fun _ => h2.dd m3_eq⟩⟩
theorem pf_309 (T : TT B n s q rd ps en dp lp f g u) (hB : B + 2 < 2 ^ 30) (hr : r < n) (h3 : g 18 r 3 = some a) (hk : f 19 a 0 = 309) (ho : u 59 0 (ps a) = 13) (he : en a = ps a + 1) {k : Nat} (ks : k < s) (hn1 : f 19 a 5 = nI k) (hn2 : u 61 0 (ps a) = nI k) : RES L xs d X Y B n s q rd ps en dp lp r f g u a := by
  have A := T.live hr h3
  have hpl := (T.loc hr A.rd).pl
  have hn := T.n12
  have s6 : s ≤ 6 := T.cn.2.1
  have k6 : k < 6 := by omega
  have e6 : 6 * nI r + nI k = nI (6 * r + k) := by rw [show (6 : Int32) = nI 6 from rfl, nI_mul, nI_add]
  obtain ⟨i, H, a1, a2, a3⟩ := T.ss k ks
  obtain ⟨a2, a4⟩ := a2 r hr
  have hle : H r ≤ sN H n := by
    have := sN_up (H := H) (r := r) (x := 0) (n := n) hr
    omega
  have b1 : f 30 0 k = nI i := (T.sf k ks).1.trans a1
  have b2 : f 26 r k = nI (H r) := ((T.rr r hr).ra.2.2.2.2 k k6).trans a2
  have key := E_Runner_perform (L := L) (xs := xs) (d := d + 11) (some r) (some r) (some a) (f, g, X)
  simp (decide := true) only [onS_s, hk, if_true, if_false, E_Runner_claim, hn1, if_neg (nI_pos (show k < 2 ^ 31 by omega)), if_pos (show nI k < 6 from nI_lt (b := 6) k6 (by decide)), if_neg (nin k6 (show 6 < 2 ^ 31 by decide)), nI_clamp (show k < 2 ^ 31 by omega), b1, b2] at key
  have keu := E_Ref_does (L := L) (xs := xs) (d := d + 11) (nI r) (u, Y)
  simp (decide := true) only [if_neg (nin (show r < 12 by omega) (show 12 < 2 ^ 31 by decide)), nI_clamp (show r < 2 ^ 31 by omega), A.nx, if_neg (nin hpl (show 6100 < 2 ^ 31 by decide)), nI_clamp (show ps a < 2 ^ 31 by omega), ho, if_true, if_false, E_Ref_shares, hn2, e6, if_neg (nin (show 6 * r + k < 72 by omega) (show 72 < 2 ^ 31 by decide)), nI_clamp (show 6 * r + k < 2 ^ 31 by omega), if_neg (nin k6 (show 6 < 2 ^ 31 by decide)), nI_clamp (show k < 2 ^ 31 by omega), a1, a2, nI_1] at keu
  by_cases z1 : H r = 2
  · simp (decide := true) only [z1, if_false, if_true, show nI 2 = 2 from rfl, clI] at key keu
    refine res_stall T hB hr A.sp (v := 3) (by decide) key (fun u2 hu => ?_)
    rw [keu, hu (d + 6) Y]
    rfl
  have y1 : nI (H r) < 2 := nI_lt (b := 2) (by omega) (by decide)
  have y2 : ¬ nI (H r) = 2 := fun e => z1 ((nI_eq (b := 2) (by omega) (by decide)).mp e)
  simp only [if_pos y1, if_neg y2] at key keu
  by_cases z2 : i = 0
  · simp (decide := true) only [z2, if_false, if_true, nI_0, clI] at key keu
    exact ⟨-1, f, g, false, u, key, keu, Or.inr (Or.inl ⟨rfl, rfl, (PG_live T (by rw [A.sp]; exact fun z => nomatch z) A.st).le (by omega)⟩)⟩
  have y3 : ¬ nI i < 1 := nI_nlt (b := 1) (by omega) (by omega)
  have y4 : ¬ nI i = 0 := fun e => z2 ((nI_eq (b := 0) (by omega) (by decide)).mp e)
  have e1 : nI i - 1 = nI (i - 1) := nI_sub (b := 1) (by omega) 
  have T2 := TT_staff (x := nI (i - 1)) (y := nI (H r + 1)) T hr k6 (fun _ => ⟨i - 1, H r + 1, rfl, rfl, by omega, fun i' h' x1 x2 x3 x4 => by
    have := (nI_eq (a := i) (b := i') (by omega) (by omega)).mp (a1.symm.trans x1)
    have := (nI_eq (a := H r) (b := h') (by omega) (by omega)).mp (a2.symm.trans x2)
    omega⟩)
  simp (decide := true) only [if_neg y3, if_neg y4, e1, m3_r (show 26 ≠ 30 by decide), m3_r (show 90 ≠ 91 by decide), b2, a2, nI_1] at key keu
  refine res_adv T2 (by omega) hr A.sp (by rw [show (m3 (m3 f 30 0 k (nI (i - 1))) 26 r k (nI (H r + 1))) 19 a 0 = 309 from hk]; decide) (fun o ho => ?_) (fun u2 hu => ?_)
  · rw [key]
    simp (decide := true) only [clV, ho, clR, E_Script_goOn, clI]
  · rw [keu, ← he, hu]
    rfl
theorem pf_310 (T : TT B n s q rd ps en dp lp f g u) (hB : B + 2 < 2 ^ 30) (hr : r < n) (h3 : g 18 r 3 = some a) (hk : f 19 a 0 = 310) (ho : u 59 0 (ps a) = 14) (he : en a = ps a + 1) {k : Nat} (ks : k < s) (hn1 : f 19 a 5 = nI k) (hn2 : u 61 0 (ps a) = nI k) : RES L xs d X Y B n s q rd ps en dp lp r f g u a := by
  have A := T.live hr h3
  have hpl := (T.loc hr A.rd).pl
  have hn := T.n12
  have s6 : s ≤ 6 := T.cn.2.1
  have k6 : k < 6 := by omega
  have e6 : 6 * nI r + nI k = nI (6 * r + k) := by rw [show (6 : Int32) = nI 6 from rfl, nI_mul, nI_add]
  obtain ⟨i, H, a1, a2, a3⟩ := T.ss k ks
  obtain ⟨a2, a4⟩ := a2 r hr
  have hle : H r ≤ sN H n := by
    have := sN_up (H := H) (r := r) (x := 0) (n := n) hr
    omega
  have b1 : f 30 0 k = nI i := (T.sf k ks).1.trans a1
  have b2 : f 26 r k = nI (H r) := ((T.rr r hr).ra.2.2.2.2 k k6).trans a2
  have key := E_Runner_perform (L := L) (xs := xs) (d := d + 11) (some r) (some r) (some a) (f, g, X)
  simp (decide := true) only [onS_s, hk, if_true, if_false, E_Runner_release, hn1, if_neg (nI_pos (show k < 2 ^ 31 by omega)), if_pos (show nI k < 6 from nI_lt (b := 6) k6 (by decide)), if_neg (nin k6 (show 6 < 2 ^ 31 by decide)), nI_clamp (show k < 2 ^ 31 by omega), b1, b2] at key
  have keu := E_Ref_does (L := L) (xs := xs) (d := d + 11) (nI r) (u, Y)
  simp (decide := true) only [if_neg (nin (show r < 12 by omega) (show 12 < 2 ^ 31 by decide)), nI_clamp (show r < 2 ^ 31 by omega), A.nx, if_neg (nin hpl (show 6100 < 2 ^ 31 by decide)), nI_clamp (show ps a < 2 ^ 31 by omega), ho, if_true, if_false, E_Ref_shares, hn2, e6, if_neg (nin (show 6 * r + k < 72 by omega) (show 72 < 2 ^ 31 by decide)), nI_clamp (show 6 * r + k < 2 ^ 31 by omega), if_neg (nin k6 (show 6 < 2 ^ 31 by decide)), nI_clamp (show k < 2 ^ 31 by omega), a1, a2, nI_1] at keu
  by_cases z1 : H r = 0
  · simp (decide := true) only [z1, if_false, if_true, nI_0, clI] at key keu
    refine res_stall T hB hr A.sp (v := 3) (by decide) key (fun u2 hu => ?_)
    rw [keu, hu (d + 6) Y]
    rfl
  have y1 : ¬ nI (H r) < 1 := nI_nlt (b := 1) (by omega) (by omega)
  have y2 : ¬ nI (H r) = 0 := fun e => z1 ((nI_eq (b := 0) (by omega) (by decide)).mp e)
  have e1 : nI (H r) - 1 = nI (H r - 1) := nI_sub (b := 1) (by omega)
  have T2 := TT_staff (x := nI (i + 1)) (y := nI (H r - 1)) T hr k6 (fun _ => ⟨i + 1, H r - 1, rfl, rfl, by omega, fun i' h' x1 x2 x3 x4 => by
    have := (nI_eq (a := i) (b := i') (by omega) (by omega)).mp (a1.symm.trans x1)
    have := (nI_eq (a := H r) (b := h') (by omega) (by omega)).mp (a2.symm.trans x2)
    omega⟩)
  rw [m3_comm (Or.inl (show (30 : Nat) ≠ 26 by decide))] at T2
  simp (decide := true) only [if_neg y1, if_neg y2, e1, m3_r (show 30 ≠ 26 by decide), m3_r (show 90 ≠ 91 by decide), b1, a2, nI_1] at key keu
  refine res_adv T2 (by omega) hr A.sp (by rw [show (m3 (m3 f 26 r k (nI (H r - 1))) 30 0 k (nI (i + 1))) 19 a 0 = 310 from hk]; decide) (fun o ho => ?_) (fun u2 hu => ?_)
  · rw [key]
    simp (decide := true) only [clV, ho, clR, E_Script_goOn, clI]
  · rw [keu, ← he, hu]
    rfl
end Kinds
