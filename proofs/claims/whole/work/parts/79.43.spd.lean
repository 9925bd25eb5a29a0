/-! ===== load, mend, wait ===== -/
section Spd
variable {L : Nat} {xs : Nat → Int32} {d : Nat} {X : ML × (Nat → Nat) × Nat × Nat} {Y : MR × ML × (Nat → Nat) × Nat × Nat}
variable {B B' n s q : Nat} {rd ps en dp : Nat → Nat} {lp : Nat → Option Nat} {f f1 f2 f' : MI} {g : MR} {u u1 u2 u' : MI} {r a b : Nat}
theorem sp_go (T : TT B n s q rd ps en dp lp f1 g u1) (hB : B + 2 < 2 ^ 30) (hr : r < n) (h3 : g 18 r 3 = some a) (he : en a = ps a + 1) (h87 : u1 87 0 r ≠ 0) (hK : (f1 19 a 0 = 304 ∧ u1 59 0 (ps a) = 8) ∨ (f1 19 a 0 = 306 ∧ u1 59 0 (ps a) = 10) ∨ (f1 19 a 0 = 307 ∧ u1 59 0 (ps a) = 11)) {z4 z3 : Option MV}
    (key : EL (mP L xs) (d + 12) 182 [rv 17 (some 0), rv 16 (some r), rv 18 (some r), rv 19 (some a)] (f, g, X) = mclI (if f1 19 a 0 = 307 then RL (mP L xs) (d + 10) 173 80 [some (rv 17 (some 0)), some (rv 16 (some r)), some (rv 18 (some r)), some (rv 19 (some a)), z4] [] (f1, g, X) else mclI (EL (mP L xs) (d + 10) 170 [rv 16 (some r)] (f1, g, X)) (fun x h => if x = 0 then some (.inl (some (iv 1)), h) else RL (mP L xs) (d + 10) 173 80 [some (rv 17 (some 0)), some (rv 16 (some r)), some (rv 18 (some r)), some (rv 19 (some a)), z4] [] h) (fun e h => some (.inr e, h))) (fun x h => some (.inl (some (iv x)), h)) (fun e h => some (.inr e, h)))
    (keu : EL (mP L xs) (d + 12) 227 [rv 22 (some 0), iv (nI r)] (u, Y) = mclI (RL (mP L xs) (d + 10) 221 66 [some (rv 22 (some 0)), some (iv (nI r)), some (iv (nI (ps a))), z3] [] (u1, Y)) (fun x h => some (.inl (some (iv (x &&& 1))), h)) (fun e h => some (.inr e, h))) :
    RES L xs d X Y B n s q rd ps en dp lp r f g u a := by
  have A := T.live hr h3
  have hpl := (T.loc hr A.rd).pl
  have hn := T.n12
  obtain ⟨⟨kd, M⟩, -⟩ := T.rr r hr
  obtain ⟨cb, c1, c2⟩ := b_calm (L := L) (xs := xs) (d := d + 8) M (hc := (f1, g, X)) (hr := (u1, Y)) rfl rfl
  have c1 : EL (mP L xs) (d + 10) 170 [rv 16 (some r)] (f1, g, X) = some (.inl (some (iv (bif cb then 1 else 0))), (f1, g, X)) := c1
  have c2 : EL (mP L xs) (d + 10) 219 [rv 22 (some 0), iv (nI r)] (u1, Y) = some (.inl (some (iv (bif cb then 1 else 0))), (u1, Y)) := c2
  rcases hK with ⟨hk, ho⟩ | ⟨hk, ho⟩ | ⟨hk, ho⟩
  · simp (decide := true) only [hk, if_false, c1, clI] at key
    simp (decide := true) only [K_Ref_takes_66, if_neg (nin hpl (show 6100 < 2 ^ 31 by decide)), nI_clamp (show ps a < 2 ^ 31 by omega), ho, if_false, c2, clI, if_true] at keu
    cases cb with
    | false =>
      simp (decide := true) only [cond_false, if_true, clI] at key keu
      refine res_stall T hB hr A.sp (v := 1) (by decide) key (fun u2 hu => ?_)
      rw [keu, hu (d + 6) Y]
      rfl
    | true =>
      simp (decide := true) only [cond_true, if_false] at key keu
      obtain ⟨x, f3, u2, p, p0, p1, p2, p3, p4, p5, p6⟩ := p_board (L := L) (xs := xs) T hr
      have hk2 : (m3 (m3 f3 16 r 12 (f1 16 r 12 + nI x)) 11 0 13 (f3 11 0 13 + f3 15 r 4)) 19 a 0 = 304 := (p5 a).trans hk
      refine sp_tail (z4 := some (iv (nI p))) (z3 := z3) p3 hB hr h3 (by rw [hk2]; decide) he (by rw [p4]; exact h87) ?_ ?_
      · rw [key, K_Runner_spend_80]
        simp (decide := true) only [onS_s, hk, if_true, E_Ride_placesLeft, clI, p0]
        rw [p1 (d + 8) X]
        simp only [clI]
        rfl
      · rw [keu, p2 (d + 8) Y]
        simp only [clV]
        rw [K_Ref_takes_109]
        have ho2 : u2 59 0 (ps a) = 8 := by rw [p6]; exact ho
        simp (decide := true) only [if_neg (nin hpl (show 6100 < 2 ^ 31 by decide)), nI_clamp (show ps a < 2 ^ 31 by omega), ho2, if_false]
  · simp (decide := true) only [hk, if_false, c1, clI] at key
    simp (decide := true) only [K_Ref_takes_66, if_neg (nin hpl (show 6100 < 2 ^ 31 by decide)), nI_clamp (show ps a < 2 ^ 31 by omega), ho, if_false, c2, clI, if_true] at keu
    cases cb with
    | false =>
      simp (decide := true) only [cond_false, if_true, clI] at key keu
      refine res_stall T hB hr A.sp (v := 1) (by decide) key (fun u2 hu => ?_)
      rw [keu, hu (d + 6) Y]
      rfl
    | true =>
      simp (decide := true) only [cond_true, if_false] at key keu
      obtain ⟨w, w1, w2⟩ := M.rg.we
      have hw : f1 16 r 15 = nI w := M.mo.2.2.2.2.2.2.2.2.trans w2
      have T2 := TT_m15 (v := nI (w - 50)) T hr (fun kd M => Rng_81 M.rg ⟨w - 50, by omega, rfl⟩)
      have hk2 : (m3 f1 16 r 15 (nI (w - 50))) 19 a 0 = 306 := hk
      have ew : (if (0 : Int32) < nI w - 50 then nI w - 50 else 0) = nI (w - 50) := by
        by_cases z : 50 ≤ w
        · rw [show nI w - 50 = nI (w - 50) from nI_sub (b := 50) z]
          by_cases z2 : w = 50
          · subst z2; rfl
          · rw [if_pos (show 0 < nI (w - 50) from nI_lt (a := 0) (by omega) (by omega))]
        · have e1 : nI w - 50 < 0 := by
            have : ∀ w : Nat, w < 50 → nI w - 50 < 0 := by decide
            exact this w (by omega)
          rw [if_neg, show w - 50 = 0 by omega, nI_0]
          intro z3
          rw [i_lt] at e1 z3
          omega
      refine sp_tail (z4 := z4) (z3 := z3) T2 hB hr h3 (by rw [hk2]; decide) he h87 ?_ ?_
      · rw [key, K_Runner_spend_80]
        simp (decide := true) only [onS_s, hk, if_true, if_false, hw, ew]
      · rw [keu, K_Ref_takes_109]
        simp (decide := true) only [if_neg (nin hpl (show 6100 < 2 ^ 31 by decide)), nI_clamp (show ps a < 2 ^ 31 by omega), ho, if_true, if_neg (nin (show r < 12 by omega) (show 12 < 2 ^ 31 by decide)), nI_clamp (show r < 2 ^ 31 by omega), w2]
        by_cases z : w < 50
        · rw [if_pos (show nI w < 50 from nI_lt (b := 50) z (by decide)), show w - 50 = 0 by omega, nI_0]
        · rw [if_neg (show ¬ nI w < 50 from nI_nlt (b := 50) (by omega) (by omega)), show nI w - 50 = nI (w - 50) from nI_sub (b := 50) (by omega)]
  · simp (decide := true) only [hk, if_true] at key
    simp (decide := true) only [K_Ref_takes_66, if_neg (nin hpl (show 6100 < 2 ^ 31 by decide)), nI_clamp (show ps a < 2 ^ 31 by omega), ho, if_false, if_true] at keu
    refine sp_tail (z4 := z4) (z3 := z3) T hB hr h3 (by rw [hk]; decide) he h87 ?_ ?_
    · rw [key, K_Runner_spend_80]
      simp (decide := true) only [onS_s, hk, if_true, if_false]
    · rw [keu, K_Ref_takes_109]
      simp (decide := true) only [if_neg (nin hpl (show 6100 < 2 ^ 31 by decide)), nI_clamp (show ps a < 2 ^ 31 by omega), ho, if_false]
theorem pf_sp (T : TT B n s q rd ps en dp lp f g u) (hB : B + 2 < 2 ^ 30) (hr : r < n) (h3 : g 18 r 3 = some a) (he : en a = ps a + 1) (hK : (f 19 a 0 = 304 ∧ u 59 0 (ps a) = 8) ∨ (f 19 a 0 = 306 ∧ u 59 0 (ps a) = 10) ∨ (f 19 a 0 = 307 ∧ u 59 0 (ps a) = 11)) (F : FMx f u n (f 19 a 4) (u 61 0 (ps a))) : RES L xs d X Y B n s q rd ps en dp lp r f g u a := by
  have A := T.live hr h3
  have hpl := (T.loc hr A.rd).pl
  have hn := T.n12
  have key : EL (mP L xs) (d + 12) 182 [rv 17 (some 0), rv 16 (some r), rv 18 (some r), rv 19 (some a)] (f, g, X) = mclI (EL (mP L xs) (d + 11) 173 [rv 17 (some 0), rv 16 (some r), rv 18 (some r), rv 19 (some a)] (f, g, X)) (fun x h => some (.inl (some (iv x)), h)) (fun e h => some (.inr e, h)) := by
    rcases hK with ⟨hk, ho⟩ | ⟨hk, ho⟩ | ⟨hk, ho⟩ <;> rw [E_Runner_perform (d := d + 11)] <;> simp (decide := true) only [onS_s, hk, if_true, if_false]
  have keu : EL (mP L xs) (d + 12) 227 [rv 22 (some 0), iv (nI r)] (u, Y) = mclI (EL (mP L xs) (d + 11) 221 [rv 22 (some 0), iv (nI r), iv (nI (ps a))] (u, Y)) (fun x h => some (.inl (some (iv (x &&& 1))), h)) (fun e h => some (.inr e, h)) := by
    rcases hK with ⟨hk, ho⟩ | ⟨hk, ho⟩ | ⟨hk, ho⟩ <;> rw [E_Ref_does (d := d + 11)] <;> simp (decide := true) only [if_neg (nin (show r < 12 by omega) (show 12 < 2 ^ 31 by decide)), nI_clamp (show r < 2 ^ 31 by omega), A.nx, if_neg (nin hpl (show 6100 < 2 ^ 31 by decide)), nI_clamp (show ps a < 2 ^ 31 by omega), ho, if_true, if_false]
  rw [E_Runner_spend] at key
  rw [E_Ref_takes] at keu
  simp only [onS_s] at key
  simp only [if_neg (nin (show r < 12 by omega) (show 12 < 2 ^ 31 by decide)), nI_clamp (show r < 2 ^ 31 by omega), if_neg (nin hpl (show 6100 < 2 ^ 31 by decide)), nI_clamp (show ps a < 2 ^ 31 by omega), nI_1] at keu
  by_cases h87 : u 87 0 r = 0
  · have h4 : f 18 r 4 = 0 := A.bg.trans h87
    rw [if_pos h4] at key
    rw [if_pos h87] at keu
    obtain ⟨v, w, f1, u1, z, h1, h2, h3, h4, h5, m1, m2⟩ := p_val (L := L) (xs := xs) (d := d + 7) (X := X) (Y := Y) T hr F
    have h1 : EL (mP L xs) (d + 10) 165 [rv 10 (some 0), iv (f 19 a 4), rv 16 (some r)] (f, g, X) = some (.inl (some (iv v)), (f1, g, X)) := h1
    have h2 : EL (mP L xs) (d + 10) 216 [rv 22 (some 0), iv (u 61 0 (ps a)), iv (nI r)] (u, Y) = some (.inl (some (iv w)), (u1, Y)) := h2
    have T1 := TT_ns m1 m2 T
    have A1 := T1.live hr A.sp
    have hK1 : (f1 19 a 0 = 304 ∧ u1 59 0 (ps a) = 8) ∨ (f1 19 a 0 = 306 ∧ u1 59 0 (ps a) = 10) ∨ (f1 19 a 0 = 307 ∧ u1 59 0 (ps a) = 11) := by
      rw [mk_at m1 19 a 0 rfl, mk_at m2 59 0 (ps a) rfl]
      exact hK
    have hkn : f1 19 a 0 ≠ 401 := by
      rcases hK1 with ⟨hk, ho⟩ | ⟨hk, ho⟩ | ⟨hk, ho⟩ <;> rw [hk] <;> decide
    simp only [h1, clI, h3] at key
    simp only [h2, clI, h4] at keu
    cases z with
    | true =>
      simp (decide := true) only [bI, cond_true, if_false, clI] at key keu
      refine res_stall T1 hB hr A.sp (v := 6) (by decide) key (fun u2 hu => ?_)
      rw [keu, hu (d + 6) Y]
      rfl
    | false =>
      have hw := h5 rfl
      subst hw
      simp (decide := true) only [bI, cond_false, if_true] at key keu
      by_cases z1 : w < 1
      · simp only [if_pos z1] at key keu
        refine res_adv T1 (by omega) hr A.sp hkn (fun o ho => ?_) (fun u2 hu => ?_)
        · rw [key]
          simp (decide := true) only [clV, ho, clR, E_Script_goOn, clI]
        · rw [keu, ← he, hu]
          rfl
      · have hw0 : ¬ w < 0 := fun z => z1 (by
          rw [i_lt] at z ⊢
          have e0 : (0 : Int32).toInt = 0 := by decide
          have e1 : (1 : Int32).toInt = 1 := by decide
          rw [e0] at z
          rw [e1]
          omega)
        obtain ⟨t, ht, rfl⟩ := nI_of hw0
        have t1 : 1 ≤ t := Nat.le_of_not_lt (fun z => z1 (nI_lt (b := 1) z (by decide)))
        simp only [if_neg z1] at key keu
        have M : Mid rd f1 (m3 (m3 f1 18 r 4 1) 18 r 5 (nI t)) u1 (m3 (m3 u1 86 0 r (nI t)) 87 0 r 1) r := (((Mid.rf T1 hr).c4).c5).u86.u87
        have T2 : TT B n s q rd ps en dp lp (m3 (m3 f1 18 r 4 1) 18 r 5 (nI t)) (m3 g 18 r 3 (some a)) (m3 (m3 u1 86 0 r (nI t)) 87 0 r 1) := by
          refine TT_mid T1 hr M (Or.inl ⟨a, m3_eq, A.rd, A1.nx, A1.st, ?_, A1.ag, ?_, Or.inr ⟨m3_eq, t, t1, ht, ?_, m3_eq⟩⟩)
          · intro j b hb hk
            have hgg : (m3 g 18 r 3 (some a)) 19 = g 19 := rfl
            rw [up_g hgg, hgg] at hb
            exact A1.tn j b hb hk
          · rw [m3_eq, m3_i (by decide), m3_eq]
          · rw [m3_r (by decide), m3_eq]
        rw [m3_same A.sp] at T2
        exact sp_go T2 hB hr A.sp he (by rw [m3_eq]; decide) hK1 key keu
  · have h4 : ¬ f 18 r 4 = 0 := fun e => h87 (A.bg.symm.trans e)
    rw [if_neg h4] at key
    rw [if_neg h87] at keu
    exact sp_go T hB hr A.sp he h87 hK key keu
/-- every step that a script stands at -/
theorem res_all (T : TT B n s q rd ps en dp lp f g u) (hB : B + 2 < 2 ^ 30) (hr : r < n) (h3 : g 18 r 3 = some a) : RES L xs d X Y B n s q rd ps en dp lp r f g u a := by
  have A := T.live hr h3
  have H := T.loc hr A.rd
  rcases H.kd with ⟨he, h | h | h | h | h | h | h | h | h⟩ | (h | h | h | h) | h
  · obtain ⟨⟨k1, k2⟩ | ⟨k1, k2⟩ | ⟨k1, k2⟩ | ⟨k1, k2⟩, F⟩ := h
    · exact pf_301 T hB hr h3 k1 k2 he F
    · exact pf_302 T hB hr h3 k1 k2 he F
    · exact pf_319 T hB hr h3 k1 k2 he F
    · exact pf_303 T hB hr h3 k1 k2 he F
  · exact pf_sp T hB hr h3 he h.1 h.2
  · exact pf_305 T hB hr h3 h.1 h.2 he
  · exact pf_318 T hB hr h3 h.1 h.2
  · exact pf_308 T hB hr h3 h.1 h.2.1 he h.2.2
  · obtain ⟨⟨k1, k2⟩ | ⟨k1, k2⟩, k, k3, k4, k5⟩ := h
    · exact pf_309 T hB hr h3 k1 k2 he k3 k4 k5
    · exact pf_310 T hB hr h3 k1 k2 he k3 k4 k5
  · obtain ⟨⟨k1, k2⟩ | ⟨k1, k2⟩, k, k3, k4, k5⟩ := h
    · exact pf_311 T hB hr h3 k1 k2 he k3 k4 k5
    · exact pf_312 T hB hr h3 k1 k2 he k3 k4 k5
  · obtain ⟨k1, k2, F, k, k3, k4, k5⟩ := h
    exact pf_400 T hB hr h3 k1 k2 he F k3 k4 k5
  · obtain ⟨k1, k2, b, k3, k4⟩ := h
    exact pf_317 T hB hr h3 k1 k2 k3 k4
  · exact pf_313 T hB hr h3 h.1
  · exact pf_314 T hB hr h3 h.1
  · exact pf_315 T hB hr h3 h.1
  · exact pf_316 T hB hr h3 h.1
  · exact pf_401 T hB hr h3 h
end Spd
