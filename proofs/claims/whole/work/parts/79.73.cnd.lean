/-! ===== read: a question, whole ===== -/
section Cnd
variable {L : Nat} {xs : Nat → Int32} {Y : MR × ML × (Nat → Nat) × Nat × Nat} {N k t c q s cn fl : Nat} {b : Nat → Nat} {sg : Nat → Int32} {f f2 u u2 : MI} {nt ns nn : Nat → Nat}
theorem par_v : ∀ m, m < 13 → nI m - nI m / 2 * 2 = bif m % 2 == 1 then 1 else 0 := by decide +kernel
theorem max_v : ∀ v, v < 100 → (if (0 : Int32) < nI v then nI v else 0) = nI v := by decide +kernel
theorem bif_le {m : Nat} : (bif m % 2 == 1 then 1 else 0) ≤ m ∧ (bif m % 2 == 1 then 1 else 0) ≤ 1 := by
  by_cases z : m % 2 = 1
  · rw [z]
    show 1 ≤ m ∧ 1 ≤ 1
    omega
  · have e : (m % 2 == 1) = false := by rw [show m % 2 = 0 by omega]; rfl
    rw [e]
    exact ⟨Nat.zero_le m, Nat.zero_le 1⟩
theorem GX.mv {t' c' q' : Nat} (G : GX N k b sg cn nt ns nn f u t c q) (P : PX f2 u2 N k b sg t') (cc : f2 10 0 3 = nI c') (cl : c' ≤ t') (qu : u2 22 0 45 = nI q') (ql : q' ≤ 2 * t') (hf : FrC c f f2) (hu : FrQ q u u2) : GX N k b sg cn nt ns nn f2 u2 t' c' q' := ⟨P, cc, cl, qu, ql, G.nc.frC hf, G.nz.frQ hu⟩
theorem bad_ask {s : Nat} {a1 a2 a3 a4 a5 a6 p0 q0 : Int32} (E : ED f p0 q0) (h1 : u 22 0 12 = p0) (h2 : u 22 0 13 = q0) : BAD f (m3 (m3 (m3 (m3 (m3 (m3 u 68 0 s a1) 69 0 s a2) 70 0 s a3) 71 0 s a4) 72 0 s a5) 22 0 51 a6) := ⟨p0, q0, E, by rw [m3_i (by decide), m3_r (by decide), m3_r (by decide), m3_r (by decide), m3_r (by decide), m3_r (by decide)]; exact h1, by rw [m3_i (by decide), m3_r (by decide), m3_r (by decide), m3_r (by decide), m3_r (by decide), m3_r (by decide)]; exact h2⟩
theorem fra_ask {s : Nat} {a1 a2 a3 a4 a5 a6 : Int32} : FrA q s u (m3 (m3 (m3 (m3 (m3 (m3 u 68 0 s a1) 69 0 s a2) 70 0 s a3) 71 0 s a4) 72 0 s a5) 22 0 51 a6) := fun R o i z => by
  rw [m3_no (by omega), m3_no (by omega), m3_no (by omega), m3_no (by omega), m3_no (by omega), m3_no (by omega)]
theorem q_one (G : GX N k b sg cn nt ns nn f u t c q) (hc1 : c + 1 ≤ t) (hsu : u 22 0 51 = nI s) (hsl : 2 * s ≤ t) (hfl : ∀ i, i < cn → ns i = 1 → nn i < fl) :
    ∃ f2 u2, (∀ d g X v1 v2 v4 (z5 z6 z7 : Option MV), 70 ≤ d → v4 < (4000 : Int32) → ∃ x4 z6', RL (mP L xs) d 78 15 [some (rv 13 (some 0)), some (iv v1), some (iv v2), some (iv 1), some (iv v4), z5, z6, z7] [] (f, g, X) = RL (mP L xs) d 78 150 [some (rv 13 (some 0)), some (iv v1), some (iv v2), some (iv 1), some (iv v4), some (iv x4), z6', z7] [] (f2, g, X)) ∧ (∀ d, 72 ≤ d → EL (mP L xs) d 121 [rv 22 (some 0)] (u, Y) = some (.inl none, (u2, Y))) ∧ ((∃ t' c' q', QG N k b sg fl f u t c q s f2 u2 t' c' q') ∨ QB f u c q s f2 u2) := by
  have htk := G.px.tk
  have hkp := G.px.lc.kp
  have hql := G.ql
  obtain ⟨f1, u1, m, t1, a1, a2, a3, a4, a5⟩ := q_nots (L := L) (xs := xs) (Y := Y) (z2 := none) (z3 := none) (z4 := none) (z5 := none) 12 0 t f u rfl G.px
  have a3' : ∀ d g X, 2 ≤ d → EL (mP L xs) d 75 [rv 13 (some 0)] (f, g, X) = some (.inl (some (iv (nI m))), (f1, g, X)) := fun d g X hd => by
    obtain ⟨d, rfl⟩ : ∃ d', d = d' + 1 := ⟨d - 1, by omega⟩
    rw [E_FormulaReader_nots]
    exact a3 d g X (by omega)
  have hc1' : f1 10 0 3 = nI c := (a4.1 10 0 3 (by omega)).trans G.cc
  rcases a5 with ⟨x1, P1, z, x4⟩ | ⟨x1, x2, x3⟩
  · have htk1 := P1.tk
    have G1 : GX N k b sg cn nt ns nn f1 u1 t1 c q := G.mv P1 hc1' (by omega) ((a4.2 22 0 45 (by omega)).trans G.qu) (by omega) (FrC.ft a4) (FrQ.ft a4)
    have hsu1 : u1 22 0 51 = nI s := (a4.2 22 0 51 (by omega)).trans hsu
    have i50 : ∀ d, EL (mP L xs) (d + 1) 120 [rv 22 (some 0), iv 50] (u1, Y) = some (.inl (some (iv 0)), (u1, Y)) := fun d => (px_isW (L := L) (xs := xs) (d := d) (Y := Y) P1 (j := 50) (by decide)).trans (by rw [if_neg (show ¬ sg t1 = nI (301 + 50) from z)])
    have i47 : ∀ d, EL (mP L xs) (d + 1) 120 [rv 22 (some 0), iv 47] (u1, Y) = some (.inl (some (iv (if sg t1 = 348 then 1 else 0))), (u1, Y)) := fun d => px_isW (L := L) (xs := xs) (d := d) (Y := Y) P1 (j := 47) (by decide)
    have hbm := bif_le (m := m)
    by_cases y : sg t1 = 348
    · -- up
      obtain ⟨b1, u2, b2, b3, b4⟩ := px_adv (L := L) (xs := xs) (Y := Y) P1 (by rw [y]; decide) (by rw [y]; decide)
      have hp4 := b4.tk
      have nc2 := G1.nc.frC (FrC.at6 (c := c) (v := nI (t1 + 1)))
      have nz2 := G1.nz.frQ (FrQ.f6 (q := q) b3)
      have kC : ∀ d g X v1 v2 v4 (z5 z6 z7 : Option MV), 70 ≤ d → v4 < (4000 : Int32) → RL (mP L xs) d 78 15 [some (rv 13 (some 0)), some (iv v1), some (iv v2), some (iv 1), some (iv v4), z5, z6, z7] [] (f, g, X) = mclI (EL (mP L xs) d 76 [rv 14 (some 0), iv 1] (m3 f1 20 0 6 (nI (t1 + 1)), g, X)) (fun x15 h14 => mclV (EL (mP L xs) d 68 [rv 10 (some 0), iv 4, iv (if (0 : Int32) < x15 then x15 else 0)] h14) (fun h16 => if nI m - nI m / 2 * 2 = 0 then (RL (mP L xs) d 78 150 [some (rv 13 (some 0)), some (iv v1), some (iv v2), some (iv 1), some (iv v4), some (iv (nI m)), z6, z7] [] h16) else (mclV (EL (mP L xs) d 68 [rv 10 (some 0), iv 6, iv 0] h16) (fun h17 => RL (mP L xs) d 78 150 [some (rv 13 (some 0)), some (iv v1), some (iv v2), some (iv 1), some (iv v4), some (iv (nI m)), z6, z7] [] h17) (fun e h => some (.inr e, h)))) (fun e h => some (.inr e, h))) (fun e h => some (.inr e, h)) := fun d g X v1 v2 v4 z5 z6 z7 hd hv => by
        have h3 := a3' d g X (by omega)
        obtain ⟨d, rfl⟩ : ∃ d', d = d' + 1 := ⟨d - 1, by omega⟩
        rw [K_FormulaReader_condition_15, if_pos hv, if_neg (by decide), h3, clI, px_sort P1, clI, if_pos y, b1, clV]
      have kU : ∀ d, 72 ≤ d → EL (mP L xs) d 121 [rv 22 (some 0)] (u, Y) = mclI (EL (mP L xs) (d - 1) 106 [rv 22 (some 0), iv 2] (u2, Y)) (fun x9 h8 => RL (mP L xs) (d - 1) 121 171 [some (rv 22 (some 0)), some (iv (nI m)), some (iv x9), some (iv 0), some (iv 0), none] [] h8) (fun e h => some (.inr e, h)) := fun d hd => by
        obtain ⟨d, rfl⟩ : ∃ d', d = d' + 2 := ⟨d - 2, by omega⟩
        have h2 : EL (mP L xs) (d + 1) 101 [rv 22 (some 0)] (u1, Y) = some (.inl none, (u2, Y)) := EL_mono (by omega) b2
        have h4 := x4 (d + 1) (by omega)
        rw [E_Ref_question]
        refine Eq.trans h4 ?_
        rw [K_Ref_question_2, i50, clI, if_pos rfl, i47, clI, if_pos y, if_neg (by decide), h2, clV]
        rfl
      rcases px_old (L := L) (xs := xs) (Y := Y) b4 nc2 nz2 (s := 1) (by decide) with ⟨u3, j, j1, j2, j3, j4, j5, j6, j7, j8⟩ | ⟨f3, u3, j1, j2, j3, j4⟩
      · have hj := hfl j j1 j2
        have hn := (G.nc.ar j j1).2.2.2.1
        have hp6 := j6.tk
        generalize hf3 : m3 (m3 f1 20 0 6 (nI (t1 + 1))) 20 0 6 (nI (t1 + 1 + 1)) = f3 at j4 j6
        have hc3 : f3 10 0 3 = nI c := by rw [← hf3, m3_r (by decide), m3_r (by decide)]; exact hc1'
        have hput := fun d g X => c_put (L := L) (xs := xs) (d := d) (g := g) (X := X) (w := 4) (v := nn j) hc3 (show c < 4001 by omega) (by decide) (by omega)
        generalize hf4 : m3 (m3 f3 32 0 c (nI (4 + 32 * nn j))) 10 0 3 (nI (c + 1)) = f4 at hput
        have hc4 : f4 10 0 3 = nI (c + 1) := by rw [← hf4]; exact m3_eq
        obtain ⟨f5, p1, p2, p3, p4⟩ := q_par (L := L) (xs := xs) hc4 (show c + 1 < 4001 by omega) (show m < 13 by omega)
        have hsu3 : u3 22 0 51 = nI s := (j7 22 0 51 (by omega)).trans ((b3 22 0 51 (by omega)).trans hsu1)
        have hF3 : FrC c f f3 := fun R o i w => by rw [← hf3, m3_no (by omega), m3_no (by omega)]; exact a4.1 R o i (by omega)
        have hU3 : FrA q s u u3 := ((FrA.ft a4).tr (FrA.f6 b3) (Nat.le_refl q) (Nat.le_refl s)).tr (FrA.f6 j7) (Nat.le_refl q) (Nat.le_refl s)
        have hF5 : FrC c f3 f5 := fun R o i w => by rw [p4 R o i (by omega), ← hf4, m3_no (by omega), m3_no (by omega)]
        refine ⟨f5, _, fun d g X v1 v2 v4 z5 z6 z7 hd hv => ⟨nI m, z6, ?_⟩, fun d hd => ?_, Or.inl ⟨t1 + 1 + 1, c + 1 + (bif m % 2 == 1 then 1 else 0), q, ⟨by omega, j6.fr (u2 := m3 (m3 (m3 (m3 (m3 (m3 u3 68 0 s (nI m - nI m / 2 * 2)) 69 0 s 0) 70 0 s (nI (nn j))) 71 0 s 0) 72 0 s (-1)) 22 0 51 (nI (s + 1))) (fun R o i w => ?_) (fun R o i w => ?_), p2, by omega, ?_, by omega, m3_eq, ?_, ?_, hF3.tr hF5 (Nat.le_refl c), hU3.tr fra_ask (Nat.le_refl q) (Nat.le_refl s), fun nm => ?_⟩⟩⟩
        · rw [kC d g X v1 v2 v4 z5 z6 z7 hd hv]
          have hold : EL (mP L xs) d 76 [rv 14 (some 0), iv 1] (m3 f1 20 0 6 (nI (t1 + 1)), g, X) = some (.inl (some (iv (nI (nn j)))), (f3, g, X)) := EL_mono (show 3 ≤ d by omega) (j4 0 g X)
          have hp : EL (mP L xs) d 68 [rv 10 (some 0), iv 4, iv (nI (nn j))] (f3, g, X) = some (.inl none, (f4, g, X)) := EL_mono (show 1 ≤ d by omega) (hput 0 g X)
          rw [hold, clI, max_v _ hn, hp, clV]
          exact p1 d g X (fun h => RL (mP L xs) d 78 150 [some (rv 13 (some 0)), some (iv v1), some (iv v2), some (iv 1), some (iv v4), some (iv (nI m)), z6, z7] [] h) (by omega)
        · have h5 : EL (mP L xs) (d - 1) 106 [rv 22 (some 0), iv 2] (u2, Y) = some (.inl (some (iv (nI (nn j)))), (u3, Y)) := EL_mono (by omega) j5
          rw [kU d hd, h5, clI, r_ask hsu3 (by omega)]
        · rw [p4 R o i (by omega), ← hf4, m3_no (by omega), m3_no (by omega)]
        · rw [m3_no (by omega), m3_no (by omega), m3_no (by omega), m3_no (by omega), m3_no (by omega), m3_no (by omega)]
        · rw [m3_i (by decide), m3_r (by decide), m3_r (by decide), m3_r (by decide), m3_r (by decide), m3_r (by decide)]
          exact (j7 22 0 45 (by omega)).trans ((b3 22 0 45 (by omega)).trans G1.qu)
        · refine ⟨by omega, m % 2 == 1, c, ?_, rfl, p3, Or.inl ⟨nn j, hj, ?_, ?_, ?_, rfl⟩⟩
          · rw [m3_r (by decide), m3_r (by decide), m3_r (by decide), m3_r (by decide), m3_r (by decide), m3_eq]
            exact par_v m (by omega)
          · rw [m3_r (by decide), m3_r (by decide), m3_r (by decide), m3_r (by decide), m3_eq]
          · rw [m3_r (by decide), m3_r (by decide), m3_r (by decide), m3_eq]
          · rw [p4 32 0 c (by omega), ← hf4, m3_r (by decide), m3_eq]
        · rw [m3_r (by decide), m3_eq]
        · refine NMI_par (NMI_c1 nm (fun i hi => (hF3.tr hF5 (Nat.le_refl c)) 32 0 i (by omega)) ?_ (fun R i hR hi => (hU3.tr fra_ask (Nat.le_refl q) (Nat.le_refl s)) R 0 i (by omega))) p3
          rw [p4 32 0 c (by omega), ← hf4, m3_r (by decide), m3_eq]
          exact ClN_v (a := 4) (by decide) (by decide) (nn j) (by omega)
      · obtain ⟨p0, q0, E2, y1, y2⟩ := j3
        have hc3 : f3 10 0 3 = nI c := (j4.1 10 0 3 (by omega)).trans ((m3_r (by decide)).trans hc1')
        obtain ⟨f4, e1, e2, ⟨c4, e3, e4, e5⟩, e6⟩ := ed_put (L := L) (xs := xs) E2 hc3 (by omega) 4 0
        obtain ⟨f5, g1, g2, ⟨c5, g3, g4, g5⟩, g6⟩ := ed_par (L := L) (xs := xs) e2 e5 e4 (nI m)
        have hsu3 : u3 22 0 51 = nI s := (j4.2 22 0 51 (by omega)).trans ((b3 22 0 51 (by omega)).trans hsu1)
        refine ⟨f5, _, fun d g X v1 v2 v4 z5 z6 z7 hd hv => ⟨nI m, z6, ?_⟩, fun d hd => ?_, Or.inr ⟨bad_ask (s := s) (a1 := nI m - nI m / 2 * 2) (a2 := 0) (a3 := -1) (a4 := 0) (a5 := -1) (a6 := nI (s + 1)) g2 y1 y2, ⟨c5, by omega, g4, g5⟩, ((((FrC.ft a4).tr FrC.at6 (Nat.le_refl c)).tr (FrC.b6 j4) (Nat.le_refl c)).tr e6 (Nat.le_refl c)).tr g6 e3, (((FrA.ft a4).tr (FrA.f6 b3) (Nat.le_refl q) (Nat.le_refl s)).tr (FrA.b6 j4) (Nat.le_refl q) (Nat.le_refl s)).tr fra_ask (Nat.le_refl q) (Nat.le_refl s)⟩⟩
        · rw [kC d g X v1 v2 v4 z5 z6 z7 hd hv]
          have hold : EL (mP L xs) d 76 [rv 14 (some 0), iv 1] (m3 f1 20 0 6 (nI (t1 + 1)), g, X) = some (.inl (some (iv (-1))), (f3, g, X)) := EL_mono (show 3 ≤ d by omega) (j1 0 g X)
          have hp : EL (mP L xs) d 68 [rv 10 (some 0), iv 4, iv 0] (f3, g, X) = some (.inl none, (f4, g, X)) := EL_mono (show 1 ≤ d by omega) (e1 0 g X)
          rw [hold, clI, if_neg (show ¬ (0 : Int32) < -1 by decide), hp, clV]
          exact g1 d g X (fun h => RL (mP L xs) d 78 150 [some (rv 13 (some 0)), some (iv v1), some (iv v2), some (iv 1), some (iv v4), some (iv (nI m)), z6, z7] [] h) (by omega)
        · have h5 : EL (mP L xs) (d - 1) 106 [rv 22 (some 0), iv 2] (u2, Y) = some (.inl (some (iv (-1))), (u3, Y)) := EL_mono (by omega) j2
          rw [kU d hd, h5, clI, r_ask hsu3 (by omega)]
    · -- E sign E
      obtain ⟨f2, u2, b1, b2, b3⟩ := ex_sumE (L := L) (xs := xs) (Y := Y) G1
      have kC : ∀ d g X v1 v2 v4 (z5 z6 z7 : Option MV), 70 ≤ d → v4 < (4000 : Int32) → RL (mP L xs) d 78 15 [some (rv 13 (some 0)), some (iv v1), some (iv v2), some (iv 1), some (iv v4), z5, z6, z7] [] (f, g, X) = mclI (EL (mP L xs) d 40 [rv 20 (some 0)] (f2, g, X)) (fun x9 h8 => mclI (EL (mP L xs) d 77 [iv x9] h8) (fun x11 h10 => if x11 = (-1) then (mclV (EL (mP L xs) d 41 [rv 20 (some 0), iv 1] h10) (fun h12 => RL (mP L xs) d 78 107 [some (rv 13 (some 0)), some (iv v1), some (iv v2), some (iv 1), some (iv v4), some (iv (nI m)), some (iv x11), z7] [] h12) (fun e h => some (.inr e, h))) else (RL (mP L xs) d 78 107 [some (rv 13 (some 0)), some (iv v1), some (iv v2), some (iv 1), some (iv v4), some (iv (nI m)), some (iv x11), z7] [] h10)) (fun e h => some (.inr e, h))) (fun e h => some (.inr e, h)) := fun d g X v1 v2 v4 z5 z6 z7 hd hv => by
        have h3 := a3' d g X (by omega)
        have h1 := b1 d g X (by omega)
        obtain ⟨d, rfl⟩ : ∃ d', d = d' + 1 := ⟨d - 1, by omega⟩
        rw [K_FormulaReader_condition_15, if_pos hv, if_neg (by decide), h3, clI, px_sort P1, clI, if_neg y, h1, clV]
      have kU : ∀ d, 72 ≤ d → EL (mP L xs) d 121 [rv 22 (some 0)] (u, Y) = RL (mP L xs) (d - 1) 121 138 [some (rv 22 (some 0)), some (iv (nI m)), some (iv (nI q)), some (iv 0), some (iv (if u2 22 0 7 = 3 then u2 22 0 10 else 0)), none] [iv (cwo (if u2 22 0 7 = 3 then u2 22 0 10 else 0))] (u2, Y) := fun d hd => by
        obtain ⟨d, rfl⟩ : ∃ d', d = d' + 2 := ⟨d - 2, by omega⟩
        have h2 := b2 (d + 1) (by omega)
        have h4 := x4 (d + 1) (by omega)
        rw [E_Ref_question]
        refine Eq.trans h4 ?_
        rw [K_Ref_question_2, i50, clI, if_pos rfl, i47, clI, if_neg y, if_pos rfl, h2, clI]
        by_cases w : u2 22 0 7 = 3
        · rw [if_pos w, if_pos w, r_85]
          rfl
        · rw [if_neg w, if_neg w, r_85]
          rfl
      have hf1c : FrC c f f1 := FrC.ft a4
      have hu1q : FrQ q u u1 := FrQ.ft a4
      rcases b3 with ⟨t2, lc, lr, E⟩ | E
      · have ett := E.tt
        have ell := E.ll
        have epk := E.px.tk
        rcases px_cmp E.px with ⟨w, w1, w2, w3, w4, w5, w6, w7⟩ | ⟨w3, w4⟩
        · obtain ⟨e1, u3, e2, e3, e4⟩ := px_adv (L := L) (xs := xs) (Y := Y) E.px w6 w7
          have epk4 := e4.tk
          rw [w4, w5] at kU
          have G2 : GX N k b sg cn nt ns nn (m3 f2 20 0 6 (nI (t2 + 1))) u3 (t2 + 1) (c + lc.length) (q + lr.length + 1) := G1.mv e4 ((m3_r (by decide)).trans E.cc) (by omega) ((e3 22 0 45 (by omega)).trans E.qu) (by omega) (E.fc.tr (FrC.at6 (c := c)) (Nat.le_refl c)) (E.fu.tr (FrQ.f6 (q := q) e3) (Nat.le_refl q))
          obtain ⟨f4, u4, g1, g2, g3⟩ := ex_sumE (L := L) (xs := xs) (Y := Y) G2
          have hFc : FrC c f (m3 f2 20 0 6 (nI (t2 + 1))) := (hf1c.tr E.fc (Nat.le_refl c)).tr FrC.at6 (Nat.le_refl c)
          have hUq : FrQ q u u3 := (hu1q.tr E.fu (Nat.le_refl q)).tr (FrQ.f6 e3) (Nat.le_refl q)
          have kU2 : ∀ d, 72 ≤ d → EL (mP L xs) d 121 [rv 22 (some 0)] (u, Y) = RL (mP L xs) (d - 1) 121 171 [some (rv 22 (some 0)), some (iv (nI m)), some (iv (nI q)), some (iv (nI (q + lr.length + 1))), some (iv (sgw w)), some (iv 1)] [] (u4, Y) := fun d hd => by
            have h2 : EL (mP L xs) (d - 1) 101 [rv 22 (some 0)] (u2, Y) = some (.inl none, (u3, Y)) := EL_mono (by omega) e2
            rw [kU d hd, K_Ref_question_138, if_neg (by decide), if_pos E.px.fu, h2, clV, g2 (d - 1) (by omega), clI]
          have wn : ¬ nI w = -1 := nI_ne1 (by omega)
          have wm0 : (if (0 : Int32) < nI w then nI w else 0) = nI w := max_v w (by omega)
          have kC2 : ∀ d g X v1 v2 v4 (z5 z6 z7 : Option MV), 70 ≤ d → v4 < (4000 : Int32) → RL (mP L xs) d 78 15 [some (rv 13 (some 0)), some (iv v1), some (iv v2), some (iv 1), some (iv v4), z5, z6, z7] [] (f, g, X) = mclV (EL (mP L xs) d 68 [rv 10 (some 0), iv (nI w), iv 0] (f4, g, X)) (fun h3 => if nI m - nI m / 2 * 2 = 0 then (RL (mP L xs) d 78 150 [some (rv 13 (some 0)), some (iv v1), some (iv v2), some (iv 1), some (iv v4), some (iv (nI m)), some (iv (nI w)), z7] [] h3) else (mclV (EL (mP L xs) d 68 [rv 10 (some 0), iv 6, iv 0] h3) (fun h4 => RL (mP L xs) d 78 150 [some (rv 13 (some 0)), some (iv v1), some (iv v2), some (iv 1), some (iv v4), some (iv (nI m)), some (iv (nI w)), z7] [] h4) (fun e h => some (.inr e, h)))) (fun e h => some (.inr e, h)) := fun d g X v1 v2 v4 z5 z6 z7 hd hv => by
            rw [kC d g X v1 v2 v4 z5 z6 z7 hd hv]
            have h1 := g1 d g X (by omega)
            obtain ⟨d, rfl⟩ : ∃ d', d = d' + 1 := ⟨d - 1, by omega⟩
            rw [px_sort E.px, clI, c_cmq, clI, w3, if_neg wn, K_FormulaReader_condition_107, e1, clV, h1, clV, wm0]
          rcases g3 with ⟨t3, lc', lr', E'⟩ | E'
          · have ett' := E'.tt
            have ell' := E'.ll
            have epk' := E'.px.tk
            have hput := fun d g X => c_put (L := L) (xs := xs) (d := d) (g := g) (X := X) (w := w) (v := 0) E'.cc (show c + lc.length + lc'.length < 4001 by omega) (by omega) (by decide)
            generalize hc2 : c + lc.length + lc'.length = c2 at hput
            generalize hf5 : m3 (m3 f4 32 0 c2 (nI (w + 32 * 0))) 10 0 3 (nI (c2 + 1)) = f5 at hput
            have hc5 : f5 10 0 3 = nI (c2 + 1) := by rw [← hf5]; exact m3_eq
            obtain ⟨f6, p1, p2, p3, p4⟩ := q_par (L := L) (xs := xs) hc5 (show c2 + 1 < 4001 by omega) (show m < 13 by omega)
            have hsu4 : u4 22 0 51 = nI s := (E'.fu 22 0 51 (by omega)).trans ((hUq 22 0 51 (by omega)).trans hsu)
            have hF6 : FrC c2 f4 f6 := fun R o i y => by rw [p4 R o i (by omega), ← hf5, m3_no (by omega), m3_no (by omega)]
            have c32 : ∀ i, i < c2 → f6 32 0 i = f4 32 0 i := fun i hi => hF6 32 0 i (by omega)
            have hcc := E.fe.cc
            refine ⟨f6, _, fun d g X v1 v2 v4 z5 z6 z7 hd hv => ⟨nI m, some (iv (nI w)), ?_⟩, fun d hd => ?_, Or.inl ⟨t3, c2 + 1 + (bif m % 2 == 1 then 1 else 0), q + lr.length + 1 + lr'.length + 1, ⟨by omega, E'.px.fr (u2 := m3 (m3 (m3 (m3 (m3 (m3 u4 68 0 s (nI m - nI m / 2 * 2)) 69 0 s (sgw w)) 70 0 s (nI q)) 71 0 s (nI (q + lr.length + 1))) 72 0 s (-1)) 22 0 51 (nI (s + 1))) (fun R o i y => ?_) (fun R o i y => ?_), p2, by omega, ?_, by omega, m3_eq, ?_, ?_, (hFc.tr E'.fc (by omega)).tr hF6 (by omega), ((FrA.oq hUq).tr (FrA.oq E'.fu) (by omega) (Nat.le_refl s)).tr fra_ask (Nat.le_refl q) (Nat.le_refl s), fun nm => ?_⟩⟩⟩
            · rw [kC2 d g X v1 v2 v4 z5 z6 z7 hd hv]
              have hp : EL (mP L xs) d 68 [rv 10 (some 0), iv (nI w), iv 0] (f4, g, X) = some (.inl none, (f5, g, X)) := EL_mono (show 1 ≤ d by omega) (hput 0 g X)
              rw [hp, clV]
              exact p1 d g X (fun h => RL (mP L xs) d 78 150 [some (rv 13 (some 0)), some (iv v1), some (iv v2), some (iv 1), some (iv v4), some (iv (nI m)), some (iv (nI w)), z7] [] h) (by omega)
            · rw [kU2 d hd, r_ask hsu4 (by omega)]
            · rw [p4 R o i (by omega), ← hf5, m3_no (by omega), m3_no (by omega)]
            · rw [m3_no (by omega), m3_no (by omega), m3_no (by omega), m3_no (by omega), m3_no (by omega), m3_no (by omega)]
            · rw [m3_i (by decide), m3_r (by decide), m3_r (by decide), m3_r (by decide), m3_r (by decide), m3_r (by decide)]
              exact E'.qu
            · refine ⟨by omega, m % 2 == 1, c2, ?_, rfl, p3, Or.inr ⟨c + lc.length, q, q + lr.length + 1, w, lc, lr, lc', lr', w1, w2, ?_, ?_, ?_, ⟨?_, by omega⟩, ⟨?_, by omega⟩, ?_⟩⟩
              · rw [m3_r (by decide), m3_r (by decide), m3_r (by decide), m3_r (by decide), m3_r (by decide), m3_eq]
                exact par_v m (by omega)
              · rw [m3_r (by decide), m3_r (by decide), m3_r (by decide), m3_r (by decide), m3_eq]
              · rw [m3_r (by decide), m3_r (by decide), m3_r (by decide), m3_eq]
              · rw [m3_r (by decide), m3_r (by decide), m3_eq]
              · refine E.fe.mv (C := c + lc.length) (Q := q + lr.length + 1) (fun i hi => ?_) (by omega) (fun R i hR hi => ?_) (by omega)
                · rw [c32 i (by omega), E'.fc 32 0 i (by omega), m3_r (by decide)]
                · rw [m3_no (by omega), m3_no (by omega), m3_no (by omega), m3_no (by omega), m3_no (by omega), m3_no (by omega), E'.fu R 0 i (by omega), e3 R 0 i (by omega)]
              · rw [← hc2]
                refine E'.fe.mv (C := c2) (Q := q + lr.length + 1 + lr'.length + 1) c32 (by omega) (fun R i hR hi => ?_) (by omega)
                rw [m3_no (by omega), m3_no (by omega), m3_no (by omega), m3_no (by omega), m3_no (by omega), m3_no (by omega)]
              · rw [p4 32 0 c2 (by omega), ← hf5, m3_r (by decide), m3_eq]; rfl
            · rw [m3_r (by decide), m3_eq]
            · have n1 := NMI_e1 E (NMI_cg nm (fun i hi => a4.1 32 0 i (by omega)) (fun R i hR hi => a4.2 R 0 i (by omega)))
              have n2 := NMI_e1 E' (NMI_cg n1 (fun i hi => m3_r (by decide)) (fun R i hR hi => e3 R 0 i (by omega)))
              rw [hc2] at n2
              refine NMI_par (NMI_c1 n2 c32 ?_ (fun R i hR hi => by rw [m3_no (by omega), m3_no (by omega), m3_no (by omega), m3_no (by omega), m3_no (by omega), m3_no (by omega)])) p3
              rw [p4 32 0 c2 (by omega), ← hf5, m3_r (by decide), m3_eq]
              exact ClN_v (a := w) (by omega) (by omega) 0 (by decide)
          · obtain ⟨p0, q0, E2, y1, y2⟩ := E'.bd
            obtain ⟨c2, z0, z1, z2⟩ := E'.cc
            obtain ⟨f5, h1, h2, ⟨c5, h3, h4, h5⟩, h6⟩ := ed_put (L := L) (xs := xs) E2 z2 z1 (nI w) 0
            obtain ⟨f6, i1, i2, ⟨c6, i3, i4, i5⟩, i6⟩ := ed_par (L := L) (xs := xs) h2 h5 h4 (nI m)
            have hsu4 : u4 22 0 51 = nI s := (E'.fu 22 0 51 (by omega)).trans ((hUq 22 0 51 (by omega)).trans hsu)
            refine ⟨f6, _, fun d g X v1 v2 v4 z5 z6 z7 hd hv => ⟨nI m, some (iv (nI w)), ?_⟩, fun d hd => ?_, Or.inr ⟨bad_ask (s := s) (a1 := nI m - nI m / 2 * 2) (a2 := sgw w) (a3 := nI q) (a4 := nI (q + lr.length + 1)) (a5 := -1) (a6 := nI (s + 1)) i2 y1 y2, ⟨c6, by omega, i4, i5⟩, ((hFc.tr E'.fc (by omega)).tr h6 (by omega)).tr i6 (by omega), ((FrA.oq hUq).tr (FrA.oq E'.fu) (by omega) (Nat.le_refl s)).tr fra_ask (Nat.le_refl q) (Nat.le_refl s)⟩⟩
            · rw [kC2 d g X v1 v2 v4 z5 z6 z7 hd hv]
              have hp : EL (mP L xs) d 68 [rv 10 (some 0), iv (nI w), iv 0] (f4, g, X) = some (.inl none, (f5, g, X)) := EL_mono (show 1 ≤ d by omega) (h1 0 g X)
              rw [hp, clV]
              exact i1 d g X (fun h => RL (mP L xs) d 78 150 [some (rv 13 (some 0)), some (iv v1), some (iv v2), some (iv 1), some (iv v4), some (iv (nI m)), some (iv (nI w)), z7] [] h) (by omega)
            · rw [kU2 d hd, r_ask hsu4 (by omega)]
        · obtain ⟨f3, u3, e1, e2, e3, e4, e5⟩ := px_bad (L := L) (xs := xs) (Y := Y) E.px (q := 1) (by decide)
          obtain ⟨p0, q0, E2, y1, y2⟩ := e3
          have hc3 : f3 10 0 3 = nI (c + lc.length) := (e4.1 10 0 3 (by omega)).trans E.cc
          obtain ⟨f4, g1, g2, ⟨c4, g3, g4, g5⟩, g6⟩ := ed_107 (L := L) (xs := xs) E2 hc3 (by omega) (nI m) (-1)
          refine ⟨f4, u3, fun d g X v1 v2 v4 z5 z6 z7 hd hv => ⟨nI m, some (iv (-1)), ?_⟩, fun d hd => ?_, Or.inr ⟨⟨p0, q0, g2, y1, y2⟩, ⟨c4, by omega, g4, g5⟩, ((hf1c.tr E.fc (Nat.le_refl c)).tr (FrC.b6 e4) (Nat.le_refl c)).tr g6 (by omega), ((FrA.ft a4).tr (FrA.oq E.fu) (Nat.le_refl q) (Nat.le_refl s)).tr (FrA.b6 e4) (Nat.le_refl q) (Nat.le_refl s)⟩⟩
          · rw [kC d g X v1 v2 v4 z5 z6 z7 hd hv]
            have h1 := g1 d g X v1 v2 1 v4 z7 (by omega)
            obtain ⟨d, rfl⟩ : ∃ d', d = d' + 1 := ⟨d - 1, by omega⟩
            rw [px_sort E.px, clI, c_cmq, clI, w3, if_pos rfl, e1, clV, h1]
          · have h2 : EL (mP L xs) (d - 1) 102 [rv 22 (some 0), iv 1, iv (u2 22 0 8)] (u2, Y) = some (.inl none, (u3, Y)) := EL_mono (show 1 ≤ d - 1 by omega) (e2 0)
            rw [kU d hd, w4, K_Ref_question_138, if_pos rfl, h2, clV, if_neg (show ¬ u3 22 0 12 = 0 by rw [e5]; decide)]
      · obtain ⟨p0, q0, E2, y1, y2⟩ := E.bd
        obtain ⟨c2, z0, z1, z2⟩ := E.cc
        obtain ⟨f4, g1, g2, ⟨c4, g3, g4, g5⟩, g6⟩ := ed_cmp (L := L) (xs := xs) E2 z2 z1 (nI m)
        refine ⟨f4, u2, fun d g X v1 v2 v4 z5 z6 z7 hd hv => ⟨nI m, some (iv (-1)), ?_⟩, fun d hd => ?_, Or.inr ⟨⟨p0, q0, g2, y1, y2⟩, ⟨c4, by omega, g4, g5⟩, (hf1c.tr E.fc (Nat.le_refl c)).tr g6 z0, (FrA.ft a4).tr (FrA.oq E.fu) (Nat.le_refl q) (Nat.le_refl s)⟩⟩
        · rw [kC d g X v1 v2 v4 z5 z6 z7 hd hv]
          exact g1 d g X v1 v2 1 v4 z7 (by omega)
        · have n0 : ¬ u2 22 0 12 = 0 := by rw [y1]; exact E2.qn
          rw [kU d hd, K_Ref_question_138]
          obtain ⟨d, rfl⟩ : ∃ d', d = d' + 2 := ⟨d - 2, by omega⟩
          by_cases w : cwo (if u2 22 0 7 = 3 then u2 22 0 10 else 0) = 0
          · rw [if_pos w, show d + 2 - 1 = d + 1 from rfl, EL_102, if_neg n0, clV, if_neg n0]
          · rw [if_neg w, if_neg n0]
  · obtain ⟨p0, q0, E2, y1, y2⟩ := x2
    obtain ⟨f2, b1, b2, b3, b4⟩ := ed_cmp (L := L) (xs := xs) E2 hc1' (by omega) (nI m)
    refine ⟨f2, u1, fun d g X v1 v2 v4 z5 z6 z7 hd hv => ⟨nI m, some (iv (-1)), ?_⟩, fun d hd => ?_, Or.inr ⟨⟨p0, q0, b2, y1, y2⟩, b3, (FrC.ft a4).tr b4 (Nat.le_refl c), FrA.ft a4⟩⟩
    · have h3 := a3' d g X (by omega)
      obtain ⟨d, rfl⟩ : ∃ d', d = d' + 5 := ⟨d - 5, by omega⟩
      rw [K_FormulaReader_condition_15, if_pos hv, if_neg (by decide), h3, clI, ed_sort E2, clI, if_neg (by decide), ed_sum E2, clV]
      exact b1 (d + 5) g X v1 v2 1 v4 z7 (by omega)
    · obtain ⟨d, rfl⟩ : ∃ d', d = d' + 1 := ⟨d - 1, by omega⟩
      rw [E_Ref_question]
      exact x3 d (by omega)
end Cnd
