/-! ===== read: if ===== -/
section Iff
variable {L : Nat} {xs : Nat → Int32} {Y : MR × ML × (Nat → Nat) × Nat × Nat} {N k t c q s kk st A cn sl fl r kd m : Nat} {b : Nat → Nat} {sg : Nat → Int32} {f f2 u u2 : MI} {g g2 : MR} {X X2 : ML × (Nat → Nat) × Nat × Nat} {nt ns nn : Nat → Nat} {o gd l : Option Nat} {gv lv : Int32}
theorem st_I {i : Nat} {u1 : MI} (H : SX N k b sg cn nt ns nn sl fl r kd f u t c q s kk st) (hA : X.2.1 19 = A) (hm : m ≤ 9) (hl : u 22 0 54 = lv) (i1 : i < 19) (hfit : fitb kd i l.isSome = true) (H1 : SX N k b sg cn nt ns nn sl fl r kd (W1 f A (nI (301 + i)) (nI (tS b N t)) t st) u1 (t + 1) c q s kk (st + 1)) (hch : CH A f g m o l) (hlv : (lv = -1) = (l = none)) (hu1 : ∀ R o i, ¬ (R = 22 ∧ ((6 ≤ i ∧ i ≤ 11) ∨ i = 53)) → u1 R o i = u R o i) (hC : ∀ d, 8 ≤ d → EL (mP L xs) (d + 1) 80 [rv 12 (some 0), iv (nI (m + 1)), rv 19 o, rv 19 gd, rv 16 (some r)] (f, g, X) = mclV (EL (mP L xs) d 79 [rv 12 (some 0), rv 19 (some A), iv (nI (m + 1)), rv 16 (some r)] (W1 f A (nI (301 + i)) (nI (tS b N t)) t st, NG g A o gd, NX X A)) (fun h2 => some (.inl (some (rv 19 (some A))), h2)) (fun e h => some (.inr e, h))) (hV : ∀ d, 8 ≤ d → EL (mP L xs) (d + 1) 124 [rv 22 (some 0), iv (nI (m + 1)), iv gv] (u, Y) = mclV (EL (mP L xs) d 123 [rv 22 (some 0), iv (nI (wm i)), iv (nI (tS b N t)), iv (nI (m + 1)), iv gv] (u1, Y)) (fun h2 => some (.inl none, h2)) (fun e h => some (.inr e, h))) (IH : ∀ t1, t < t1 → BLKs L xs Y N k b sg cn nt ns nn sl fl r kd t1) (hi : i = 14) : (∃ f2 g2 u2 X2, (∀ d, 80 + 3 * (11 - m) ≤ d → EL (mP L xs) d 80 [rv 12 (some 0), iv (nI (m + 1)), rv 19 o, rv 19 gd, rv 16 (some r)] (f, g, X) = some (.inl (some (rv 19 (some A))), (f2, g2, X2))) ∧ (∀ d, 80 + 3 * (11 - m) ≤ d → EL (mP L xs) d 124 [rv 22 (some 0), iv (nI (m + 1)), iv gv] (u, Y) = some (.inl none, (u2, Y))) ∧ ((∃ t' c' q' s' kk' st' A', PGd N k b sg cn nt ns nn sl fl r kd m o gd l gv lv t c q s kk A f g u X f2 g2 u2 X2 t' c' q' s' kk' st' A') ∨ SB k t c q s kk A none f g u X f2 g2 u2 X2)) := by
  subst hi
  have hcl := H.gx.cl
  have htk := H.gx.px.tk
  have hkp := H.gx.px.lc.kp
  have hsl := H1.sl
  have hkl := H.kl
  have X1 := XR.new hA
  have hk6 : kk < 6100 := by omega
  have l1 : u1 22 0 54 = lv := (hu1 22 0 54 (by omega)).trans hl
  have w0 : (W1 f A (nI (301 + 14)) (nI (tS b N t)) t st) 19 A 0 = 315 := W1_0
  obtain ⟨f2, u2, a1, a2, a3⟩ := ex_cond (L := L) (xs := xs) (Y := Y) (fl := fl) H1.gx (by omega) H1.su H1.sl H1.hf
  have FC : FrC c (W1 f A (nI (301 + 14)) (nI (tS b N t)) t st) f2 := by
    rcases a3 with ⟨t', c', q', s', E⟩ | E
    · exact E.fc
    · exact E.fc
  have FA : FrA q s u1 u2 := by
    rcases a3 with ⟨t', c', q', s', E⟩ | E
    · exact E.fu
    · exact E.fu
  have k41 : u2 22 0 41 = nI kk := (FA 22 0 41 (by omega)).trans H1.ku
  have cC : ∀ d, 75 ≤ d → EL (mP L xs) (d + 2) 80 [rv 12 (some 0), iv (nI (m + 1)), rv 19 o, rv 19 gd, rv 16 (some r)] (f, g, X) = mclV (mclR (EL (mP L xs) d 81 [rv 12 (some 0), iv (nI (m + 1 + 1)), rv 19 (some A), rv 19 gd, rv 16 (some r)] (m3 f2 19 A 4 (nI c), NG g A o gd, NX X A)) 19 (fun o21 h20 => mclI (EL (mP L xs) d 40 [rv 20 (some 0)] (h20.1, m3 h20.2.1 19 A 8 o21, h20.2.2)) (fun x24 h23 => if x24 = 347 then (mclV (EL (mP L xs) d 42 [rv 20 (some 0)] h23) (fun h25 => mclR (EL (mP L xs) d 81 [rv 12 (some 0), iv (nI (m + 1 + 1)), rv 19 (some A), rv 19 (h25.2.1 19 A 3), rv 16 (some r)] h25) 19 (fun o28 h27 => some (.inl none, (h27.1, m3 h27.2.1 19 A 9 o28, h27.2.2))) (fun e h => some (.inr e, h))) (fun e h => some (.inr e, h))) else (some (.inl none, h23))) (fun e h => some (.inr e, h))) (fun e h => some (.inr e, h))) (fun h2 => some (.inl (some (rv 19 (some A))), h2)) (fun e h => some (.inr e, h)) := fun d hd => by
    rw [hC (d + 1) (by omega), rt_I w0, a1 d _ _ (by omega), clI, nI_1, show (f2, NG g A o gd, NX X A).2.1 19 A 3 = gd from NG_3]
    try rfl
  have fu12 : ∀ (p : Int32), u2 22 0 12 = p → (NW u2 kk (nI (wm 14)) (nI (tS b N t)) (nI s) 0 0 gv, Y).1 22 0 12 = p := fun p hp => by
    show NW u2 kk (nI (wm 14)) (nI (tS b N t)) (nI s) 0 0 gv 22 0 12 = p
    rw [NW_no (by omega) (by omega)]
    exact hp
  have hFF : FrK c A f (m3 f2 19 A 4 (nI c)) := fun R o i z => (m3_no (by omega)).trans ((FC R o i (by omega)).trans (W1_fr (c := c) R o i z))
  have hUU : FrU q s kk u (NW u2 kk (nI (wm 14)) (nI (tS b N t)) (nI s) 0 0 gv) := fun R o i z => (NW_no (by omega) (by omega)).trans ((FA R o i (by omega)).trans (hu1 R o i (by omega)))
  have hFG : FrG A none g (NG g A o gd) := fun R o i z => NG_o (fun w => z ⟨w.1, Or.inl (by omega)⟩)
  obtain ⟨n1, n2, n3, n4, n5, n6, n7⟩ := NW_v (u := u2) (k2 := kk) (p0 := nI (wm 14)) (p1 := nI (tS b N t)) (p2 := nI s) (p3 := 0) (p4 := 0) (p5 := gv)
  rcases a3 with ⟨t2, c2, q2, s2, E⟩ | E
  · have ett := E.tt
    have ecl := E.cl
    have eql := E.ql
    have esl := E.sl
    have etk := E.px.tk
    have P3 : PX (m3 f2 19 A 4 (nI c)) (NW u2 kk (nI (wm 14)) (nI (tS b N t)) (nI s) 0 0 gv) N k b sg t2 := E.px.fr (fun R o i z => m3_no (by omega)) (fun R o i z => NW_no (by omega) (by omega))
    have htt2 : t < t2 := by omega
    have H3 : SX N k b sg cn nt ns nn sl fl r kd (m3 f2 19 A 4 (nI c)) (NW u2 kk (nI (wm 14)) (nI (tS b N t)) (nI s) 0 0 gv) t2 c2 q2 s2 (kk + 1) (st + 1) := by
      refine SX.mw H1 P3 ((m3_r (by decide)).trans E.cc) (by omega) ((NW_no (by omega) (by omega)).trans E.qu) (by omega) ((NW_no (by omega) (by omega)).trans E.su) (by omega) n7 (by omega) ?_ ?_ H1.sb ?_ ?_
      · exact (m3_r (by decide)).trans ((FC 12 0 6 (by omega)).trans H1.sc)
      · exact (NW_no (by omega) (by omega)).trans ((FA 22 0 53 (by omega)).trans H1.sr)
      · exact fun R o i z => (m3_no (by omega)).trans (FC R o i (by omega))
      · exact fun R o i z => (NW_no (by omega) (by omega)).trans (FA R o i (by omega))
    have e30 : (m3 f2 19 A 4 (nI c)) 19 A 0 = 315 := (m3_i (by decide)).trans ((FC 19 A 0 (by omega)).trans w0)
    have hch3 : CH (A + 1) (m3 f2 19 A 4 (nI c)) (NG g A o gd) (m + 1) (some A) l := by
      refine ⟨A, rfl, by omega, Or.inr ⟨by rw [e30]; decide, ?_⟩⟩
      rw [NG_2]
      exact hch.fr (by omega) (fun a ha => ⟨hFF 19 a 0 (by omega), NG_o (by omega)⟩)
    obtain ⟨fa, ga0, ua0, Xa, nx1, w1, b1, b2, b3⟩ := IH t2 htt2 (m + 1) (some A) gd l gv lv (m3 f2 19 A 4 (nI c)) (NG g A o gd) (NW u2 kk (nI (wm 14)) (nI (tS b N t)) (nI s) 0 0 gv) (NX X A) c2 q2 s2 (kk + 1) (st + 1) (A + 1) (by omega) H3 X1.c1 hch3 ((NW_no (by omega) (by omega)).trans ((FA 22 0 54 (by omega)).trans l1)) hlv
    have cU : ∀ d, 78 + 3 * (11 - m) ≤ d → EL (mP L xs) (d + 2) 124 [rv 22 (some 0), iv (nI (m + 1)), iv gv] (u, Y) = mclV (if w1 = 0 then (some (.inl none, (ua0, Y))) else (mclI (EL (mP L xs) d 119 [rv 22 (some 0), iv 51, iv (nI (tS b N t)), iv 0, iv 0, iv 0, iv gv] (ua0, Y)) (fun x22 h21 => mclI (EL (mP L xs) d 120 [rv 22 (some 0), iv 46] (m3 h21.1 62 0 kk (h21.1 22 0 41), h21.2)) (fun x24 h23 => if x24 = 0 then (if ino x22 6100 then none else (some (.inl none, (m3 h23.1 62 0 (x22).toNatClampNeg (h23.1 22 0 41), h23.2)))) else (mclV (EL (mP L xs) d 101 [rv 22 (some 0)] h23) (fun h25 => mclI (EL (mP L xs) d 125 [rv 22 (some 0), iv (nI (m + 1 + 1)), iv gv] h25) (fun x27 h26 => if ino x22 6100 then none else (some (.inl none, (m3 h26.1 62 0 (x22).toNatClampNeg (h26.1 22 0 41), h26.2)))) (fun e h => some (.inr e, h))) (fun e h => some (.inr e, h)))) (fun e h => some (.inr e, h))) (fun e h => some (.inr e, h)))) (fun h2 => some (.inl none, h2)) (fun e h => some (.inr e, h)) := fun d hd => by
      have h2 := b2 d (by omega)
      obtain ⟨d, rfl⟩ : ∃ d', d = d' + 1 := ⟨d - 1, by omega⟩
      rw [hV (d + 1 + 1) (by omega), E_Ref_blocks, if_neg (by decide), if_neg (by decide), if_pos (by decide), a2 (d + 1) (by omega), clI, r_op k41 hk6, clI, if_pos (fu12 0 E.px.fu), nI_1, h2, clI]
      simp only [if_neg (nin hk6 (show 6100 < 2 ^ 31 by decide)), nI_clamp (show kk < 2 ^ 31 by omega)]
    have cC2 : ∀ d, 78 + 3 * (11 - m) ≤ d → EL (mP L xs) (d + 2) 80 [rv 12 (some 0), iv (nI (m + 1)), rv 19 o, rv 19 gd, rv 16 (some r)] (f, g, X) = mclV (mclI (EL (mP L xs) d 40 [rv 20 (some 0)] (fa, m3 ga0 19 A 8 nx1, Xa)) (fun x24 h23 => if x24 = 347 then (mclV (EL (mP L xs) d 42 [rv 20 (some 0)] h23) (fun h25 => mclR (EL (mP L xs) d 81 [rv 12 (some 0), iv (nI (m + 1 + 1)), rv 19 (some A), rv 19 (h25.2.1 19 A 3), rv 16 (some r)] h25) 19 (fun o28 h27 => some (.inl none, (h27.1, m3 h27.2.1 19 A 9 o28, h27.2.2))) (fun e h => some (.inr e, h))) (fun e h => some (.inr e, h))) else (some (.inl none, h23))) (fun e h => some (.inr e, h))) (fun h2 => some (.inl (some (rv 19 (some A))), h2)) (fun e h => some (.inr e, h)) := fun d hd => by
      rw [cC d (by omega), b1 d (by omega), clR]
      try rfl
    rcases b3 with ⟨rfl, t3, c3, q3, s3, k1, st3, A1, K⟩ | ⟨rfl, K⟩
    · have M := bl_mid (u := u) (f := f) (g := g) (X := X) (o := o) (gd := gd) (gv := gv) (gd1 := gd) (gv1 := gv) H hA hm htt2 (by omega) (by omega) (by omega) hFF hUU ((m3_i (by decide)).trans ((FC 19 A 1 (by omega)).trans (W1_1.trans n2.symm))) n6 (fun nm => NMI_cg (E.nm (NMI_cg nm (fun i _ => W1_no (by omega) (by omega) (by omega)) (fun R i hR _ => hu1 R 0 i (by omega)))) (fun i _ => m3_r (by decide)) (fun R i hR _ => NW_no (by omega) (by omega))) (Or.inl ⟨e30, n1, by
        obtain ⟨m', e, g1, g2, g3⟩ := E.cm
        rw [m3_eq, n3]
        exact CDp.mv (f := f2) (u := u2) (C := c2) (Q := q2) (S := s2) (fun i hi => m3_r (by decide)) (Nat.le_refl _) (fun R i hR hi => NW_no (by omega) (by omega)) (Nat.le_refl _) (fun R i x1 x2 hi => NW_no (by omega) (by omega)) (Nat.le_refl _) (Nat.le_refl fl) ⟨c, s, m', e, rfl, rfl, g1, g2, g3⟩, rfl, rfl⟩) K
      have k16 : k1 < 6100 := by
        have := K.sx.kl
        have := K.sx.gx.px.tk
        omega
      obtain ⟨-, -, -, -, -, -, m7⟩ := NW_v (u := ua0) (k2 := k1) (p0 := 51) (p1 := nI (tS b N t)) (p2 := 0) (p3 := 0) (p4 := 0) (p5 := gv)
      generalize hga : m3 ga0 19 A 8 nx1 = ga at M cC2
      have cU2 : ∀ d, 78 + 3 * (11 - m) ≤ d → EL (mP L xs) (d + 2) 124 [rv 22 (some 0), iv (nI (m + 1)), iv gv] (u, Y) = mclV (mclI (EL (mP L xs) d 120 [rv 22 (some 0), iv 46] (m3 (NW ua0 k1 51 (nI (tS b N t)) 0 0 0 gv) 62 0 kk (nI (k1 + 1)), Y)) (fun x24 h23 => if x24 = 0 then (some (.inl none, (m3 h23.1 62 0 k1 (h23.1 22 0 41), h23.2))) else (mclV (EL (mP L xs) d 101 [rv 22 (some 0)] h23) (fun h25 => mclI (EL (mP L xs) d 125 [rv 22 (some 0), iv (nI (m + 1 + 1)), iv gv] h25) (fun x27 h26 => some (.inl none, (m3 h26.1 62 0 k1 (h26.1 22 0 41), h26.2))) (fun e h => some (.inr e, h))) (fun e h => some (.inr e, h)))) (fun e h => some (.inr e, h))) (fun h2 => some (.inl none, h2)) (fun e h => some (.inr e, h)) := fun d hd => by
        rw [cU d hd, if_neg (by decide)]
        obtain ⟨d, rfl⟩ : ∃ d', d = d' + 1 := ⟨d - 1, by omega⟩
        rw [r_op K.sx.ku k16, clI]
        simp only [if_neg (nin k16 (show 6100 < 2 ^ 31 by decide)), nI_clamp (show k1 < 2 ^ 31 by omega), m7]
      generalize hua : m3 (NW ua0 k1 51 (nI (tS b N t)) 0 0 0 gv) 62 0 kk (nI (k1 + 1)) = ua at M cU2
      have P := M.sx.gx.px
      have isw : ∀ d, EL (mP L xs) (d + 1) 120 [rv 22 (some 0), iv 46] (ua, Y) = some (.inl (some (iv (if sg t3 = 347 then 1 else 0))), (ua, Y)) := fun d => px_isW (L := L) (xs := xs) (d := d) (Y := Y) P (j := 46) (by decide)
      by_cases z : sg t3 = 347
      · obtain ⟨u5, fb, gb, ub, Xb, nx2, w2, e1, e2, e3, e4, e5⟩ := bl_two (L := L) (xs := xs) (Y := Y) hm hch hlv M (by rw [z]; decide) (by rw [z]; decide) IH
        refine ⟨fb, m3 gb 19 A 9 nx2, m3 ub 62 0 k1 (ub 22 0 41), Xb, fun d hd => ?_, fun d hd => ?_, e5⟩
        · obtain ⟨d, rfl⟩ : ∃ d', d = d' + 2 := ⟨d - 2, by omega⟩
          have h3 := e3 d (by omega)
          rw [cC2 d (by omega)]
          obtain ⟨d, rfl⟩ : ∃ d', d = d' + 1 := ⟨d - 1, by omega⟩
          rw [px_sort P, clI, if_pos z, e2, clV, show (m3 fa 20 0 6 (nI (t3 + 1)), ga, Xa).2.1 19 A 3 = gd from M.g3, h3, clR, clV]
        · obtain ⟨d, rfl⟩ : ∃ d', d = d' + 2 := ⟨d - 2, by omega⟩
          have h4 := e4 d (by omega)
          have h1 : EL (mP L xs) d 101 [rv 22 (some 0)] (ua, Y) = some (.inl none, (u5, Y)) := EL_mono (by omega) e1
          rw [cU2 d (by omega)]
          obtain ⟨d, rfl⟩ : ∃ d', d = d' + 1 := ⟨d - 1, by omega⟩
          rw [isw, clI, if_pos z, if_neg (by decide), h1, clV, h4, clI, clV]
      · have O := bl_one hm M
        have u41 : ua 22 0 41 = nI (k1 + 1) := M.sx.ku
        refine ⟨fa, ga, m3 ua 62 0 k1 (nI (k1 + 1)), Xa, fun d hd => ?_, fun d hd => ?_, Or.inl ⟨t3, c3, q3, s3, k1 + 1, st3, A1, O⟩⟩
        · obtain ⟨d, rfl⟩ : ∃ d', d = d' + 3 := ⟨d - 3, by omega⟩
          rw [cC2 (d + 1) (by omega), px_sort P, clI, if_neg z, clV]
        · obtain ⟨d, rfl⟩ : ∃ d', d = d' + 3 := ⟨d - 3, by omega⟩
          rw [cU2 (d + 1) (by omega), isw, clI, if_neg z, if_pos rfl, clV]
          rw [show (ua, Y).1 22 0 41 = nI (k1 + 1) from u41]
    · obtain ⟨p, w, E2, y1, y2⟩ := K.bd
      obtain ⟨c5, z1, z2, z3⟩ := K.cc
      obtain ⟨A5, x1, x2⟩ := K.xr
      have := x1.le
      refine ⟨fa, m3 ga0 19 A 8 nx1, ua0, Xa, fun d hd => ?_, fun d hd => ?_, Or.inr ⟨⟨p, w, E2, y1, y2⟩, ⟨c5, by omega, z2, z3⟩, ⟨A5, X1.tr x1, by omega⟩, hFF.tr K.fc (by omega) (by omega), fun R o i z => ?_, hUU.tr K.fu (by omega) (by omega) (by omega)⟩⟩
      · obtain ⟨d, rfl⟩ : ∃ d', d = d' + 3 := ⟨d - 3, by omega⟩
        rw [cC2 (d + 1) (by omega), ed_sort E2, clI, if_neg (by decide), clV]
      · obtain ⟨d, rfl⟩ : ∃ d', d = d' + 2 := ⟨d - 2, by omega⟩
        rw [cU d (by omega), if_pos rfl, clV]
      · rw [m3_no (fun w => z ⟨w.1, Or.inl (by omega)⟩), K.fg R o i (fun w => z ⟨w.1, w.2.elim (fun y => Or.inl (by omega)) Or.inr⟩)]
        exact hFG R o i z
  · obtain ⟨p, w, E2, y1, y2⟩ := E.bd
    obtain ⟨c2, z1, z2, z3⟩ := E.cc
    have E3 : ED (m3 f2 19 A 4 (nI c)) p w := E2.m19
    refine ⟨m3 f2 19 A 4 (nI c), m3 (NG g A o gd) 19 A 8 none, NW u2 kk (nI (wm 14)) (nI (tS b N t)) (nI s) 0 0 gv, NX X A, fun d hd => ?_, fun d hd => ?_, Or.inr ⟨⟨p, w, E3, fu12 p y1, (NW_no (by omega) (by omega)).trans y2⟩, ⟨c2, z1, z2, (m3_r (by decide)).trans z3⟩, ⟨A + 1, X1, by omega⟩, hFF, fun R o i z => (m3_no (fun w => z ⟨w.1, Or.inl (by omega)⟩)).trans (hFG R o i z), hUU⟩⟩
    · obtain ⟨d, rfl⟩ : ∃ d', d = d' + 4 := ⟨d - 4, by omega⟩
      rw [cC (d + 2) (by omega), ed_block E3, clR, ed_sort E3, clI, if_neg (by decide), clV]
    · obtain ⟨d, rfl⟩ : ∃ d', d = d' + 3 := ⟨d - 3, by omega⟩
      rw [hV (d + 2) (by omega), E_Ref_blocks, if_neg (by decide), if_neg (by decide), if_pos (by decide), a2 (d + 1) (by omega), clI, r_op k41 hk6, clI, if_neg (by rw [fu12 p y1]; exact E2.qn), clV]
end Iff
