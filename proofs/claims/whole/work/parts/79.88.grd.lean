/-! ===== read: guard ===== -/
section Grd
variable {L : Nat} {xs : Nat → Int32} {Y : MR × ML × (Nat → Nat) × Nat × Nat} {N k t c q s kk st A cn sl fl r kd m : Nat} {b : Nat → Nat} {sg : Nat → Int32} {f f2 u u2 : MI} {g g2 : MR} {X X2 : ML × (Nat → Nat) × Nat × Nat} {nt ns nn : Nat → Nat} {o gd l : Option Nat} {gv lv : Int32}
theorem st_G {i : Nat} {u1 : MI} (H : SX N k b sg cn nt ns nn sl fl r kd f u t c q s kk st) (hA : X.2.1 19 = A) (hm : m ≤ 9) (hl : u 22 0 54 = lv) (i1 : i < 19) (hfit : fitb kd i l.isSome = true) (H1 : SX N k b sg cn nt ns nn sl fl r kd (W1 f A (nI (301 + i)) (nI (tS b N t)) t st) u1 (t + 1) c q s kk (st + 1)) (hch : CH A f g m o l) (hlv : (lv = -1) = (l = none)) (hu1 : ∀ R o i, ¬ (R = 22 ∧ ((6 ≤ i ∧ i ≤ 11) ∨ i = 53)) → u1 R o i = u R o i) (hC : ∀ d, 8 ≤ d → EL (mP L xs) (d + 1) 80 [rv 12 (some 0), iv (nI (m + 1)), rv 19 o, rv 19 gd, rv 16 (some r)] (f, g, X) = mclV (EL (mP L xs) d 79 [rv 12 (some 0), rv 19 (some A), iv (nI (m + 1)), rv 16 (some r)] (W1 f A (nI (301 + i)) (nI (tS b N t)) t st, NG g A o gd, NX X A)) (fun h2 => some (.inl (some (rv 19 (some A))), h2)) (fun e h => some (.inr e, h))) (hV : ∀ d, 8 ≤ d → EL (mP L xs) (d + 1) 124 [rv 22 (some 0), iv (nI (m + 1)), iv gv] (u, Y) = mclV (EL (mP L xs) d 123 [rv 22 (some 0), iv (nI (wm i)), iv (nI (tS b N t)), iv (nI (m + 1)), iv gv] (u1, Y)) (fun h2 => some (.inl none, h2)) (fun e h => some (.inr e, h))) (IH : ∀ t1, t < t1 → BLKs L xs Y N k b sg cn nt ns nn sl fl r kd t1) (hi : i = 15) : (∃ f2 g2 u2 X2, (∀ d, 80 + 3 * (11 - m) ≤ d → EL (mP L xs) d 80 [rv 12 (some 0), iv (nI (m + 1)), rv 19 o, rv 19 gd, rv 16 (some r)] (f, g, X) = some (.inl (some (rv 19 (some A))), (f2, g2, X2))) ∧ (∀ d, 80 + 3 * (11 - m) ≤ d → EL (mP L xs) d 124 [rv 22 (some 0), iv (nI (m + 1)), iv gv] (u, Y) = some (.inl none, (u2, Y))) ∧ ((∃ t' c' q' s' kk' st' A', PGd N k b sg cn nt ns nn sl fl r kd m o gd l gv lv t c q s kk A f g u X f2 g2 u2 X2 t' c' q' s' kk' st' A') ∨ SB k t c q s kk A none f g u X f2 g2 u2 X2)) := by
  subst hi
  have hcl := H.gx.cl
  have htk := H.gx.px.tk
  have hkp := H.gx.px.lc.kp
  have hsl := H1.sl
  have hql := H1.gx.ql
  have hkl := H.kl
  have X1 := XR.new hA
  have hk6 : kk < 6100 := by omega
  have l1 : u1 22 0 54 = lv := (hu1 22 0 54 (by omega)).trans hl
  have w0 : (W1 f A (nI (301 + 15)) (nI (tS b N t)) t st) 19 A 0 = 316 := W1_0
  have k41 : u1 22 0 41 = nI kk := H1.ku
  have cC : ∀ d, 75 ≤ d → EL (mP L xs) (d + 2) 80 [rv 12 (some 0), iv (nI (m + 1)), rv 19 o, rv 19 gd, rv 16 (some r)] (f, g, X) = mclV (mclR (EL (mP L xs) d 81 [rv 12 (some 0), iv (nI (m + 1 + 1)), rv 19 (some A), rv 19 (some A), rv 16 (some r)] (W1 f A (nI (301 + 15)) (nI (tS b N t)) t st, NG g A o gd, NX X A)) 19 (fun o9 h8 => mclV (EL (mP L xs) d 46 [rv 20 (some 0), iv 346] (h8.1, m3 h8.2.1 19 A 8 o9, h8.2.2)) (fun h11 => mclR (EL (mP L xs) d 81 [rv 12 (some 0), iv (nI (m + 1 + 1)), rv 19 (some A), rv 19 (h11.2.1 19 A 3), rv 16 (some r)] h11) 19 (fun o14 h13 => some (.inl none, (h13.1, m3 h13.2.1 19 A 9 o14, h13.2.2))) (fun e h => some (.inr e, h))) (fun e h => some (.inr e, h))) (fun e h => some (.inr e, h))) (fun h2 => some (.inl (some (rv 19 (some A))), h2)) (fun e h => some (.inr e, h)) := fun d hd => by
    rw [hC (d + 1) (by omega), rt_G w0, nI_1]
  have hFF : FrK c A f (W1 f A (nI (301 + 15)) (nI (tS b N t)) t st) := W1_fr
  have hUU : FrU q s kk u (NW u1 kk (nI (wm 15)) (nI (tS b N t)) 0 0 0 gv) := fun R o i z => (NW_no (by omega) (by omega)).trans (hu1 R o i (by omega))
  have hFG : FrG A none g (NG g A o gd) := fun R o i z => NG_o (fun w => z ⟨w.1, Or.inl (by omega)⟩)
  obtain ⟨n1, n2, n3, n4, n5, n6, n7⟩ := NW_v (u := u1) (k2 := kk) (p0 := nI (wm 15)) (p1 := nI (tS b N t)) (p2 := 0) (p3 := 0) (p4 := 0) (p5 := gv)
  have P3 : PX (W1 f A (nI (301 + 15)) (nI (tS b N t)) t st) (NW u1 kk (nI (wm 15)) (nI (tS b N t)) 0 0 0 gv) N k b sg (t + 1) := H1.gx.px.fr (fun _ _ _ _ => rfl) (fun R o i z => NW_no (by omega) (by omega))
  have H3 : SX N k b sg cn nt ns nn sl fl r kd (W1 f A (nI (301 + 15)) (nI (tS b N t)) t st) (NW u1 kk (nI (wm 15)) (nI (tS b N t)) 0 0 0 gv) (t + 1) c q s (kk + 1) (st + 1) :=
    SX.mw H1 P3 H1.gx.cc H1.gx.cl ((NW_no (by omega) (by omega)).trans H1.gx.qu) H1.gx.ql ((NW_no (by omega) (by omega)).trans H1.su) H1.sl n7 (by omega) H1.sc ((NW_no (by omega) (by omega)).trans H1.sr) H1.sb (fun _ _ _ _ => rfl) (fun R o i z => NW_no (by omega) (by omega))
  have hch3 : CH (A + 1) (W1 f A (nI (301 + 15)) (nI (tS b N t)) t st) (NG g A o gd) (m + 1) (some A) l := by
    refine ⟨A, rfl, by omega, Or.inr ⟨by rw [w0]; decide, ?_⟩⟩
    rw [NG_2]
    exact hch.fr (by omega) (fun a ha => ⟨hFF 19 a 0 (by omega), NG_o (by omega)⟩)
  obtain ⟨fa, ga0, ua0, Xa, nx1, w1, b1, b2, b3⟩ := IH (t + 1) (by omega) (m + 1) (some A) (some A) l (nI kk) lv (W1 f A (nI (301 + 15)) (nI (tS b N t)) t st) (NG g A o gd) (NW u1 kk (nI (wm 15)) (nI (tS b N t)) 0 0 0 gv) (NX X A) c q s (kk + 1) (st + 1) (A + 1) (by omega) H3 X1.c1 hch3 ((NW_no (by omega) (by omega)).trans l1) hlv
  have cU : ∀ d, 78 + 3 * (11 - m) ≤ d → EL (mP L xs) (d + 2) 124 [rv 22 (some 0), iv (nI (m + 1)), iv gv] (u, Y) = mclV (if w1 = 0 then (some (.inl none, (ua0, Y))) else (mclI (EL (mP L xs) d 119 [rv 22 (some 0), iv 51, iv (nI (tS b N t)), iv 0, iv 0, iv 0, iv gv] (ua0, Y)) (fun x8 h7 => mclI (EL (mP L xs) d 120 [rv 22 (some 0), iv 45] (m3 h7.1 62 0 kk (h7.1 22 0 41), h7.2)) (fun x10 h9 => if x10 = 0 then (mclV (EL (mP L xs) d 102 [rv 22 (some 0), iv 1, iv (h9.1 22 0 8)] h9) (fun h14 => some (.inl none, h14)) (fun e h => some (.inr e, h))) else (mclV (EL (mP L xs) d 101 [rv 22 (some 0)] h9) (fun h11 => mclI (EL (mP L xs) d 125 [rv 22 (some 0), iv (nI (m + 1 + 1)), iv gv] h11) (fun x13 h12 => if ino x8 6100 then none else (some (.inl none, (m3 h12.1 62 0 (x8).toNatClampNeg (h12.1 22 0 41), h12.2)))) (fun e h => some (.inr e, h))) (fun e h => some (.inr e, h)))) (fun e h => some (.inr e, h))) (fun e h => some (.inr e, h)))) (fun h2 => some (.inl none, h2)) (fun e h => some (.inr e, h)) := fun d hd => by
    have h2 := b2 d (by omega)
    obtain ⟨d, rfl⟩ : ∃ d', d = d' + 1 := ⟨d - 1, by omega⟩
    rw [hV (d + 1 + 1) (by omega), E_Ref_blocks, if_neg (by decide), if_neg (by decide), if_neg (by decide), r_op k41 hk6, clI, nI_1, h2, clI]
    simp only [if_neg (nin hk6 (show 6100 < 2 ^ 31 by decide)), nI_clamp (show kk < 2 ^ 31 by omega)]
  have cC2 : ∀ d, 78 + 3 * (11 - m) ≤ d → EL (mP L xs) (d + 2) 80 [rv 12 (some 0), iv (nI (m + 1)), rv 19 o, rv 19 gd, rv 16 (some r)] (f, g, X) = mclV (mclV (EL (mP L xs) d 46 [rv 20 (some 0), iv 346] (fa, m3 ga0 19 A 8 nx1, Xa)) (fun h11 => mclR (EL (mP L xs) d 81 [rv 12 (some 0), iv (nI (m + 1 + 1)), rv 19 (some A), rv 19 (h11.2.1 19 A 3), rv 16 (some r)] h11) 19 (fun o14 h13 => some (.inl none, (h13.1, m3 h13.2.1 19 A 9 o14, h13.2.2))) (fun e h => some (.inr e, h))) (fun e h => some (.inr e, h))) (fun h2 => some (.inl (some (rv 19 (some A))), h2)) (fun e h => some (.inr e, h)) := fun d hd => by
    rw [cC d (by omega), b1 d (by omega), clR]
    try rfl
  rcases b3 with ⟨rfl, t3, c3, q3, s3, k1, st3, A1, K⟩ | ⟨rfl, K⟩
  · have M := bl_mid (u := u) (f := f) (g := g) (X := X) (o := o) (gd := gd) (gv := gv) (gd1 := some A) (gv1 := nI kk) H hA hm (show t < t + 1 by omega) (Nat.le_refl c) (Nat.le_refl q) (Nat.le_refl s) hFF hUU (W1_1.trans n2.symm) n6 (fun nm => NMI_cg nm (fun i _ => W1_no (by omega) (by omega) (by omega)) (fun R i hR _ => (NW_no (by omega) (by omega)).trans (hu1 R 0 i (by omega)))) (Or.inr ⟨w0, n1, rfl, rfl⟩) K
    have k16 : k1 < 6100 := by
      have := K.sx.kl
      have := K.sx.gx.px.tk
      omega
    obtain ⟨-, -, -, -, -, -, m7⟩ := NW_v (u := ua0) (k2 := k1) (p0 := 51) (p1 := nI (tS b N t)) (p2 := 0) (p3 := 0) (p4 := 0) (p5 := gv)
    generalize hga : m3 ga0 19 A 8 nx1 = ga at M cC2
    have cU2 : ∀ d, 78 + 3 * (11 - m) ≤ d → EL (mP L xs) (d + 2) 124 [rv 22 (some 0), iv (nI (m + 1)), iv gv] (u, Y) = mclV (mclI (EL (mP L xs) d 120 [rv 22 (some 0), iv 45] (m3 (NW ua0 k1 51 (nI (tS b N t)) 0 0 0 gv) 62 0 kk (nI (k1 + 1)), Y)) (fun x10 h9 => if x10 = 0 then (mclV (EL (mP L xs) d 102 [rv 22 (some 0), iv 1, iv (h9.1 22 0 8)] h9) (fun h14 => some (.inl none, h14)) (fun e h => some (.inr e, h))) else (mclV (EL (mP L xs) d 101 [rv 22 (some 0)] h9) (fun h11 => mclI (EL (mP L xs) d 125 [rv 22 (some 0), iv (nI (m + 1 + 1)), iv gv] h11) (fun x13 h12 => some (.inl none, (m3 h12.1 62 0 k1 (h12.1 22 0 41), h12.2))) (fun e h => some (.inr e, h))) (fun e h => some (.inr e, h)))) (fun e h => some (.inr e, h))) (fun h2 => some (.inl none, h2)) (fun e h => some (.inr e, h)) := fun d hd => by
      rw [cU d hd, if_neg (by decide)]
      obtain ⟨d, rfl⟩ : ∃ d', d = d' + 1 := ⟨d - 1, by omega⟩
      rw [r_op K.sx.ku k16, clI]
      simp only [if_neg (nin k16 (show 6100 < 2 ^ 31 by decide)), nI_clamp (show k1 < 2 ^ 31 by omega), m7]
    generalize hua : m3 (NW ua0 k1 51 (nI (tS b N t)) 0 0 0 gv) 62 0 kk (nI (k1 + 1)) = ua at M cU2
    have P := M.sx.gx.px
    have isw : ∀ d, EL (mP L xs) (d + 1) 120 [rv 22 (some 0), iv 45] (ua, Y) = some (.inl (some (iv (if sg t3 = 346 then 1 else 0))), (ua, Y)) := fun d => px_isW (L := L) (xs := xs) (d := d) (Y := Y) P (j := 45) (by decide)
    by_cases z : sg t3 = 346
    · obtain ⟨u5, fb, gb, ub, Xb, nx2, w2, e1, e2, e3, e4, e5⟩ := bl_two (L := L) (xs := xs) (Y := Y) hm hch hlv M (by rw [z]; decide) (by rw [z]; decide) IH
      refine ⟨fb, m3 gb 19 A 9 nx2, m3 ub 62 0 k1 (ub 22 0 41), Xb, fun d hd => ?_, fun d hd => ?_, e5⟩
      · obtain ⟨d, rfl⟩ : ∃ d', d = d' + 2 := ⟨d - 2, by omega⟩
        have h3 := e3 d (by omega)
        rw [cC2 d (by omega)]
        obtain ⟨d, rfl⟩ : ∃ d', d = d' + 2 := ⟨d - 2, by omega⟩
        rw [E_Text_expect, px_sort P, clI, if_pos z, e2, clV, clV, show (m3 fa 20 0 6 (nI (t3 + 1)), ga, Xa).2.1 19 A 3 = gd from M.g3, h3, clR, clV]
      · obtain ⟨d, rfl⟩ : ∃ d', d = d' + 2 := ⟨d - 2, by omega⟩
        have h4 := e4 d (by omega)
        have h1 : EL (mP L xs) d 101 [rv 22 (some 0)] (ua, Y) = some (.inl none, (u5, Y)) := EL_mono (by omega) e1
        rw [cU2 d (by omega)]
        obtain ⟨d, rfl⟩ : ∃ d', d = d' + 1 := ⟨d - 1, by omega⟩
        rw [isw, clI, if_pos z, if_neg (by decide), h1, clV, h4, clI, clV]
    · obtain ⟨f5, u5, e1, e2, e3, e4, e5⟩ := px_bad (L := L) (xs := xs) (Y := Y) P (q := 1) (by decide)
      obtain ⟨p, w, E2, y1, y2⟩ := e3
      have h1 := M.tt
      have h2 := M.mo
      have h4 := M.al
      have h6 := M.sx.gx.cl
      have h7 := P.tk
      refine ⟨f5, m3 ga 19 A 9 none, u5, Xa, fun d hd => ?_, fun d hd => ?_, Or.inr ⟨⟨p, w, E2, y1, y2⟩, ⟨c3, by omega, by omega, (e4.1 10 0 3 (by omega)).trans M.sx.gx.cc⟩, ⟨A1, M.xr, by omega⟩, fun R o i z => (e4.1 R o i (by omega)).trans (M.fc R o i z), fun R o i z => (m3_no (fun w => z ⟨w.1, Or.inl (by omega)⟩)).trans (M.fg R o i z), fun R o i z => (e4.2 R o i (by omega)).trans (M.fu R o i z)⟩⟩
      · obtain ⟨d, rfl⟩ : ∃ d', d = d' + 4 := ⟨d - 4, by omega⟩
        rw [cC2 (d + 2) (by omega), E_Text_expect, px_sort P, clI, if_neg z, e1, clV, clV, ed_block E2, clR, clV]
      · obtain ⟨d, rfl⟩ : ∃ d', d = d' + 3 := ⟨d - 3, by omega⟩
        rw [cU2 (d + 1) (by omega), isw, clI, if_neg z, if_pos rfl, show (ua, Y).1 22 0 8 = ua 22 0 8 from rfl, e2, clV, clV]
  · obtain ⟨p, w, E2, y1, y2⟩ := K.bd
    obtain ⟨c5, z1, z2, z3⟩ := K.cc
    obtain ⟨A5, x1, x2⟩ := K.xr
    have := x1.le
    refine ⟨fa, m3 (m3 ga0 19 A 8 nx1) 19 A 9 none, ua0, Xa, fun d hd => ?_, fun d hd => ?_, Or.inr ⟨⟨p, w, E2, y1, y2⟩, ⟨c5, by omega, z2, z3⟩, ⟨A5, X1.tr x1, by omega⟩, hFF.tr K.fc (by omega) (by omega), fun R o i z => ?_, hUU.tr K.fu (by omega) (by omega) (by omega)⟩⟩
    · obtain ⟨d, rfl⟩ : ∃ d', d = d' + 4 := ⟨d - 4, by omega⟩
      rw [cC2 (d + 2) (by omega), ed_exp E2 (by decide), clV, ed_block E2, clR, clV]
    · obtain ⟨d, rfl⟩ : ∃ d', d = d' + 2 := ⟨d - 2, by omega⟩
      rw [cU d (by omega), if_pos rfl, clV]
    · rw [m3_no (fun w => z ⟨w.1, Or.inl (by omega)⟩), m3_no (fun w => z ⟨w.1, Or.inl (by omega)⟩), K.fg R o i (fun w => z ⟨w.1, w.2.elim (fun y => Or.inl (by omega)) Or.inr⟩)]
      exact hFG R o i z
end Grd
/-! ===== read: every step, every block ===== -/
section Alls
variable {L : Nat} {xs : Nat → Int32} {Y : MR × ML × (Nat → Nat) × Nat × Nat} {N k t c q s kk st A cn sl fl r kd m : Nat} {b : Nat → Nat} {sg : Nat → Int32} {f f2 u u2 : MI} {g g2 : MR} {X X2 : ML × (Nat → Nat) × Nat × Nat} {nt ns nn : Nat → Nat} {o gd l : Option Nat} {gv lv : Int32}
theorem wm_b : ∀ i, i < 19 → (¬ (12 ≤ i ∧ i ≤ 15) → nI (wm i) < 17 ∨ (¬ nI (wm i) < 17 ∧ 20 < nI (wm i))) ∧ ((12 ≤ i ∧ i ≤ 15) → ¬ nI (wm i) < 17 ∧ ¬ 20 < nI (wm i)) := by decide +kernel
theorem ex_step (IH : ∀ t1, t < t1 → BLKs L xs Y N k b sg cn nt ns nn sl fl r kd t1) : STEPs L xs Y N k b sg cn nt ns nn sl fl r kd t := by
  intro m o gd l gv lv f g u X c q s kk st A hm H hA hch hl hlv
  rcases st_word (L := L) (xs := xs) (Y := Y) (gd := gd) (gv := gv) H hA hch hm hl hlv with ⟨i, u1, i1, hs, hfit, H1, hu1, hC, hU⟩ | ⟨j, u1, j4, H1, hu1, hC, hU⟩ | ⟨f2, g2, u2, X2, a1, a2, a3⟩
  · obtain ⟨wa, wb⟩ := wm_b i i1
    by_cases z : 12 ≤ i ∧ i ≤ 15
    · obtain ⟨y1, y2⟩ := wb z
      have hV : ∀ d, 8 ≤ d → EL (mP L xs) (d + 1) 124 [rv 22 (some 0), iv (nI (m + 1)), iv gv] (u, Y) = mclV (EL (mP L xs) d 123 [rv 22 (some 0), iv (nI (wm i)), iv (nI (tS b N t)), iv (nI (m + 1)), iv gv] (u1, Y)) (fun h2 => some (.inl none, h2)) (fun e h => some (.inr e, h)) := fun d hd => by
        rw [hU d hd, if_neg y1, if_neg y2]
      have hi : i = 12 ∨ i = 13 ∨ i = 14 ∨ i = 15 := by omega
      rcases hi with hi | hi | hi | hi
      · exact st_R H hA hm hl i1 hfit H1 hu1 hC hV IH hi
      · exact st_L H hA hm hl i1 hfit H1 hu1 hC hV IH hi
      · exact st_I H hA hm hl i1 hfit H1 hch hlv hu1 hC hV IH hi
      · exact st_G H hA hm hl i1 hfit H1 hch hlv hu1 hC hV IH hi
    · have hU' : ∀ d, 8 ≤ d → EL (mP L xs) (d + 1) 124 [rv 22 (some 0), iv (nI (m + 1)), iv gv] (u, Y) = RL (mP L xs) d 124 116 [some (rv 22 (some 0)), some (iv (nI (m + 1))), some (iv gv), some (iv (nI (tS b N t))), some (iv (nI (wm i)))] [] (u1, Y) := fun d hd => by
        rw [hU d hd]
        rcases wa z with y | ⟨y1, y2⟩
        · rw [if_pos y]
        · rw [if_neg y1, if_pos y2]
      have hi : eki i ∨ i = 7 ∨ i = 8 ∨ i = 9 ∨ i = 10 ∨ i = 11 ∨ (i = 4 ∨ i = 16 ∨ i = 17) := by unfold eki; omega
      rcases hi with hi | hi | hi | hi | hi | hi | hi
      · exact st_E H hA hm hl i1 hfit H1 hu1 hC hU' hi
      · exact st_C H hA hm hl i1 hfit H1 hu1 hC hU' hi
      · exact st_N (j := 0) H hA hm hl i1 hfit H1 hu1 hC hU' (Or.inl ⟨rfl, Or.inl hi⟩)
      · exact st_N (j := 0) H hA hm hl i1 hfit H1 hu1 hC hU' (Or.inl ⟨rfl, Or.inr hi⟩)
      · exact st_N (j := 1) H hA hm hl i1 hfit H1 hu1 hC hU' (Or.inr ⟨rfl, Or.inl hi⟩)
      · exact st_N (j := 1) H hA hm hl i1 hfit H1 hu1 hC hU' (Or.inr ⟨rfl, Or.inr hi⟩)
      · exact st_S H hA hm hl i1 hfit H1 hu1 hC hU' hi
  · exact st_set H hA hm hl j4 H1 hu1 hC hU
  · refine ⟨f2, g2, u2, X2, fun d hd => ?_, fun d hd => ?_, Or.inr a3⟩
    · obtain ⟨d, rfl⟩ : ∃ d', d = d' + 1 := ⟨d - 1, by omega⟩
      exact a1 d (by omega)
    · obtain ⟨d, rfl⟩ : ∃ d', d = d' + 1 := ⟨d - 1, by omega⟩
      exact a2 d (by omega)
theorem ex_steps : ∀ (R t : Nat), k ≤ t + R → STEPs L xs Y N k b sg cn nt ns nn sl fl r kd t
  | 0, t, h => by
    intro m o gd l gv lv f g u X c q s kk st A hm H
    have := H.gx.px.tk
    omega
  | R + 1, t, h => ex_step (fun t1 h1 => ex_blk (fun t2 h2 => ex_steps R t2 (by omega)))
/-- every block -/
theorem ex_blks (t : Nat) : BLKs L xs Y N k b sg cn nt ns nn sl fl r kd t := ex_blk (fun t1 _ => ex_steps k t1 (by omega))
end Alls
