/-! ===== read: repeat, loop: whole ===== -/
section Rp2
variable {L : Nat} {xs : Nat → Int32} {Y : MR × ML × (Nat → Nat) × Nat × Nat} {N k t c q s kk st A cn sl fl r kd m : Nat} {b : Nat → Nat} {sg : Nat → Int32} {f f2 u u2 : MI} {g g2 : MR} {X X2 : ML × (Nat → Nat) × Nat × Nat} {nt ns nn : Nat → Nat} {o gd l : Option Nat} {gv lv : Int32}
theorem st_R {i : Nat} {u1 : MI} (H : SX N k b sg cn nt ns nn sl fl r kd f u t c q s kk st) (hA : X.2.1 19 = A) (hm : m ≤ 9) (hl : u 22 0 54 = lv) (i1 : i < 19) (hfit : fitb kd i l.isSome = true) (H1 : SX N k b sg cn nt ns nn sl fl r kd (W1 f A (nI (301 + i)) (nI (tS b N t)) t st) u1 (t + 1) c q s kk (st + 1)) (hu1 : ∀ R o i, ¬ (R = 22 ∧ ((6 ≤ i ∧ i ≤ 11) ∨ i = 53)) → u1 R o i = u R o i) (hC : ∀ d, 8 ≤ d → EL (mP L xs) (d + 1) 80 [rv 12 (some 0), iv (nI (m + 1)), rv 19 o, rv 19 gd, rv 16 (some r)] (f, g, X) = mclV (EL (mP L xs) d 79 [rv 12 (some 0), rv 19 (some A), iv (nI (m + 1)), rv 16 (some r)] (W1 f A (nI (301 + i)) (nI (tS b N t)) t st, NG g A o gd, NX X A)) (fun h2 => some (.inl (some (rv 19 (some A))), h2)) (fun e h => some (.inr e, h))) (hV : ∀ d, 8 ≤ d → EL (mP L xs) (d + 1) 124 [rv 22 (some 0), iv (nI (m + 1)), iv gv] (u, Y) = mclV (EL (mP L xs) d 123 [rv 22 (some 0), iv (nI (wm i)), iv (nI (tS b N t)), iv (nI (m + 1)), iv gv] (u1, Y)) (fun h2 => some (.inl none, h2)) (fun e h => some (.inr e, h))) (IH : ∀ t1, t < t1 → BLKs L xs Y N k b sg cn nt ns nn sl fl r kd t1) (hi : i = 12) : (∃ f2 g2 u2 X2, (∀ d, 80 + 3 * (11 - m) ≤ d → EL (mP L xs) d 80 [rv 12 (some 0), iv (nI (m + 1)), rv 19 o, rv 19 gd, rv 16 (some r)] (f, g, X) = some (.inl (some (rv 19 (some A))), (f2, g2, X2))) ∧ (∀ d, 80 + 3 * (11 - m) ≤ d → EL (mP L xs) d 124 [rv 22 (some 0), iv (nI (m + 1)), iv gv] (u, Y) = some (.inl none, (u2, Y))) ∧ ((∃ t' c' q' s' kk' st' A', PGd N k b sg cn nt ns nn sl fl r kd m o gd l gv lv t c q s kk A f g u X f2 g2 u2 X2 t' c' q' s' kk' st' A') ∨ SB k t c q s kk A none f g u X f2 g2 u2 X2)) := by
  subst hi
  have hcl := H.gx.cl
  have htk := H.gx.px.tk
  have hkp := H.gx.px.lc.kp
  have hsl := H1.sl
  have hkl := H1.kl
  have l1 : u1 22 0 54 = lv := (hu1 22 0 54 (by omega)).trans hl
  have l1' : (u1, Y).1 22 0 54 = lv := l1
  obtain ⟨f2, u2, a1, a2, a3⟩ := ex_expr (L := L) (xs := xs) (Y := Y) H1.gx (by omega)
  have w0 : (W1 f A (nI (301 + 12)) (nI (tS b N t)) t st) 19 A 0 = 313 := W1_0
  have cC : ∀ d, 75 ≤ d → EL (mP L xs) (d + 2) 80 [rv 12 (some 0), iv (nI (m + 1)), rv 19 o, rv 19 gd, rv 16 (some r)] (f, g, X) = mclV (RL (mP L xs) d 79 97 [some (rv 12 (some 0)), some (rv 19 (some A)), some (iv (nI (m + 1))), some (rv 16 (some r))] [] (m3 f2 19 A 4 (nI c), NG g A o gd, NX X A)) (fun h2 => some (.inl (some (rv 19 (some A))), h2)) (fun e h => some (.inr e, h)) := fun d hd => by
    rw [hC (d + 1) (by omega), rt_R w0, a1 d _ _ (by omega), clI]
  have cU : ∀ d, 75 ≤ d → EL (mP L xs) (d + 2) 124 [rv 22 (some 0), iv (nI (m + 1)), iv gv] (u, Y) = mclV (RL (mP L xs) d 123 32 [some (rv 22 (some 0)), some (iv 17), some (iv (nI (tS b N t))), some (iv (nI (m + 1))), some (iv gv), some (iv lv), none, none] [iv (nI q)] (u2, Y)) (fun h2 => some (.inl none, h2)) (fun e h => some (.inr e, h)) := fun d hd => by
    rw [hV (d + 1) (by omega), E_Ref_blocks, if_pos (by decide), if_pos (by decide), a2 d (by omega), clI, l1']
    rfl
  rcases a3 with ⟨t', c', q', E⟩ | E
  · have ett := E.tt
    have ecl := E.cl
    have eql := E.ql
    have H2 : SX N k b sg cn nt ns nn sl fl r kd f2 u2 t' c' q' s kk (st + 1) := SX.mv (A := A) H1 E.px E.cc (by omega) E.qu (by omega) ((E.fu 22 0 51 (by omega)).trans H1.su) (by omega) ((E.fu 22 0 41 (by omega)).trans H1.ku) (by omega) ((E.fc 12 0 6 (by omega)).trans H1.sc) ((E.fu 22 0 53 (by omega)).trans H1.sr) H1.sb (FrK.oc E.fc) (FrU.oq E.fu)
    obtain ⟨c1, lc, lr, g1, g2, g3, g4⟩ := E.fe
    have fmp : FMp N k b sg (m3 f2 19 A 4 (nI c)) u2 c' q' ((m3 f2 19 A 4 (nI c)) 19 A 4) (nI q) := by
      rw [m3_eq]
      exact FMp.mv (f := f2) (u := u2) (C := c') (Q := q') (fun i hi => m3_r (by decide)) (Nat.le_refl _) (fun _ _ _ _ => rfl) (Nat.le_refl _) ⟨c, q, c1, lc, lr, rfl, rfl, g1, g2, g3, g4⟩
    have hF : FrK c A f (m3 f2 19 A 4 (nI c)) := fun R o i z => (m3_no (by omega)).trans ((E.fc R o i (by omega)).trans (W1_fr (c := c) R o i z))
    have hU : FrU q s kk u u2 := fun R o i z => (E.fu R o i (by omega)).trans (hu1 R o i (by omega))
    obtain ⟨f4, g4, u4, X4, b1, b2, b3⟩ := bl_rep (L := L) (xs := xs) (Y := Y) (o := o) (gd := gd) (l := l) (gv := gv) (g := g) (op1 := 17) (opT := 52) (w0 := nI q) H hA hm IH H2.m19 (by omega) (by omega) (by omega) (Nat.le_refl s) hF hU ((E.fu 22 0 54 (by omega)).trans l1) ((m3_i (by decide)).trans ((E.fc 19 A 1 (by omega)).trans W1_1)) (fun nm => NMI_cg (E.nm (NMI_cg nm (fun i _ => W1_no (by omega) (by omega) (by omega)) (fun R i hR _ => hu1 R 0 i (by omega)))) (fun i _ => m3_r (by decide)) (fun _ _ _ _ => rfl)) (Or.inl ⟨(m3_i (by decide)).trans ((E.fc 19 A 0 (by omega)).trans w0), rfl, rfl, fmp⟩)
    refine ⟨f4, g4, u4, X4, fun d hd => ?_, fun d hd => ?_, b3⟩
    · obtain ⟨d, rfl⟩ : ∃ d', d = d' + 2 := ⟨d - 2, by omega⟩
      rw [cC d (by omega), b1 d (by omega), clV]
    · obtain ⟨d, rfl⟩ : ∃ d', d = d' + 2 := ⟨d - 2, by omega⟩
      rw [cU d (by omega), b2 d (by omega), clV]
  · obtain ⟨p, w, ED2, y1, y2⟩ := E.bd
    obtain ⟨c2, z1, z2, z3⟩ := E.cc
    have X1 := XR.new hA
    have X2 := XR.new X1.c1
    have k41 : u2 22 0 41 = nI kk := (E.fu 22 0 41 (by omega)).trans H1.ku
    have ED3 : ED (m3 f2 19 A 4 (nI c)) p w := ED2.m19
    refine ⟨NF (m3 f2 19 A 4 (nI c)) (A + 1) 401 ((m3 f2 19 A 4 (nI c)) 19 A 1), m3 (m3 (NG (NG g A o gd) (A + 1) (some A) ((NG g A o gd) 19 A 3)) 19 A 10 (some (A + 1))) 19 A 8 none, m3 (m3 (NW u2 kk 17 (nI (tS b N t)) (nI q) 0 (nI (m + 1)) gv) 22 0 54 (nI kk)) 22 0 54 lv, NX (NX X A) (A + 1), fun d hd => ?_, fun d hd => ?_, Or.inr ⟨⟨p, w, ED3.m2, ?_, ?_⟩, ⟨c2, z1, z2, (NF_o (by omega)).trans ((m3_r (by decide)).trans z3)⟩, ⟨A + 1 + 1, X1.tr X2, by omega⟩, fun R o i z => ?_, fun R o i z => ?_, fun R o i z => ?_⟩⟩
    · obtain ⟨d, rfl⟩ : ∃ d', d = d' + 4 := ⟨d - 4, by omega⟩
      rw [cC (d + 2) (by omega), rt_97 X1.c1 (by omega), ed_block ED3.m2, clR, clV]
    · obtain ⟨d, rfl⟩ : ∃ d', d = d' + 3 := ⟨d - 3, by omega⟩
      have e12 : (m3 (NW u2 kk 17 (nI (tS b N t)) (nI q) 0 (nI (m + 1)) gv) 22 0 54 (nI kk)) 22 0 12 = p := by rw [m3_i (by decide), NW_no (by omega) (by omega), y1]
      rw [cU (d + 1) (by omega), K_Ref_blocks_32, r_op k41 (by omega), clI, if_neg (by rw [e12]; exact ED2.qn), clV]
    · rw [m3_i (by decide), m3_i (by decide), NW_no (by omega) (by omega), y1]
    · rw [m3_i (by decide), m3_i (by decide), NW_no (by omega) (by omega), y2]
    · rw [NF_o (by omega), m3_no (by omega), E.fc R o i (by omega)]
      exact W1_fr (c := c) R o i z
    · rw [m3_no (fun w => z ⟨w.1, Or.inl (by omega)⟩), m3_no (fun w => z ⟨w.1, Or.inl (by omega)⟩), NG_o (fun w => z ⟨w.1, Or.inl (by omega)⟩)]
      exact NG_o (fun w => z ⟨w.1, Or.inl (by omega)⟩)
    · rw [m3_no (by omega), m3_no (by omega), NW_no (by omega) (by omega), E.fu R o i (by omega)]
      exact hu1 R o i (by omega)
theorem st_L {i : Nat} {u1 : MI} (H : SX N k b sg cn nt ns nn sl fl r kd f u t c q s kk st) (hA : X.2.1 19 = A) (hm : m ≤ 9) (hl : u 22 0 54 = lv) (i1 : i < 19) (hfit : fitb kd i l.isSome = true) (H1 : SX N k b sg cn nt ns nn sl fl r kd (W1 f A (nI (301 + i)) (nI (tS b N t)) t st) u1 (t + 1) c q s kk (st + 1)) (hu1 : ∀ R o i, ¬ (R = 22 ∧ ((6 ≤ i ∧ i ≤ 11) ∨ i = 53)) → u1 R o i = u R o i) (hC : ∀ d, 8 ≤ d → EL (mP L xs) (d + 1) 80 [rv 12 (some 0), iv (nI (m + 1)), rv 19 o, rv 19 gd, rv 16 (some r)] (f, g, X) = mclV (EL (mP L xs) d 79 [rv 12 (some 0), rv 19 (some A), iv (nI (m + 1)), rv 16 (some r)] (W1 f A (nI (301 + i)) (nI (tS b N t)) t st, NG g A o gd, NX X A)) (fun h2 => some (.inl (some (rv 19 (some A))), h2)) (fun e h => some (.inr e, h))) (hV : ∀ d, 8 ≤ d → EL (mP L xs) (d + 1) 124 [rv 22 (some 0), iv (nI (m + 1)), iv gv] (u, Y) = mclV (EL (mP L xs) d 123 [rv 22 (some 0), iv (nI (wm i)), iv (nI (tS b N t)), iv (nI (m + 1)), iv gv] (u1, Y)) (fun h2 => some (.inl none, h2)) (fun e h => some (.inr e, h))) (IH : ∀ t1, t < t1 → BLKs L xs Y N k b sg cn nt ns nn sl fl r kd t1) (hi : i = 13) : (∃ f2 g2 u2 X2, (∀ d, 80 + 3 * (11 - m) ≤ d → EL (mP L xs) d 80 [rv 12 (some 0), iv (nI (m + 1)), rv 19 o, rv 19 gd, rv 16 (some r)] (f, g, X) = some (.inl (some (rv 19 (some A))), (f2, g2, X2))) ∧ (∀ d, 80 + 3 * (11 - m) ≤ d → EL (mP L xs) d 124 [rv 22 (some 0), iv (nI (m + 1)), iv gv] (u, Y) = some (.inl none, (u2, Y))) ∧ ((∃ t' c' q' s' kk' st' A', PGd N k b sg cn nt ns nn sl fl r kd m o gd l gv lv t c q s kk A f g u X f2 g2 u2 X2 t' c' q' s' kk' st' A') ∨ SB k t c q s kk A none f g u X f2 g2 u2 X2)) := by
  subst hi
  have l1 : u1 22 0 54 = lv := (hu1 22 0 54 (by omega)).trans hl
  have l1' : (u1, Y).1 22 0 54 = lv := l1
  have w0 : (W1 f A (nI (301 + 13)) (nI (tS b N t)) t st) 19 A 0 = 314 := W1_0
  have cC : ∀ d, 75 ≤ d → EL (mP L xs) (d + 2) 80 [rv 12 (some 0), iv (nI (m + 1)), rv 19 o, rv 19 gd, rv 16 (some r)] (f, g, X) = mclV (RL (mP L xs) d 79 97 [some (rv 12 (some 0)), some (rv 19 (some A)), some (iv (nI (m + 1))), some (rv 16 (some r))] [] (W1 f A (nI (301 + 13)) (nI (tS b N t)) t st, NG g A o gd, NX X A)) (fun h2 => some (.inl (some (rv 19 (some A))), h2)) (fun e h => some (.inr e, h)) := fun d hd => by
    rw [hC (d + 1) (by omega), rt_L w0]
  have cU : ∀ d, 75 ≤ d → EL (mP L xs) (d + 2) 124 [rv 22 (some 0), iv (nI (m + 1)), iv gv] (u, Y) = mclV (RL (mP L xs) d 123 32 [some (rv 22 (some 0)), some (iv 18), some (iv (nI (tS b N t))), some (iv (nI (m + 1))), some (iv gv), some (iv lv), none, none] [iv (-1)] (u1, Y)) (fun h2 => some (.inl none, h2)) (fun e h => some (.inr e, h)) := fun d hd => by
    rw [hV (d + 1) (by omega), E_Ref_blocks, if_neg (by decide), if_pos (by decide), if_neg (by decide), l1']
    rfl
  obtain ⟨f4, g4, u4, X4, b1, b2, b3⟩ := bl_rep (L := L) (xs := xs) (Y := Y) (o := o) (gd := gd) (l := l) (gv := gv) (g := g) (op1 := 18) (opT := 53) (w0 := -1) H hA hm IH H1 (by omega) (Nat.le_refl c) (Nat.le_refl q) (Nat.le_refl s) W1_fr (fun R o i z => hu1 R o i (by omega)) l1 W1_1 (fun nm => NMI_cg nm (fun i _ => W1_no (by omega) (by omega) (by omega)) (fun R i hR _ => hu1 R 0 i (by omega))) (Or.inr ⟨w0, rfl, rfl⟩)
  refine ⟨f4, g4, u4, X4, fun d hd => ?_, fun d hd => ?_, b3⟩
  · obtain ⟨d, rfl⟩ : ∃ d', d = d' + 2 := ⟨d - 2, by omega⟩
    rw [cC d (by omega), b1 d (by omega), clV]
  · obtain ⟨d, rfl⟩ : ∃ d', d = d' + 2 := ⟨d - 2, by omega⟩
    rw [cU d (by omega), b2 d (by omega), clV]
end Rp2
