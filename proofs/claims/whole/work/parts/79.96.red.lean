/-! ===== read: power, staff, flag ===== -/
section Psf
variable {L : Nat} {xs : Nat → Int32} {g g2 : MR} {X : ML × (Nat → Nat) × Nat × Nat} {Y : MR × ML × (Nat → Nat) × Nat × Nat} {N k t c q s kk A A0 cn n sl fl : Nat} {b : Nat → Nat} {sg : Nat → Int32} {f f2 u u2 : MI} {nt ns nn : Nat → Nat}
theorem DX.up {cn2 sl2 fl2 t2 : Nat} {nt2 ns2 nn2 : Nat → Nat} (D : DX N k b sg cn nt ns nn n sl fl A0 f g u X t c q s kk A) (P : PX f2 u2 N k b sg t2) (ht : t ≤ t2) (M : NC f2 k sg cn2 nt2 ns2 nn2) (Z : NU u2 N k b sg cn2 nt2 ns2 nn2) (hsl6 : sl2 ≤ 6) (hfl8 : fl2 ≤ 8) (hsl : sl ≤ sl2) (hfl : fl ≤ fl2) (f5 : f2 11 0 5 = nI sl2) (u21 : u2 22 0 21 = nI sl2) (f6 : f2 11 0 6 = nI fl2) (u22 : u2 22 0 22 = nI fl2) (cs : cn2 = n + sl2 + fl2) (hs : ∀ i, i < cn2 → ns2 i = 0 → nn2 i < sl2) (hf : ∀ i, i < cn2 → ns2 i = 1 → nn2 i < fl2) (hr : ∀ i, i < cn2 → ns2 i = 2 → nn2 i < n) (pw : f2 11 0 8 = u2 22 0 23) (pt : f2 12 0 5 = u2 22 0 24) (sa : ∀ j, j < sl2 → f2 29 0 j = u2 58 0 j ∧ Upto (u2 58 0 j) 9)
    (hF : ∀ R o x, ¬ (R = 20 ∨ R = 34 ∨ R = 37 ∨ R = 38 ∨ R = 39 ∨ R = 14 ∨ R = 29 ∨ (R = 11 ∧ (x = 5 ∨ x = 6 ∨ x = 8)) ∨ (R = 12 ∧ x = 5)) → f2 R o x = f R o x) (hU : ∀ R o x, ¬ ((45 ≤ R ∧ R ≤ 48) ∨ R = 58 ∨ (R = 22 ∧ ((6 ≤ x ∧ x ≤ 13) ∨ x = 18 ∨ x = 21 ∨ x = 22 ∨ x = 23 ∨ x = 24))) → u2 R o x = u R o x) : DX N k b sg cn2 nt2 ns2 nn2 n sl2 fl2 A0 f2 g u2 X t2 c q s kk A := by
  have h1 := D.s2
  have h2 := D.kl
  have h3 := D.gx.cl
  have h4 := D.gx.ql
  obtain ⟨b0, b1, b2, b3, b4, b5, b6, b7, b8⟩ := D.ab
  refine ⟨⟨P, (hF 10 0 3 (by omega)).trans D.gx.cc, by omega, (hU 22 0 45 (by omega)).trans D.gx.qu, by omega, M, Z⟩, (hU 22 0 51 (by omega)).trans D.su, by omega, (hU 22 0 41 (by omega)).trans D.ku, by omega, D.xa, D.aa, D.n12, (hF 11 0 4 (by omega)).trans D.f4, (hU 22 0 20 (by omega)).trans D.u20, hsl6, f5, u21, hfl8, f6, u22, cs, hs, hf, hr, pw, pt, sa, ⟨(hU 42 0 0 (by omega)).trans b0, (hU 42 0 1 (by omega)).trans b1, (hU 42 0 2 (by omega)).trans b2, (hU 42 0 3 (by omega)).trans b3, (hU 42 0 4 (by omega)).trans b4, (hU 42 0 5 (by omega)).trans b5, (hU 42 0 6 (by omega)).trans b6, (hU 42 0 7 (by omega)).trans b7, (hU 42 0 8 (by omega)).trans b8⟩, fun r hr' => (hF 16 r 0 (by omega)).trans (D.ix r hr'), fun r hr' => ?_, NMI_cg D.nm (fun i _ => hF 32 0 i (by omega)) (fun R i hR _ => hU R 0 i (by omega)), ?_⟩
  · obtain ⟨kd, K⟩ := D.rk r hr'
    exact ⟨kd, K.fr (fun R x h => hF R r x (by omega)) rfl (fun R x1 x2 => hU R 0 r (by omega))⟩
  · exact D.sc.mv (fun a i _ _ => hF 19 a i (by omega)) (fun _ _ _ => rfl) (fun R i x1 x2 _ => hU R 0 i (by omega)) (fun r _ => ⟨hU 49 0 r (by omega), hU 57 0 r (by omega), rfl⟩) (Nat.le_refl _) (fun i _ => hF 32 0 i (by omega)) (Nat.le_refl _) (fun R i hR _ => hU R 0 i (by omega)) (Nat.le_refl _) (fun R i x1 x2 _ => hU R 0 i (by omega)) (Nat.le_refl _) hsl hfl
theorem ED.gen {p0 q0 : Int32} (E : ED f p0 q0) (h : ∀ R x, R = 20 ∨ R = 34 → f2 R 0 x = f R 0 x) : ED f2 p0 q0 := E.fr (h 20 5 (Or.inl rfl)) (h 20 6 (Or.inl rfl)) (h 20 7 (Or.inl rfl)) (h 20 8 (Or.inl rfl)) (h 34 4000 (Or.inr rfl))
/-- the reference's declaration at a word that declares -/
theorem r_decl (P : PX f u N k b sg t) {i : Nat} (hi : i < 3) (hs : sg t = nI (333 + i)) (hne : (i = 0 → u 22 0 24 = 0) ∧ (i = 1 → ¬ u 22 0 21 = 6) ∧ (i = 2 → ¬ u 22 0 22 = 8)) : ∀ d, EL (mP L xs) (d + 1) 127 [rv 22 (some 0)] (u, Y) = RL (mP L xs) d 127 103 [some (rv 22 (some 0)), some (iv (nI (tS b N t))), some (iv (nI i))] [] (u, Y) := fun d => by
  have hw := (tk_word P.tkk (j := 32 + i) (by omega)).mp (by rw [hs]; congr 1; omega)
  have hwm : wm (32 + i) = i := by
    have : ∀ i, i < 3 → wm (32 + i) = i := by decide
    exact this i hi
  have w7 := hw.1
  have w11 := hw.2
  rw [hwm] at w11
  have hh : i = 0 ∨ i = 1 ∨ i = 2 := by omega
  rw [E_Ref_declaration]
  simp only [w7, w11, if_true, P.bg]
  rcases hh with rfl | rfl | rfl
  · rw [if_neg (by decide), if_neg (by decide), if_pos (by decide), if_pos (show (u, Y).1 22 0 24 = 0 from hne.1 rfl), if_neg (by decide), K_Ref_declaration_68, if_neg (by decide), if_neg (by decide)]
  · rw [if_neg (by decide), if_neg (by decide), if_neg (by decide), if_pos (by decide), if_neg (show ¬ (u, Y).1 22 0 21 = 6 from hne.2.1 rfl), K_Ref_declaration_68, if_neg (by decide), if_neg (by decide)]
  · rw [if_neg (by decide), if_neg (by decide), if_neg (by decide), if_neg (by decide), K_Ref_declaration_68, if_pos (by decide), if_neg (show ¬ (u, Y).1 22 0 22 = 8 from hne.2.2 rfl), if_neg (by decide)]
/-- one too many -/
theorem r_much (P : PX f u N k b sg t) {i : Nat} (hi : i < 3) (hs : sg t = nI (333 + i)) (he : (i = 0 ∧ ¬ u 22 0 24 = 0) ∨ (i = 1 ∧ u 22 0 21 = 6) ∨ (i = 2 ∧ u 22 0 22 = 8)) : ∀ d, EL (mP L xs) (d + 1) 127 [rv 22 (some 0)] (u, Y) = mclV (EL (mP L xs) d 102 [rv 22 (some 0), iv 4, iv (u 22 0 8)] (u, Y)) (fun h => some (.inl none, h)) (fun e h => some (.inr e, h)) := fun d => by
  have hw := (tk_word P.tkk (j := 32 + i) (by omega)).mp (by rw [hs]; congr 1; omega)
  have hwm : wm (32 + i) = i := by
    have : ∀ i, i < 3 → wm (32 + i) = i := by decide
    exact this i hi
  have w7 := hw.1
  have w11 := hw.2
  rw [hwm] at w11
  rw [E_Ref_declaration]
  simp only [w7, w11, if_true]
  rcases he with ⟨rfl, he⟩ | ⟨rfl, he⟩ | ⟨rfl, he⟩
  · rw [if_neg (by decide), if_neg (by decide), if_pos (by decide), if_neg (show ¬ (u, Y).1 22 0 24 = 0 from he)]
  · rw [if_neg (by decide), if_neg (by decide), if_neg (by decide), if_pos (by decide), if_pos (show (u, Y).1 22 0 21 = 6 from he)]
  · rw [if_neg (by decide), if_neg (by decide), if_neg (by decide), if_neg (by decide), K_Ref_declaration_68, if_pos (by decide), if_pos (show (u, Y).1 22 0 22 = 8 from he)]
theorem px_need59 (P : PX f u N k b sg t) : ∃ f2 u2 w, (∀ d g X, EL (mP L xs) (d + 2) 46 [rv 20 (some 0), iv 59] (f, g, X) = some (.inl none, (f2, g, X))) ∧ (∀ d, 8 ≤ d → EL (mP L xs) d 112 [rv 22 (some 0), iv 59] (u, Y) = some (.inl (some (iv w)), (u2, Y))) ∧ ((f2 = m3 f 20 0 6 (nI (t + 1)) ∧ Fr6 u u2 ∧ PX f2 u2 N k b sg (t + 1)) ∨ (BAD f2 u2 ∧ FB f f2 u u2)) := by
  obtain ⟨f2, u2, a1, a2⟩ := px_need (L := L) (xs := xs) (Y := Y) P (c := 59) (by decide) (by decide)
  rcases a2 with ⟨-, a3, a4, a5, a6⟩ | ⟨a3, a4, a5, a6⟩
  · exact ⟨f2, u2, 1, a1, fun d hd => EL_mono hd a3, Or.inl ⟨a5, a4, a6⟩⟩
  · exact ⟨f2, u2, 0, a1, fun d hd => EL_mono hd a3, Or.inr ⟨a4, a5, a6⟩⟩
theorem dc_power (D : DX N k b sg cn nt ns nn n sl fl A0 f g u X t c q s kk A) (hs : sg t = 333) : ∃ f2 g2 u2 X2, (∀ d, 120 ≤ d → EL (mP L xs) d 47 [rv 12 (some 0)] (f, g, X) = some (.inl none, (f2, g2, X2))) ∧ (∀ d, 122 ≤ d → EL (mP L xs) d 127 [rv 22 (some 0)] (u, Y) = some (.inl none, (u2, Y))) ∧ DO N k b sg A0 X t A f2 g2 u2 X2 := by
  have P := D.gx.px
  have htk := P.tk
  have hkp := P.lc.kp
  have dbx : ∀ {f2 u2 : MI}, BAD f2 u2 → DO N k b sg A0 X t A f2 g u2 X := fun h => Or.inr ⟨h, A, XR.rf D.xa, by omega⟩
  by_cases hp : u 22 0 24 = 0
  · have hp' : f 12 0 5 = 0 := D.pt.trans hp
    have P0 : PX (m3 f 12 0 5 1) u N k b sg t := P.fr (fun R o x h => m3_no (by omega)) (fun _ _ _ _ => rfl)
    obtain ⟨b1, u1, b2, b3, b4⟩ := px_adv (L := L) (xs := xs) (Y := Y) P0 (by rw [hs]; decide) (by rw [hs]; decide)
    have cC : ∀ d, EL (mP L xs) (d + 2) 47 [rv 12 (some 0)] (f, g, X) = mclI (EL (mP L xs) (d + 1) 45 [rv 12 (some 0), iv 9999] (m3 (m3 f 12 0 5 1) 20 0 6 (nI (t + 1)), g, X)) (fun x3 h2 => mclV (EL (mP L xs) (d + 1) 46 [rv 20 (some 0), iv 59] (m3 h2.1 11 0 8 x3, h2.2)) (fun h4 => some (.inl none, h4)) (fun e h => some (.inr e, h))) (fun e h => some (.inr e, h)) := fun d => by
      rw [E_FairReader_power, if_pos (show (f, g, X).1 12 0 5 = 0 from hp'), K_FairReader_power_15, b1, clV]
    have cU : ∀ d, 8 ≤ d → EL (mP L xs) (d + 1) 127 [rv 22 (some 0)] (u, Y) = mclI (EL (mP L xs) d 103 [rv 22 (some 0), iv 1, iv 9999] (u1, Y)) (fun x14 h13 => if (m3 (m3 h13.1 22 0 23 x14) 22 0 24 1) 22 0 12 = 0 then (mclI (EL (mP L xs) d 112 [rv 22 (some 0), iv 59] (m3 (m3 h13.1 22 0 23 x14) 22 0 24 1, h13.2)) (fun x16 h15 => some (.inl none, h15)) (fun e h => some (.inr e, h))) else (some (.inl none, (m3 (m3 h13.1 22 0 23 x14) 22 0 24 1, h13.2)))) (fun e h => some (.inr e, h)) := fun d hd => by
      have h1 : EL (mP L xs) d 101 [rv 22 (some 0)] (u, Y) = some (.inl none, (u1, Y)) := EL_mono (by omega) b2
      rw [r_decl P (i := 0) (by decide) hs ⟨fun _ => hp, fun h => absurd h (by decide), fun h => absurd h (by decide)⟩, K_Ref_declaration_103, h1, clV, if_pos (by decide)]
    rcases px_nin (L := L) (xs := xs) (Y := Y) b4 (m := 9999) (by decide) with ⟨u2, v, v1, v2, a1, a2, a3, a4⟩ | ⟨f2, u2, v, a1, a2, a3, a4⟩
    · generalize hf3 : m3 (m3 (m3 (m3 f 12 0 5 1) 20 0 6 (nI (t + 1))) 20 0 6 (nI (t + 1 + 1))) 11 0 8 (nI v) = f3
      generalize hu3 : m3 (m3 u2 22 0 23 (nI v)) 22 0 24 1 = u3
      have P3 : PX f3 u3 N k b sg (t + 1 + 1) := a3.fr (fun R o x h => by rw [← hf3, m3_no (by omega)]) (fun R o x h => by rw [← hu3, m3_no (by omega), m3_no (by omega)])
      obtain ⟨f4, u4, w, c1, c2, c3⟩ := px_need59 (L := L) (xs := xs) (Y := Y) P3
      have a1' : ∀ d, EL (mP L xs) (d + 3) 45 [rv 12 (some 0), iv 9999] (m3 (m3 f 12 0 5 1) 20 0 6 (nI (t + 1)), g, X) = some (.inl (some (iv (nI v))), (m3 (m3 (m3 f 12 0 5 1) 20 0 6 (nI (t + 1))) 20 0 6 (nI (t + 1 + 1)), g, X)) := fun d => a1 d g X
      refine ⟨f4, g, u4, X, fun d hd => ?_, fun d hd => ?_, ?_⟩
      · obtain ⟨d, rfl⟩ : ∃ d', d = d' + 4 := ⟨d - 4, by omega⟩
        rw [cC, a1', clI]
        show mclV (EL (mP L xs) (d + 3) 46 [rv 20 (some 0), iv 59] (m3 (m3 (m3 (m3 f 12 0 5 1) 20 0 6 (nI (t + 1))) 20 0 6 (nI (t + 1 + 1))) 11 0 8 (nI v), g, X)) _ _ = _
        rw [hf3, c1, clV]
      · obtain ⟨d, rfl⟩ : ∃ d', d = d' + 1 := ⟨d - 1, by omega⟩
        have h1 : EL (mP L xs) d 103 [rv 22 (some 0), iv 1, iv 9999] (u1, Y) = some (.inl (some (iv (nI v))), (u2, Y)) := EL_mono (by omega) a2
        rw [cU d (by omega), h1, clI]
        simp only [hu3, P3.fu, if_true]
        rw [c2 d (by omega), clI]
      · rcases c3 with ⟨c4, c5, c6⟩ | ⟨c4, -⟩
        · have hF : ∀ R o x, ¬ (R = 20 ∨ (R = 12 ∧ x = 5) ∨ (R = 11 ∧ x = 8)) → f4 R o x = f R o x := fun R o x h => by rw [c4, m3_no (by omega), ← hf3, m3_no (by omega), m3_no (by omega), m3_no (by omega), m3_no (by omega)]
          have hU : ∀ R o x, ¬ (R = 22 ∧ ((6 ≤ x ∧ x ≤ 11) ∨ x = 23 ∨ x = 24)) → u4 R o x = u R o x := fun R o x h => by rw [c5 R o x (by omega), ← hu3, m3_no (by omega), m3_no (by omega), a4 R o x (by omega), b3 R o x (by omega)]
          refine Or.inl ⟨cn, nt, ns, nn, n, sl, fl, t + 1 + 1 + 1, c, q, s, kk, A, by omega, XR.rf D.xa, by omega, D.up c6 (by omega) (D.gx.nc.fr (fun R o x h => hF R o x (by omega))) (D.gx.nz.fr (fun R o x h => hU R o x (by omega))) D.sl6 D.fl8 (Nat.le_refl _) (Nat.le_refl _) ((hF 11 0 5 (by omega)).trans D.f5) ((hU 22 0 21 (by omega)).trans D.u21) ((hF 11 0 6 (by omega)).trans D.f6) ((hU 22 0 22 (by omega)).trans D.u22) D.cs D.hs D.hf D.hr ?_ ?_ (fun j hj => ?_) (fun R o x h => hF R o x (by omega)) (fun R o x h => hU R o x (by omega))⟩
          · rw [c4, m3_r (by decide), ← hf3, m3_eq, c5 22 0 23 (by omega), ← hu3, m3_i (by decide), m3_eq]
          · rw [c4, m3_r (by decide), ← hf3, m3_r (by decide), m3_r (by decide), m3_r (by decide), m3_eq, c5 22 0 24 (by omega), ← hu3, m3_eq]
          · rw [hF 29 0 j (by omega), hU 58 0 j (by omega)]
            exact D.sa j hj
        · exact dbx c4
    · obtain ⟨p, w, E, y1, y2⟩ := a3
      have E3 : ED (m3 f2 11 0 8 v) p w := E.gen (fun R x h => m3_r (by omega))
      have a1' : ∀ d, EL (mP L xs) (d + 3) 45 [rv 12 (some 0), iv 9999] (m3 (m3 f 12 0 5 1) 20 0 6 (nI (t + 1)), g, X) = some (.inl (some (iv v)), (f2, g, X)) := fun d => a1 d g X
      refine ⟨m3 f2 11 0 8 v, g, m3 (m3 u2 22 0 23 v) 22 0 24 1, X, fun d hd => ?_, fun d hd => ?_, dbx ⟨p, w, E3, (m3_i (by decide)).trans ((m3_i (by decide)).trans y1), (m3_i (by decide)).trans ((m3_i (by decide)).trans y2)⟩⟩
      · obtain ⟨d, rfl⟩ : ∃ d', d = d' + 4 := ⟨d - 4, by omega⟩
        rw [cC, a1', clI, ed_exp E3 (by decide), clV]
      · obtain ⟨d, rfl⟩ : ∃ d', d = d' + 1 := ⟨d - 1, by omega⟩
        have h1 : EL (mP L xs) d 103 [rv 22 (some 0), iv 1, iv 9999] (u1, Y) = some (.inl (some (iv v)), (u2, Y)) := EL_mono (by omega) a2
        have e12 : ¬ (m3 (m3 u2 22 0 23 v) 22 0 24 1) 22 0 12 = 0 := by
          rw [m3_i (by decide), m3_i (by decide), y1]
          exact E.qn
        rw [cU d (by omega), h1, clI]
        simp only [if_neg e12]
  · have hp' : ¬ f 12 0 5 = 0 := fun e => hp (D.pt.symm.trans e)
    obtain ⟨f2, u2, a1, a2, a3, a4, a5⟩ := px_bad (L := L) (xs := xs) (Y := Y) P (q := 4) (by decide)
    obtain ⟨p, w, E, y1, y2⟩ := a3
    have E2 : ED (m3 f2 12 0 5 1) p w := E.gen (fun R x h => m3_r (by omega))
    have E3 : ED (m3 (m3 f2 12 0 5 1) 11 0 8 0) p w := E2.gen (fun R x h => m3_r (by omega))
    refine ⟨m3 (m3 f2 12 0 5 1) 11 0 8 0, g, u2, X, fun d hd => ?_, fun d hd => ?_, dbx ⟨p, w, E3, y1, y2⟩⟩
    · obtain ⟨d, rfl⟩ : ∃ d', d = d' + 4 := ⟨d - 4, by omega⟩
      rw [E_FairReader_power, if_neg (show ¬ (f, g, X).1 12 0 5 = 0 from hp'), a1, clV, K_FairReader_power_15, ed_adv E2, clV, ed_num E2, clI, ed_exp E3 (by decide), clV]
    · obtain ⟨d, rfl⟩ : ∃ d', d = d' + 2 := ⟨d - 2, by omega⟩
      rw [r_much P (i := 0) (by decide) hs (Or.inl ⟨rfl, hp⟩), a2, clV]
theorem dc_staff (D : DX N k b sg cn nt ns nn n sl fl A0 f g u X t c q s kk A) (hs : sg t = 334) : ∃ f2 g2 u2 X2, (∀ d, 120 ≤ d → EL (mP L xs) d 55 [rv 12 (some 0)] (f, g, X) = some (.inl none, (f2, g2, X2))) ∧ (∀ d, 122 ≤ d → EL (mP L xs) d 127 [rv 22 (some 0)] (u, Y) = some (.inl none, (u2, Y))) ∧ DO N k b sg A0 X t A f2 g2 u2 X2 := by
  have P := D.gx.px
  have htk := P.tk
  have hkp := P.lc.kp
  have hcs := D.cs
  have hsl6 := D.sl6
  have hfl8 := D.fl8
  have hn12 := D.n12
  have dbx : ∀ {f2 u2 : MI}, BAD f2 u2 → DO N k b sg A0 X t A f2 g u2 X := fun h => Or.inr ⟨h, A, XR.rf D.xa, by omega⟩
  by_cases h6 : sl = 6
  · obtain ⟨f2, u2, a1, a2, a3, a4, a5⟩ := px_bad (L := L) (xs := xs) (Y := Y) P (q := 4) (by decide)
    obtain ⟨p, w, E, y1, y2⟩ := a3
    refine ⟨f2, g, u2, X, fun d hd => ?_, fun d hd => ?_, dbx ⟨p, w, E, y1, y2⟩⟩
    · obtain ⟨d, rfl⟩ : ∃ d', d = d' + 5 := ⟨d - 5, by omega⟩
      rw [E_FairReader_staff, if_neg (show ¬ (f, g, X).1 11 0 5 < 6 by
        show ¬ f 11 0 5 < 6
        rw [D.f5, h6]; decide), a1, clV, K_FairReader_staff_20, ed_adv E, clV, E_Names_readNew, ed_isWord E, clI, if_pos rfl, ed_ref E, clV, clI, ed_num E, clI, ed_exp E (by decide), clV, if_neg (show ¬ (f2, g, X).1 20 0 7 = 0 by
        show ¬ f2 20 0 7 = 0
        rw [E.fa]; exact E.qn)]
    · obtain ⟨d, rfl⟩ : ∃ d', d = d' + 2 := ⟨d - 2, by omega⟩
      rw [r_much P (i := 1) (by decide) hs (Or.inr (Or.inl ⟨rfl, by rw [D.u21, h6]; rfl⟩)), a2, clV]
  · have hsl' : sl < 6 := by omega
    have hlt : nI sl < 6 := nI_lt (b := 6) hsl' (by decide)
    have n21 : ¬ u 22 0 21 = 6 := by
      rw [D.u21]
      exact fun e => h6 ((nI_eq (a := sl) (b := 6) (by omega) (by decide)).mp e)
    obtain ⟨b1, u1, b2, b3, b4⟩ := px_adv (L := L) (xs := xs) (Y := Y) P (by rw [hs]; decide) (by rw [hs]; decide)
    have e21 : u1 22 0 21 = nI sl := (b3 22 0 21 (by omega)).trans D.u21
    have cC : ∀ d, EL (mP L xs) (d + 2) 55 [rv 12 (some 0)] (f, g, X) = mclI (EL (mP L xs) (d + 1) 52 [rv 14 (some 0)] (m3 f 20 0 6 (nI (t + 1)), g, X)) (fun x3 h2 => mclI (EL (mP L xs) (d + 1) 45 [rv 12 (some 0), iv 9] h2) (fun x5 h4 => mclV (EL (mP L xs) (d + 1) 46 [rv 20 (some 0), iv 59] h4) (fun h6 => if h6.1 20 0 7 = 0 then (mclV (EL (mP L xs) (d + 1) 53 [rv 14 (some 0), iv x3, iv 0, iv (h6.1 11 0 5)] h6) (fun h7 => mclV (EL (mP L xs) (d + 1) 54 [rv 11 (some 0), iv x5] h7) (fun h8 => some (.inl none, h8)) (fun e h => some (.inr e, h))) (fun e h => some (.inr e, h))) else (some (.inl none, h6))) (fun e h => some (.inr e, h))) (fun e h => some (.inr e, h))) (fun e h => some (.inr e, h)) := fun d => by
      rw [E_FairReader_staff, if_pos (show (f, g, X).1 11 0 5 < 6 by
        show f 11 0 5 < 6
        rw [D.f5]; exact hlt), K_FairReader_staff_20, b1, clV]
    have cU : ∀ d, 8 ≤ d → EL (mP L xs) (d + 1) 127 [rv 22 (some 0)] (u, Y) = mclI (EL (mP L xs) d 105 [rv 22 (some 0), iv 1, iv (nI sl)] (u1, Y)) (fun x8 h7 => if x8 = 0 then (some (.inl none, h7)) else (mclI (EL (mP L xs) d 103 [rv 22 (some 0), iv 1, iv 9] h7) (fun x10 h9 => if ino (h7.1 22 0 21) 6 then none else (if (m3 (m3 h9.1 58 0 (h7.1 22 0 21).toNatClampNeg x10) 22 0 21 (((m3 h9.1 58 0 (h7.1 22 0 21).toNatClampNeg x10) 22 0 21) + 1)) 22 0 12 = 0 then (mclI (EL (mP L xs) d 112 [rv 22 (some 0), iv 59] (m3 (m3 h9.1 58 0 (h7.1 22 0 21).toNatClampNeg x10) 22 0 21 (((m3 h9.1 58 0 (h7.1 22 0 21).toNatClampNeg x10) 22 0 21) + 1), h9.2)) (fun x12 h11 => some (.inl none, h11)) (fun e h => some (.inr e, h))) else (some (.inl none, (m3 (m3 h9.1 58 0 (h7.1 22 0 21).toNatClampNeg x10) 22 0 21 (((m3 h9.1 58 0 (h7.1 22 0 21).toNatClampNeg x10) 22 0 21) + 1), h9.2))))) (fun e h => some (.inr e, h)))) (fun e h => some (.inr e, h)) := fun d hd => by
      have h1 : EL (mP L xs) d 101 [rv 22 (some 0)] (u, Y) = some (.inl none, (u1, Y)) := EL_mono (by omega) b2
      rw [r_decl P (i := 1) (by decide) hs ⟨fun h => absurd h (by decide), fun _ => n21, fun h => absurd h (by decide)⟩, K_Ref_declaration_103, h1, clV, if_neg (by decide), if_pos (by decide)]
      simp only [e21]
    have M1 : NC (m3 f 20 0 6 (nI (t + 1))) k sg cn nt ns nn := D.gx.nc.fr (fun R o x h => m3_no (by omega))
    have Z1 : NU u1 N k b sg cn nt ns nn := D.gx.nz.fr (fun R o x h => b3 R o x (by omega))
    rcases px_new (L := L) (xs := xs) (Y := Y) b4 M1 Z1 (show cn < 26 by omega) (s := 0) (n := sl) (by decide) (by omega) with ⟨u2, a1, a2, a3, a4, a5, a6⟩ | ⟨f2, u2, a1, a2, a3, a4⟩
    · have hk1 := b4.tk
      have e21' : u2 22 0 21 = nI sl := (a6 22 0 21 (by omega)).trans e21
      have hin := nin hsl' (show 6 < 2 ^ 31 by decide)
      have hcl := nI_clamp (show sl < 2 ^ 31 by omega)
      have cU2 : ∀ d, 9 ≤ d → EL (mP L xs) (d + 1) 127 [rv 22 (some 0)] (u, Y) = mclI (EL (mP L xs) d 103 [rv 22 (some 0), iv 1, iv 9] (u2, Y)) (fun x10 h9 => if (m3 (m3 h9.1 58 0 sl x10) 22 0 21 (((m3 h9.1 58 0 sl x10) 22 0 21) + 1)) 22 0 12 = 0 then (mclI (EL (mP L xs) d 112 [rv 22 (some 0), iv 59] (m3 (m3 h9.1 58 0 sl x10) 22 0 21 (((m3 h9.1 58 0 sl x10) 22 0 21) + 1), h9.2)) (fun x12 h11 => some (.inl none, h11)) (fun e h => some (.inr e, h))) else (some (.inl none, (m3 (m3 h9.1 58 0 sl x10) 22 0 21 (((m3 h9.1 58 0 sl x10) 22 0 21) + 1), h9.2)))) (fun e h => some (.inr e, h)) := fun d hd => by
        have h1 : EL (mP L xs) d 105 [rv 22 (some 0), iv 1, iv (nI sl)] (u1, Y) = some (.inl (some (iv 1)), (u2, Y)) := EL_mono (by omega) a2
        rw [cU d (by omega), h1, clI, if_neg (by decide)]
        simp only [e21', if_neg hin, hcl]
      have cC2 : ∀ d, EL (mP L xs) (d + 6) 55 [rv 12 (some 0)] (f, g, X) = mclI (EL (mP L xs) (d + 5) 45 [rv 12 (some 0), iv 9] (m3 (m3 f 20 0 6 (nI (t + 1))) 20 0 6 (nI (t + 1 + 1)), g, X)) (fun x5 h4 => mclV (EL (mP L xs) (d + 5) 46 [rv 20 (some 0), iv 59] h4) (fun h6 => if h6.1 20 0 7 = 0 then (mclV (EL (mP L xs) (d + 5) 53 [rv 14 (some 0), iv (nI (t + 1)), iv 0, iv (h6.1 11 0 5)] h6) (fun h7 => mclV (EL (mP L xs) (d + 5) 54 [rv 11 (some 0), iv x5] h7) (fun h8 => some (.inl none, h8)) (fun e h => some (.inr e, h))) (fun e h => some (.inr e, h))) else (some (.inl none, h6))) (fun e h => some (.inr e, h))) (fun e h => some (.inr e, h)) := fun d => by
        rw [cC, a1, clI]
      rcases px_nin (L := L) (xs := xs) (Y := Y) a4 (m := 9) (by decide) with ⟨u3, v, v1, v2, c1, c2, c3, c4⟩ | ⟨f3, u3, v, c1, c2, c3, c4⟩
      · have c1' : ∀ d, EL (mP L xs) (d + 3) 45 [rv 12 (some 0), iv 9] (m3 (m3 f 20 0 6 (nI (t + 1))) 20 0 6 (nI (t + 1 + 1)), g, X) = some (.inl (some (iv (nI v))), (m3 (m3 (m3 f 20 0 6 (nI (t + 1))) 20 0 6 (nI (t + 1 + 1))) 20 0 6 (nI (t + 1 + 1 + 1)), g, X)) := fun d => c1 d g X
        generalize hf3 : m3 (m3 (m3 f 20 0 6 (nI (t + 1))) 20 0 6 (nI (t + 1 + 1))) 20 0 6 (nI (t + 1 + 1 + 1)) = f3 at c1' c3
        have n3 : ∀ R o x, ¬ R = 20 → f3 R o x = f R o x := fun R o x h => by rw [← hf3, m3_no (by omega), m3_no (by omega), m3_no (by omega)]
        have e4 : (m3 u3 58 0 sl (nI v)) 22 0 21 + 1 = nI (sl + 1) := by
          rw [m3_r (by decide), c4 22 0 21 (by omega), e21', nI_1]
        generalize hu4 : m3 (m3 u3 58 0 sl (nI v)) 22 0 21 (nI (sl + 1)) = u4
        have n4 : ∀ R o x, ¬ (R = 58 ∧ x = sl) → ¬ (R = 22 ∧ x = 21) → u4 R o x = u3 R o x := fun R o x h h' => by rw [← hu4, m3_no (by omega), m3_no (by omega)]
        have P4 : PX f3 u4 N k b sg (t + 1 + 1 + 1) := c3.fr (fun _ _ _ _ => rfl) (fun R o x h => n4 R o x (by omega) (by omega))
        obtain ⟨f5, u5, w, d1, d2, d3⟩ := px_need59 (L := L) (xs := xs) (Y := Y) P4
        have cU3 : ∀ d, 9 ≤ d → EL (mP L xs) (d + 1) 127 [rv 22 (some 0)] (u, Y) = some (.inl none, (u5, Y)) := fun d hd => by
          have h1 : EL (mP L xs) d 103 [rv 22 (some 0), iv 1, iv 9] (u2, Y) = some (.inl (some (iv (nI v))), (u3, Y)) := EL_mono (by omega) c2
          rw [cU2 d hd, h1, clI]
          simp only [e4, hu4, P4.fu, if_true]
          rw [d2 d (by omega), clI]
        have cC3 : ∀ d, EL (mP L xs) (d + 6) 55 [rv 12 (some 0)] (f, g, X) = if f5 20 0 7 = 0 then (mclV (EL (mP L xs) (d + 5) 53 [rv 14 (some 0), iv (nI (t + 1)), iv 0, iv (f5 11 0 5)] (f5, g, X)) (fun h7 => mclV (EL (mP L xs) (d + 5) 54 [rv 11 (some 0), iv (nI v)] h7) (fun h8 => some (.inl none, h8)) (fun e h => some (.inr e, h))) (fun e h => some (.inr e, h))) else (some (.inl none, (f5, g, X))) := fun d => by
          rw [cC2, c1', clI, d1, clV]
        rcases d3 with ⟨d4, d5, d6⟩ | ⟨d4, -⟩
        · have n5 : ∀ R o x, ¬ R = 20 → f5 R o x = f R o x := fun R o x h => by rw [d4, m3_r h, n3 R o x h]
          have M5 : NC f5 k sg cn nt ns nn := D.gx.nc.fr (fun R o x h => n5 R o x (by omega))
          have M6 := NC_tell M5 (show cn < 26 by omega) (show t + 1 < k by omega) a3 (s1 := 0) (n1 := sl) (by decide) (by omega)
          have e5 : f5 11 0 5 = nI sl := (n5 11 0 5 (by decide)).trans D.f5
          have ct := fun d => c_tell (L := L) (xs := xs) (d := d) (g := g) (X := X) (v1 := nI (t + 1)) (v2 := nI 0) (v3 := nI sl) M5.cc (show cn < 26 by omega)
          have ct' : ∀ d, EL (mP L xs) (d + 1) 53 [rv 14 (some 0), iv (nI (t + 1)), iv 0, iv (nI sl)] (f5, g, X) = some (.inl none, (m3 (m3 (m3 (m3 f5 37 0 cn (nI (t + 1))) 38 0 cn (nI 0)) 39 0 cn (nI sl)) 14 0 4 (nI (cn + 1)), g, X)) := ct
          generalize hf6 : m3 (m3 (m3 (m3 f5 37 0 cn (nI (t + 1))) 38 0 cn (nI 0)) 39 0 cn (nI sl)) 14 0 4 (nI (cn + 1)) = f6 at M6 ct'
          have n6 : ∀ R o x, ¬ (R = 37 ∨ R = 38 ∨ R = 39 ∨ R = 14) → f6 R o x = f5 R o x := fun R o x h => by rw [← hf6]; exact tell_no (by omega) (by omega)
          have e6 : f6 11 0 5 = nI sl := (n6 11 0 5 (by omega)).trans e5
          have e6' : (m3 f6 29 0 sl (nI v)) 11 0 5 + 1 = nI (sl + 1) := by rw [m3_r (by decide), e6, nI_1]
          have cadd : ∀ d, EL (mP L xs) (d + 1) 54 [rv 11 (some 0), iv (nI v)] (f6, g, X) = some (.inl none, (m3 (m3 f6 29 0 sl (nI v)) 11 0 5 (nI (sl + 1)), g, X)) := fun d => by
            rw [E_Fair_addStaff]
            simp only [e6, if_pos hlt, if_neg hin, hcl, e6']
          generalize hf7 : m3 (m3 f6 29 0 sl (nI v)) 11 0 5 (nI (sl + 1)) = f7 at cadd
          have n7 : ∀ R o x, ¬ (R = 29 ∧ x = sl) → ¬ (R = 11 ∧ x = 5) → f7 R o x = f6 R o x := fun R o x h h' => by rw [← hf7, m3_no (by omega), m3_no (by omega)]
          have hF : ∀ R o x, ¬ (R = 20 ∨ R = 37 ∨ R = 38 ∨ R = 39 ∨ R = 14 ∨ (R = 29 ∧ x = sl) ∨ (R = 11 ∧ x = 5)) → f7 R o x = f R o x := fun R o x h => (n7 R o x (by omega) (by omega)).trans ((n6 R o x (by omega)).trans (n5 R o x (by omega)))
          have hU : ∀ R o x, ¬ ((45 ≤ R ∧ R ≤ 48) ∨ (R = 58 ∧ x = sl) ∨ (R = 22 ∧ ((6 ≤ x ∧ x ≤ 11) ∨ x = 18 ∨ x = 21))) → u5 R o x = u R o x := fun R o x h => (d5 R o x (by omega)).trans ((n4 R o x (by omega) (by omega)).trans ((c4 R o x (by omega)).trans ((a6 R o x (by omega)).trans (b3 R o x (by omega)))))
          have P7 : PX f7 u5 N k b sg (t + 1 + 1 + 1 + 1) := d6.fr (fun R o x h => (n7 R o x (by omega) (by omega)).trans (n6 R o x (by omega))) (fun _ _ _ _ => rfl)
          refine ⟨f7, g, u5, X, fun d hd => ?_, fun d hd => ?_, Or.inl ⟨cn + 1, ext nt cn (t + 1), ext ns cn 0, ext nn cn sl, n, sl + 1, fl, t + 1 + 1 + 1 + 1, c, q, s, kk, A, by omega, XR.rf D.xa, by omega, D.up P7 (by omega) (M6.fr (fun R o x h => n7 R o x (by omega) (by omega))) (a5.fr (fun R o x h => (d5 R o x (by omega)).trans ((n4 R o x (by omega) (by omega)).trans (c4 R o x (by omega))))) (by omega) hfl8 (by omega) (Nat.le_refl _) ?_ ?_ ((hF 11 0 6 (by omega)).trans D.f6) ((hU 22 0 22 (by omega)).trans D.u22) (by omega) (fun i hi h => ?_) (fun i hi h => ?_) (fun i hi h => ?_) ?_ ?_ (fun j hj => ?_) (fun R o x h => hF R o x (by omega)) (fun R o x h => hU R o x (by omega))⟩⟩
          · obtain ⟨d, rfl⟩ : ∃ d', d = d' + 6 := ⟨d - 6, by omega⟩
            rw [cC3, if_pos d6.fc, e5, ct', clV, cadd, clV]
          · obtain ⟨d, rfl⟩ : ∃ d', d = d' + 1 := ⟨d - 1, by omega⟩
            exact cU3 d (by omega)
          · rw [← hf7, m3_eq]
          · rw [d5 22 0 21 (by omega), ← hu4, m3_eq]
          · by_cases y : i = cn
            · rw [y, ext_eq]; omega
            · rw [ext_ne y] at h ⊢
              have := D.hs i (by omega) h
              omega
          · by_cases y : i = cn
            · rw [y, ext_eq] at h; cases h
            · rw [ext_ne y] at h ⊢
              exact D.hf i (by omega) h
          · by_cases y : i = cn
            · rw [y, ext_eq] at h; cases h
            · rw [ext_ne y] at h ⊢
              exact D.hr i (by omega) h
          · rw [hF 11 0 8 (by omega), hU 22 0 23 (by omega)]; exact D.pw
          · rw [hF 12 0 5 (by omega), hU 22 0 24 (by omega)]; exact D.pt
          · by_cases y : j = sl
            · subst y
              have e1 : f7 29 0 j = nI v := by rw [← hf7, m3_r (by decide), m3_eq]
              have e2 : u5 58 0 j = nI v := by rw [d5 58 0 j (by omega), ← hu4, m3_r (by decide), m3_eq]
              rw [e1, e2]
              exact ⟨rfl, v, v2, rfl⟩
            · rw [hF 29 0 j (by omega), hU 58 0 j (by omega)]
              exact D.sa j (by omega)
        · obtain ⟨p, w', E, y1, y2⟩ := d4
          refine ⟨f5, g, u5, X, fun d hd => ?_, fun d hd => ?_, dbx ⟨p, w', E, y1, y2⟩⟩
          · obtain ⟨d, rfl⟩ : ∃ d', d = d' + 6 := ⟨d - 6, by omega⟩
            rw [cC3, if_neg (by rw [E.fa]; exact E.qn)]
          · obtain ⟨d, rfl⟩ : ∃ d', d = d' + 1 := ⟨d - 1, by omega⟩
            exact cU3 d (by omega)
      · obtain ⟨p, w', E, y1, y2⟩ := c3
        have c1' : ∀ d, EL (mP L xs) (d + 3) 45 [rv 12 (some 0), iv 9] (m3 (m3 f 20 0 6 (nI (t + 1))) 20 0 6 (nI (t + 1 + 1)), g, X) = some (.inl (some (iv v)), (f3, g, X)) := fun d => c1 d g X
        have e12 : ∀ z, ¬ (m3 (m3 u3 58 0 sl v) 22 0 21 z) 22 0 12 = 0 := fun z => by
          rw [m3_i (by decide), m3_r (by decide), y1]
          exact E.qn
        refine ⟨f3, g, m3 (m3 u3 58 0 sl v) 22 0 21 ((m3 u3 58 0 sl v) 22 0 21 + 1), X, fun d hd => ?_, fun d hd => ?_, dbx ⟨p, w', E, (m3_i (by decide)).trans ((m3_r (by decide)).trans y1), (m3_i (by decide)).trans ((m3_r (by decide)).trans y2)⟩⟩
        · obtain ⟨d, rfl⟩ : ∃ d', d = d' + 6 := ⟨d - 6, by omega⟩
          rw [cC2, c1', clI, ed_exp E (by decide), clV, if_neg (show ¬ (f3, g, X).1 20 0 7 = 0 by
            show ¬ f3 20 0 7 = 0
            rw [E.fa]; exact E.qn)]
        · obtain ⟨d, rfl⟩ : ∃ d', d = d' + 1 := ⟨d - 1, by omega⟩
          have h1 : EL (mP L xs) d 103 [rv 22 (some 0), iv 1, iv 9] (u2, Y) = some (.inl (some (iv v)), (u3, Y)) := EL_mono (by omega) c2
          rw [cU2 d (by omega), h1, clI]
          simp only [if_neg (e12 _)]
    · obtain ⟨p, w', E, y1, y2⟩ := a3
      refine ⟨f2, g, u2, X, fun d hd => ?_, fun d hd => ?_, dbx ⟨p, w', E, y1, y2⟩⟩
      · obtain ⟨d, rfl⟩ : ∃ d', d = d' + 6 := ⟨d - 6, by omega⟩
        rw [cC, a1, clI, ed_num E, clI, ed_exp E (by decide), clV, if_neg (show ¬ (f2, g, X).1 20 0 7 = 0 by
          show ¬ f2 20 0 7 = 0
          rw [E.fa]; exact E.qn)]
      · obtain ⟨d, rfl⟩ : ∃ d', d = d' + 1 := ⟨d - 1, by omega⟩
        have h1 : EL (mP L xs) d 105 [rv 22 (some 0), iv 1, iv (nI sl)] (u1, Y) = some (.inl (some (iv 0)), (u2, Y)) := EL_mono (by omega) a2
        rw [cU d (by omega), h1, clI, if_pos rfl]
theorem dc_flag (D : DX N k b sg cn nt ns nn n sl fl A0 f g u X t c q s kk A) (hs : sg t = 335) : ∃ f2 g2 u2 X2, (∀ d, 120 ≤ d → EL (mP L xs) d 56 [rv 12 (some 0)] (f, g, X) = some (.inl none, (f2, g2, X2))) ∧ (∀ d, 122 ≤ d → EL (mP L xs) d 127 [rv 22 (some 0)] (u, Y) = some (.inl none, (u2, Y))) ∧ DO N k b sg A0 X t A f2 g2 u2 X2 := by
  have P := D.gx.px
  have htk := P.tk
  have hkp := P.lc.kp
  have hcs := D.cs
  have hsl6 := D.sl6
  have hfl8 := D.fl8
  have hn12 := D.n12
  have dbx : ∀ {f2 u2 : MI}, BAD f2 u2 → DO N k b sg A0 X t A f2 g u2 X := fun h => Or.inr ⟨h, A, XR.rf D.xa, by omega⟩
  by_cases h6 : fl = 8
  · obtain ⟨f2, u2, a1, a2, a3, a4, a5⟩ := px_bad (L := L) (xs := xs) (Y := Y) P (q := 4) (by decide)
    obtain ⟨p, w, E, y1, y2⟩ := a3
    refine ⟨f2, g, u2, X, fun d hd => ?_, fun d hd => ?_, dbx ⟨p, w, E, y1, y2⟩⟩
    · obtain ⟨d, rfl⟩ : ∃ d', d = d' + 5 := ⟨d - 5, by omega⟩
      rw [E_FairReader_flag, if_neg (show ¬ (f, g, X).1 11 0 6 < 8 by
        show ¬ f 11 0 6 < 8
        rw [D.f6, h6]; decide), a1, clV, K_FairReader_flag_20, ed_adv E, clV, E_Names_readNew, ed_isWord E, clI, if_pos rfl, ed_ref E, clV, clI, ed_exp E (by decide), clV, if_neg (show ¬ (f2, g, X).1 20 0 7 = 0 by
        show ¬ f2 20 0 7 = 0
        rw [E.fa]; exact E.qn)]
    · obtain ⟨d, rfl⟩ : ∃ d', d = d' + 2 := ⟨d - 2, by omega⟩
      rw [r_much P (i := 2) (by decide) hs (Or.inr (Or.inr ⟨rfl, by rw [D.u22, h6]; rfl⟩)), a2, clV]
  · have hfl' : fl < 8 := by omega
    have hlt : nI fl < 8 := nI_lt (b := 8) hfl' (by decide)
    have n22 : ¬ u 22 0 22 = 8 := by
      rw [D.u22]
      exact fun e => h6 ((nI_eq (a := fl) (b := 8) (by omega) (by decide)).mp e)
    obtain ⟨b1, u1, b2, b3, b4⟩ := px_adv (L := L) (xs := xs) (Y := Y) P (by rw [hs]; decide) (by rw [hs]; decide)
    have e22 : u1 22 0 22 = nI fl := (b3 22 0 22 (by omega)).trans D.u22
    have cC : ∀ d, EL (mP L xs) (d + 2) 56 [rv 12 (some 0)] (f, g, X) = mclI (EL (mP L xs) (d + 1) 52 [rv 14 (some 0)] (m3 f 20 0 6 (nI (t + 1)), g, X)) (fun x3 h2 => mclV (EL (mP L xs) (d + 1) 46 [rv 20 (some 0), iv 59] h2) (fun h4 => if h4.1 20 0 7 = 0 then (mclV (EL (mP L xs) (d + 1) 53 [rv 14 (some 0), iv x3, iv 1, iv (h4.1 11 0 6)] h4) (fun h5 => some (.inl none, (m3 h5.1 11 0 6 ((h5.1 11 0 6) + 1), h5.2))) (fun e h => some (.inr e, h))) else (some (.inl none, h4))) (fun e h => some (.inr e, h))) (fun e h => some (.inr e, h)) := fun d => by
      rw [E_FairReader_flag, if_pos (show (f, g, X).1 11 0 6 < 8 by
        show f 11 0 6 < 8
        rw [D.f6]; exact hlt), K_FairReader_flag_20, b1, clV]
    have cU : ∀ d, 8 ≤ d → EL (mP L xs) (d + 1) 127 [rv 22 (some 0)] (u, Y) = mclI (EL (mP L xs) d 105 [rv 22 (some 0), iv 2, iv (nI fl)] (u1, Y)) (fun x4 h3 => if x4 = 0 then (some (.inl none, h3)) else (if (m3 h3.1 22 0 22 ((h3.1 22 0 22) + 1)) 22 0 12 = 0 then (mclI (EL (mP L xs) d 112 [rv 22 (some 0), iv 59] (m3 h3.1 22 0 22 ((h3.1 22 0 22) + 1), h3.2)) (fun x6 h5 => some (.inl none, h5)) (fun e h => some (.inr e, h))) else (some (.inl none, (m3 h3.1 22 0 22 ((h3.1 22 0 22) + 1), h3.2))))) (fun e h => some (.inr e, h)) := fun d hd => by
      have h1 : EL (mP L xs) d 101 [rv 22 (some 0)] (u, Y) = some (.inl none, (u1, Y)) := EL_mono (by omega) b2
      rw [r_decl P (i := 2) (by decide) hs ⟨fun h => absurd h (by decide), fun h => absurd h (by decide), fun _ => n22⟩, K_Ref_declaration_103, h1, clV, if_neg (by decide), if_neg (by decide), if_pos (by decide)]
      simp only [e22]
    have M1 : NC (m3 f 20 0 6 (nI (t + 1))) k sg cn nt ns nn := D.gx.nc.fr (fun R o x h => m3_no (by omega))
    have Z1 : NU u1 N k b sg cn nt ns nn := D.gx.nz.fr (fun R o x h => b3 R o x (by omega))
    rcases px_new (L := L) (xs := xs) (Y := Y) b4 M1 Z1 (show cn < 26 by omega) (s := 1) (n := fl) (by decide) (by omega) with ⟨u2, a1, a2, a3, a4, a5, a6⟩ | ⟨f2, u2, a1, a2, a3, a4⟩
    · have hk1 := b4.tk
      have e22' : u2 22 0 22 + 1 = nI (fl + 1) := by rw [a6 22 0 22 (by omega), e22, nI_1]
      generalize hu4 : m3 u2 22 0 22 (nI (fl + 1)) = u4
      have n4 : ∀ R o x, ¬ (R = 22 ∧ x = 22) → u4 R o x = u2 R o x := fun R o x h => by rw [← hu4, m3_no (by omega)]
      have P4 : PX (m3 (m3 f 20 0 6 (nI (t + 1))) 20 0 6 (nI (t + 1 + 1))) u4 N k b sg (t + 1 + 1) := a4.fr (fun _ _ _ _ => rfl) (fun R o x h => n4 R o x (by omega))
      obtain ⟨f5, u5, w, d1, d2, d3⟩ := px_need59 (L := L) (xs := xs) (Y := Y) P4
      have cU3 : ∀ d, 9 ≤ d → EL (mP L xs) (d + 1) 127 [rv 22 (some 0)] (u, Y) = some (.inl none, (u5, Y)) := fun d hd => by
        have h1 : EL (mP L xs) d 105 [rv 22 (some 0), iv 2, iv (nI fl)] (u1, Y) = some (.inl (some (iv 1)), (u2, Y)) := EL_mono (by omega) a2
        rw [cU d (by omega), h1, clI, if_neg (by decide)]
        simp only [e22', hu4, P4.fu, if_true]
        rw [d2 d (by omega), clI]
      have cC3 : ∀ d, EL (mP L xs) (d + 6) 56 [rv 12 (some 0)] (f, g, X) = if f5 20 0 7 = 0 then (mclV (EL (mP L xs) (d + 5) 53 [rv 14 (some 0), iv (nI (t + 1)), iv 1, iv (f5 11 0 6)] (f5, g, X)) (fun h5 => some (.inl none, (m3 h5.1 11 0 6 ((h5.1 11 0 6) + 1), h5.2))) (fun e h => some (.inr e, h))) else (some (.inl none, (f5, g, X))) := fun d => by
        rw [cC, a1, clI, d1, clV]
      rcases d3 with ⟨d4, d5, d6⟩ | ⟨d4, -⟩
      · have n5 : ∀ R o x, ¬ R = 20 → f5 R o x = f R o x := fun R o x h => by rw [d4, m3_r h, m3_r h, m3_r h]
        have M5 : NC f5 k sg cn nt ns nn := D.gx.nc.fr (fun R o x h => n5 R o x (by omega))
        have M6 := NC_tell M5 (show cn < 26 by omega) (show t + 1 < k by omega) a3 (s1 := 1) (n1 := fl) (by decide) (by omega)
        have e5 : f5 11 0 6 = nI fl := (n5 11 0 6 (by decide)).trans D.f6
        have ct := fun d => c_tell (L := L) (xs := xs) (d := d) (g := g) (X := X) (v1 := nI (t + 1)) (v2 := nI 1) (v3 := nI fl) M5.cc (show cn < 26 by omega)
        have ct' : ∀ d, EL (mP L xs) (d + 1) 53 [rv 14 (some 0), iv (nI (t + 1)), iv 1, iv (nI fl)] (f5, g, X) = some (.inl none, (m3 (m3 (m3 (m3 f5 37 0 cn (nI (t + 1))) 38 0 cn (nI 1)) 39 0 cn (nI fl)) 14 0 4 (nI (cn + 1)), g, X)) := ct
        generalize hf6 : m3 (m3 (m3 (m3 f5 37 0 cn (nI (t + 1))) 38 0 cn (nI 1)) 39 0 cn (nI fl)) 14 0 4 (nI (cn + 1)) = f6 at M6 ct'
        have n6 : ∀ R o x, ¬ (R = 37 ∨ R = 38 ∨ R = 39 ∨ R = 14) → f6 R o x = f5 R o x := fun R o x h => by rw [← hf6]; exact tell_no (by omega) (by omega)
        have e6' : f6 11 0 6 + 1 = nI (fl + 1) := by rw [n6 11 0 6 (by omega), e5, nI_1]
        have n7 : ∀ R o x, ¬ (R = 11 ∧ x = 6) → m3 f6 11 0 6 (nI (fl + 1)) R o x = f6 R o x := fun R o x h => m3_no (by omega)
        have hF : ∀ R o x, ¬ (R = 20 ∨ R = 37 ∨ R = 38 ∨ R = 39 ∨ R = 14 ∨ (R = 11 ∧ x = 6)) → m3 f6 11 0 6 (nI (fl + 1)) R o x = f R o x := fun R o x h => (n7 R o x (by omega)).trans ((n6 R o x (by omega)).trans (n5 R o x (by omega)))
        have hU : ∀ R o x, ¬ ((45 ≤ R ∧ R ≤ 48) ∨ (R = 22 ∧ ((6 ≤ x ∧ x ≤ 11) ∨ x = 18 ∨ x = 22))) → u5 R o x = u R o x := fun R o x h => (d5 R o x (by omega)).trans ((n4 R o x (by omega)).trans ((a6 R o x (by omega)).trans (b3 R o x (by omega))))
        have P7 : PX (m3 f6 11 0 6 (nI (fl + 1))) u5 N k b sg (t + 1 + 1 + 1) := d6.fr (fun R o x h => (n7 R o x (by omega)).trans (n6 R o x (by omega))) (fun _ _ _ _ => rfl)
        refine ⟨m3 f6 11 0 6 (nI (fl + 1)), g, u5, X, fun d hd => ?_, fun d hd => ?_, Or.inl ⟨cn + 1, ext nt cn (t + 1), ext ns cn 1, ext nn cn fl, n, sl, fl + 1, t + 1 + 1 + 1, c, q, s, kk, A, by omega, XR.rf D.xa, by omega, D.up P7 (by omega) (M6.fr (fun R o x h => n7 R o x (by omega))) (a5.fr (fun R o x h => (d5 R o x (by omega)).trans (n4 R o x (by omega)))) hsl6 (by omega) (Nat.le_refl _) (by omega) ((hF 11 0 5 (by omega)).trans D.f5) ((hU 22 0 21 (by omega)).trans D.u21) m3_eq ?_ (by omega) (fun i hi h => ?_) (fun i hi h => ?_) (fun i hi h => ?_) ?_ ?_ (fun j hj => ?_) (fun R o x h => hF R o x (by omega)) (fun R o x h => hU R o x (by omega))⟩⟩
        · obtain ⟨d, rfl⟩ : ∃ d', d = d' + 6 := ⟨d - 6, by omega⟩
          rw [cC3, if_pos d6.fc, e5, ct', clV, e6']
        · obtain ⟨d, rfl⟩ : ∃ d', d = d' + 1 := ⟨d - 1, by omega⟩
          exact cU3 d (by omega)
        · rw [d5 22 0 22 (by omega), ← hu4, m3_eq]
        · by_cases y : i = cn
          · rw [y, ext_eq] at h; cases h
          · rw [ext_ne y] at h ⊢
            exact D.hs i (by omega) h
        · by_cases y : i = cn
          · rw [y, ext_eq]; omega
          · rw [ext_ne y] at h ⊢
            have := D.hf i (by omega) h
            omega
        · by_cases y : i = cn
          · rw [y, ext_eq] at h; cases h
          · rw [ext_ne y] at h ⊢
            exact D.hr i (by omega) h
        · rw [hF 11 0 8 (by omega), hU 22 0 23 (by omega)]; exact D.pw
        · rw [hF 12 0 5 (by omega), hU 22 0 24 (by omega)]; exact D.pt
        · rw [hF 29 0 j (by omega), hU 58 0 j (by omega)]
          exact D.sa j hj
      · obtain ⟨p, w', E, y1, y2⟩ := d4
        refine ⟨f5, g, u5, X, fun d hd => ?_, fun d hd => ?_, dbx ⟨p, w', E, y1, y2⟩⟩
        · obtain ⟨d, rfl⟩ : ∃ d', d = d' + 6 := ⟨d - 6, by omega⟩
          rw [cC3, if_neg (by rw [E.fa]; exact E.qn)]
        · obtain ⟨d, rfl⟩ : ∃ d', d = d' + 1 := ⟨d - 1, by omega⟩
          exact cU3 d (by omega)
    · obtain ⟨p, w', E, y1, y2⟩ := a3
      refine ⟨f2, g, u2, X, fun d hd => ?_, fun d hd => ?_, dbx ⟨p, w', E, y1, y2⟩⟩
      · obtain ⟨d, rfl⟩ : ∃ d', d = d' + 6 := ⟨d - 6, by omega⟩
        rw [cC, a1, clI, ed_exp E (by decide), clV, if_neg (show ¬ (f2, g, X).1 20 0 7 = 0 by
          show ¬ f2 20 0 7 = 0
          rw [E.fa]; exact E.qn)]
      · obtain ⟨d, rfl⟩ : ∃ d', d = d' + 1 := ⟨d - 1, by omega⟩
        have h1 : EL (mP L xs) d 105 [rv 22 (some 0), iv 2, iv (nI fl)] (u1, Y) = some (.inl (some (iv 0)), (u2, Y)) := EL_mono (by omega) a2
        rw [cU d (by omega), h1, clI, if_pos rfl]
end Psf
