/-! ===== read: a register is set ===== -/
section Lf3
variable {L : Nat} {xs : Nat → Int32} {Y : MR × ML × (Nat → Nat) × Nat × Nat} {N k t c q s kk st A cn sl fl r kd m : Nat} {b : Nat → Nat} {sg : Nat → Int32} {f f2 u u2 : MI} {g g2 : MR} {X X2 : ML × (Nat → Nat) × Nat × Nat} {nt ns nn : Nat → Nat} {o gd l : Option Nat} {gv lv : Int32}
theorem SX.m19 {a i : Nat} {v : Int32} (H : SX N k b sg cn nt ns nn sl fl r kd f u t c q s kk st) : SX N k b sg cn nt ns nn sl fl r kd (m3 f 19 a i v) u t c q s kk st :=
  SX.mv (A := a) H (H.gx.px.fr (fun R o i z => m3_no (by omega)) (fun _ _ _ _ => rfl)) ((m3_r (by decide)).trans H.gx.cc) H.gx.cl H.gx.qu H.gx.ql H.su H.sl H.ku H.kl ((m3_r (by decide)).trans H.sc) H.sr H.sb (fun R o i z => m3_no (by omega)) (fun _ _ _ _ => rfl)
theorem s41 : ∀ j, j < 4 → nI (41 + j) - 41 = nI j ∧ ¬ nI (41 + j) < 41 := by decide +kernel
theorem st_set {j : Nat} {u1 : MI} (H : SX N k b sg cn nt ns nn sl fl r kd f u t c q s kk st) (hA : X.2.1 19 = A) (hm : m ≤ 9) (hl : u 22 0 54 = lv) (j4 : j < 4) (H1 : SX N k b sg cn nt ns nn sl fl r kd (W1 f A 400 (nI (tS b N t)) t st) u1 (t + 1) c q s kk (st + 1)) (hu1 : ∀ R o i, ¬ (R = 22 ∧ ((6 ≤ i ∧ i ≤ 11) ∨ i = 53)) → u1 R o i = u R o i)
    (hC : ∀ d, 8 ≤ d → EL (mP L xs) (d + 1) 80 [rv 12 (some 0), iv (nI (m + 1)), rv 19 o, rv 19 gd, rv 16 (some r)] (f, g, X) = mclV (EL (mP L xs) d 46 [rv 20 (some 0), iv 61] (m3 (W1 f A 400 (nI (tS b N t)) t st) 19 A 5 (nI j), NG g A o gd, NX X A)) (fun h4 => mclV (EL (mP L xs) d 79 [rv 12 (some 0), rv 19 (some A), iv (nI (m + 1)), rv 16 (some r)] h4) (fun h5 => some (.inl (some (rv 19 (some A))), h5)) (fun e h => some (.inr e, h))) (fun e h => some (.inr e, h)))
    (hU : ∀ d, 8 ≤ d → EL (mP L xs) (d + 1) 124 [rv 22 (some 0), iv (nI (m + 1)), iv gv] (u, Y) = RL (mP L xs) d 124 116 [some (rv 22 (some 0)), some (iv (nI (m + 1))), some (iv gv), some (iv (nI (tS b N t))), some (iv (nI (41 + j)))] [] (u1, Y)) : (∃ f2 g2 u2 X2, (∀ d, 80 + 3 * (11 - m) ≤ d → EL (mP L xs) d 80 [rv 12 (some 0), iv (nI (m + 1)), rv 19 o, rv 19 gd, rv 16 (some r)] (f, g, X) = some (.inl (some (rv 19 (some A))), (f2, g2, X2))) ∧ (∀ d, 80 + 3 * (11 - m) ≤ d → EL (mP L xs) d 124 [rv 22 (some 0), iv (nI (m + 1)), iv gv] (u, Y) = some (.inl none, (u2, Y))) ∧ ((∃ t' c' q' s' kk' st' A', PGd N k b sg cn nt ns nn sl fl r kd m o gd l gv lv t c q s kk A f g u X f2 g2 u2 X2 t' c' q' s' kk' st' A') ∨ SB k t c q s kk A none f g u X f2 g2 u2 X2)) := by
  have hcl := H.gx.cl
  have htk := H.gx.px.tk
  have hkp := H.gx.px.lc.kp
  have X1 := XR.new hA
  have hFG : FrG A none g (NG g A o gd) := fun R o i z => NG_o (fun w => z ⟨w.1, Or.inl (by omega)⟩)
  have H0 : SX N k b sg cn nt ns nn sl fl r kd (m3 (W1 f A 400 (nI (tS b N t)) t st) 19 A 5 (nI j)) u1 (t + 1) c q s kk (st + 1) := H1.m19
  have hF0 : FrK c A f (m3 (W1 f A 400 (nI (tS b N t)) t st) 19 A 5 (nI j)) := fun R o i z => (m3_no (by omega)).trans (W1_fr (c := c) R o i z)
  have l1 : u1 22 0 54 = lv := (hu1 22 0 54 (by omega)).trans hl
  obtain ⟨k1, k2⟩ := s41 j j4
  obtain ⟨f1, u2, w, a1, a2, a3⟩ := lf_need (L := L) (xs := xs) (Y := Y) H0 (x := 61) (by decide) (by decide)
  have a1' : ∀ d g X, EL (mP L xs) (d + 2) 46 [rv 20 (some 0), iv 61] (m3 (W1 f A 400 (nI (tS b N t)) t st) 19 A 5 (nI j), g, X) = some (.inl none, (f1, g, X)) := a1
  have a2' : ∀ d, 8 ≤ d → EL (mP L xs) d 112 [rv 22 (some 0), iv 61] (u1, Y) = some (.inl (some (iv w)), (u2, Y)) := a2
  rcases a3 with ⟨rfl, a4, a5, a6⟩ | ⟨rfl, a4, a5⟩
  · have hF1 : FrK c A f f1 := fun R o i z => by rw [a4]; exact (m3_no (by omega)).trans (hF0 R o i z)
    have hU1 : FrU q s kk u u2 := fun R o i z => (a5 R o i (by omega)).trans (hu1 R o i (by omega))
    have e19 : ∀ i, f1 19 A i = m3 (W1 f A 400 (nI (tS b N t)) t st) 19 A 5 (nI j) 19 A i := fun i => by rw [a4]; exact m3_r (by decide)
    have e0 : f1 19 A 0 = 400 := (e19 0).trans ((m3_i (by decide)).trans W1_0)
    have e1 : f1 19 A 1 = nI (tS b N t) := (e19 1).trans ((m3_i (by decide)).trans W1_1)
    have e5 : f1 19 A 5 = nI j := (e19 5).trans m3_eq
    have hdf : dfl (f1 19 A 0) := by rw [e0]; unfold dfl; decide
    have hsl := a6.sl
    obtain ⟨f2, u3, b1, b2, b3⟩ := ex_expr (L := L) (xs := xs) (Y := Y) a6.gx (by omega)
    have FC : FrC c f1 f2 := by
      rcases b3 with ⟨t', c', q', E⟩ | E
      · exact E.fc
      · exact E.fc
    have FA : FrA q s u2 u3 := by
      rcases b3 with ⟨t', c', q', E⟩ | E
      · exact FrA.oq E.fu
      · exact FrA.oq E.fu
    refine lf_res (F1 := f1) (u1 := u1) (v4 := nI (41 + j)) hm (fun d hd => ?_) (fun d hd => ?_) (fun d hd => hU d (by omega)) (fun d hd => ?_) (lf_go (p0 := 50) (p2 := nI q) (p3 := nI j) (fi := 4) (v := nI c) H hA hm a6 (by omega) hF1 hU1 ((a5 22 0 54 (by omega)).trans l1) (by rw [e0]; decide) e1 (Or.inl rfl) (by rw [e0]; exact fit_4) FC FA ?_)
    · obtain ⟨d, rfl⟩ : ∃ d', d = d' + 2 := ⟨d - 2, by omega⟩
      rw [hC (d + 2) (by omega), a1', clV]
    · rw [rt_E hdf, b1 _ _ _ (by omega), clI]
    · rw [K_Ref_step_116, if_neg k2, a2' d (by omega), clI, if_neg (by decide), b2 d (by omega), clI, k1]
    · rcases b3 with ⟨t', c', q', E⟩ | E
      · have ett := E.tt
        have ecl := E.cl
        have eql := E.ql
        refine Or.inl ⟨t', c', q', s, E.px, by omega, E.cc, by omega, by omega, E.qu, by omega, by omega, (E.fu 22 0 51 (by omega)).trans a6.su, Nat.le_refl s, by omega, E.nm, fun F U Γ n sF qF ei e59 e61 e62 fm cm _ _ gp ge gl lvx => ?_⟩
        obtain ⟨c1, lc, lr, g1, g2, g3, g4⟩ := E.fe
        have fx : FMx F U n (nI c) (nI q) := fm _ _ ⟨c, q, c1, lc, lr, rfl, rfl, g1, g2, g3, g4⟩
        have x0 : F 19 A 0 = 400 := (ei 0 (by decide)).trans ((m3_i (by decide)).trans ((E.fc 19 A 0 (by omega)).trans e0))
        have x4 : F 19 A 4 = nI c := (ei 4 (by decide)).trans m3_eq
        have x5 : F 19 A 5 = nI j := (ei 5 (by decide)).trans ((m3_i (by decide)).trans ((E.fc 19 A 5 (by omega)).trans e5))
        unfold KdA
        rw [gp, ge, x4, e61, e62]
        exact ⟨rfl, Or.inr (Or.inr (Or.inr (Or.inr (Or.inr (Or.inr (Or.inr (Or.inl ⟨x0, e59, fx, j, j4, x5, rfl⟩)))))))⟩
      · exact Or.inr ⟨E.bd, E.cc⟩
  · obtain ⟨p, w, E, y1, y2⟩ := a4
    obtain ⟨f2, g2, X2, A2, b1, b2, b3, b4, b5, b6, b7⟩ := ed_rest (L := L) (xs := xs) (g := NG g A o gd) (X := NX X A) (A := A + 1) (a := A) (c := c) E ((a5.1 10 0 3 (by omega)).trans H0.gx.cc) (by omega) X1.c1 (by omega)
    refine ⟨f2, g2, u2, X2, fun d hd => ?_, fun d hd => ?_, Or.inr ⟨⟨p, w, b2, y1, y2⟩, b3, ⟨A2, X1.tr b4, by omega⟩, fun R o i z => (b6 R o i z).trans ((a5.1 R o i (by omega)).trans (hF0 R o i z)), fun R o i z => (b7 R o i (fun w => z ⟨w.1, w.2⟩)).trans (hFG R o i z), fun R o i z => (a5.2 R o i (by omega)).trans (hu1 R o i (by omega))⟩⟩
    · obtain ⟨d, rfl⟩ : ∃ d', d = d' + 3 := ⟨d - 3, by omega⟩
      rw [hC (d + 2) (by omega), a1', clV, b1 (d + 2) (nI (m + 1)) (some r) (by omega), clV]
    · obtain ⟨d, rfl⟩ : ∃ d', d = d' + 1 := ⟨d - 1, by omega⟩
      rw [hU d (by omega), K_Ref_step_116, if_neg k2, a2' d (by omega), clI, if_pos rfl]
end Lf3
