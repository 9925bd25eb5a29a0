/-! ===== read: repeat and loop ===== -/
theorem AGR.sub {N k sl fl r kd A A' ex kk kk' C' Q' S' n sF qF A1 A2 k1 k2 C Q S : Nat} {b : Nat → Nat} {sg : Nat → Int32} {γ γ1 Γ : Gh} {f4 u4 f3 u3 F U : MI} {g4 g3 G : MR} (H : AGR N k b sg sl fl r kd A A' ex kk kk' C' Q' S' γ f4 g4 u4 F G U Γ n sF qF) (hx : ex < A1 ∨ A2 ≤ ex) (hA : A ≤ A1) (hA2 : A2 ≤ A') (hk : kk ≤ k1) (hk2 : k2 ≤ kk') (hγ : ∀ a, A1 ≤ a → a < A2 → γ a = γ1 a) (hf : ∀ a i, A1 ≤ a → a < A2 → f4 19 a i = f3 19 a i) (hg : ∀ a i, A1 ≤ a → a < A2 → g4 19 a i = g3 19 a i) (hu : ∀ R i, 59 ≤ R → R ≤ 64 → k1 ≤ i → i < k2 → u4 R 0 i = u3 R 0 i) (h32 : ∀ i, i < C → f4 32 0 i = f3 32 0 i) (hC : C ≤ C') (h65 : ∀ R i, (R = 65 ∨ R = 66 ∨ R = 67) → i < Q → u4 R 0 i = u3 R 0 i) (hQ : Q ≤ Q') (h68 : ∀ R i, 68 ≤ R → R ≤ 72 → i < S → u4 R 0 i = u3 R 0 i) (hS : S ≤ S') : AGR N k b sg sl fl r kd A1 A2 A2 k1 k2 C Q S γ1 f3 g3 u3 F G U Γ n sF qF :=
  ⟨fun a x1 x2 => (H.gh a (by omega) (by omega)).trans (hγ a x1 x2), fun a x1 x2 i hi => (H.fs a (by omega) (by omega) i hi).trans (hf a i x1 x2), fun a x1 x2 i _ => (H.gs a (by omega) (by omega) i (by omega)).trans (hg a i x1 x2), fun R i y1 y2 y3 y4 => (H.os R i y1 y2 (by omega) (by omega)).trans (hu R i y1 y2 y3 y4), H.kr, fun y z w => H.fm y z (FMp.mv h32 hC h65 hQ w), fun y z w => H.cm y z (CDp.mv h32 hC h65 hQ h68 hS (Nat.le_refl fl) w), H.sl, H.fl⟩
section Rep
variable {L : Nat} {xs : Nat → Int32} {Y : MR × ML × (Nat → Nat) × Nat × Nat} {N k t c q s kk st A cn sl fl r kd m : Nat} {b : Nat → Nat} {sg : Nat → Int32} {f f2 u u2 : MI} {g g2 : MR} {X X2 : ML × (Nat → Nat) × Nat × Nat} {nt ns nn : Nat → Nat} {o gd l : Option Nat} {gv lv : Int32}
theorem Loc_turn {F U : MI} {G : MR} {Γ : Gh} {a kT e eA n sF qF : Nat} (hγ : Γ a = (r, kT, e, m + 2, some A)) (gA : Γ A = (r, kk, eA, m + 1, l)) (hk : kT < 6100) (hm : m ≤ 9) (h0 : F 19 a 0 = 401) (h1 : F 19 a 1 = U 60 0 kT) (h2 : G 19 a 2 = some A) (h3 : G 19 a 3 = gd) (hA3 : G 19 A 3 = gd) (h64 : U 64 0 kT = gv) (hK : (F 19 A 0 = 313 ∧ U 59 0 kT = 52) ∨ (F 19 A 0 = 314 ∧ U 59 0 kT = 53)) (h61 : U 61 0 kT = nI kk) (h63 : U 63 0 kT = nI (m + 1)) (hO : FO F G Γ r m o gd l gv lv) : LocG F G U Γ n sF qF r a := by
  have ep : gP Γ a = kT := by unfold gP; rw [hγ]
  have ed : gD Γ a = m + 2 := by unfold gD; rw [hγ]
  have el : gL Γ a = some A := by unfold gL; rw [hγ]
  have ar : gR Γ A = r := by unfold gR; rw [gA]
  have ap : gP Γ A = kk := by unfold gP; rw [gA]
  have ad : gD Γ A = m + 1 := by unfold gD; rw [gA]
  have hb : F 19 A 0 = 313 ∨ F 19 A 0 = 314 := hK.imp (fun y => y.1) (fun y => y.1)
  obtain ⟨-, o2, -⟩ := hO
  unfold LocG
  refine ⟨⟨by rw [ep]; exact hk, by rw [ep]; exact h1, ?_, Or.inr ⟨A, h2, ar, ?_, by omega, by omega, Or.inl (h3.trans hA3.symm), ?_⟩, fun h => absurd h0 h, fun h => absurd h0 h, fun _ _ _ => ⟨fun h => absurd (h0.symm.trans h) (by decide), fun h => absurd (h0.symm.trans h) (by decide), fun h => absurd (h0.symm.trans h) (by decide), fun h => absurd (h0.symm.trans h) (by decide)⟩, Or.inr (Or.inr ⟨h0, A, h2, ?_, ?_, ?_⟩)⟩, by unfold gR; rw [hγ]⟩
  · rw [ep, h3, h64]
    exact o2
  · exact hb.elim Or.inl (fun y => Or.inr (Or.inl y))
  · rw [el, if_pos hb]
  · rw [ep]
    exact hK
  · rw [ep, ap]
    exact h61
  · rw [ep, ad]
    exact h63
theorem bl_rep {f2 u2 : MI} {t2 c2 q2 s2 : Nat} {op1 opT w0 : Int32} (H : SX N k b sg cn nt ns nn sl fl r kd f u t c q s kk st) (hA : X.2.1 19 = A) (hm : m ≤ 9) (IH : ∀ t1, t < t1 → BLKs L xs Y N k b sg cn nt ns nn sl fl r kd t1) (H2 : SX N k b sg cn nt ns nn sl fl r kd f2 u2 t2 c2 q2 s2 kk (st + 1)) (ht : t < t2) (hc : c ≤ c2) (hq : q ≤ q2) (hs : s ≤ s2) (hF : FrK c A f f2) (hU : FrU q s kk u u2) (hl : u2 22 0 54 = lv) (h1 : f2 19 A 1 = nI (tS b N t)) (hN : NMI N k b sg f u c q → NMI N k b sg f2 u2 c2 q2)
    (hK : (f2 19 A 0 = 313 ∧ op1 = 17 ∧ opT = 52 ∧ FMp N k b sg f2 u2 c2 q2 (f2 19 A 4) w0) ∨ (f2 19 A 0 = 314 ∧ op1 = 18 ∧ opT = 53)) :
    ∃ f4 g4 u4 X4, (∀ d, 78 + 3 * (11 - m) ≤ d → RL (mP L xs) d 79 97 [some (rv 12 (some 0)), some (rv 19 (some A)), some (iv (nI (m + 1))), some (rv 16 (some r))] [] (f2, NG g A o gd, NX X A) = some (.inl none, (f4, g4, X4))) ∧ (∀ d, 78 + 3 * (11 - m) ≤ d → RL (mP L xs) d 123 32 [some (rv 22 (some 0)), some (iv op1), some (iv (nI (tS b N t))), some (iv (nI (m + 1))), some (iv gv), some (iv lv), none, none] [iv w0] (u2, Y) = some (.inl none, (u4, Y))) ∧ ((∃ t' c' q' s' kk' st' A', PGd N k b sg cn nt ns nn sl fl r kd m o gd l gv lv t c q s kk A f g u X f4 g4 u4 X4 t' c' q' s' kk' st' A') ∨ SB k t c q s kk A none f g u X f4 g4 u4 X4) := by
  have hb : f2 19 A 0 = 313 ∨ f2 19 A 0 = 314 := hK.imp (fun y => y.1) (fun y => y.1)
  have X1 := XR.new hA
  have X2 := XR.new X1.c1
  have X12 := X1.tr X2
  have htk := H.gx.px.tk
  have ht2k := H2.gx.px.tk
  have hkp := H.gx.px.lc.kp
  have hkl := H.kl
  have hcl2 := H2.gx.cl
  have hk6 : kk < 6100 := by omega
  have eg3 : (NG g A o gd) 19 A 3 = gd := NG_3
  have r97 : ∀ d, RL (mP L xs) (d + 1) 79 97 [some (rv 12 (some 0)), some (rv 19 (some A)), some (iv (nI (m + 1))), some (rv 16 (some r))] [] (f2, NG g A o gd, NX X A) = mclR (EL (mP L xs) (d + 1) 81 [rv 12 (some 0), iv (nI (m + 1 + 1)), rv 19 (some A), rv 19 gd, rv 16 (some r)] (NF f2 (A + 1) 401 (nI (tS b N t)), m3 (NG (NG g A o gd) (A + 1) (some A) gd) 19 A 10 (some (A + 1)), NX (NX X A) (A + 1))) 19 (fun o7 h6 => some (.inl none, (h6.1, m3 h6.2.1 19 A 8 o7, h6.2.2))) (fun e h => some (.inr e, h)) := fun d => by
    rw [rt_97 X1.c1 (by omega), eg3, h1, nI_1]
  have rop : ∀ d, EL (mP L xs) (d + 1) 119 [rv 22 (some 0), iv op1, iv (nI (tS b N t)), iv w0, iv 0, iv (nI (m + 1)), iv gv] (u2, Y) = some (.inl (some (iv (nI kk))), (NW u2 kk op1 (nI (tS b N t)) w0 0 (nI (m + 1)) gv, Y)) := fun d => r_op H2.ku hk6 op1 (nI (tS b N t)) w0 0 (nI (m + 1)) gv
  obtain ⟨n1, n2, n3, n4, n5, n6, n7⟩ := NW_v (u := u2) (k2 := kk) (p0 := op1) (p1 := nI (tS b N t)) (p2 := w0) (p3 := 0) (p4 := nI (m + 1)) (p5 := gv)
  generalize hF3 : NF f2 (A + 1) 401 (nI (tS b N t)) = F3 at r97
  generalize hG3 : m3 (NG (NG g A o gd) (A + 1) (some A) gd) 19 A 10 (some (A + 1)) = G3 at r97
  generalize hU3 : m3 (NW u2 kk op1 (nI (tS b N t)) w0 0 (nI (m + 1)) gv) 22 0 54 (nI kk) = U3
  have k3 : ∀ R o i, ¬ (R = 19 ∧ o = A + 1) → F3 R o i = f2 R o i := fun R o i h => by rw [← hF3]; exact NF_o h
  have g3 : ∀ R x i, ¬ (R = 19 ∧ (x = A + 1 ∨ (x = A ∧ i = 10))) → G3 R x i = (NG g A o gd) R x i := fun R x i h => by rw [← hG3, m3_no (fun w => h ⟨w.1, Or.inr ⟨w.2.1, w.2.2⟩⟩), NG_o (fun w => h ⟨w.1, Or.inl w.2⟩)]
  have u3 : ∀ R o i, ¬ (59 ≤ R ∧ R ≤ 64 ∧ i = kk) → ¬ (R = 22 ∧ (i = 41 ∨ i = 54)) → U3 R o i = u2 R o i := fun R o i h h' => by rw [← hU3, m3_no (by omega), NW_no (by omega) (by omega)]
  have v3 : ∀ R, 59 ≤ R → R ≤ 64 → U3 R 0 kk = NW u2 kk op1 (nI (tS b N t)) w0 0 (nI (m + 1)) gv R 0 kk := fun R x1 x2 => by rw [← hU3, m3_no (by omega)]
  have u354 : U3 22 0 54 = nI kk := by rw [← hU3, m3_eq]
  have hFF : FrK c A f F3 := fun R o i z => (k3 R o i (by omega)).trans (hF R o i z)
  have hUU : FrU q s kk u U3 := fun R o i z => (u3 R o i (by omega) (by omega)).trans (hU R o i z)
  have P3 : PX F3 U3 N k b sg t2 := H2.gx.px.fr (fun R o i z => k3 R o i (by omega)) (fun R o i z => u3 R o i (by omega) (by omega))
  have H3 : SX N k b sg cn nt ns nn sl fl r kd F3 U3 t2 c2 q2 s2 (kk + 1) (st + 1) := by
    refine SX.mv (A := A + 1) H2 P3 ((k3 10 0 3 (by omega)).trans H2.gx.cc) H2.gx.cl ((u3 22 0 45 (by omega) (by omega)).trans H2.gx.qu) H2.gx.ql ((u3 22 0 51 (by omega) (by omega)).trans H2.su) H2.sl ?_ (by omega) ((k3 12 0 6 (by omega)).trans H2.sc) ((u3 22 0 53 (by omega) (by omega)).trans H2.sr) H2.sb (fun R o i z => k3 R o i (by omega)) (fun R o i z => u3 R o i (by omega) (by omega))
    rw [← hU3, m3_no (by omega), n7]
  have eF3 : ∀ i, F3 19 A i = f2 19 A i := fun i => k3 19 A i (by omega)
  obtain ⟨f4, g4, u4, X4, nx, w, b1, b2, b3⟩ := IH t2 ht (m + 1) (some A) gd (some A) gv (nI kk) F3 G3 U3 (NX (NX X A) (A + 1)) c2 q2 s2 (kk + 1) (st + 1) (A + 1 + 1) (by omega) H3 X2.c1 ⟨A, rfl, by omega, Or.inl ⟨by rw [eF3]; exact hb, rfl⟩⟩ u354 (propext ⟨fun h => absurd h (nI_ne1 (by omega)), fun h => by cases h⟩)
  have cC : ∀ d, 78 + 3 * (11 - m) ≤ d → RL (mP L xs) d 79 97 [some (rv 12 (some 0)), some (rv 19 (some A)), some (iv (nI (m + 1))), some (rv 16 (some r))] [] (f2, NG g A o gd, NX X A) = some (.inl none, (f4, m3 g4 19 A 8 nx, X4)) := fun d hd => by
    have h1 := b1 d (by omega)
    obtain ⟨d, rfl⟩ : ∃ d', d = d' + 1 := ⟨d - 1, by omega⟩
    rw [r97, h1, clR]
  have fu3 : U3 22 0 12 = 0 := P3.fu
  have cU : ∀ d, 78 + 3 * (11 - m) ≤ d → RL (mP L xs) d 123 32 [some (rv 22 (some 0)), some (iv op1), some (iv (nI (tS b N t))), some (iv (nI (m + 1))), some (iv gv), some (iv lv), none, none] [iv w0] (u2, Y) = if w = 0 then (some (.inl none, (m3 u4 22 0 54 lv, Y))) else (if op1 = 17 then (RL (mP L xs) d 123 87 [some (rv 22 (some 0)), some (iv op1), some (iv (nI (tS b N t))), some (iv (nI (m + 1))), some (iv gv), some (iv lv), some (iv w0), some (iv (nI kk))] [iv 52, rv 22 (some 0)] (u4, Y)) else (RL (mP L xs) d 123 87 [some (rv 22 (some 0)), some (iv op1), some (iv (nI (tS b N t))), some (iv (nI (m + 1))), some (iv gv), some (iv lv), some (iv w0), some (iv (nI kk))] [iv 53, rv 22 (some 0)] (u4, Y))) := fun d hd => by
    have h1 := b2 d (by omega)
    obtain ⟨d, rfl⟩ : ∃ d', d = d' + 1 := ⟨d - 1, by omega⟩
    rw [K_Ref_blocks_32, rop, clI, nI_1]
    simp only [hU3]
    rw [if_pos fu3, h1, clI]
  have hGA : ∀ (g' : MR), FrG (A + 1 + 1) none G3 g' → FrG A none g (m3 g' 19 A 8 nx) := fun g' hg R o i z => by
    rw [m3_no (fun w => z ⟨w.1, Or.inl (by omega)⟩), hg R o i (fun w => z ⟨w.1, w.2.elim (fun y => Or.inl (by omega)) Or.inr⟩), g3 R o i (fun w => z ⟨w.1, Or.inl (by omega)⟩)]
    exact NG_o (fun w => z ⟨w.1, Or.inl (by omega)⟩)
  rcases b3 with ⟨rfl, t4, c4, q4, s4, k4, st4, A4, K⟩ | ⟨rfl, K⟩
  · have ktt := K.tt
    have kmo := K.mo
    have kkb := K.kb
    have kal := K.al
    have kle := K.xr.le
    have k4l := K.sx.kl
    have t4k := K.sx.gx.px.tk
    have k46 : k4 < 6100 := by omega
    obtain ⟨γ1, hsm⟩ := K.sm
    obtain ⟨m1, m2, m3', m4, m5, m6, m7⟩ := NW_v (u := u4) (k2 := k4) (p0 := opT) (p1 := nI (tS b N t)) (p2 := nI kk) (p3 := 0) (p4 := nI (m + 1)) (p5 := gv)
    have rop4 : ∀ d, EL (mP L xs) (d + 1) 119 [rv 22 (some 0), iv opT, iv (nI (tS b N t)), iv (nI kk), iv 0, iv (nI (m + 1)), iv gv] (u4, Y) = some (.inl (some (iv (nI k4))), (NW u4 k4 opT (nI (tS b N t)) (nI kk) 0 (nI (m + 1)) gv, Y)) := fun d => r_op K.sx.ku k46 opT (nI (tS b N t)) (nI kk) 0 (nI (m + 1)) gv
    generalize hU5 : m3 (m3 (NW u4 k4 opT (nI (tS b N t)) (nI kk) 0 (nI (m + 1)) gv) 62 0 kk (nI (k4 + 1))) 22 0 54 lv = U5
    have u5 : ∀ R o i, ¬ (59 ≤ R ∧ R ≤ 64 ∧ (i = k4 ∨ i = kk)) → ¬ (R = 22 ∧ (i = 41 ∨ i = 54)) → U5 R o i = u4 R o i := fun R o i h h' => by rw [← hU5, m3_no (by omega), m3_no (by omega), NW_no (by omega) (by omega)]
    have u5k : ∀ R, 59 ≤ R → R ≤ 64 → R ≠ 62 → U5 R 0 kk = NW u2 kk op1 (nI (tS b N t)) w0 0 (nI (m + 1)) gv R 0 kk := fun R x1 x2 x3 => by rw [← hU5, m3_no (by omega), m3_no (by omega), NW_no (by omega) (by omega), K.fu R 0 kk (by omega), v3 R x1 x2]
    have u562 : U5 62 0 kk = nI (k4 + 1) := by rw [← hU5, m3_no (by omega), m3_eq]
    have u5T : ∀ R, 59 ≤ R → R ≤ 64 → U5 R 0 k4 = NW u4 k4 opT (nI (tS b N t)) (nI kk) 0 (nI (m + 1)) gv R 0 k4 := fun R x1 x2 => by rw [← hU5, m3_no (by omega), m3_no (by omega)]
    have u541 : U5 22 0 41 = nI (k4 + 1) := by rw [← hU5, m3_no (by omega), m3_no (by omega), m7]
    have c87 : ∀ d, RL (mP L xs) (d + 1) 123 87 [some (rv 22 (some 0)), some (iv op1), some (iv (nI (tS b N t))), some (iv (nI (m + 1))), some (iv gv), some (iv lv), some (iv w0), some (iv (nI kk))] [iv opT, rv 22 (some 0)] (u4, Y) = some (.inl none, (U5, Y)) := fun d => by
      rw [K_Ref_blocks_87, rop4, clI]
      simp only [if_neg (nin hk6 (show 6100 < 2 ^ 31 by decide)), nI_clamp (show kk < 2 ^ 31 by omega), m7]
      rw [hU5]
    have P5 : PX f4 U5 N k b sg t4 := K.sx.gx.px.fr (fun _ _ _ _ => rfl) (fun R o i z => u5 R o i (by omega) (by omega))
    have H5 : SX N k b sg cn nt ns nn sl fl r kd f4 U5 t4 c4 q4 s4 (k4 + 1) st4 := SX.mw K.sx P5 K.sx.gx.cc K.sx.gx.cl ((u5 22 0 45 (by omega) (by omega)).trans K.sx.gx.qu) K.sx.gx.ql ((u5 22 0 51 (by omega) (by omega)).trans K.sx.su) K.sx.sl u541 (by omega) K.sx.sc ((u5 22 0 53 (by omega) (by omega)).trans K.sx.sr) K.sx.sb (fun _ _ _ _ => rfl) (fun R o i z => u5 R o i (by omega) (by omega))
    refine ⟨f4, m3 g4 19 A 8 nx, U5, X4, cC, fun d hd => ?_, Or.inl ⟨t4, c4, q4, s4, k4 + 1, st4, A4, ⟨by omega, H5, X12.tr K.xr, by omega, by omega, by omega, by omega, hFF.tr K.fc hc (by omega), hGA g4 K.fg, fun R o i z => (u5 R o i (by omega) (by omega)).trans (hUU.tr K.fu hq hs (by omega) R o i z), by rw [← hU5, m3_eq], ?_, ⟨fun a => if a = A then (r, kk, k4 + 1, m + 1, l) else if a = A + 1 then (r, k4, 0, m + 2, some A) else γ1 a, fun F G U Γ n sF qF Q1 Q2 Q3 => ?_⟩, fun nm => NMI_cg (K.nm (NMI_cg (hN nm) (fun i _ => k3 32 0 i (by omega)) (fun R i hR _ => u3 R 0 i (by omega) (by omega)))) (fun _ _ => rfl) (fun R i hR _ => u5 R 0 i (by omega) (by omega))⟩⟩⟩
    · have hc87 := c87 (d - 1)
      rw [show d - 1 + 1 = d by omega] at hc87
      rw [cU d hd, if_neg (by decide)]
      rcases hK with ⟨-, z1, z2, -⟩ | ⟨-, z1, z2⟩
      · rw [z2] at hc87
        rw [if_pos z1]
        exact hc87
      · rw [z2] at hc87
        rw [if_neg (by rw [z1]; decide)]
        exact hc87
    · rw [m3_i (by decide), K.fg 19 A 7 (fun w => w.2.elim (fun y => by omega) (fun y => by cases y.1)), g3 19 A 7 (by omega)]
      exact NG_i (by decide) (by decide)
    · have gA : Γ A = (r, kk, k4 + 1, m + 1, l) := (Q1.gh A (Nat.le_refl A) (by omega)).trans (if_pos rfl)
      have gT : Γ (A + 1) = (r, k4, 0, m + 2, some A) := (Q1.gh (A + 1) (by omega) (by omega)).trans ((if_neg (by omega)).trans (if_pos rfl))
      have fA : ∀ i, i ≠ 6 → F 19 A i = f2 19 A i := fun i hi => (Q1.fs A (Nat.le_refl A) (by omega) i hi).trans ((K.fc 19 A i (by omega)).trans (eF3 i))
      have fT : ∀ i, i ≠ 6 → F 19 (A + 1) i = F3 19 (A + 1) i := fun i hi => (Q1.fs (A + 1) (by omega) (by omega) i hi).trans (K.fc 19 (A + 1) i (by omega))
      have gg : ∀ a i, a = A ∨ a = A + 1 → ¬ (a = A ∧ i = 7) → ¬ (a = A ∧ i = 8) → G 19 a i = G3 19 a i := fun a i ha hi hj => by
        rw [Q1.gs a (by omega) (by omega) i hi, m3_no (fun w => hj ⟨w.2.1, w.2.2⟩), K.fg 19 a i (fun w => w.2.elim (fun y => by omega) (fun y => by cases y.1))]
      have gA2 : G 19 A 2 = o := (gg A 2 (Or.inl rfl) (by omega) (by omega)).trans ((g3 19 A 2 (by omega)).trans NG_2)
      have gA3 : G 19 A 3 = gd := (gg A 3 (Or.inl rfl) (by omega) (by omega)).trans ((g3 19 A 3 (by omega)).trans NG_3)
      have gA10 : G 19 A 10 = some (A + 1) := (gg A 10 (Or.inl rfl) (by omega) (by omega)).trans (by rw [← hG3, m3_eq])
      have gA8 : G 19 A 8 = nx := (Q1.gs A (Nat.le_refl A) (by omega) 8 (by omega)).trans m3_eq
      have gT2 : G 19 (A + 1) 2 = some A := (gg (A + 1) 2 (Or.inr rfl) (by omega) (by omega)).trans (by rw [← hG3, m3_no (by omega), NG_2])
      have gT3 : G 19 (A + 1) 3 = gd := (gg (A + 1) 3 (Or.inr rfl) (by omega) (by omega)).trans (by rw [← hG3, m3_no (by omega), NG_3])
      have fT0 : F 19 (A + 1) 0 = 401 := (fT 0 (by decide)).trans (by rw [← hF3, NF_0])
      have fT1 : F 19 (A + 1) 1 = nI (tS b N t) := (fT 1 (by decide)).trans (by rw [← hF3, NF_1])
      have uk : ∀ R, 59 ≤ R → R ≤ 64 → U R 0 kk = U5 R 0 kk := fun R x1 x2 => Q1.os R kk x1 x2 (Nat.le_refl kk) (by omega)
      have uT : ∀ R, 59 ≤ R → R ≤ 64 → U R 0 k4 = NW u4 k4 opT (nI (tS b N t)) (nI kk) 0 (nI (m + 1)) gv R 0 k4 := fun R x1 x2 => (Q1.os R k4 x1 x2 (by omega) (by omega)).trans (u5T R x1 x2)
      have aP : gP Γ A = kk := by unfold gP; rw [gA]
      have aE : gE Γ A = k4 + 1 := by unfold gE; rw [gA]
      have aD : gD Γ A = m + 1 := by unfold gD; rw [gA]
      have aR : gR Γ A = r := by unfold gR; rw [gA]
      have tP : gP Γ (A + 1) = k4 := by unfold gP; rw [gT]
      have tR : gR Γ (A + 1) = r := by unfold gR; rw [gT]
      have hE : EndG F G U Γ r (some A) k4 := by
        refine ⟨k46, fun h => (by cases h), fun b' hb' => ?_⟩
        have := Option.some.inj hb'
        subst this
        have hz : F 19 A 0 = 313 ∨ F 19 A 0 = 314 := by rw [fA 0 (by decide)]; exact hb
        refine ⟨fun h => ?_, fun h => ?_, fun h => ?_⟩
        · rw [fA 0 (by decide)] at h
          rcases hK with ⟨-, -, z3, -⟩ | ⟨z1, -, -⟩
          · exact ⟨((uT 59 (by omega) (by omega)).trans m1).trans z3, by rw [aD]; exact (uT 63 (by omega) (by omega)).trans m5, aE, A + 1, gA10, tR, tP, fT0, gT2⟩
          · rw [z1] at h; exact absurd h (by decide)
        · rw [fA 0 (by decide)] at h
          rcases hK with ⟨z1, -, -, -⟩ | ⟨-, -, z3⟩
          · rw [z1] at h; exact absurd h (by decide)
          · exact ⟨((uT 59 (by omega) (by omega)).trans m1).trans z3, A + 1, gA10, tR, tP, fT0, gT2⟩
        · rcases hz with hz | hz <;> rw [hz] at h <;> exact absurd h (by decide)
      have hFO : FO F G Γ r (m + 1) (some A) gd (some A) gv (nI kk) := by
        refine ⟨Or.inr ⟨A, rfl, aR, ?_, aD.symm, by omega, Or.inl gA3.symm, ?_⟩, Q2.2.1, fun b' hb' => ?_⟩
        · rw [fA 0 (by decide)]
          exact hb.elim Or.inl (fun y => Or.inr (Or.inl y))
        · rw [fA 0 (by decide), if_pos hb]
        · have := Option.some.inj hb'
          subst this
          rw [aP]
      have QS := Q1.sub (A1 := A + 1 + 1) (A2 := A4) (k1 := kk + 1) (k2 := k4) (C := c4) (Q := q4) (S := s4) (γ1 := γ1) (f3 := f4) (g3 := g4) (u3 := u4) (by omega) (by omega) (Nat.le_refl A4) (by omega) (by omega) (fun a x1 x2 => (if_neg (by omega)).trans (if_neg (by omega))) (fun a i x1 x2 => rfl) (fun a i x1 x2 => m3_no (by omega)) (fun R i x1 x2 x3 x4 => u5 R 0 i (by omega) (by omega)) (fun i x1 => rfl) (Nat.le_refl c4) (fun R i x1 x2 => u5 R 0 i (by omega) (by omega)) (Nat.le_refl q4) (fun R i x1 x2 x3 => u5 R 0 i (by omega) (by omega)) (Nat.le_refl s4)
      obtain ⟨L1, L2, -⟩ := hsm F G U Γ n sF qF QS hFO hE
      have fA0 := fA 0 (by decide)
      refine ⟨fun a x1 x2 => ?_, aR, aP, ?_, gA2⟩
      · by_cases y1 : a = A
        · subst y1
          refine Loc_of gA hk6 hm ?_ gA2 gA3 ?_ Q1.kr H.kd Q2 Q3 ?_ (Or.inr ?_)
          · rw [fA 1 (by decide), h1, uk 60 (by omega) (by omega), u5k 60 (by omega) (by omega) (by omega), n2]
          · rw [uk 64 (by omega) (by omega), u5k 64 (by omega) (by omega) (by omega), n6]
          · rw [fA0]
            rcases hb with z | z <;> rw [z] <;> exact ⟨fun h => absurd h (by decide), fun h => absurd h (by decide), fun h => absurd h (by decide), fun h => absurd h (by decide)⟩
          · have x59 : U 59 0 kk = op1 := by rw [uk 59 (by omega) (by omega), u5k 59 (by omega) (by omega) (by omega), n1]
            have x61 : U 61 0 kk = w0 := by rw [uk 61 (by omega) (by omega), u5k 61 (by omega) (by omega) (by omega), n3]
            have x62 : U 62 0 kk = nI (k4 + 1) := (uk 62 (by omega) (by omega)).trans u562
            have x63 : U 63 0 kk = nI (m + 1) := by rw [uk 63 (by omega) (by omega), u5k 63 (by omega) (by omega) (by omega), n5]
            unfold KdB BlkAt
            rw [aP, aE, aD, x59, x61, x62, x63, gA8, gA10, fA0, fA 4 (by decide)]
            rcases hK with ⟨z1, z2, z3, z4⟩ | ⟨z1, z2, z3⟩
            · refine Or.inl ⟨z1, z2, ?_, rfl, rfl, L2, by intro e; cases e⟩
              refine Q1.fm _ _ (FMp.mv (f := f2) (u := u2) (fun i hi => ?_) (by omega) (fun R i hR hi => ?_) (by omega) z4)
              · rw [K.fc 32 0 i (by omega), k3 32 0 i (by omega)]
              · rw [u5 R 0 i (by omega) (by omega), K.fu R 0 i (by omega), u3 R 0 i (by omega) (by omega)]
            · exact Or.inr (Or.inl ⟨z1, z2, rfl, L2, by intro e; cases e⟩)
        · by_cases y2 : a = A + 1
          · subst y2
            refine Loc_turn gT gA k46 hm fT0 ?_ gT2 gT3 gA3 ?_ ?_ ?_ ?_ Q2
            · rw [fT1, uT 60 (by omega) (by omega), m2]
            · rw [uT 64 (by omega) (by omega), m6]
            · rw [fA0, uT 59 (by omega) (by omega), m1]
              rcases hK with ⟨z1, -, z3, -⟩ | ⟨z1, -, z3⟩
              · exact Or.inl ⟨z1, z3⟩
              · exact Or.inr ⟨z1, z3⟩
            · rw [uT 61 (by omega) (by omega), m3']
            · rw [uT 63 (by omega) (by omega), m5]
          · exact L1 a (by omega) x2
      · rw [fA0]
        rcases hb with z | z <;> rw [z] <;> decide
  · obtain ⟨p, w, E, y1, y2⟩ := K.bd
    obtain ⟨c5, z1, z2, z3⟩ := K.cc
    obtain ⟨A5, x1, x2⟩ := K.xr
    have := x1.le
    refine ⟨f4, m3 g4 19 A 8 nx, m3 u4 22 0 54 lv, X4, cC, fun d hd => ?_, Or.inr ⟨⟨p, w, E, (m3_i (by decide)).trans y1, (m3_i (by decide)).trans y2⟩, ⟨c5, by omega, z2, z3⟩, ⟨A5, X12.tr x1, by omega⟩, hFF.tr K.fc hc (by omega), hGA g4 K.fg, fun R o i z => (m3_no (by omega)).trans (hUU.tr K.fu hq hs (by omega) R o i z)⟩⟩
    rw [cU d hd, if_pos rfl]
end Rep
