/-! ===== read: steps without blocks ===== -/
section Lef
variable {L : Nat} {xs : Nat → Int32} {Y : MR × ML × (Nat → Nat) × Nat × Nat} {N k t c q s kk st A cn sl fl r kd m : Nat} {b : Nat → Nat} {sg : Nat → Int32} {f f2 u u2 : MI} {g g2 : MR} {X X2 : ML × (Nat → Nat) × Nat × Nat} {nt ns nn : Nat → Nat} {o gd l : Option Nat} {gv lv : Int32}
theorem NW_no {k2 : Nat} {p0 p1 p2 p3 p4 p5 : Int32} {R o i : Nat} (h1 : ¬ (59 ≤ R ∧ R ≤ 64 ∧ i = k2)) (h2 : ¬ (R = 22 ∧ i = 41)) : NW u k2 p0 p1 p2 p3 p4 p5 R o i = u R o i := by
  unfold NW
  rw [m3_no (by omega), m3_no (by omega), m3_no (by omega), m3_no (by omega), m3_no (by omega), m3_no (by omega), m3_no (by omega)]
theorem NW_v {k2 : Nat} {p0 p1 p2 p3 p4 p5 : Int32} : NW u k2 p0 p1 p2 p3 p4 p5 59 0 k2 = p0 ∧ NW u k2 p0 p1 p2 p3 p4 p5 60 0 k2 = p1 ∧ NW u k2 p0 p1 p2 p3 p4 p5 61 0 k2 = p2 ∧ NW u k2 p0 p1 p2 p3 p4 p5 62 0 k2 = p3 ∧ NW u k2 p0 p1 p2 p3 p4 p5 63 0 k2 = p4 ∧ NW u k2 p0 p1 p2 p3 p4 p5 64 0 k2 = p5 ∧ NW u k2 p0 p1 p2 p3 p4 p5 22 0 41 = nI (k2 + 1) := by
  unfold NW
  refine ⟨?_, ?_, ?_, ?_, ?_, ?_, ?_⟩ <;> (repeat first | exact m3_eq | rw [m3_r (by decide)])
theorem m3_id {α : Type} {f : Nat → Nat → Nat → α} {R o i : Nat} : m3 f R o i (f R o i) = f := by
  funext R' o' i'
  unfold m3
  by_cases e1 : R' = R
  · by_cases e2 : o' = o
    · by_cases e3 : i' = i
      · rw [if_pos e1, if_pos e2, if_pos e3, e1, e2, e3]
      · rw [if_pos e1, if_pos e2, if_neg e3]
    · rw [if_pos e1, if_neg e2]
  · rw [if_neg e1]
theorem SX.mw {f3 u3 : MI} {t' c' q' s' kk' st' : Nat} (H : SX N k b sg cn nt ns nn sl fl r kd f u t c q s kk st) (P : PX f3 u3 N k b sg t') (cc : f3 10 0 3 = nI c') (cl : c' ≤ t') (qu : u3 22 0 45 = nI q') (ql : q' ≤ 2 * t') (su : u3 22 0 51 = nI s') (sl' : 2 * s' ≤ t') (ku : u3 22 0 41 = nI kk') (kl : kk' ≤ t') (sc : f3 12 0 6 = nI st') (sr : u3 22 0 53 = nI st') (sb : st' ≤ 150) (hF : ∀ R o i, (R = 16 ∨ R = 37 ∨ R = 38 ∨ R = 39 ∨ (R = 14 ∧ i = 4)) → f3 R o i = f R o i) (hU : ∀ R o i, (R = 42 ∨ R = 49 ∨ R = 45 ∨ R = 46 ∨ R = 47 ∨ R = 48 ∨ (R = 22 ∧ (i = 18 ∨ i = 52))) → u3 R o i = u R o i) : SX N k b sg cn nt ns nn sl fl r kd f3 u3 t' c' q' s' kk' st' := by
  obtain ⟨a0, a1, a2, a3, a4, a5, a6, a7, a8⟩ := H.ab
  exact ⟨⟨P, cc, cl, qu, ql, H.gx.nc.fr (fun R o i z => hF R o i (by omega)), H.gx.nz.fr (fun R o i z => hU R o i (by omega))⟩, su, sl', ku, kl, sc, sr, sb, H.hf, H.hs, H.rl, H.kd, (hU 22 0 52 (by omega)).trans H.h5, (hU 49 0 r (by omega)).trans H.h4, (hF 16 r 5 (by omega)).trans H.ac, ⟨(hU 42 0 0 (by omega)).trans a0, (hU 42 0 1 (by omega)).trans a1, (hU 42 0 2 (by omega)).trans a2, (hU 42 0 3 (by omega)).trans a3, (hU 42 0 4 (by omega)).trans a4, (hU 42 0 5 (by omega)).trans a5, (hU 42 0 6 (by omega)).trans a6, (hU 42 0 7 (by omega)).trans a7, (hU 42 0 8 (by omega)).trans a8⟩⟩
theorem SX.mv {f3 u3 : MI} {t' c' q' s' kk' st' : Nat} (H : SX N k b sg cn nt ns nn sl fl r kd f u t c q s kk st) (P : PX f3 u3 N k b sg t') (cc : f3 10 0 3 = nI c') (cl : c' ≤ t') (qu : u3 22 0 45 = nI q') (ql : q' ≤ 2 * t') (su : u3 22 0 51 = nI s') (sl' : 2 * s' ≤ t') (ku : u3 22 0 41 = nI kk') (kl : kk' ≤ t') (sc : f3 12 0 6 = nI st') (sr : u3 22 0 53 = nI st') (sb : st' ≤ 150) (hF : FrK c A f f3) (hU : FrU q s kk u u3) : SX N k b sg cn nt ns nn sl fl r kd f3 u3 t' c' q' s' kk' st' :=
  SX.mw H P cc cl qu ql su sl' ku kl sc sr sb (fun R o i z => hF R o i (by omega)) (fun R o i z => hU R o i (by omega))
theorem lf_need (H : SX N k b sg cn nt ns nn sl fl r kd f u t c q s kk st) {x : Nat} (h1 : 2 < x) (h2 : x < 128) : ∃ f2 u2 w, (∀ d g X, EL (mP L xs) (d + 2) 46 [rv 20 (some 0), iv (nI x)] (f, g, X) = some (.inl none, (f2, g, X))) ∧ (∀ d, 8 ≤ d → EL (mP L xs) d 112 [rv 22 (some 0), iv (nI x)] (u, Y) = some (.inl (some (iv w)), (u2, Y))) ∧ ((w = 1 ∧ f2 = m3 f 20 0 6 (nI (t + 1)) ∧ Fr6 u u2 ∧ SX N k b sg cn nt ns nn sl fl r kd f2 u2 (t + 1) c q s kk st) ∨ (w = 0 ∧ BAD f2 u2 ∧ FB f f2 u u2)) := by
  obtain ⟨f2, u2, a1, a2⟩ := px_need (L := L) (xs := xs) (Y := Y) H.gx.px h1 h2
  rcases a2 with ⟨-, a3, a4, a5, a6⟩ | ⟨a3, a4, a5, a6⟩
  · refine ⟨f2, u2, 1, a1, fun d hd => EL_mono hd a3, Or.inl ⟨rfl, a5, a4, ?_⟩⟩
    subst a5
    exact H.adv a6 a4
  · exact ⟨f2, u2, 0, a1, fun d hd => EL_mono hd a3, Or.inr ⟨rfl, a4, a5, a6⟩⟩
theorem Loc_of {F U : MI} {G : MR} {Γ : Gh} {e n sF qF : Nat} (hγ : Γ A = (r, kk, e, m + 1, l)) (hkk : kk < 6100) (hm : m ≤ 9) (h1 : F 19 A 1 = U 60 0 kk) (h2 : G 19 A 2 = o) (h3 : G 19 A 3 = gd) (h64 : U 64 0 kk = gv) (h49 : U 49 0 r = nI kd) (hkd : kd ≤ 8) (hO : FO F G Γ r m o gd l gv lv) (hN : NXT F G U Γ r o (G 19 A 7) e) (hft : (F 19 A 0 = 301 → aTu kd = true) ∧ (F 19 A 0 = 302 → aLi kd = true) ∧ (F 19 A 0 = 319 → aLa kd = true) ∧ (F 19 A 0 = 303 → aSo kd = true)) (hK : KdA F U (gP Γ) (gE Γ) (gL Γ) n sF qF A ∨ KdB F G U (gR Γ) (gP Γ) (gE Γ) (gD Γ) n qF r A) : LocG F G U Γ n sF qF r A := by
  have ep : gP Γ A = kk := by unfold gP; rw [hγ]
  have ee : gE Γ A = e := by unfold gE; rw [hγ]
  have ed : gD Γ A = m + 1 := by unfold gD; rw [hγ]
  have el : gL Γ A = l := by unfold gL; rw [hγ]
  obtain ⟨o1, o2, -⟩ := hO
  unfold LocG
  refine ⟨⟨by rw [ep]; exact hkk, by rw [ep]; exact h1, ?_, ?_, fun _ => ?_, fun _ => by rw [ed]; omega, fun kd' h5 h6 => ?_, hK.elim Or.inl (fun y => Or.inr (Or.inl y))⟩, by unfold gR; rw [hγ]⟩
  · rw [ep, h3, h64]
    exact o2
  · rw [h2, h3, ed, el]
    rcases o1 with ⟨y1, y2, y3, y4⟩ | ⟨b, y1, y2, y3, y4, y5, y6, y7⟩
    · exact Or.inl ⟨y1, by omega, y3, y4⟩
    · exact Or.inr ⟨b, y1, y2, y3, by omega, by omega, y6, y7⟩
  · rw [h2, ee]
    exact hN
  · rw [h49] at h6
    have : kd = kd' := (nI_eq (by omega) (by omega)).mp h6
    subst this
    exact hft
/-- a leaf: an op, then its ; -/
theorem lf_go {f1 u1 : MI} {t1 fi : Nat} {v p0 p2 p3 : Int32} (H : SX N k b sg cn nt ns nn sl fl r kd f u t c q s kk st) (hA : X.2.1 19 = A) (hm : m ≤ 9) (H1 : SX N k b sg cn nt ns nn sl fl r kd f1 u1 t1 c q s kk (st + 1)) (ht1 : t < t1) (hF1 : FrK c A f f1) (hU1 : FrU q s kk u u1) (hl : u1 22 0 54 = lv) (h0 : f1 19 A 0 ≠ 401) (h1 : f1 19 A 1 = nI (tS b N t)) (hfi : fi = 4 ∨ fi = 5) (hft : ((f1 19 A 0 = 301 → aTu kd = true) ∧ (f1 19 A 0 = 302 → aLi kd = true) ∧ (f1 19 A 0 = 319 → aLa kd = true) ∧ (f1 19 A 0 = 303 → aSo kd = true))) (FC : FrC c f1 f2) (FA : FrA q s u1 u2)
    (D : (∃ t2 c2 q2 s2, PX f2 u2 N k b sg t2 ∧ t1 ≤ t2 ∧ f2 10 0 3 = nI c2 ∧ c ≤ c2 ∧ c2 ≤ t2 ∧ u2 22 0 45 = nI q2 ∧ q ≤ q2 ∧ q2 ≤ 2 * t2 ∧ u2 22 0 51 = nI s2 ∧ s ≤ s2 ∧ 2 * s2 ≤ t2 ∧ (NMI N k b sg f1 u1 c q → NMI N k b sg f2 u2 c2 q2) ∧ (∀ F U Γ n sF qF, (∀ i, i ≠ 6 → F 19 A i = m3 f2 19 A fi v 19 A i) → U 59 0 kk = p0 → U 61 0 kk = p2 → U 62 0 kk = p3 → (∀ y z, FMp N k b sg f2 u2 c2 q2 y z → FMx F U n y z) → (∀ y z, CDp N k b sg f2 u2 c2 q2 s2 fl y z → CDx F U n qF y z) → sl ≤ sF → fl ≤ qF → gP Γ A = kk → gE Γ A = kk + 1 → gL Γ A = l → (∀ b, l = some b → lv = nI (gP Γ b)) → KdA F U (gP Γ) (gE Γ) (gL Γ) n sF qF A)) ∨ (BAD f2 u2 ∧ ∃ c2, c ≤ c2 ∧ c2 ≤ 4001 ∧ f2 10 0 3 = nI c2)) :
    ∃ f4 u4, (∀ d g X, EL (mP L xs) (d + 2) 46 [rv 20 (some 0), iv 59] (m3 f2 19 A fi v, g, X) = some (.inl none, (f4, g, X))) ∧ (∀ d, 8 ≤ d → mclI (EL (mP L xs) d 119 [rv 22 (some 0), iv p0, iv (nI (tS b N t)), iv p2, iv p3, iv 0, iv gv] (u2, Y)) (fun x4 h3 => if h3.1 22 0 12 = 0 then (mclI (EL (mP L xs) d 112 [rv 22 (some 0), iv 59] h3) (fun x6 h5 => some (.inl none, h5)) (fun e h => some (.inr e, h))) else (some (.inl none, h3))) (fun e h => some (.inr e, h)) = some (.inl none, (u4, Y))) ∧ ((∃ t' c' q' s' kk' st' A', PGd N k b sg cn nt ns nn sl fl r kd m o gd l gv lv t c q s kk A f g u X f4 (NG g A o gd) u4 (NX X A) t' c' q' s' kk' st' A') ∨ SB k t c q s kk A none f g u X f4 (NG g A o gd) u4 (NX X A)) := by
  have X1 := XR.new hA
  have htk := H.gx.px.tk
  have hkp := H.gx.px.lc.kp
  have hkl := H.kl
  have hk6 : kk < 6100 := by omega
  have k41 : u2 22 0 41 = nI kk := (FA 22 0 41 (by omega)).trans H1.ku
  have hFG : FrG A none g (NG g A o gd) := fun R o i z => NG_o (fun w => z ⟨w.1, Or.inl (by omega)⟩)
  have hF3 : FrK c A f (m3 f2 19 A fi v) := fun R o i z => (m3_no (by omega)).trans ((FC R o i (by omega)).trans (hF1 R o i z))
  have hU3 : FrU q s kk u (NW u2 kk p0 (nI (tS b N t)) p2 p3 0 gv) := fun R o i z => (NW_no (by omega) (by omega)).trans ((FA R o i (by omega)).trans (hU1 R o i z))
  have rop : ∀ d, EL (mP L xs) (d + 1) 119 [rv 22 (some 0), iv p0, iv (nI (tS b N t)), iv p2, iv p3, iv 0, iv gv] (u2, Y) = some (.inl (some (iv (nI kk))), (NW u2 kk p0 (nI (tS b N t)) p2 p3 0 gv, Y)) := fun d => r_op k41 hk6 p0 (nI (tS b N t)) p2 p3 0 gv
  obtain ⟨n1, n2, n3, n4, n5, n6, n7⟩ := NW_v (u := u2) (k2 := kk) (p0 := p0) (p1 := nI (tS b N t)) (p2 := p2) (p3 := p3) (p4 := 0) (p5 := gv)
  have n12 : NW u2 kk p0 (nI (tS b N t)) p2 p3 0 gv 22 0 12 = u2 22 0 12 := NW_no (by omega) (by omega)
  have n13 : NW u2 kk p0 (nI (tS b N t)) p2 p3 0 gv 22 0 13 = u2 22 0 13 := NW_no (by omega) (by omega)
  rcases D with ⟨t2, c2, q2, s2, P2, e1, e2, e3, e4, e5, e6, e7, e8, e9, e10, eN, hK⟩ | ⟨⟨p, w, E, y1, y2⟩, c2, z1, z2, z3⟩
  · have htk2 := P2.tk
    have P3 : PX (m3 f2 19 A fi v) (NW u2 kk p0 (nI (tS b N t)) p2 p3 0 gv) N k b sg t2 := P2.fr (fun R o i z => m3_no (by omega)) (fun R o i z => NW_no (by omega) (by omega))
    have H3 : SX N k b sg cn nt ns nn sl fl r kd (m3 f2 19 A fi v) (NW u2 kk p0 (nI (tS b N t)) p2 p3 0 gv) t2 c2 q2 s2 (kk + 1) (st + 1) := by
      refine SX.mv (A := A) H1 P3 ((m3_r (by decide)).trans e2) e4 ((NW_no (by omega) (by omega)).trans e5) e7 ((NW_no (by omega) (by omega)).trans e8) e10 n7 (by omega) ?_ ?_ H1.sb ?_ ?_
      · exact (m3_r (by decide)).trans ((FC 12 0 6 (by omega)).trans H1.sc)
      · exact (NW_no (by omega) (by omega)).trans ((FA 22 0 53 (by omega)).trans H1.sr)
      · exact fun R o i z => (m3_no (by omega)).trans (FC R o i (by omega))
      · exact fun R o i z => (NW_no (by omega) (by omega)).trans (FA R o i (by omega))
    obtain ⟨f4, u4, w, a1, a2, a3⟩ := lf_need (L := L) (xs := xs) (Y := Y) H3 (x := 59) (by decide) (by decide)
    refine ⟨f4, u4, a1, fun d hd => ?_, ?_⟩
    · have h2 : EL (mP L xs) d 112 [rv 22 (some 0), iv 59] (NW u2 kk p0 (nI (tS b N t)) p2 p3 0 gv, Y) = some (.inl (some (iv w)), (u4, Y)) := a2 d hd
      obtain ⟨d, rfl⟩ : ∃ d', d = d' + 1 := ⟨d - 1, by omega⟩
      rw [rop, clI, if_pos (show (NW u2 kk p0 (nI (tS b N t)) p2 p3 0 gv) 22 0 12 = 0 from P3.fu), h2, clI]
    · rcases a3 with ⟨-, a4, a5, a6⟩ | ⟨-, a4, a5⟩
      · have e19 : ∀ a i, f4 19 a i = m3 f2 19 A fi v 19 a i := fun a i => by rw [a4]; exact m3_r (by decide)
        have f1i : ∀ i, i ≠ fi → m3 f2 19 A fi v 19 A i = f1 19 A i := fun i hi => (m3_i hi).trans (FC 19 A i (by omega))
        have uu : ∀ R i, R ≠ 22 → u4 R 0 i = NW u2 kk p0 (nI (tS b N t)) p2 p3 0 gv R 0 i := fun R i h => a5 R 0 i (fun y => h y.1)
        refine Or.inl ⟨t2 + 1, c2, q2, s2, kk + 1, st + 1, A + 1, ⟨by omega, a6, X1, by omega, by omega, by omega, by omega, ?_, hFG, ?_, ?_, NG_i (by decide) (by decide), ⟨fun _ => (r, kk, kk + 1, m + 1, l), fun F G U Γ n sF qF H1' H2 H3' => ?_⟩, fun nm => NMI_cg (eN (NMI_cg nm (fun i hi => hF1 32 0 i (by omega)) (fun R i hR hi => hU1 R 0 i (by omega)))) (fun i hi => ?_) (fun R i hR hi => (uu R i (by omega)).trans (NW_no (by omega) (by omega)))⟩⟩
        · exact fun R o i z => by rw [a4]; exact (m3_no (by omega)).trans (hF3 R o i z)
        · exact fun R o i z => (a5 R o i (by omega)).trans (hU3 R o i z)
        · exact (a5 22 0 54 (by omega)).trans ((NW_no (by omega) (by omega)).trans ((FA 22 0 54 (by omega)).trans hl))
        · have hγ : Γ A = (r, kk, kk + 1, m + 1, l) := H1'.gh A (Nat.le_refl A) (Nat.lt_succ_self A)
          have ei : ∀ i, i ≠ 6 → F 19 A i = m3 f2 19 A fi v 19 A i := fun i hi => (H1'.fs A (Nat.le_refl A) (Nat.lt_succ_self A) i hi).trans (e19 A i)
          have e0 : F 19 A 0 = f1 19 A 0 := (ei 0 (by decide)).trans (f1i 0 (by omega))
          have eg : ∀ i, i ≠ 7 → G 19 A i = NG g A o gd 19 A i := fun i hi => H1'.gs A (Nat.le_refl A) (Nat.lt_succ_self A) i (fun y => hi y.2)
          have eu : ∀ R, 59 ≤ R → R ≤ 64 → U R 0 kk = NW u2 kk p0 (nI (tS b N t)) p2 p3 0 gv R 0 kk := fun R x1 x2 => (H1'.os R kk x1 x2 (Nat.le_refl kk) (Nat.lt_succ_self kk)).trans (uu R kk (by omega))
          have ep : gP Γ A = kk := by unfold gP; rw [hγ]
          have ee : gE Γ A = kk + 1 := by unfold gE; rw [hγ]
          have el : gL Γ A = l := by unfold gL; rw [hγ]
          refine ⟨fun a x1 x2 => ?_, by unfold gR; rw [hγ], ep, by rw [e0]; exact h0, (eg 2 (by decide)).trans NG_2⟩
          obtain rfl : a = A := by omega
          refine Loc_of hγ hk6 hm ?_ ((eg 2 (by decide)).trans NG_2) ((eg 3 (by decide)).trans NG_3) ((eu 64 (by omega) (by omega)).trans n6) H1'.kr H.kd H2 H3' (by rw [e0]; exact hft) (Or.inl ?_)
          · rw [ei 1 (by decide), f1i 1 (by omega), h1, eu 60 (by omega) (by omega), n2]
          · refine hK F U Γ n sF qF ei ((eu 59 (by omega) (by omega)).trans n1) ((eu 61 (by omega) (by omega)).trans n3) ((eu 62 (by omega) (by omega)).trans n4) (fun y z w => H1'.fm y z (FMp.mv (fun i hi => ?_) (Nat.le_refl c2) (fun R i hR hi => ?_) (Nat.le_refl q2) w)) (fun y z w => H1'.cm y z (CDp.mv (fun i hi => ?_) (Nat.le_refl c2) (fun R i hR hi => ?_) (Nat.le_refl q2) (fun R i x1 x2 hi => ?_) (Nat.le_refl s2) (Nat.le_refl fl) w)) H1'.sl H1'.fl ep ee el H2.2.2
            · rw [a4]; exact (m3_r (by decide)).trans (m3_r (by decide))
            · exact (uu R i (by omega)).trans (NW_no (by omega) (by omega))
            · rw [a4]; exact (m3_r (by decide)).trans (m3_r (by decide))
            · exact (uu R i (by omega)).trans (NW_no (by omega) (by omega))
            · exact (uu R i (by omega)).trans (NW_no (by omega) (by omega))
        · rw [a4]; exact (m3_r (by decide)).trans (m3_r (by decide))
      · refine Or.inr ⟨a4, ⟨c2, e3, by omega, (a5.1 10 0 3 (by omega)).trans ((m3_r (by decide)).trans e2)⟩, ⟨A + 1, X1, by omega⟩, fun R o i z => (a5.1 R o i (by omega)).trans (hF3 R o i z), hFG, fun R o i z => (a5.2 R o i (by omega)).trans (hU3 R o i z)⟩
  · refine ⟨m3 f2 19 A fi v, NW u2 kk p0 (nI (tS b N t)) p2 p3 0 gv, fun d g X => ed_exp E.m19 (by decide), fun d hd => ?_, Or.inr ⟨⟨p, w, E.m19, n12.trans y1, n13.trans y2⟩, ⟨c2, z1, z2, (m3_r (by decide)).trans z3⟩, ⟨A + 1, X1, by omega⟩, hF3, hFG, hU3⟩⟩
    obtain ⟨d, rfl⟩ : ∃ d', d = d' + 1 := ⟨d - 1, by omega⟩
    rw [rop, clI, if_neg (show ¬ (NW u2 kk p0 (nI (tS b N t)) p2 p3 0 gv) 22 0 12 = 0 by rw [n12, y1]; exact E.qn)]
end Lef
