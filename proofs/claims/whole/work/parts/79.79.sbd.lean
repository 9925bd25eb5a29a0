/-! ===== read: a block; a step with a fault ===== -/
section Sbd
variable {L : Nat} {xs : Nat → Int32} {Y : MR × ML × (Nat → Nat) × Nat × Nat} {N k t c q s kk st A cn sl fl r kd m : Nat} {b : Nat → Nat} {sg : Nat → Int32} {f f2 u u2 : MI} {g g2 : MR} {X X2 : ML × (Nat → Nat) × Nat × Nat} {nt ns nn : Nat → Nat} {o gd l : Option Nat} {gv lv : Int32}
theorem dep_v : ∀ m, m ≤ 9 → ¬ (10 : Int32) < nI (m + 1) := by decide +kernel
theorem ex_blk (IH : ∀ t1, t < t1 → STEPs L xs Y N k b sg cn nt ns nn sl fl r kd t1) : BLKs L xs Y N k b sg cn nt ns nn sl fl r kd t := by
  intro m o gd l gv lv f g u X c q s kk st A hm H hA hch hl hlv
  have P := H.gx.px
  have htk := P.tk
  have hkp := P.lc.kp
  have hcl := H.gx.cl
  have isg : ∀ d, EL (mP L xs) (d + 1) 108 [rv 22 (some 0), iv 123] (u, Y) = some (.inl (some (iv (if sg t = 123 then 1 else 0))), (u, Y)) := fun d => px_isSign (L := L) (xs := xs) (d := d) (Y := Y) P (c := 123) (by decide) (by decide)
  have bad : ∀ (q1 : Int32), q1 ≠ 0 → ∃ f2 u2, (∀ d g X, EL (mP L xs) (d + 1) 41 [rv 20 (some 0), iv q1] (f, g, X) = some (.inl none, (f2, g, X))) ∧ (∀ d, EL (mP L xs) (d + 1) 102 [rv 22 (some 0), iv q1, iv (u 22 0 8)] (u, Y) = some (.inl none, (u2, Y))) ∧ ¬ u2 22 0 12 = 0 ∧ SB k t c q s kk A none f g u X f2 g u2 X := fun q1 hq => by
    obtain ⟨f2, u2, a1, a2, a3, a4, a5⟩ := px_bad (L := L) (xs := xs) (Y := Y) P hq
    exact ⟨f2, u2, a1, a2, by rw [a5]; exact hq, ⟨a3, ⟨c, Nat.le_refl c, by omega, (a4.1 10 0 3 (by omega)).trans H.gx.cc⟩, ⟨A, XR.rf hA, by omega⟩, FrK.oc (FrC.b6 a4), FrG.rf, FrU.b6 a4⟩⟩
  by_cases z : sg t = 123
  · by_cases y : m = 10
    · subst y
      obtain ⟨f2, u2, a1, a2, a3, a4⟩ := bad 4 (by decide)
      refine ⟨f2, g, u2, X, none, 0, fun d hd => ?_, fun d hd => ?_, Or.inr ⟨rfl, a4⟩⟩
      · obtain ⟨d, rfl⟩ : ∃ d', d = d' + 2 := ⟨d - 2, by omega⟩
        rw [E_FairReader_block, px_sort P, clI, if_pos z, if_pos (by decide), a1, clV]
      · obtain ⟨d, rfl⟩ : ∃ d', d = d' + 2 := ⟨d - 2, by omega⟩
        rw [E_Ref_block, isg, clI, if_pos z, if_neg (by decide), if_pos (by decide), a2, clV, if_neg a3]
    · obtain ⟨b1, u1, b2, b3, b4⟩ := px_adv (L := L) (xs := xs) (Y := Y) P (by rw [z]; decide) (by rw [z]; decide)
      have nd := dep_v m (by omega)
      obtain ⟨f2, g2, u2, X2, nx, w, d1, d2, d3⟩ := bl_loop (L := L) (xs := xs) (Y := Y) (gd := gd) (gv := gv) (m := m) (by omega) hlv (t0 := t) IH k (t + 1) 0 (m3 f 20 0 6 (nI (t + 1))) g u1 X c q s kk st A none none (by omega) (by omega) (by omega) (H.adv b4 b3) hA (hch.fr (Nat.le_refl A) (fun a ha => ⟨m3_r (by decide), rfl⟩)) ((b3 22 0 54 (by omega)).trans hl) (fun _ => rfl) (fun j hj => (by cases hj))
      refine ⟨f2, g2, u2, X2, nx, w, fun d hd => ?_, fun d hd => ?_, ?_⟩
      · have h1 := d1 (d - 1) none (by omega)
        obtain ⟨d, rfl⟩ : ∃ d', d = d' + 2 := ⟨d - 2, by omega⟩
        rw [E_FairReader_block, px_sort P, clI, if_pos z, if_neg nd, b1, clV]
        exact h1
      · have h1 := d2 (d - 1) (by omega)
        have h2 : EL (mP L xs) (d - 1) 101 [rv 22 (some 0)] (u, Y) = some (.inl none, (u1, Y)) := EL_mono (by omega) b2
        obtain ⟨d, rfl⟩ : ∃ d', d = d' + 2 := ⟨d - 2, by omega⟩
        have h2' : EL (mP L xs) (d + 1) 101 [rv 22 (some 0)] (u, Y) = some (.inl none, (u1, Y)) := h2
        rw [E_Ref_block, isg, clI, if_pos z, if_neg (by decide), if_neg nd, if_pos P.fu, h2', clV]
        exact h1
      · have hF : FrK c A f (m3 f 20 0 6 (nI (t + 1))) := FrK.oc FrC.at6
        have hU : FrU q s kk u u1 := FrU.f6 b3
        rcases d3 with ⟨hw, t', c', q', s', kk', st', A', K⟩ | ⟨hw, K⟩
        · exact Or.inl ⟨hw, t', c', q', s', kk', st', A', ⟨K.tt, K.sx, K.xr, K.al, K.mo, K.kb, hF.tr K.fc (Nat.le_refl c) (Nat.le_refl A), K.fg, hU.tr K.fu (Nat.le_refl q) (Nat.le_refl s) (Nat.le_refl kk), K.lv, K.nx, K.sm, fun nm => K.nm (NMI_cg nm (fun i _ => m3_r (by decide)) (fun R i hR _ => b3 R 0 i (by omega)))⟩⟩
        · obtain ⟨A2, x1, x2⟩ := K.xr
          exact Or.inr ⟨hw, ⟨K.bd, K.cc, ⟨A2, x1, by omega⟩, hF.tr K.fc (Nat.le_refl c) (Nat.le_refl A), K.fg, hU.tr K.fu (Nat.le_refl q) (Nat.le_refl s) (Nat.le_refl kk)⟩⟩
  · obtain ⟨f2, u2, a1, a2, a3, a4⟩ := bad 1 (by decide)
    refine ⟨f2, g, u2, X, none, 0, fun d hd => ?_, fun d hd => ?_, Or.inr ⟨rfl, a4⟩⟩
    · obtain ⟨d, rfl⟩ : ∃ d', d = d' + 2 := ⟨d - 2, by omega⟩
      rw [E_FairReader_block, px_sort P, clI, if_neg z, a1, clV]
    · obtain ⟨d, rfl⟩ : ∃ d', d = d' + 2 := ⟨d - 2, by omega⟩
      rw [E_Ref_block, isg, clI, if_neg z, if_pos rfl, a2, clV, if_neg a3]
/-- the class's step behind its fault -/
theorem ed_138 {p0 q0 : Int32} {a : Nat} (E : ED f p0 q0) (hc : f 10 0 3 = nI c) (hl : c ≤ 4001) (hA : X.2.1 19 = A) (ha : a < A) (v5 v6 : Int32) : ∃ f2 g2 X2 A2, (∀ d v1 v2 v3 v4 v7, 12 ≤ d → RL (mP L xs) d 80 138 [some (rv 12 (some 0)), some (iv v1), some (rv 19 v2), some (rv 19 v3), some (rv 16 v4), some (iv v5), some (iv v6), some (iv v7), some (rv 19 (some a))] [] (f, g, X) = some (.inl (some (rv 19 (some a))), (f2, g2, X2))) ∧ ED f2 p0 q0 ∧ (∃ c2 : Nat, c ≤ c2 ∧ c2 ≤ 4001 ∧ f2 10 0 3 = nI c2) ∧ XR A A2 X X2 ∧ A2 ≤ A + 1 ∧ FrK c a f f2 ∧ FrG a none g g2 := by
  have E1 : ED (m3 f 12 0 6 (f 12 0 6 + 1)) p0 q0 := E.fr (m3_r (by decide)) (m3_r (by decide)) (m3_r (by decide)) (m3_r (by decide)) (m3_r (by decide))
  by_cases z : v6 = 0
  · obtain ⟨f2, g2, X2, A2, a1, a2, a3, a4, a5, a6, a7⟩ := ed_rest (L := L) (xs := xs) (g := g) (c := c) E1 ((m3_r (by decide)).trans hc) hl hA ha
    refine ⟨f2, g2, X2, A2, fun d v1 v2 v3 v4 v7 hd => ?_, a2, a3, a4, a5, fun R o i y => (a6 R o i y).trans (m3_no (by omega)), a7⟩
    have h1 := a1 d v1 v4 (by omega)
    obtain ⟨d, rfl⟩ : ∃ d', d = d' + 1 := ⟨d - 1, by omega⟩
    rw [K_FairReader_step_138, ed_adv E1, clV, if_pos z, h1, clV]
  · obtain ⟨f2, g2, X2, A2, a1, a2, a3, a4, a5, a6, a7⟩ := ed_rest (L := L) (xs := xs) (g := g) (c := c) (E1.m19 (a := a) (i := 5) (v := v5 - 320)) ((m3_r (by decide)).trans ((m3_r (by decide)).trans hc)) hl hA ha
    refine ⟨f2, g2, X2, A2, fun d v1 v2 v3 v4 v7 hd => ?_, a2, a3, a4, a5, fun R o i y => (a6 R o i y).trans ((m3_no (by omega)).trans (m3_no (by omega))), a7⟩
    have h1 := a1 d v1 v4 (by omega)
    obtain ⟨d, rfl⟩ : ∃ d', d = d' + 2 := ⟨d - 2, by omega⟩
    rw [K_FairReader_step_138, ed_adv E1, clV, if_neg z, onS_s, ed_exp E1.m19 (by decide), clV, h1, clV]
theorem PX.nf {a : Nat} {kd pl : Int32} (P : PX f u N k b sg t) : PX (NF f a kd pl) u N k b sg t := P.fr (fun R o i z => NF_o (by omega)) (fun _ _ _ _ => rfl)
/-- a step that is refused at its word -/
theorem st_bad (H : SX N k b sg cn nt ns nn sl fl r kd f u t c q s kk st) (hA : X.2.1 19 = A) {q1 : Int32} (hq : q1 ≠ 0) (w0 v5 v6 : Int32) : ∃ f2 g2 u2 X2, (∀ d v1 v4, 13 ≤ d → mclV (EL (mP L xs) d 41 [rv 20 (some 0), iv q1] (NF f A w0 (nI (tS b N t)), NG g A o gd, NX X A)) (fun h4 => RL (mP L xs) d 80 138 [some (rv 12 (some 0)), some (iv v1), some (rv 19 o), some (rv 19 gd), some (rv 16 v4), some (iv v5), some (iv v6), some (iv w0), some (rv 19 (some A))] [] h4) (fun e h => some (.inr e, h)) = some (.inl (some (rv 19 (some A))), (f2, g2, X2))) ∧ (∀ d, EL (mP L xs) (d + 1) 102 [rv 22 (some 0), iv q1, iv (u 22 0 8)] (u, Y) = some (.inl none, (u2, Y))) ∧ ¬ u2 22 0 12 = 0 ∧ SB k t c q s kk A none f g u X f2 g2 u2 X2 := by
  have P := H.gx.px
  have htk := P.tk
  have hkp := P.lc.kp
  have hcl := H.gx.cl
  obtain ⟨f1, u2, a1, a2, a3, a4, a5⟩ := px_bad (L := L) (xs := xs) (Y := Y) (P.nf (a := A) (kd := w0) (pl := nI (tS b N t))) hq
  obtain ⟨p0, q0, E, y1, y2⟩ := a3
  have hc1 : f1 10 0 3 = nI c := (a4.1 10 0 3 (by omega)).trans ((NF_o (by omega)).trans H.gx.cc)
  have X1 := XR.new hA
  obtain ⟨f2, g2, X2, A2, b1, b2, b3, b4, b5, b6, b7⟩ := ed_138 (L := L) (xs := xs) (g := NG g A o gd) (X := NX X A) (a := A) E hc1 (by omega) X1.c1 (by omega) v5 v6
  refine ⟨f2, g2, u2, X2, fun d v1 v4 hd => ?_, a2, by rw [a5]; exact hq, ⟨⟨p0, q0, b2, y1, y2⟩, b3, ⟨A2, X1.tr b4, by omega⟩, fun R o i z => (b6 R o i z).trans ((a4.1 R o i (by omega)).trans (NF_o (by omega))), fun R o i z => (b7 R o i (fun w => z ⟨w.1, w.2⟩)).trans (NG_o (fun w => z ⟨w.1, Or.inl (by omega)⟩)), FrU.b6 a4⟩⟩
  have h1 := b1 d v1 o gd v4 w0 (by omega)
  obtain ⟨d, rfl⟩ : ∃ d', d = d' + 1 := ⟨d - 1, by omega⟩
  rw [a1, clV, h1]
end Sbd
