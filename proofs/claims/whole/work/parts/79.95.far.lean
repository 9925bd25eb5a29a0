/-! ===== read: a ride, whole ===== -/
section Rd3
variable {L : Nat} {xs : Nat → Int32} {g g2 : MR} {X : ML × (Nat → Nat) × Nat × Nat} {Y : MR × ML × (Nat → Nat) × Nat × Nat} {N k t c q s kk A A0 cn n sl fl kd : Nat} {b : Nat → Nat} {sg : Nat → Int32} {f f2 u u2 : MI} {nt ns nn : Nat → Nat}
theorem kd_w : ∀ i, i < 51 → ¬ (36 ≤ i ∧ i ≤ 44) → (nI (301 + i) - 337 < 0 ∨ (¬ nI (301 + i) - 337 < 0 ∧ 8 < nI (301 + i) - 337)) ∧ (nI (wm i) < 23 ∨ (¬ nI (wm i) < 23 ∧ 31 < nI (wm i))) := by decide +kernel
theorem kd_y : ∀ j, j ≤ 8 → wm (36 + j) = 23 + j ∧ ¬ nI (337 + j) - 337 < 0 ∧ ¬ 8 < nI (337 + j) - 337 ∧ nI (337 + j) - 337 = nI j ∧ ¬ nI (23 + j) < 23 ∧ ¬ 31 < nI (23 + j) ∧ nI (23 + j) - 23 = nI j := by decide +kernel
theorem kd_s : ∀ c, c < 301 → nI c - 337 < 0 := by decide +kernel
theorem kd_tok (P : PX f u N k b sg t) : (∃ kd, kd ≤ 8 ∧ sg t = nI (337 + kd) ∧ u 22 0 7 = 1 ∧ u 22 0 11 = nI (23 + kd)) ∨ ((sg t - 337 < 0 ∨ (¬ sg t - 337 < 0 ∧ 8 < sg t - 337)) ∧ (¬ u 22 0 7 = 1 ∨ (u 22 0 7 = 1 ∧ (u 22 0 11 < 23 ∨ (¬ u 22 0 11 < 23 ∧ 31 < u 22 0 11))))) := by
  rcases P.tkk with ⟨h1, h2⟩ | ⟨h1, h2⟩ | ⟨h1, h2, -⟩ | ⟨h1, h2, h3⟩ | ⟨i, i1, h1, h2, h3⟩ | ⟨x, x1, h1, h2, h3⟩ | ⟨x, x1, h1, h2, h3⟩
  · exact Or.inr ⟨Or.inl (by rw [h1]; decide), Or.inl (by rw [h2]; decide)⟩
  · exact Or.inr ⟨Or.inl (by rw [h1]; decide), Or.inl (by rw [h2]; decide)⟩
  · exact Or.inr ⟨Or.inl (by rw [h1]; decide), Or.inl (by rw [h2]; decide)⟩
  · exact Or.inr ⟨Or.inl (by rw [h1]; decide), Or.inr ⟨h2, Or.inl (by rw [h3]; decide)⟩⟩
  · by_cases z : 36 ≤ i ∧ i ≤ 44
    · obtain ⟨j, rfl⟩ : ∃ j, i = 36 + j := ⟨i - 36, by omega⟩
      have hj := (kd_y j (by omega)).1
      refine Or.inl ⟨j, by omega, ?_, h2, ?_⟩
      · rw [h1]; congr 1; omega
      · rw [h3, hj]
    · obtain ⟨a1, a2⟩ := kd_w i i1 z
      exact Or.inr ⟨by rw [h1]; exact a1, Or.inr ⟨h2, by rw [h3]; exact a2⟩⟩
  · have := sgn_lt x1
    exact Or.inr ⟨Or.inl (by rw [h1]; exact kd_s x (by omega)), Or.inl (by rw [h2]; decide)⟩
  · have := jn_lt x1
    exact Or.inr ⟨Or.inl (by rw [h1]; exact kd_s (128 + x) (by omega)), Or.inl (by rw [h2]; decide)⟩
theorem NV_up {j : Nat} {x : Int32} (h : NV kd j x) : Upto x (mst j) := by
  cases hh : hasN kd j with
  | false => exact ⟨0, Nat.zero_le _, (h.2 hh).trans rfl⟩
  | true =>
    obtain ⟨v, v1, v2, v3⟩ := h.1 hh
    exact ⟨v, v2, v3⟩
theorem mk_RK (hn : n < 12) (hkd : kd ≤ 8) (kc : f 16 n 4 = nI kd) (kr : u 49 0 n = nI kd) (ac : f 16 n 5 = tabB 4 kd) (ix : f 16 n 0 = nI n) (hu : ∀ x, x < 6 → u (51 + x) 0 n = f 27 n x ∧ NV kd x (f 27 n x)) (t8 : kd = 8 → ∃ l : Nat, l < n ∧ g 16 n 6 = some l ∧ u 50 0 n = nI l) (tx : kd ≠ 8 → g 16 n 6 = none) : RK f g u n kd := by
  have h0 := hu 0 (by omega)
  have h1 := hu 1 (by omega)
  have h2 := hu 2 (by omega)
  have h3 := hu 3 (by omega)
  have h4 := hu 4 (by omega)
  have h5 := hu 5 (by omega)
  refine ⟨hn, hkd, kc, kr, ac, ix, h0.1.symm, h1.1.symm, h2.1.symm, h3.1.symm, h4.1.symm, h5.1.symm, t8, tx, ?_, ?_, ?_, ?_, ?_, ?_, fun h => ⟨?_, ?_⟩, fun h => ?_, fun h => ⟨?_, ?_⟩, fun h => ?_⟩
  · have := NV_up h0.2
    rw [← h0.1] at this
    exact this
  · have := NV_up h1.2
    rw [← h1.1] at this
    exact this
  · have := NV_up h2.2
    rw [← h2.1] at this
    exact this
  · have := NV_up h3.2
    rw [← h3.1] at this
    exact this
  · have := NV_up h4.2
    rw [← h4.1] at this
    exact this
  · have := NV_up h5.2
    rw [← h5.1] at this
    exact this
  · exact h0.1.trans (h0.2.2 h)
  · exact h1.1.trans (h1.2.2 h)
  · obtain ⟨v, v1, v2, v3⟩ := h1.2.1 h
    have e : u 52 0 n = nI v := h1.1.trans v3
    rw [e]
    have : v ≤ 50 := v2
    exact fun y => by have := (nI_eq (a := v) (b := 0) (by omega) (by decide)).mp y; omega
  · exact h2.1.trans (h2.2.2 h)
  · exact h3.1.trans (h3.2.2 h)
  · exact h5.1.trans (h5.2.2 h)
/-- behind a fault: the rest of a ride -/
theorem ed_161 {p0 q0 : Int32} (E : ED f p0 q0) (h4 : f 14 0 4 = nI cn) (hc : cn < 26) : ∃ f2 : Int32 → MI, (∀ d g X v3 v4 v5, 4 ≤ d → RL (mP L xs) d 82 161 [some (rv 12 (some 0)), some (iv (nI n)), some (rv 16 (some n)), some (iv v3), some (iv v4), some (iv v5)] [] (f, g, X) = some (.inl none, (f2 v3, m3 g 18 n 2 none, X))) ∧ (∀ v3, ED (f2 v3) p0 q0) := by
  have tn : ∀ v3 R x, R = 20 ∨ R = 34 ∨ R = 11 → m3 (m3 (m3 (m3 f 37 0 cn v3) 38 0 cn 2) 39 0 cn (nI n)) 14 0 4 (nI (cn + 1)) R 0 x = f R 0 x := fun v3 R x h => tell_no (by omega) (by omega)
  have hE : ∀ v3 v, ED (m3 (m3 (m3 (m3 (m3 (m3 f 37 0 cn v3) 38 0 cn 2) 39 0 cn (nI n)) 14 0 4 (nI (cn + 1))) 11 0 4 v) 12 0 6 0) p0 q0 := fun v3 v => E.fr ((m3_r (by decide)).trans ((m3_r (by decide)).trans (tn v3 20 5 (by omega)))) ((m3_r (by decide)).trans ((m3_r (by decide)).trans (tn v3 20 6 (by omega)))) ((m3_r (by decide)).trans ((m3_r (by decide)).trans (tn v3 20 7 (by omega)))) ((m3_r (by decide)).trans ((m3_r (by decide)).trans (tn v3 20 8 (by omega)))) ((m3_r (by decide)).trans ((m3_r (by decide)).trans (tn v3 34 4000 (by omega))))
  refine ⟨fun v3 => m3 (m3 (m3 (m3 (m3 (m3 f 37 0 cn v3) 38 0 cn 2) 39 0 cn (nI n)) 14 0 4 (nI (cn + 1))) 11 0 4 (f 11 0 4 + 1)) 12 0 6 0, fun d g X v3 v4 v5 hd => ?_, fun v3 => hE v3 _⟩
  obtain ⟨d, rfl⟩ : ∃ d', d = d' + 2 := ⟨d - 2, by omega⟩
  rw [K_FairReader_ride_161, c_tell h4 hc, clV, onS_s]
  have e11 : (m3 (m3 (m3 (m3 f 37 0 cn v3) 38 0 cn 2) 39 0 cn (nI n)) 14 0 4 (nI (cn + 1)), g, X).1 11 0 4 = f 11 0 4 := tn v3 11 4 (by omega)
  rw [e11, ed_block (hE v3 _), clR]
theorem ed_lead {p0 q0 : Int32} (E : ED f p0 q0) {d : Nat} {X : ML × (Nat → Nat) × Nat × Nat} : EL (mP L xs) (d + 3) 62 [rv 12 (some 0), rv 16 (some n)] (f, g, X) = some (.inl none, (f, g, X)) := by
  rw [E_FairReader_leader, ed_isWord E, clI, if_pos rfl, ed_ref E, clV]
theorem c_110e (hkd : kd ≤ 8) (h5 : f 16 n 5 = tabB 4 kd) {d : Nat} {v3 v4 : Int32} : RL (mP L xs) (d + 1) 82 110 (L82 n v3 v4 6) [] (f, g, X) = if kd = 8 then mclV (EL (mP L xs) (d + 1) 62 [rv 12 (some 0), rv 16 (some n)] (f, g, X)) (fun h4 => RL (mP L xs) (d + 1) 82 161 (L82 n v3 v4 6) [] h4) (fun e h => some (.inr e, h)) else RL (mP L xs) (d + 1) 82 161 (L82 n v3 v4 6) [] (f, g, X) := by
  obtain ⟨-, c2, -⟩ := c_has (L := L) (xs := xs) (d := d) (g := g) (X := X) (r := n) hkd h5
  unfold L82
  rw [K_FairReader_ride_110, if_neg (by decide), onS_s, c2, clI]
  by_cases h : kd = 8
  · subst h
    rw [if_pos rfl, if_neg (by decide)]
  · have : (kd == 8) = false := beq_eq_false_iff_ne.mpr h
    rw [if_neg h, this, if_pos (by decide)]
theorem ed_rdt {p0 q0 : Int32} (E : ED f p0 q0) (hkd : kd ≤ 8) (h5 : f 16 n 5 = tabB 4 kd) (h4 : f 14 0 4 = nI cn) (hc : cn < 26) : ∃ f2 : Int32 → MI, (∀ d g X v3 v4, 4 ≤ d → RL (mP L xs) d 82 110 (L82 n v3 v4 6) [] (f, g, X) = some (.inl none, (f2 v3, m3 g 18 n 2 none, X))) ∧ (∀ v3, ED (f2 v3) p0 q0) := by
  obtain ⟨f2, a1, a2⟩ := ed_161 (L := L) (xs := xs) (n := n) E h4 hc
  refine ⟨f2, fun d g X v3 v4 hd => ?_, a2⟩
  have h1 := a1 d g X v3 v4 6 hd
  obtain ⟨d, rfl⟩ : ∃ d', d = d' + 3 := ⟨d - 3, by omega⟩
  rw [c_110e hkd h5, ed_lead E, clV]
  by_cases h : kd = 8
  · rw [if_pos h]
    exact h1
  · rw [if_neg h]
    exact h1
theorem dc_ride (D : DX N k b sg cn nt ns nn n sl fl A0 f g u X t c q s kk A) (hs : sg t = 336) : ∃ f2 g2 u2 X2, (∀ d, 120 ≤ d → EL (mP L xs) d 82 [rv 12 (some 0)] (f, g, X) = some (.inl none, (f2, g2, X2))) ∧ (∀ d, 122 ≤ d → EL (mP L xs) d 127 [rv 22 (some 0)] (u, Y) = some (.inl none, (u2, Y))) ∧ DO N k b sg A0 X t A f2 g2 u2 X2 := by
  have P := D.gx.px
  have htk := P.tk
  have hkp := P.lc.kp
  have hcs := D.cs
  have hsl6 := D.sl6
  have hfl8 := D.fl8
  have hn12 := D.n12
  have hw := (tk_word P.tkk (j := 35) (by decide)).mp (show sg t = nI (301 + 35) from hs)
  have w7 : u 22 0 7 = 1 := hw.1
  have w11 : u 22 0 11 = 3 := hw.2
  have dbx : ∀ {f2 u2 : MI}, BAD f2 u2 → DB k t A X f2 u2 X := fun h => ⟨h, A, XR.rf D.xa, by omega⟩
  by_cases hn : n = 12
  · obtain ⟨f2, u2, a1, a2, a3, a4, a5⟩ := px_bad (L := L) (xs := xs) (Y := Y) P (q := 4) (by decide)
    refine ⟨f2, g, u2, X, fun d hd => ?_, fun d hd => ?_, Or.inr (dbx a3)⟩
    · obtain ⟨d, rfl⟩ : ∃ d', d = d' + 2 := ⟨d - 2, by omega⟩
      rw [E_FairReader_ride, if_neg (show ¬ (f, g, X).1 11 0 4 < 12 by
        show ¬ f 11 0 4 < 12
        rw [D.f4, hn]; decide), a1, clV]
    · obtain ⟨d, rfl⟩ : ∃ d', d = d' + 2 := ⟨d - 2, by omega⟩
      have e20 : u 22 0 20 = 12 := by rw [D.u20, hn]; rfl
      rw [P.bg] at a2
      rw [E_Ref_declaration]
      simp only [w7, w11, if_true, P.bg]
      rw [if_neg (by decide), if_neg (by decide), if_neg (by decide), if_neg (by decide), K_Ref_declaration_68, if_neg (by decide), if_pos rfl, if_pos (show (u, Y).1 22 0 20 = 12 from e20), a2, clV]
  · have hn' : n < 12 := by omega
    have hc26 : cn < 26 := by omega
    obtain ⟨b1, u1, b2, b3, b4⟩ := px_adv (L := L) (xs := xs) (Y := Y) P (by rw [hs]; decide) (by rw [hs]; decide)
    have e20 : u1 22 0 20 = nI n := (b3 22 0 20 (by omega)).trans D.u20
    have n20 : ¬ u 22 0 20 = 12 := by
      rw [D.u20]
      exact fun e => hn ((nI_eq (a := n) (b := 12) (by omega) (by decide)).mp e)
    have cU : ∀ d, 8 ≤ d → EL (mP L xs) (d + 1) 127 [rv 22 (some 0)] (u, Y) = mclV (EL (mP L xs) d 126 [rv 22 (some 0)] (u1, Y)) (fun h2 => some (.inl none, h2)) (fun e h => some (.inr e, h)) := fun d hd => by
      have h1 : EL (mP L xs) d 101 [rv 22 (some 0)] (u, Y) = some (.inl none, (u1, Y)) := EL_mono (by omega) b2
      rw [E_Ref_declaration]
      simp only [w7, w11, if_true]
      rw [if_neg (by decide), if_neg (by decide), if_neg (by decide), if_neg (by decide), K_Ref_declaration_68, if_neg (by decide), if_pos rfl, if_neg (show ¬ (u, Y).1 22 0 20 = 12 from n20), K_Ref_declaration_103, h1, clV, if_neg (by decide), if_neg (by decide), if_neg (by decide)]
    have f4' : (f, g, X).1 11 0 4 = nI n := D.f4
    have hlt : nI n < 12 := nI_lt (b := 12) hn' (by decide)
    have hin := nin hn' (show 12 < 2 ^ 31 by decide)
    have hcl := nI_clamp (show n < 2 ^ 31 by omega)
    have cC : ∀ d, EL (mP L xs) (d + 2) 82 [rv 12 (some 0)] (f, g, X) = mclI (EL (mP L xs) (d + 1) 52 [rv 14 (some 0)] (m3 f 20 0 6 (nI (t + 1)), g, X)) (fun x4 h3 => mclI (EL (mP L xs) (d + 1) 40 [rv 20 (some 0)] h3) (fun x6 h5 => if x6 - 337 < 0 then (mclV (EL (mP L xs) (d + 1) 41 [rv 20 (some 0), iv 1] h5) (fun h7 => some (.inl none, h7)) (fun e h => some (.inr e, h))) else (if 8 < x6 - 337 then (mclV (EL (mP L xs) (d + 1) 41 [rv 20 (some 0), iv 1] h5) (fun h10 => some (.inl none, h10)) (fun e h => some (.inr e, h))) else (mclV (EL (mP L xs) (d + 1) 42 [rv 20 (some 0)] h5) (fun h8 => mclV (EL (mP L xs) (d + 1) 57 [rv 16 (some n), iv (x6 - 337)] h8) (fun h9 => RL (mP L xs) (d + 1) 82 110 (L82 n x4 (x6 - 337) 0) [] h9) (fun e h => some (.inr e, h))) (fun e h => some (.inr e, h))))) (fun e h => some (.inr e, h))) (fun e h => some (.inr e, h)) := fun d => by
      rw [E_FairReader_ride]
      simp only [D.f4, if_pos hlt, if_neg hin, hcl]
      rw [b1, clV]
      rfl
    have M1 : NC (m3 f 20 0 6 (nI (t + 1))) k sg cn nt ns nn := D.gx.nc.fr (fun R o x h => m3_no (by omega))
    have Z1 : NU u1 N k b sg cn nt ns nn := D.gx.nz.fr (fun R o x h => b3 R o x (by omega))
    rcases px_new (L := L) (xs := xs) (Y := Y) b4 M1 Z1 hc26 (s := 2) (n := n) (by decide) (by omega) with ⟨u2, a1, a2, a3, a4, a5, a6⟩ | ⟨f2, u2, a1, a2, a3, a4⟩
    · have hk1 := b4.tk
      have a2' : ∀ d, 8 ≤ d → EL (mP L xs) d 105 [rv 22 (some 0), iv 3, iv (nI n)] (u1, Y) = some (.inl (some (iv 1)), (u2, Y)) := fun d hd => EL_mono hd a2
      have ab2 : R_abl u2 := by
        obtain ⟨b0, b1', b2', b3', b4', b5, b6, b7, b8⟩ := D.ab
        have e : ∀ j, u2 42 0 j = u 42 0 j := fun j => (a6 42 0 j (by omega)).trans (b3 42 0 j (by omega))
        exact ⟨(e 0).trans b0, (e 1).trans b1', (e 2).trans b2', (e 3).trans b3', (e 4).trans b4', (e 5).trans b5, (e 6).trans b6, (e 7).trans b7, (e 8).trans b8⟩
      rcases kd_tok a4 with ⟨kd, hkd, k1, k2, k3⟩ | ⟨k1, k2⟩
      · obtain ⟨y1, y2, y3, y4, y5, y6, y7⟩ := kd_y kd hkd
        have V2P : PX (m3 (m3 f 20 0 6 (nI (t + 1))) 20 0 6 (nI (t + 1 + 1))) (m3 u2 49 0 n (nI kd)) N k b sg (t + 1 + 1) := a4.fr (fun _ _ _ _ => rfl) (fun R o x h => m3_no (by omega))
        have kne : sg (t + 1 + 1) ≠ 0 ∧ sg (t + 1 + 1) ≠ 1 := by
          rw [k1]
          exact ⟨fun e => by have := (nI_eq (a := 337 + kd) (b := 0) (by omega) (by decide)).mp e; omega, fun e => by have := (nI_eq (a := 337 + kd) (b := 1) (by omega) (by decide)).mp e; omega⟩
        obtain ⟨d1, u3, d2, d3, d4⟩ := px_adv (L := L) (xs := xs) (Y := Y) V2P kne.1 kne.2
        have hk3 := d4.tk
        obtain ⟨v1, v2, v3⟩ := bec_v (f := m3 (m3 (m3 f 20 0 6 (nI (t + 1))) 20 0 6 (nI (t + 1 + 1))) 20 0 6 (nI (t + 1 + 1 + 1))) (n := n) (kd := kd)
        have cC2 : ∀ d, 10 ≤ d → EL (mP L xs) (d + 2) 82 [rv 12 (some 0)] (f, g, X) = RL (mP L xs) (d + 1) 82 110 (L82 n (nI (t + 1)) (nI kd) (nI 0)) [] (bec (m3 (m3 (m3 f 20 0 6 (nI (t + 1))) 20 0 6 (nI (t + 1 + 1))) 20 0 6 (nI (t + 1 + 1 + 1))) n kd, m3 g 16 n 6 none, X) := fun d hd => by
          obtain ⟨d, rfl⟩ : ∃ d', d = d' + 5 := ⟨d - 5, by omega⟩
          rw [cC, a1, clI, px_sort a4, clI, k1, if_neg y2, if_neg y3, d1, clV, y4, c_bec hkd, clV]
          rfl
        have cU2 : ∀ d, 10 ≤ d → EL (mP L xs) (d + 1) 126 [rv 22 (some 0)] (u1, Y) = (if abv kd &&& 1 = 0 then RL (mP L xs) d 126 103 (L126 n kd) [iv 0, iv (nI n), rv 51 (some 0)] (u3, Y) else mclI (EL (mP L xs) d 103 [rv 22 (some 0), iv 1, iv 500] (u3, Y)) (fun x7 h6 => RL (mP L xs) d 126 103 (L126 n kd) [iv x7, iv (nI n), rv 51 (some 0)] h6) (fun e h => some (.inr e, h))) := fun d hd => by
          have h1 : EL (mP L xs) d 101 [rv 22 (some 0)] (m3 u2 49 0 n (nI kd), Y) = some (.inl none, (u3, Y)) := EL_mono (by omega) d2
          have h2 := a2' d (by omega)
          have e49 : (m3 u2 49 0 n (nI kd)) 49 0 n = nI kd := m3_eq
          have e42 : (m3 u2 49 0 n (nI kd)) 42 0 kd = abv kd := (m3_r (by decide)).trans (abv_v ab2 hkd)
          rw [E_Ref_ride]
          simp only [e20, h2, clI]
          rw [if_neg (by decide)]
          simp only [k2, k3, if_true, if_neg y5, if_neg y6, if_neg hin, hcl, y7, e49, if_neg (nin (show kd < 9 by omega) (show 9 < 2 ^ 31 by decide)), nI_clamp (show kd < 2 ^ 31 by omega), e42, h1, clV]
          rfl
        generalize hf4 : bec (m3 (m3 (m3 f 20 0 6 (nI (t + 1))) 20 0 6 (nI (t + 1 + 1))) 20 0 6 (nI (t + 1 + 1 + 1))) n kd = f4 at v1 v2 v3 cC2
        have n4 : ∀ R o x, ¬ (R = 20 ∨ (R = 27 ∧ o = n) ∨ (R = 16 ∧ o = n ∧ (x = 4 ∨ x = 5))) → f4 R o x = f R o x := fun R o x h => by rw [← hf4, bec_no (by omega), m3_no (by omega), m3_no (by omega), m3_no (by omega)]
        have P4 : PX f4 u3 N k b sg (t + 1 + 1 + 1) := d4.fr (fun R o x h => by rw [← hf4]; exact bec_no (by omega)) (fun _ _ _ _ => rfl)
        have n3 : ∀ R o x, ¬ ((R = 22 ∧ ((6 ≤ x ∧ x ≤ 11) ∨ x = 18)) ∨ (45 ≤ R ∧ R ≤ 48) ∨ (R = 49 ∧ x = n)) → u3 R o x = u R o x := fun R o x h => (d3 R o x (by omega)).trans ((m3_no (by omega)).trans ((a6 R o x (by omega)).trans (b3 R o x (by omega))))
        have u349 : u3 49 0 n = nI kd := (d3 49 0 n (by omega)).trans m3_eq
        -- the first number
        obtain ⟨f5, u5, w0, e1, e2, e3, e4, e5, e6⟩ := nu_one (L := L) (xs := xs) (Y := Y) (n := n) (j := 0) hkd (by decide) P4 v2 (v3 0 (by decide))
        have hm := (hasN_ok kd hkd 0 (by decide)).1
        have cU3 : ∀ d, 10 ≤ d → EL (mP L xs) (d + 1) 126 [rv 22 (some 0)] (u1, Y) = RL (mP L xs) d 126 (pcj 0) (L126 n kd) [iv w0, iv (nI n), rv (51 + 0) (some 0)] (u5, Y) := fun d hd => by
          rw [cU2 d hd]
          cases hh : hasN kd 0 with
          | false =>
            obtain ⟨z1, z2⟩ := e3 hh
            rw [if_pos (show abv kd &&& 1 = 0 from hm.mpr hh), z1, z2]
            rfl
          | true =>
            have h1 : EL (mP L xs) d 103 [rv 22 (some 0), iv 1, iv 500] (u3, Y) = some (.inl (some (iv w0)), (u5, Y)) := e2 hh d (by omega)
            rw [if_neg (show ¬ abv kd &&& 1 = 0 from fun e => by have := hm.mp e; rw [hh] at this; cases this), h1, clI]
            rfl
        have cU4 : ∀ d, 12 ≤ d → EL (mP L xs) (d + 2) 127 [rv 22 (some 0)] (u, Y) = mclV (RL (mP L xs) d 126 (pcj 0) (L126 n kd) [iv w0, iv (nI n), rv (51 + 0) (some 0)] (u5, Y)) (fun h2 => some (.inl none, h2)) (fun e h => some (.inr e, h)) := fun d hd => by
          rw [cU (d + 1) (by omega), cU3 d (by omega)]
        have n14 : f4 14 0 4 = nI cn := (n4 14 0 4 (by omega)).trans D.gx.nc.cc
        rcases e6 with ⟨t5, g1, P5, g3, g4⟩ | B
        · obtain ⟨f6, u6, h1, h2, h3, h4⟩ := nu_loop (L := L) (xs := xs) (Y := Y) hn' hkd 5 0 t5 f5 u5 w0 rfl P5 ((e4 16 n 5 (by omega)).trans v2) g3 g4 (fun x hx => absurd hx (Nat.not_lt_zero x)) (fun x x1 x2 => (e4 27 n x (by omega)).trans (v3 x x2))
          have n6 : ∀ R o x, ¬ (R = 20 ∨ R = 34 ∨ (R = 27 ∧ o = n) ∨ (R = 16 ∧ o = n ∧ (x = 4 ∨ x = 5))) → f6 R o x = f R o x := fun R o x h => (h2 R o x (by omega)).trans ((e4 R o x (by omega)).trans (n4 R o x (by omega)))
          have x5 : f6 16 n 5 = tabB 4 kd := (h2 16 n 5 (by omega)).trans ((e4 16 n 5 (by omega)).trans v2)
          have x4 : f6 16 n 4 = nI kd := (h2 16 n 4 (by omega)).trans ((e4 16 n 4 (by omega)).trans v1)
          have cC3 : ∀ d, 10 ≤ d → EL (mP L xs) (d + 2) 82 [rv 12 (some 0)] (f, g, X) = RL (mP L xs) (d + 1) 82 110 (L82 n (nI (t + 1)) (nI kd) 6) [] (f6, m3 g 16 n 6 none, X) := fun d hd => by
            rw [cC2 d hd, e1 _ _ _ _ _ (by omega)]
            exact h1 (d + 1) _ _ _ _ (by omega)
          have m6 : ∀ R o x, ¬ ((R = 22 ∧ ((6 ≤ x ∧ x ≤ 13) ∨ x = 18)) ∨ (45 ≤ R ∧ R ≤ 48) ∨ (49 ≤ R ∧ R ≤ 56 ∧ x = n)) → u6 R o x = u R o x := fun R o x h => (h3 R o x (by omega)).trans ((e5 R o x (by omega)).trans (n3 R o x (by omega)))
          have u649 : u6 49 0 n = nI kd := (h3 49 0 n (by omega)).trans ((e5 49 0 n (by omega)).trans u349)
          rcases h4 with ⟨t6, w5, i1, i2, P6, i4, i5, i6⟩ | ⟨-, u7, i1, i2⟩
          · generalize hu7 : m3 (m3 u6 56 0 n w5) 50 0 n (-1) = u7
            have m7 : ∀ R o x, ¬ ((R = 56 ∨ R = 50) ∧ x = n) → u7 R o x = u6 R o x := fun R o x h => by rw [← hu7, m3_no (by omega), m3_no (by omega)]
            have P7 : PX f6 u7 N k b sg t6 := P6.fr (fun _ _ _ _ => rfl) (fun R o x h => m7 R o x (by omega))
            have u7x : ∀ x, x < 6 → u7 (51 + x) 0 n = f6 27 n x ∧ NV kd x (f6 27 n x) := fun x hx => by
              by_cases y : x = 5
              · subst y
                rw [i4]
                refine ⟨?_, i5⟩
                rw [← hu7, m3_r (by decide)]
                exact m3_eq
              · rw [m7 (51 + x) 0 n (by omega)]
                exact i6 x (by omega)
            have K257 : ∀ d, RL (mP L xs) d 126 257 (L126 n kd) [iv w5, iv (nI n), rv 56 (some 0)] (u6, Y) = if kd = 8 then mclV (EL (mP L xs) d 107 [rv 22 (some 0), iv (nI n)] (u7, Y)) (fun h1 => RL (mP L xs) d 126 288 (L126 n kd) [] h1) (fun e h => some (.inr e, h)) else RL (mP L xs) d 126 288 (L126 n kd) [] (u7, Y) := fun d => by
              have e49 : u7 49 0 n = nI kd := (m7 49 0 n (by omega)).trans u649
              unfold L126
              rw [K_Ref_ride_257]
              simp only [if_neg hin, hcl, hu7, P7.fu, if_true, e49]
              by_cases h : kd = 8
              · subst h
                rw [if_pos (show nI 8 = 8 from rfl), if_pos rfl]
              · rw [if_neg h, if_neg (show ¬ nI kd = 8 from fun e => h ((nI_eq (a := kd) (b := 8) (by omega) (by decide)).mp e))]
            have Z7 : NU u7 N k b sg (cn + 1) (ext nt cn (t + 1)) (ext ns cn 2) (ext nn cn n) := a5.fr (fun R o x h => by
              rw [m7 R o x (by omega), h3 R o x (by omega), e5 R o x (by omega), d3 R o x (by omega), m3_no (by omega)])
            have m7' : ∀ R o x, ¬ ((R = 22 ∧ ((6 ≤ x ∧ x ≤ 13) ∨ x = 18)) ∨ (45 ≤ R ∧ R ≤ 48) ∨ (49 ≤ R ∧ R ≤ 56 ∧ x = n)) → u7 R o x = u R o x := fun R o x h => (m7 R o x (by omega)).trans (m6 R o x h)
            by_cases h8 : kd = 8
            · have M6 : NC f6 k sg cn nt ns nn := D.gx.nc.fr (fun R o x h => n6 R o x (by omega))
              have ab7 : R_abl u7 := by
                obtain ⟨b0, b1', b2', b3', b4', b5, b6, b7, b8⟩ := D.ab
                have e : ∀ j, u7 42 0 j = u 42 0 j := fun j => m7' 42 0 j (by omega)
                exact ⟨(e 0).trans b0, (e 1).trans b1', (e 2).trans b2', (e 3).trans b3', (e 4).trans b4', (e 5).trans b5, (e 6).trans b6, (e 7).trans b7, (e 8).trans b8⟩
              obtain ⟨f8, g8, u8, j1, j2, j3, j4, j5, j6⟩ := ld_one (L := L) (xs := xs) (Y := Y) (g := m3 g 16 n 6 none) hn' P7 M6 Z7 D.hr ab7 (fun r hr => by
                obtain ⟨kd', K'⟩ := D.rk r hr
                refine ⟨kd', K'.kl, (n6 16 r 5 (by omega)).trans K'.ac, (m7' 49 0 r (by omega)).trans K'.kr⟩)
              have cC4 : ∀ d, 12 ≤ d → EL (mP L xs) (d + 2) 82 [rv 12 (some 0)] (f, g, X) = RL (mP L xs) (d + 1) 82 161 (L82 n (nI (t + 1)) (nI kd) 6) [] (f8, g8, X) := fun d hd => by
                rw [cC3 d (by omega), c_110e hkd x5, if_pos h8, j1 (d + 1) X (by omega), clV]
              have cU5 : ∀ d, 12 ≤ d → EL (mP L xs) (d + 2) 127 [rv 22 (some 0)] (u, Y) = mclV (RL (mP L xs) d 126 288 (L126 n kd) [] (u8, Y)) (fun h2 => some (.inl none, h2)) (fun e h => some (.inr e, h)) := fun d hd => by
                rw [cU4 d hd, i2 d (by omega), K257, if_pos h8, j2 d (by omega), clV]
              rcases j6 with ⟨l, l1, P8, l2, l3⟩ | B
              · have K8 : RK f8 g8 u8 n kd := by
                  refine mk_RK hn' hkd ((j3 16 n 4 (by omega)).trans x4) ?_ ((j3 16 n 5 (by omega)).trans x5) ?_ (fun x hx => ?_) (fun _ => ⟨l, l1, l2, l3⟩) (fun h => absurd h8 h)
                  · rw [j5 49 0 n (by omega), m7 49 0 n (by omega)]; exact u649
                  · rw [j3 16 n 0 (by omega), n6 16 n 0 (by omega)]; exact D.ix n hn'
                  · rw [j5 (51 + x) 0 n (by omega), j3 27 n x (by omega)]
                    exact u7x x hx
                obtain ⟨f9, g9, u9, X9, o1, o2, o3⟩ := rd_blk (L := L) (xs := xs) (Y := Y) (tk := t + 1) D hn' P8 (by omega) a3 (by omega) K8 (Z7.fr (fun R o x h => j5 R o x (by omega))) (fun R o x h => (j3 R o x (by omega)).trans (n6 R o x (by omega))) (fun R o x h => (j4 R o x h).trans (m3_no h)) (fun R o x h => (j5 R o x (by omega)).trans (m7' R o x h))
                refine ⟨f9, g9, u9, X9, fun d hd => ?_, fun d hd => ?_, o3⟩
                · obtain ⟨d, rfl⟩ : ∃ d', d = d' + 2 := ⟨d - 2, by omega⟩
                  rw [cC4 d (by omega)]
                  exact o1 (d + 1) _ _ (by omega)
                · obtain ⟨d, rfl⟩ : ∃ d', d = d' + 2 := ⟨d - 2, by omega⟩
                  have := o2 d (abv kd) (by omega)
                  rw [cU5 d (by omega)]
                  unfold L126
                  rw [this, clV]
              · obtain ⟨p, w, E, y1', y2'⟩ := B
                obtain ⟨f9, o1, o2⟩ := ed_161 (L := L) (xs := xs) (n := n) (cn := cn) E ((j3 14 0 4 (by omega)).trans ((n6 14 0 4 (by omega)).trans D.gx.nc.cc)) hc26
                refine ⟨f9 (nI (t + 1)), m3 g8 18 n 2 none, u8, X, fun d hd => ?_, fun d hd => ?_, Or.inr (dbx ⟨p, w, o2 _, y1', y2'⟩)⟩
                · obtain ⟨d, rfl⟩ : ∃ d', d = d' + 2 := ⟨d - 2, by omega⟩
                  rw [cC4 d (by omega)]
                  exact o1 (d + 1) g8 X _ _ _ (by omega)
                · obtain ⟨d, rfl⟩ : ∃ d', d = d' + 2 := ⟨d - 2, by omega⟩
                  rw [cU5 d (by omega)]
                  unfold L126
                  rw [r_288e (by rw [y1']; exact E.qn), clV]
            · have K8 : RK f6 (m3 g 16 n 6 none) u7 n kd := by
                refine mk_RK hn' hkd x4 ?_ x5 ?_ u7x (fun h => absurd h h8) (fun _ => m3_eq)
                · rw [m7 49 0 n (by omega)]; exact u649
                · rw [n6 16 n 0 (by omega)]; exact D.ix n hn'
              obtain ⟨f9, g9, u9, X9, o1, o2, o3⟩ := rd_blk (L := L) (xs := xs) (Y := Y) (tk := t + 1) D hn' P7 (by omega) a3 (by omega) K8 Z7 (fun R o x h => n6 R o x (by omega)) (fun R o x h => m3_no h) m7'
              refine ⟨f9, g9, u9, X9, fun d hd => ?_, fun d hd => ?_, o3⟩
              · obtain ⟨d, rfl⟩ : ∃ d', d = d' + 2 := ⟨d - 2, by omega⟩
                rw [cC3 d (by omega), c_110e hkd x5, if_neg h8]
                exact o1 (d + 1) _ _ (by omega)
              · obtain ⟨d, rfl⟩ : ∃ d', d = d' + 2 := ⟨d - 2, by omega⟩
                have := o2 d (abv kd) (by omega)
                rw [cU4 d (by omega), i2 d (by omega), K257, if_neg h8]
                unfold L126
                rw [this, clV]
          · obtain ⟨p, w, E, y1', y2'⟩ := i2
            obtain ⟨f9, o1, o2⟩ := ed_rdt (L := L) (xs := xs) (n := n) (cn := cn) E hkd x5 ((n6 14 0 4 (by omega)).trans D.gx.nc.cc) hc26
            refine ⟨f9 (nI (t + 1)), m3 (m3 g 16 n 6 none) 18 n 2 none, u7, X, fun d hd => ?_, fun d hd => ?_, Or.inr (dbx ⟨p, w, o2 _, y1', y2'⟩)⟩
            · obtain ⟨d, rfl⟩ : ∃ d', d = d' + 2 := ⟨d - 2, by omega⟩
              rw [cC3 d (by omega)]
              exact o1 (d + 1) _ X _ _ (by omega)
            · obtain ⟨d, rfl⟩ : ∃ d', d = d' + 2 := ⟨d - 2, by omega⟩
              rw [cU4 d (by omega), i1 d (by omega), clV]
        · obtain ⟨p, w, E, y1', y2'⟩ := B
          have x5 : f5 16 n 5 = tabB 4 kd := (e4 16 n 5 (by omega)).trans v2
          obtain ⟨f6, h1, h2, h3⟩ := ed_nums (L := L) (xs := xs) (n := n) hkd 5 1 f5 rfl E x5
          obtain ⟨u7, i1, i2⟩ := rb_nums (L := L) (xs := xs) (Y := Y) (kd := kd) hn' 5 0 w0 u5 rfl (by rw [y1']; exact E.qn)
          obtain ⟨f9, o1, o2⟩ := ed_rdt (L := L) (xs := xs) (n := n) (cn := cn) h2 hkd ((h3 16 n 5 (by omega)).trans x5) ((h3 14 0 4 (by omega)).trans ((e4 14 0 4 (by omega)).trans n14)) hc26
          refine ⟨f9 (nI (t + 1)), m3 (m3 g 16 n 6 none) 18 n 2 none, u7, X, fun d hd => ?_, fun d hd => ?_, Or.inr (dbx ⟨p, w, o2 _, (i2 22 0 12 (by omega)).trans y1', (i2 22 0 13 (by omega)).trans y2'⟩)⟩
          · obtain ⟨d, rfl⟩ : ∃ d', d = d' + 2 := ⟨d - 2, by omega⟩
            rw [cC2 d (by omega), e1 _ _ _ _ _ (by omega)]
            refine Eq.trans (h1 (d + 1) _ _ _ _ (by omega)) ?_
            exact o1 (d + 1) _ X _ _ (by omega)
          · obtain ⟨d, rfl⟩ : ∃ d', d = d' + 2 := ⟨d - 2, by omega⟩
            rw [cU4 d (by omega), i1 d, clV]
      · obtain ⟨f3, u3, c1, c2, c3, c4, c5⟩ := px_bad (L := L) (xs := xs) (Y := Y) a4 (q := 1) (by decide)
        refine ⟨f3, g, u3, X, fun d hd => ?_, fun d hd => ?_, Or.inr (dbx c3)⟩
        · obtain ⟨d, rfl⟩ : ∃ d', d = d' + 7 := ⟨d - 7, by omega⟩
          rw [cC, a1, clI, px_sort a4, clI]
          rcases k1 with k1 | ⟨k1, k1'⟩
          · rw [if_pos k1, c1, clV]
          · rw [if_neg k1, if_pos k1', c1, clV]
        · obtain ⟨d, rfl⟩ : ∃ d', d = d' + 3 := ⟨d - 3, by omega⟩
          rw [cU (d + 2) (by omega), E_Ref_ride]
          have h2 := a2' (d + 1) (by omega)
          simp only [e20, h2, clI]
          rw [if_neg (by decide)]
          rcases k2 with k2 | ⟨k2, k3 | ⟨k3, k4⟩⟩
          · simp only [if_neg k2, c2, clV]
          · simp only [k2, if_true, if_pos k3, c2, clV]
          · simp only [k2, if_true, if_neg k3, if_pos k4, c2, clV]
    · obtain ⟨p, w, E, y1', y2'⟩ := a3
      refine ⟨f2, g, u2, X, fun d hd => ?_, fun d hd => ?_, Or.inr (dbx ⟨p, w, E, y1', y2'⟩)⟩
      · obtain ⟨d, rfl⟩ : ∃ d', d = d' + 7 := ⟨d - 7, by omega⟩
        rw [cC, a1, clI, ed_sort E, clI, if_pos (by decide), ed_ref E, clV]
      · obtain ⟨d, rfl⟩ : ∃ d', d = d' + 2 := ⟨d - 2, by omega⟩
        have h2 : EL (mP L xs) d 105 [rv 22 (some 0), iv 3, iv (nI n)] (u1, Y) = some (.inl (some (iv 0)), (u2, Y)) := EL_mono (by omega) a2
        rw [cU (d + 1) (by omega), E_Ref_ride]
        simp only [e20, h2, clI, if_true, clV]
end Rd3
