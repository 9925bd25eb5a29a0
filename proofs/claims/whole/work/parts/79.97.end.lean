/-! ===== read: all declarations; the text's end ===== -/
section Far
variable {L : Nat} {xs : Nat → Int32} {g g2 : MR} {X : ML × (Nat → Nat) × Nat × Nat} {Y : MR × ML × (Nat → Nat) × Nat × Nat} {N k t c q s kk A A0 cn n sl fl : Nat} {b : Nat → Nat} {sg : Nat → Int32} {f f2 u u2 : MI} {nt ns nn : Nat → Nat}
theorem wm_d : ∀ i, i < 51 → (i < 32 ∨ 35 < i) → ¬ nI (wm i) < 0 ∧ 3 < nI (wm i) := by decide +kernel
theorem dc_all (D : DX N k b sg cn nt ns nn n sl fl A0 f g u X t c q s kk A) (h0 : sg t ≠ 0) {i : Nat} (hi : i < 4000) : ∃ f2 g2 u2 X2, (∀ d v1, 121 ≤ d → RL (mP L xs) d 86 36 [some (rv 12 (some 0)), some (iv v1), some (iv (nI i))] [] (f, g, X) = RL (mP L xs) d 86 36 [some (rv 12 (some 0)), some (iv v1), some (iv (nI (i + 1)))] [] (f2, g2, X2)) ∧ (∀ d, 122 ≤ d → EL (mP L xs) d 127 [rv 22 (some 0)] (u, Y) = some (.inl none, (u2, Y))) ∧ DO N k b sg A0 X t A f2 g2 u2 X2 := by
  have P := D.gx.px
  have htk := P.tk
  have hlt : nI i < 4000 := nI_lt (b := 4000) hi (by decide)
  have key : ∀ d v1, RL (mP L xs) (d + 1) 86 36 [some (rv 12 (some 0)), some (iv v1), some (iv (nI i))] [] (f, g, X) = (if sg t = 333 then (mclV (EL (mP L xs) (d + 1) 47 [rv 12 (some 0)] (f, g, X)) (fun h9 => RL (mP L xs) (d + 1) 86 36 [some (rv 12 (some 0)), some (iv v1), some (iv (nI (i + 1)))] [] h9) (fun e h => some (.inr e, h))) else (if sg t = 334 then (mclV (EL (mP L xs) (d + 1) 55 [rv 12 (some 0)] (f, g, X)) (fun h8 => RL (mP L xs) (d + 1) 86 36 [some (rv 12 (some 0)), some (iv v1), some (iv (nI (i + 1)))] [] h8) (fun e h => some (.inr e, h))) else (if sg t = 335 then (mclV (EL (mP L xs) (d + 1) 56 [rv 12 (some 0)] (f, g, X)) (fun h7 => RL (mP L xs) (d + 1) 86 36 [some (rv 12 (some 0)), some (iv v1), some (iv (nI (i + 1)))] [] h7) (fun e h => some (.inr e, h))) else (if sg t = 336 then (mclV (EL (mP L xs) (d + 1) 82 [rv 12 (some 0)] (f, g, X)) (fun h6 => RL (mP L xs) (d + 1) 86 36 [some (rv 12 (some 0)), some (iv v1), some (iv (nI (i + 1)))] [] h6) (fun e h => some (.inr e, h))) else (mclV (EL (mP L xs) (d + 1) 41 [rv 20 (some 0), iv 1] (f, g, X)) (fun h5 => RL (mP L xs) (d + 1) 86 36 [some (rv 12 (some 0)), some (iv v1), some (iv (nI (i + 1)))] [] h5) (fun e h => some (.inr e, h))))))) := fun d v1 => by
    rw [K_FairReader_faultOf_36, if_pos hlt, px_sort P, clI, if_neg h0, px_sort P, clI, nI_1]
  by_cases z1 : sg t = 333
  · obtain ⟨f2, g2, u2, X2, a1, a2, a3⟩ := dc_power (L := L) (xs := xs) (Y := Y) D z1
    refine ⟨f2, g2, u2, X2, fun d v1 hd => ?_, a2, a3⟩
    obtain ⟨d, rfl⟩ : ∃ d', d = d' + 1 := ⟨d - 1, by omega⟩
    rw [key, if_pos z1, a1 (d + 1) (by omega), clV]
  by_cases z2 : sg t = 334
  · obtain ⟨f2, g2, u2, X2, a1, a2, a3⟩ := dc_staff (L := L) (xs := xs) (Y := Y) D z2
    refine ⟨f2, g2, u2, X2, fun d v1 hd => ?_, a2, a3⟩
    obtain ⟨d, rfl⟩ : ∃ d', d = d' + 1 := ⟨d - 1, by omega⟩
    rw [key, if_neg z1, if_pos z2, a1 (d + 1) (by omega), clV]
  by_cases z3 : sg t = 335
  · obtain ⟨f2, g2, u2, X2, a1, a2, a3⟩ := dc_flag (L := L) (xs := xs) (Y := Y) D z3
    refine ⟨f2, g2, u2, X2, fun d v1 hd => ?_, a2, a3⟩
    obtain ⟨d, rfl⟩ : ∃ d', d = d' + 1 := ⟨d - 1, by omega⟩
    rw [key, if_neg z1, if_neg z2, if_pos z3, a1 (d + 1) (by omega), clV]
  by_cases z4 : sg t = 336
  · obtain ⟨f2, g2, u2, X2, a1, a2, a3⟩ := dc_ride (L := L) (xs := xs) (Y := Y) D z4
    refine ⟨f2, g2, u2, X2, fun d v1 hd => ?_, a2, a3⟩
    obtain ⟨d, rfl⟩ : ∃ d', d = d' + 1 := ⟨d - 1, by omega⟩
    rw [key, if_neg z1, if_neg z2, if_neg z3, if_pos z4, a1 (d + 1) (by omega), clV]
  · obtain ⟨f2, u2, a1, a2, a3, a4, a5⟩ := px_bad (L := L) (xs := xs) (Y := Y) P (q := 1) (by decide)
    refine ⟨f2, g, u2, X, fun d v1 hd => ?_, fun d hd => ?_, Or.inr ⟨a3, A, XR.rf D.xa, by omega⟩⟩
    · obtain ⟨d, rfl⟩ : ∃ d', d = d' + 1 := ⟨d - 1, by omega⟩
      rw [key, if_neg z1, if_neg z2, if_neg z3, if_neg z4, a1, clV]
    · obtain ⟨d, rfl⟩ : ∃ d', d = d' + 2 := ⟨d - 2, by omega⟩
      have e : EL (mP L xs) (d + 2) 127 [rv 22 (some 0)] (u, Y) = mclV (EL (mP L xs) (d + 1) 102 [rv 22 (some 0), iv 1, iv (u 22 0 8)] (u, Y)) (fun h1 => some (.inl none, h1)) (fun e h => some (.inr e, h)) := by
        rw [E_Ref_declaration]
        by_cases y7 : u 22 0 7 = 1
        · have hw : u 22 0 11 < 0 ∨ (¬ u 22 0 11 < 0 ∧ 3 < u 22 0 11) := by
            rcases P.tkk with ⟨-, h2⟩ | ⟨-, h2⟩ | ⟨-, h2, -⟩ | ⟨-, -, h3⟩ | ⟨j, j1, h1, -, h3⟩ | ⟨x, -, -, h2, -⟩ | ⟨x, -, -, h2, -⟩
            · rw [y7] at h2; exact absurd h2 (by decide)
            · rw [y7] at h2; exact absurd h2 (by decide)
            · rw [y7] at h2; exact absurd h2 (by decide)
            · exact Or.inl (by rw [h3]; decide)
            · have hj : j < 32 ∨ 35 < j := by
                have n32 : j ≠ 32 := fun e => z1 (by rw [h1, e]; rfl)
                have n33 : j ≠ 33 := fun e => z2 (by rw [h1, e]; rfl)
                have n34 : j ≠ 34 := fun e => z3 (by rw [h1, e]; rfl)
                have n35 : j ≠ 35 := fun e => z4 (by rw [h1, e]; rfl)
                omega
              rw [h3]
              exact Or.inr (wm_d j j1 hj)
            · rw [y7] at h2; exact absurd h2 (by decide)
            · rw [y7] at h2; exact absurd h2 (by decide)
          rw [if_pos (show (u, Y).1 22 0 7 = 1 from y7)]
          rcases hw with hw | ⟨hw, hw'⟩
          · rw [if_pos (show (u, Y).1 22 0 11 < 0 from hw)]
          · rw [if_neg (show ¬ (u, Y).1 22 0 11 < 0 from hw), if_pos (show 3 < (u, Y).1 22 0 11 from hw')]
        · rw [if_neg (show ¬ (u, Y).1 22 0 7 = 1 from y7)]
      rw [e, a2, clV]
theorem ed_36 {p0 q0 : Int32} (E : ED f p0 q0) {d : Nat} {v1 v2 : Int32} : RL (mP L xs) (d + 1) 86 36 [some (rv 12 (some 0)), some (iv v1), some (iv v2)] [] (f, g, X) = RL (mP L xs) (d + 1) 86 134 [some (rv 12 (some 0)), some (iv v1), some (iv v2)] [] (f, g, X) := by
  rw [K_FairReader_faultOf_36]
  by_cases h : v2 < 4000
  · rw [if_pos h, ed_sort E, clI, if_pos rfl]
  · rw [if_neg h]
theorem fa_loop : ∀ (R t i : Nat) (f : MI) (g : MR) (u : MI) (X : ML × (Nat → Nat) × Nat × Nat) (cn : Nat) (nt ns nn : Nat → Nat) (n sl fl c q s kk A : Nat), k ≤ t + R → i ≤ t → DX N k b sg cn nt ns nn n sl fl A0 f g u X t c q s kk A →
    ∃ f2 g2 u2 X2 i2, (∀ d v1, 121 ≤ d → RL (mP L xs) d 86 36 [some (rv 12 (some 0)), some (iv v1), some (iv (nI i))] [] (f, g, X) = RL (mP L xs) d 86 134 [some (rv 12 (some 0)), some (iv v1), some (iv (nI i2))] [] (f2, g2, X2)) ∧ (∀ d z1 z2, 122 ≤ d → RL (mP L xs) d 128 4 [some (rv 22 (some 0)), z1, z2] [] (u, Y) = RL (mP L xs) d 128 4 [some (rv 22 (some 0)), z1, z2] [] (u2, Y)) ∧
      ((∃ (cn' : Nat) (nt' ns' nn' : Nat → Nat) (n' sl' fl' t' c' q' s' kk' A' : Nat), sg t' = 0 ∧ t ≤ t' ∧ XR A A' X X2 ∧ A' - A ≤ 2 * (t' - t) ∧ DX N k b sg cn' nt' ns' nn' n' sl' fl' A0 f2 g2 u2 X2 t' c' q' s' kk' A') ∨ DB k t A X f2 u2 X2)
  | R, t, i, f, g, u, X, cn, nt, ns, nn, n, sl, fl, c, q, s, kk, A, hR, hi, D => by
    have P := D.gx.px
    have htk := P.tk
    by_cases z : sg t = 0
    · refine ⟨f, g, u, X, i, fun d v1 hd => ?_, fun _ _ _ _ => rfl, Or.inl ⟨cn, nt, ns, nn, n, sl, fl, t, c, q, s, kk, A, z, Nat.le_refl t, XR.rf D.xa, by omega, D⟩⟩
      obtain ⟨d, rfl⟩ : ∃ d', d = d' + 1 := ⟨d - 1, by omega⟩
      rw [K_FairReader_faultOf_36]
      by_cases h : nI i < 4000
      · rw [if_pos h, px_sort P, clI, if_pos z]
      · rw [if_neg h]
    · have hN := P.tu.nl
      have h1 := tS_k P.lc htk z
      have h2 := (tS_b (b := b) (N := N) t).2 h1
      obtain ⟨f1, g1, u1, X1, a1, a2, a3⟩ := dc_all (L := L) (xs := xs) (Y := Y) D z (show i < 4000 by omega)
      have u7 : ¬ u 22 0 7 = 0 := fun e => z ((tk_cls P.tkk).2.2.1.mpr e)
      have kU : ∀ d z1 z2, 122 ≤ d → RL (mP L xs) d 128 4 [some (rv 22 (some 0)), z1, z2] [] (u, Y) = RL (mP L xs) d 128 4 [some (rv 22 (some 0)), z1, z2] [] (u1, Y) := fun d z1 z2 hd => by
        rw [K_Ref_fair_4, if_pos (show (u, Y).1 22 0 12 = 0 from P.fu), if_neg (show ¬ (u, Y).1 22 0 7 = 0 from u7), a2 d hd, clV]
      rcases a3 with ⟨cn1, nt1, ns1, nn1, n1, sl1, fl1, t1, c1, q1, s1, kk1, A1, b1, b2, b3, D1⟩ | B
      · match R, hR with
        | 0, hR => omega
        | R + 1, hR =>
          obtain ⟨f2, g2, u2, X2, i2, c1, c2, c3⟩ := fa_loop R t1 (i + 1) f1 g1 u1 X1 cn1 nt1 ns1 nn1 n1 sl1 fl1 _ _ _ _ _ (by omega) (by omega) D1
          refine ⟨f2, g2, u2, X2, i2, fun d v1 hd => ?_, fun d z1 z2 hd => ?_, ?_⟩
          · rw [a1 d v1 hd]; exact c1 d v1 hd
          · rw [kU d z1 z2 hd]; exact c2 d z1 z2 hd
          · have hle := b2.le
            rcases c3 with ⟨cn', nt', ns', nn', n', sl', fl', t', c', q', s', kk', A', d1, d2, d3, d4, d5⟩ | ⟨d1, A2, d2, d3⟩
            · exact Or.inl ⟨cn', nt', ns', nn', n', sl', fl', t', c', q', s', kk', A', d1, by omega, b2.tr d3, by omega, d5⟩
            · have hk1 := D1.gx.px.tk
              exact Or.inr ⟨d1, A2, b2.tr d2, by omega⟩
      · obtain ⟨⟨p, w, E, y1, y2⟩, A2, d2, d3⟩ := B
        refine ⟨f1, g1, u1, X1, i + 1, fun d v1 hd => ?_, kU, Or.inr ⟨⟨p, w, E, y1, y2⟩, A2, d2, d3⟩⟩
        rw [a1 d v1 hd]
        obtain ⟨d, rfl⟩ : ∃ d', d = d' + 1 := ⟨d - 1, by omega⟩
        exact ed_36 E
  termination_by R => R
/-- what is told and settled -/
def FS (N k : Nat) (b : Nat → Nat) (sg : Nat → Int32) (A0 : Nat) (f : MI) (g : MR) (u : MI) (f3 u3 : MI) : Prop := (∀ R o x, ¬ (R = 32 ∨ R = 34 ∨ R = 20) → f3 R o x = f R o x) ∧ (f3 20 0 7 = 0) ∧ (u3 22 0 12 = 0) ∧ (u3 22 0 13 = u 22 0 13) ∧ (∃ (cn : Nat) (nt ns nn : Nat → Nat) (n sl fl t c q s kk A : Nat) (X : ML × (Nat → Nat) × Nat × Nat), 1 ≤ n ∧ DX N k b sg cn nt ns nn n sl fl A0 f g u X t c q s kk A ∧ STD N k b sg cn nt ns nn c q f u f3 u3)
theorem FS.ff {N k : Nat} {b : Nat → Nat} {sg : Nat → Int32} {A0 : Nat} {f : MI} {g : MR} {u : MI} {f3 u3 : MI} (x : FS N k b sg A0 f g u f3 u3) : ∀ R o x, ¬ (R = 32 ∨ R = 34 ∨ R = 20) → f3 R o x = f R o x := x.1
theorem FS.f7 {N k : Nat} {b : Nat → Nat} {sg : Nat → Int32} {A0 : Nat} {f : MI} {g : MR} {u : MI} {f3 u3 : MI} (x : FS N k b sg A0 f g u f3 u3) : f3 20 0 7 = 0 := x.2.1
theorem FS.u12 {N k : Nat} {b : Nat → Nat} {sg : Nat → Int32} {A0 : Nat} {f : MI} {g : MR} {u : MI} {f3 u3 : MI} (x : FS N k b sg A0 f g u f3 u3) : u3 22 0 12 = 0 := x.2.2.1
theorem FS.u13 {N k : Nat} {b : Nat → Nat} {sg : Nat → Int32} {A0 : Nat} {f : MI} {g : MR} {u : MI} {f3 u3 : MI} (x : FS N k b sg A0 f g u f3 u3) : u3 22 0 13 = u 22 0 13 := x.2.2.2.1
theorem FS.ex {N k : Nat} {b : Nat → Nat} {sg : Nat → Int32} {A0 : Nat} {f : MI} {g : MR} {u : MI} {f3 u3 : MI} (x : FS N k b sg A0 f g u f3 u3) : ∃ (cn : Nat) (nt ns nn : Nat → Nat) (n sl fl t c q s kk A : Nat) (X : ML × (Nat → Nat) × Nat × Nat), 1 ≤ n ∧ DX N k b sg cn nt ns nn n sl fl A0 f g u X t c q s kk A ∧ STD N k b sg cn nt ns nn c q f u f3 u3 := x.2.2.2.2
theorem e_134 {d : Nat} {v1 v2 : Int32} (h4 : ¬ f 11 0 4 = 0) (h : EL (mP L xs) d 85 [rv 13 (some 0)] (f, g, X) = some (.inl none, (f2, g, X))) : RL (mP L xs) d 86 134 [some (rv 12 (some 0)), some (iv v1), some (iv v2)] [] (f, g, X) = some (.inl (some (iv (f2 20 0 7))), (f2, g, X)) := by
  rw [K_FairReader_faultOf_134, if_neg (show ¬ (f, g, X).1 11 0 4 = 0 from h4), h, clV]
theorem ed_134 {p0 q0 : Int32} (E : ED f p0 q0) {d : Nat} {v1 v2 : Int32} : RL (mP L xs) (d + 2) 86 134 [some (rv 12 (some 0)), some (iv v1), some (iv v2)] [] (f, g, X) = some (.inl (some (iv (f 20 0 7))), (f, g, X)) := by
  rw [K_FairReader_faultOf_134]
  by_cases h4 : f 11 0 4 = 0
  · rw [if_pos (show (f, g, X).1 11 0 4 = 0 from h4), ed_ref E, clV, ed_stl E, clV]
  · rw [if_neg (show ¬ (f, g, X).1 11 0 4 = 0 from h4), ed_stl E, clV]
theorem r_50e {d : Nat} {v1 : Int32} {z2 : Option MV} (h : ¬ u 22 0 12 = 0) : RL (mP L xs) d 128 50 [some (rv 22 (some 0)), some (iv v1), z2] [] (u, Y) = some (.inl none, (u, Y)) := by
  rw [K_Ref_fair_50, if_neg (show ¬ (u, Y).1 22 0 12 = 0 from h), ite_self]
/-- the end -/
theorem fa_end (D : DX N k b sg cn nt ns nn n sl fl A0 f g u X t c q s kk A) (h0 : sg t = 0) : ∃ f3 u3, (∀ d g X v1 v2, 8 ≤ d → RL (mP L xs) d 86 134 [some (rv 12 (some 0)), some (iv v1), some (iv v2)] [] (f, g, X) = some (.inl (some (iv (f3 20 0 7))), (f3, g, X))) ∧ (∀ d z1 z2, 8 ≤ d → RL (mP L xs) d 128 4 [some (rv 22 (some 0)), z1, z2] [] (u, Y) = some (.inl none, (u3, Y))) ∧ ((FS N k b sg A0 f g u f3 u3 ∧ f3 20 0 8 = f 20 0 8) ∨ BAD f3 u3) := by
  have P := D.gx.px
  have htk := P.tk
  have hkp := P.lc.kp
  have hn12 := D.n12
  have u7 : u 22 0 7 = 0 := (tk_cls P.tkk).2.2.1.mp h0
  by_cases hn : n = 0
  · have hS : tS b N t = N := by
      rcases P.srt with ⟨h, -⟩ | ⟨-, h⟩
      · exact h
      · rw [h0] at h
        exfalso
        rcases h with ⟨a1, a2, a3⟩ | ⟨a1, a2, ⟨i, i1, i2, -⟩ | ⟨i2, -⟩⟩ | ⟨a1, a2, a3, a4⟩ | ⟨a1, a2, a3, a4⟩ | ⟨a1, a2, a3, a4, a5⟩ | ⟨a1, a2, a3, a4, a5⟩ | ⟨a1, a2, a3, a4, a5⟩
        · exact absurd a3 (by decide)
        · have := (nI_eq (a := 0) (b := 301 + i) (by decide) (by omega)).mp i2
          omega
        · exact absurd i2 (by decide)
        · exact absurd a4 (by decide)
        · exact absurd a4 (by decide)
        · have := jn_lt a4
          have := (nI_eq (a := 0) (b := 128 + b (tS b N t)) (by decide) (by omega)).mp a5
          omega
        · have := sgn_lt a4
          have := (nI_eq (a := 0) (b := b (tS b N t)) (by decide) (by omega)).mp a5
          omega
        · exact absurd a5 (by decide)
    obtain ⟨f2, u2, a1, a2, a3, a4, a5⟩ := px_bad (L := L) (xs := xs) (Y := Y) P (q := 1) (by decide)
    obtain ⟨p, w, E, y1, y2⟩ := a3
    have f4 : f 11 0 4 = 0 := by rw [D.f4, hn]; rfl
    have u20 : u 22 0 20 = 0 := by rw [D.u20, hn]; rfl
    have u5 : u 22 0 5 = u 22 0 8 := by rw [P.bg, hS]; exact P.tu.ul
    refine ⟨f2, u2, fun d g X v1 v2 hd => ?_, fun d z1 z2 hd => ?_, Or.inr ⟨p, w, E, y1, y2⟩⟩
    · obtain ⟨d, rfl⟩ : ∃ d', d = d' + 2 := ⟨d - 2, by omega⟩
      rw [K_FairReader_faultOf_134, if_pos (show (f, g, X).1 11 0 4 = 0 from f4), a1, clV, ed_stl E, clV]
    · obtain ⟨d, rfl⟩ : ∃ d', d = d' + 1 := ⟨d - 1, by omega⟩
      rw [K_Ref_fair_4, if_pos (show (u, Y).1 22 0 12 = 0 from P.fu), if_pos (show (u, Y).1 22 0 7 = 0 from u7), if_pos (show (u, Y).1 22 0 12 = 0 from P.fu), if_pos (show (u, Y).1 22 0 20 = 0 from u20), show (u, Y).1 22 0 5 = u 22 0 8 from u5, a2, clV, r_50e (by rw [y1]; exact E.qn)]
  · have hcl := D.gx.cl
    have hql := D.gx.ql
    have f4 : ¬ f 11 0 4 = 0 := by
      rw [D.f4]
      exact fun e => hn ((nI_eq (a := n) (b := 0) (by omega) (by decide)).mp e)
    have u20 : ¬ u 22 0 20 = 0 := by
      rw [D.u20]
      exact fun e => hn ((nI_eq (a := n) (b := 0) (by omega) (by decide)).mp e)
    obtain ⟨f3, u3, a1, a2, a3, a4, a5⟩ := ex_settle (L := L) (xs := xs) (Y := Y) P.lc D.gx.nc P.tu D.gx.nz P.fc P.fu D.gx.cc (by omega) D.gx.qu (by omega) D.nm
    refine ⟨f3, u3, fun d g X v1 v2 hd => e_134 f4 (a1 d g X (by omega)), fun d z1 z2 hd => ?_, ?_⟩
    · have h1 := a2 d z2 (by omega)
      rw [K_Ref_fair_4, if_pos (show (u, Y).1 22 0 12 = 0 from P.fu), if_pos (show (u, Y).1 22 0 7 = 0 from u7), if_pos (show (u, Y).1 22 0 12 = 0 from P.fu), if_neg (show ¬ (u, Y).1 22 0 20 = 0 from u20)]
      exact h1
    · rcases a5 with ⟨b1, b2, b3, b4, b5⟩ | B
      · exact Or.inl ⟨⟨a3, b1, b3, b4, cn, nt, ns, nn, n, sl, fl, t, c, q, s, kk, A, X, by omega, D, b5⟩, b2⟩
      · exact Or.inr B
end Far
