/-! ===== read: a leader ===== -/
section Led
variable {L : Nat} {xs : Nat → Int32} {g : MR} {X : ML × (Nat → Nat) × Nat × Nat} {Y : MR × ML × (Nat → Nat) × Nat × Nat} {N k t cn n kd t0 : Nat} {b : Nat → Nat} {sg : Nat → Int32} {f f2 u u2 : MI} {nt ns nn : Nat → Nat}
theorem r29e {d : Nat} {v2 v3 : Int32} (hn : n < 12) (h : ¬ u 22 0 12 = 0) : RL (mP L xs) d 107 29 [some (rv 22 (some 0)), some (iv (nI n)), some (iv v2), some (iv v3)] [] (u, Y) = some (.inl none, (m3 u 50 0 n v3, Y)) := by
  rw [K_Ref_lead_29]
  simp only [if_neg h, if_neg (nin hn (show 12 < 2 ^ 31 by decide)), nI_clamp (show n < 2 ^ 31 by omega)]
theorem ld_one (hn : n < 12) (P : PX f u N k b sg t) (M : NC f k sg cn nt ns nn) (Z : NU u N k b sg (cn + 1) (ext nt cn t0) (ext ns cn 2) (ext nn cn n)) (hr : ∀ i, i < cn → ns i = 2 → nn i < n) (hA : R_abl u) (hR : ∀ r, r < n → ∃ kd', kd' ≤ 8 ∧ f 16 r 5 = tabB 4 kd' ∧ u 49 0 r = nI kd') :
    ∃ f2 g2 u2, (∀ d X, 9 ≤ d → EL (mP L xs) d 62 [rv 12 (some 0), rv 16 (some n)] (f, g, X) = some (.inl none, (f2, g2, X))) ∧ (∀ d, 9 ≤ d → EL (mP L xs) d 107 [rv 22 (some 0), iv (nI n)] (u, Y) = some (.inl none, (u2, Y))) ∧ (∀ R o x, ¬ (R = 20 ∨ R = 34) → f2 R o x = f R o x) ∧ (∀ R o x, ¬ (R = 16 ∧ o = n ∧ x = 6) → g2 R o x = g R o x) ∧ (∀ R o x, ¬ ((R = 22 ∧ 6 ≤ x ∧ x ≤ 13) ∨ (R = 50 ∧ x = n)) → u2 R o x = u R o x) ∧
      ((∃ l, l < n ∧ PX f2 u2 N k b sg (t + 1) ∧ g2 16 n 6 = some l ∧ u2 50 0 n = nI l) ∨ BAD f2 u2) := by
  have htk := P.tk
  have bg := P.bg
  have en := P.en.1
  have hsz : nI (tE b N t) - nI (tS b N t) = nI (tE b N t - tS b N t) := nI_sub (tS_le (t := t) P.lc).1
  obtain ⟨q1, q2, q3, q4⟩ := tk_cls P.tkk
  have dfc : ∀ i j, i < cn → j < cn → same b N (nt i) (nt j) → i = j := fun i j h1 h2 h => Z.df i j (by omega) (by omega) (by rw [ext_ne (by omega), ext_ne (by omega)]; exact h)
  have keyC : ∀ d X, EL (mP L xs) (d + 5) 62 [rv 12 (some 0), rv 16 (some n)] (f, g, X) = (if sg t < 300 then mclV (EL (mP L xs) (d + 4) 41 [rv 20 (some 0), iv 1] (f, g, X)) (fun h15 => some (.inl none, h15)) (fun e h => some (.inr e, h)) else mclI (EL (mP L xs) (d + 4) 50 [rv 14 (some 0), iv (nI t), iv 2] (f, g, X)) (fun x4 h3 => if x4 < 0 then (mclV (EL (mP L xs) (d + 4) 41 [rv 20 (some 0), iv 3] h3) (fun h5 => some (.inl none, h5)) (fun e h => some (.inr e, h))) else (if x4 < 12 then (if ino x4 12 then none else (mclI (EL (mP L xs) (d + 4) 58 [rv 16 (some ((x4).toNatClampNeg)), iv 1] h3) (fun x7 h6 => if x7 = 0 then (mclV (EL (mP L xs) (d + 4) 41 [rv 20 (some 0), iv 5] h6) (fun h8 => some (.inl none, h8)) (fun e h => some (.inr e, h))) else (mclI (EL (mP L xs) (d + 4) 58 [rv 16 (some ((x4).toNatClampNeg)), iv 32] h6) (fun x10 h9 => if x10 = 0 then (mclV (EL (mP L xs) (d + 4) 42 [rv 20 (some 0)] (h9.1, m3 h9.2.1 16 n 6 (some ((x4).toNatClampNeg)), h9.2.2)) (fun h12 => some (.inl none, h12)) (fun e h => some (.inr e, h))) else (mclV (EL (mP L xs) (d + 4) 41 [rv 20 (some 0), iv 5] h9) (fun h13 => some (.inl none, h13)) (fun e h => some (.inr e, h)))) (fun e h => some (.inr e, h)))) (fun e h => some (.inr e, h)))) else (mclV (EL (mP L xs) (d + 4) 41 [rv 20 (some 0), iv 3] h3) (fun h14 => some (.inl none, h14)) (fun e h => some (.inr e, h))))) (fun e h => some (.inr e, h))) := fun d X => by
    rw [E_FairReader_leader, px_isWord P, clI, show (f, g, X).1 20 0 6 = nI t from P.at_]
    by_cases z : sg t < 300
    · rw [if_pos z, if_pos z, if_pos rfl]
    · rw [if_neg z, if_neg z, if_neg (by decide)]
      rfl
  have nof := fun d X => c_nof (L := L) (xs := xs) (d := d) (g := g) (X := X) P.lc M htk (s := 2) (by decide)
  have keyU : ∀ d, EL (mP L xs) (d + 1) 107 [rv 22 (some 0), iv (nI n)] (u, Y) = mclI (EL (mP L xs) d 106 [rv 22 (some 0), iv 3] (u, Y)) (fun x2 h1 => if h1.1 22 0 12 = 0 then (if x2 = nI n then (mclV (EL (mP L xs) d 102 [rv 22 (some 0), iv 3, iv (nI (tS b N t))] h1) (fun h3 => RL (mP L xs) d 107 29 [some (rv 22 (some 0)), some (iv (nI n)), some (iv (nI (tS b N t))), some (iv x2)] [] h3) (fun e h => some (.inr e, h))) else (RL (mP L xs) d 107 29 [some (rv 22 (some 0)), some (iv (nI n)), some (iv (nI (tS b N t))), some (iv x2)] [] h1)) else (RL (mP L xs) d 107 29 [some (rv 22 (some 0)), some (iv (nI n)), some (iv (nI (tS b N t))), some (iv x2)] [] h1)) (fun e h => some (.inr e, h)) := fun d => by
    rw [E_Ref_lead]
    simp only [bg]
  -- refused on both sides: the reference told it in u1
  have bad : ∀ (p v : Int32) (u1 : MI), p ≠ 0 → (∀ d X, EL (mP L xs) (d + 5) 62 [rv 12 (some 0), rv 16 (some n)] (f, g, X) = mclV (EL (mP L xs) (d + 4) 41 [rv 20 (some 0), iv p] (f, g, X)) (fun h5 => some (.inl none, h5)) (fun e h => some (.inr e, h))) → (∀ d, 8 ≤ d → EL (mP L xs) (d + 1) 107 [rv 22 (some 0), iv (nI n)] (u, Y) = RL (mP L xs) d 107 29 [some (rv 22 (some 0)), some (iv (nI n)), some (iv (nI (tS b N t))), some (iv v)] [] (u1, Y)) → u1 22 0 12 = p → u1 22 0 13 = nI (tS b N t) → (∀ R o x, ¬ (R = 22 ∧ 6 ≤ x ∧ x ≤ 13) → u1 R o x = u R o x) →
      ∃ f2 g2 u2, (∀ d X, 9 ≤ d → EL (mP L xs) d 62 [rv 12 (some 0), rv 16 (some n)] (f, g, X) = some (.inl none, (f2, g2, X))) ∧ (∀ d, 9 ≤ d → EL (mP L xs) d 107 [rv 22 (some 0), iv (nI n)] (u, Y) = some (.inl none, (u2, Y))) ∧ (∀ R o x, ¬ (R = 20 ∨ R = 34) → f2 R o x = f R o x) ∧ (∀ R o x, ¬ (R = 16 ∧ o = n ∧ x = 6) → g2 R o x = g R o x) ∧ (∀ R o x, ¬ ((R = 22 ∧ 6 ≤ x ∧ x ≤ 13) ∨ (R = 50 ∧ x = n)) → u2 R o x = u R o x) ∧
      ((∃ l, l < n ∧ PX f2 u2 N k b sg (t + 1) ∧ g2 16 n 6 = some l ∧ u2 50 0 n = nI l) ∨ BAD f2 u2) := by
    intro p v u1 hp hC hU h12 h13 hF
    obtain ⟨f2, a1, a2, a3⟩ := c_ref0 (L := L) (xs := xs) P.lc P.at_ htk P.fc hp
    refine ⟨f2, g, m3 u1 50 0 n v, fun d X hd => ?_, fun d hd => ?_, fun R o x h => a3 R o x (by omega), fun _ _ _ _ => rfl, fun R o x h => (m3_no (by omega)).trans (hF R o x (by omega)), Or.inr ⟨p, nI (tS b N t), a2, (m3_r (by decide)).trans h12, (m3_r (by decide)).trans h13⟩⟩
    · obtain ⟨d, rfl⟩ : ∃ d', d = d' + 5 := ⟨d - 5, by omega⟩
      rw [hC, a1, clV]
    · obtain ⟨d, rfl⟩ : ∃ d', d = d' + 1 := ⟨d - 1, by omega⟩
      rw [hU d (by omega), r29e hn (by rw [h12]; exact hp)]
  have wr : ∀ (p : Int32) (u1 : MI), (m3 (m3 u1 22 0 12 p) 22 0 13 (nI (tS b N t))) 22 0 12 = p ∧ (m3 (m3 u1 22 0 12 p) 22 0 13 (nI (tS b N t))) 22 0 13 = nI (tS b N t) := fun p u1 => ⟨(m3_i (by decide)).trans m3_eq, m3_eq⟩
  by_cases z1 : sg t < 300
  · refine bad 1 (-1) (m3 (m3 u 22 0 12 1) 22 0 13 (nI (tS b N t))) (by decide) (fun d X => by rw [keyC, if_pos z1]) (fun d hd => ?_) (wr 1 u).1 (wr 1 u).2 (fun R o x h => (m3_no (by omega)).trans (m3_no (by omega)))
    obtain ⟨d, rfl⟩ : ∃ d', d = d' + 2 := ⟨d - 2, by omega⟩
    rw [keyU, E_Ref_oldName, if_neg (show ¬ (u, Y).1 22 0 7 = 1 from q1.mp z1), show (u, Y).1 22 0 8 = nI (tS b N t) from bg, EL_102, if_pos P.fu, clV, clI, if_neg (by rw [show (m3 (m3 u 22 0 12 1) 22 0 13 (nI (tS b N t)), Y).1 22 0 12 = 1 from (wr 1 u).1]; decide)]
  · have hk1 : u 22 0 7 = 1 := Decidable.by_contra (fun e => z1 (q1.mpr e))
    have noC : (∀ i, i < cn → ns i = 2 → ¬ same b N (nt i) t) → ∀ d X, EL (mP L xs) (d + 5) 62 [rv 12 (some 0), rv 16 (some n)] (f, g, X) = mclV (EL (mP L xs) (d + 4) 41 [rv 20 (some 0), iv 3] (f, g, X)) (fun h5 => some (.inl none, h5)) (fun e h => some (.inr e, h)) := fun hno d X => by
      obtain ⟨v, v1, v2⟩ := nof (d + 2) X
      have v1' : EL (mP L xs) (d + 4) 50 [rv 14 (some 0), iv (nI t), iv 2] (f, g, X) = some (.inl (some (iv v)), (f, g, X)) := v1
      rcases v2 with ⟨i, i1, i2, i3, -⟩ | ⟨rfl, -⟩
      · exact absurd i3 (hno i i1 i2)
      · rw [keyC, if_neg z1, v1', clI, if_pos (by decide)]
    have keyO : ∀ d, EL (mP L xs) (d + 1) 106 [rv 22 (some 0), iv 3] (u, Y) = if u 22 0 11 = (-1) then (mclI (EL (mP L xs) d 104 [rv 22 (some 0), iv (nI (tS b N t)), iv (nI (tE b N t - tS b N t))] (u, Y)) (fun x2 h1 => RL (mP L xs) d 106 48 [some (rv 22 (some 0)), some (iv 3), none] [iv x2] h1) (fun e h => some (.inr e, h))) else (RL (mP L xs) d 106 48 [some (rv 22 (some 0)), some (iv 3), none] [iv (-1)] (u, Y)) := fun d => by
      rw [E_Ref_oldName, if_pos (show (u, Y).1 22 0 7 = 1 from hk1)]
      simp only [bg, en, hsz]
    have o48 : ∀ d, RL (mP L xs) (d + 1) 106 48 [some (rv 22 (some 0)), some (iv 3), none] [iv (-1)] (u, Y) = some (.inl (some (iv (-1))), (m3 (m3 u 22 0 12 3) 22 0 13 (nI (tS b N t)), Y)) := fun d => by
      rw [K_Ref_oldName_48, if_pos rfl, show (u, Y).1 22 0 8 = nI (tS b N t) from bg, EL_102, if_pos P.fu, clV]
    have w3 : (∀ i, i < cn → ns i = 2 → ¬ same b N (nt i) t) → (∀ d, 8 ≤ d → EL (mP L xs) d 106 [rv 22 (some 0), iv 3] (u, Y) = some (.inl (some (iv (-1))), (m3 (m3 u 22 0 12 3) 22 0 13 (nI (tS b N t)), Y))) → _ := fun hno hO => bad 3 (-1) (m3 (m3 u 22 0 12 3) 22 0 13 (nI (tS b N t))) (by decide) (noC hno) (fun d hd => by
      rw [keyU, hO d hd, clI, if_neg (by rw [show (m3 (m3 u 22 0 12 3) 22 0 13 (nI (tS b N t)), Y).1 22 0 12 = 3 from (wr 3 u).1]; decide)]) (wr 3 u).1 (wr 3 u).2 (fun R o x h => (m3_no (by omega)).trans (m3_no (by omega)))
    by_cases z2 : sg t = 300
    · obtain ⟨-, w1⟩ := q2.mp z2
      obtain ⟨v, v1, v2⟩ := r_known (L := L) (xs := xs) (Y := Y) P.lc P.tu Z t
      have keyO2 : ∀ d, EL (mP L xs) (d + 2) 106 [rv 22 (some 0), iv 3] (u, Y) = RL (mP L xs) (d + 1) 106 48 [some (rv 22 (some 0)), some (iv 3), none] [iv v] (u, Y) := fun d => by
        rw [keyO, if_pos w1, v1, clI]
      rcases v2 with ⟨i, i1, rfl, i3⟩ | ⟨rfl, i3⟩
      · have hz := Z.ar i i1
        have h45 : u 45 0 i = nI (ext ns cn 2 i + 1) := hz.2.2.2.2.1
        have h46 : u 46 0 i = nI (ext nn cn n i) := hz.2.2.2.2.2.1
        have hn26 := Z.cl
        have hin := nin (show i < 26 by omega) (show 26 < 2 ^ 31 by decide)
        have hcl := nI_clamp (show i < 2 ^ 31 by omega)
        obtain ⟨b1, u3, b2, b3, b4⟩ := px_adv (L := L) (xs := xs) (Y := Y) P (by rw [z2]; decide) (by rw [z2]; decide)
        have o3 : ext ns cn 2 i = 2 → ∀ d, 8 ≤ d → EL (mP L xs) d 106 [rv 22 (some 0), iv 3] (u, Y) = some (.inl (some (iv (nI (ext nn cn n i)))), (u3, Y)) := fun h2 d hd => by
          have h1 : EL (mP L xs) (d - 1) 101 [rv 22 (some 0)] (u, Y) = some (.inl none, (u3, Y)) := EL_mono (by omega) b2
          obtain ⟨d, rfl⟩ : ∃ d', d = d' + 2 := ⟨d - 2, by omega⟩
          have h1' : EL (mP L xs) (d + 1) 101 [rv 22 (some 0)] (u, Y) = some (.inl none, (u3, Y)) := h1
          have e46 : u3 46 0 i = nI (ext nn cn n i) := (b3 46 0 i (by omega)).trans h46
          rw [keyO2, K_Ref_oldName_48, if_neg (nI_ne1 (by omega)), if_neg hin]
          simp only [hcl, h45, h2, h1', clV, if_neg hin, e46]
          rw [if_pos (show nI (2 + 1) = 3 from rfl)]
        by_cases y : i = cn
        · subst y
          refine bad 3 (nI n) (m3 (m3 u3 22 0 12 3) 22 0 13 (nI (tS b N t))) (by decide) (noC (fun j j1 _ j3 => ?_)) (fun d hd => ?_) (wr 3 u3).1 (wr 3 u3).2 (fun R o x h => (m3_no (by omega)).trans ((m3_no (by omega)).trans (b3 R o x (by omega))))
          · have := Z.df j i (by omega) (by omega) (same_tr (by rw [ext_ne (by omega)]; exact j3) (same_sy i3))
            omega
          · have h1 := o3 ext_eq d hd
            rw [ext_eq] at h1
            obtain ⟨d, rfl⟩ : ∃ d', d = d' + 1 := ⟨d - 1, by omega⟩
            rw [keyU, h1, clI, if_pos (show (u3, Y).1 22 0 12 = 0 from b4.fu), if_pos rfl, EL_102, if_pos b4.fu, clV]
        · have i2 : i < cn := by omega
          rw [ext_ne y] at h45 h46 i3
          have hns := hz.2.2.1
          rw [ext_ne y] at hns
          by_cases y2 : ns i = 2
          · -- a ride that is there
            have hl := hr i i2 y2
            obtain ⟨kd', k1, k2, k3⟩ := hR (nn i) hl
            have hO := o3 (by rw [ext_ne y]; exact y2)
            rw [ext_ne y] at hO
            have hno : ∀ d X, EL (mP L xs) (d + 2) 50 [rv 14 (some 0), iv (nI t), iv 2] (f, g, X) = some (.inl (some (iv (nI (nn i)))), (f, g, X)) := fun d X => by
              obtain ⟨v', e1, e2⟩ := nof d X
              rcases e2 with ⟨i', j1, j2, j3, rfl⟩ | ⟨-, no⟩
              · have := dfc i' i j1 i2 (same_tr j3 (same_sy i3))
                subst this
                exact e1
              · exact absurd i3 (no i i2 y2)
            have keyC2 : ∀ d X, EL (mP L xs) (d + 5) 62 [rv 12 (some 0), rv 16 (some n)] (f, g, X) = (if aTu kd' = false then mclV (EL (mP L xs) (d + 4) 41 [rv 20 (some 0), iv 5] (f, g, X)) (fun h8 => some (.inl none, h8)) (fun e h => some (.inr e, h)) else if (kd' == 8) = true then mclV (EL (mP L xs) (d + 4) 41 [rv 20 (some 0), iv 5] (f, g, X)) (fun h13 => some (.inl none, h13)) (fun e h => some (.inr e, h)) else mclV (EL (mP L xs) (d + 4) 42 [rv 20 (some 0)] (f, m3 g 16 n 6 (some (nn i)), X)) (fun h12 => some (.inl none, h12)) (fun e h => some (.inr e, h))) := fun d X => by
              obtain ⟨c1, c2, -⟩ := c_has (L := L) (xs := xs) (d := d + 3) (g := g) (X := X) (r := nn i) k1 k2
              rw [keyC, if_neg z1, hno, clI, if_neg (nI_pos (by omega)), if_pos (show nI (nn i) < 12 from nI_lt (b := 12) (by omega) (by decide)), if_neg (nin (show nn i < 12 by omega) (by decide))]
              simp only [nI_clamp (show nn i < 2 ^ 31 by omega)]
              rw [c1, clI, c2, clI]
              cases aTu kd' with
              | false => rfl
              | true =>
                cases (kd' == 8) with
                | false => rfl
                | true => rfl
            have e49 : u3 49 0 (nn i) = nI kd' := (b3 49 0 (nn i) (by omega)).trans k3
            have e42 : u3 42 0 kd' = abv kd' := (b3 42 0 kd' (by omega)).trans (abv_v hA k1)
            have keyU2 : ∀ d, 8 ≤ d → EL (mP L xs) (d + 1) 107 [rv 22 (some 0), iv (nI n)] (u, Y) = (if abv kd' &&& 1 = 0 then some (.inl none, (m3 (m3 (m3 u3 22 0 12 5) 22 0 13 (nI (tS b N t))) 50 0 n (nI (nn i)), Y)) else if nI kd' = 8 then some (.inl none, (m3 (m3 (m3 u3 22 0 12 5) 22 0 13 (nI (tS b N t))) 50 0 n (nI (nn i)), Y)) else some (.inl none, (m3 u3 50 0 n (nI (nn i)), Y))) := fun d hd => by
              have h1 := hO d hd
              obtain ⟨d, rfl⟩ : ∃ d', d = d' + 1 := ⟨d - 1, by omega⟩
              rw [keyU, h1, clI, if_pos (show (u3, Y).1 22 0 12 = 0 from b4.fu), if_neg (fun e => by have := (nI_eq (by omega) (by omega)).mp e; omega), K_Ref_lead_29]
              simp only [b4.fu, if_true, if_neg (nin (show nn i < 12 by omega) (show 12 < 2 ^ 31 by decide)), nI_clamp (show nn i < 2 ^ 31 by omega), e49, if_neg (nin (show kd' < 9 by omega) (show 9 < 2 ^ 31 by decide)), nI_clamp (show kd' < 2 ^ 31 by omega), e42, if_neg (nin hn (show 12 < 2 ^ 31 by decide)), nI_clamp (show n < 2 ^ 31 by omega), EL_102, clV]
            obtain ⟨m1, m2⟩ := has_ok kd' k1
            have bad5 : (∀ d X, EL (mP L xs) (d + 5) 62 [rv 12 (some 0), rv 16 (some n)] (f, g, X) = mclV (EL (mP L xs) (d + 4) 41 [rv 20 (some 0), iv 5] (f, g, X)) (fun h5 => some (.inl none, h5)) (fun e h => some (.inr e, h))) → (∀ d, 8 ≤ d → EL (mP L xs) (d + 1) 107 [rv 22 (some 0), iv (nI n)] (u, Y) = some (.inl none, (m3 (m3 (m3 u3 22 0 12 5) 22 0 13 (nI (tS b N t))) 50 0 n (nI (nn i)), Y))) → _ := fun hC hU => bad 5 (nI (nn i)) (m3 (m3 u3 22 0 12 5) 22 0 13 (nI (tS b N t))) (by decide) hC (fun d hd => by
              rw [hU d hd, r29e hn (by rw [(wr 5 u3).1]; decide)]) (wr 5 u3).1 (wr 5 u3).2 (fun R o x h => (m3_no (by omega)).trans ((m3_no (by omega)).trans (b3 R o x (by omega))))
            by_cases x1 : aTu kd' = false
            · exact bad5 (fun d X => by rw [keyC2, if_pos x1]) (fun d hd => by rw [keyU2 d hd, if_pos (m1.mpr x1)])
            · have x1' : ¬ abv kd' &&& 1 = 0 := fun e => x1 (m1.mp e)
              by_cases x2 : (kd' == 8) = true
              · exact bad5 (fun d X => by rw [keyC2, if_neg x1, if_pos x2]) (fun d hd => by rw [keyU2 d hd, if_neg x1', if_pos (m2.mpr x2)])
              · have x2' : ¬ nI kd' = 8 := fun e => x2 (m2.mp e)
                refine ⟨m3 f 20 0 6 (nI (t + 1)), m3 g 16 n 6 (some (nn i)), m3 u3 50 0 n (nI (nn i)), fun d X hd => ?_, fun d hd => ?_, fun R o x h => m3_no (by omega), fun R o x h => m3_no h, fun R o x h => (m3_no (by omega)).trans (b3 R o x (by omega)), Or.inl ⟨nn i, hl, b4.fr (fun _ _ _ _ => rfl) (fun R o x h => m3_no (by omega)), m3_eq, m3_eq⟩⟩
                · obtain ⟨d, rfl⟩ : ∃ d', d = d' + 5 := ⟨d - 5, by omega⟩
                  rw [keyC2, if_neg x1, if_neg x2, b1, clV]
                · obtain ⟨d, rfl⟩ : ∃ d', d = d' + 1 := ⟨d - 1, by omega⟩
                  rw [keyU2 d (by omega), if_neg x1', if_neg x2']
          · refine w3 (fun j j1 j2 j3 => ?_) (fun d hd => ?_)
            · have := dfc j i j1 i2 (same_tr j3 (same_sy i3))
              subst this
              exact y2 j2
            · obtain ⟨d, rfl⟩ : ∃ d', d = d' + 3 := ⟨d - 3, by omega⟩
              have n3 : ¬ nI (ns i + 1) = 3 := fun e => by
                have := (nI_eq (a := ns i + 1) (b := 3) (by omega) (by decide)).mp e
                omega
              rw [keyO2, K_Ref_oldName_48, if_neg (nI_ne1 (by omega)), if_neg hin]
              simp only [hcl, h45, bg]
              rw [if_neg n3, EL_102, if_pos P.fu, clV]
      · refine w3 (fun j j1 j2 j3 => i3 j (by omega) (by rw [ext_ne (by omega)]; exact j3)) (fun d hd => ?_)
        obtain ⟨d, rfl⟩ : ∃ d', d = d' + 2 := ⟨d - 2, by omega⟩
        rw [keyO2, o48]
    · refine w3 (fun j j1 j2 j3 => z2 (same_300 P.lc (M.ar j j1).1 htk (M.ar j j1).2.1 j3 z1)) (fun d hd => ?_)
      obtain ⟨d, rfl⟩ : ∃ d', d = d' + 2 := ⟨d - 2, by omega⟩
      rw [keyO, if_neg (fun e => z2 (q2.mpr ⟨hk1, e⟩)), o48]
end Led
