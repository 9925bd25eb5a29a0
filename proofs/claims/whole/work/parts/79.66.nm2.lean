/-! ===== read: a new name, a name that is there, a number ===== -/
/-- what a fault leaves: the class's text alone, the reference's fault alone -/
def FB (f f2 u u2 : MI) : Prop := (∀ R o i, ¬ (R = 34 ∨ R = 20) → f2 R o i = f R o i) ∧ (∀ R o i, ¬ (R = 22 ∧ (i = 12 ∨ i = 13)) → u2 R o i = u R o i)
def ext (g : Nat → Nat) (c v : Nat) : Nat → Nat := fun j => if j = c then v else g j
theorem ext_eq {g : Nat → Nat} {c v : Nat} : ext g c v c = v := if_pos rfl
theorem ext_ne {g : Nat → Nat} {c v j : Nat} (h : j ≠ c) : ext g c v j = g j := if_neg h
section Nm2
variable {L : Nat} {xs : Nat → Int32} {d : Nat} {g : MR} {X : ML × (Nat → Nat) × Nat × Nat} {Y : MR × ML × (Nat → Nat) × Nat × Nat} {N k t c : Nat} {b : Nat → Nat} {sg : Nat → Int32} {f f2 u u2 : MI} {nt ns nn : Nat → Nat}
theorem px_bad (P : PX f u N k b sg t) {q : Int32} (hq : q ≠ 0) : ∃ f2 u2, (∀ d g X, EL (mP L xs) (d + 1) 41 [rv 20 (some 0), iv q] (f, g, X) = some (.inl none, (f2, g, X))) ∧ (∀ d, EL (mP L xs) (d + 1) 102 [rv 22 (some 0), iv q, iv (u 22 0 8)] (u, Y) = some (.inl none, (u2, Y))) ∧ BAD f2 u2 ∧ FB f f2 u u2 ∧ u2 22 0 12 = q := by
  obtain ⟨f2, u2, a1, a2, a3, a4, a5, a6⟩ := px_ref (L := L) (xs := xs) (Y := Y) P hq
  refine ⟨f2, u2, a1, a2, a5, ⟨a6, fun R o i h => ?_⟩, ?_⟩
  · rw [a4, m3_no (by omega), m3_no (by omega)]
  · rw [a4, m3_i (by decide), m3_eq]
theorem NC.fr (M : NC f k sg c nt ns nn) (h : ∀ R o i, (R = 37 ∨ R = 38 ∨ R = 39 ∨ (R = 14 ∧ i = 4)) → f2 R o i = f R o i) : NC f2 k sg c nt ns nn := by
  refine ⟨M.cl, (h 14 0 4 (by omega)).trans M.cc, fun j hj => ?_⟩
  rw [h 37 0 j (by omega), h 38 0 j (by omega), h 39 0 j (by omega)]
  exact M.ar j hj
theorem NU.fr (M : NU u N k b sg c nt ns nn) (h : ∀ R o i, (R = 45 ∨ R = 46 ∨ R = 47 ∨ R = 48 ∨ (R = 22 ∧ i = 18)) → u2 R o i = u R o i) : NU u2 N k b sg c nt ns nn := by
  refine ⟨M.cl, (h 22 0 18 (by omega)).trans M.cc, fun j hj => ?_, M.df⟩
  rw [h 45 0 j (by omega), h 46 0 j (by omega), h 47 0 j (by omega), h 48 0 j (by omega)]
  exact M.ar j hj
/-- a new name -/
theorem px_new (P : PX f u N k b sg t) (M : NC f k sg c nt ns nn) (Z : NU u N k b sg c nt ns nn) (hc : c < 26) {s n : Nat} (hs : s ≤ 2) (hn : n < 100) :
    (∃ u2, (∀ d g X, EL (mP L xs) (d + 5) 52 [rv 14 (some 0)] (f, g, X) = some (.inl (some (iv (nI t))), (m3 f 20 0 6 (nI (t + 1)), g, X))) ∧ EL (mP L xs) 8 105 [rv 22 (some 0), iv (nI (s + 1)), iv (nI n)] (u, Y) = some (.inl (some (iv 1)), (u2, Y)) ∧ sg t = 300 ∧
      PX (m3 f 20 0 6 (nI (t + 1))) u2 N k b sg (t + 1) ∧ NU u2 N k b sg (c + 1) (ext nt c t) (ext ns c s) (ext nn c n) ∧ (∀ R o i, ¬ (R = 45 ∨ R = 46 ∨ R = 47 ∨ R = 48 ∨ (R = 22 ∧ ((6 ≤ i ∧ i ≤ 11) ∨ i = 18))) → u2 R o i = u R o i)) ∨
    (∃ f2 u2, (∀ d g X, EL (mP L xs) (d + 5) 52 [rv 14 (some 0)] (f, g, X) = some (.inl (some (iv (-1))), (f2, g, X))) ∧ EL (mP L xs) 8 105 [rv 22 (some 0), iv (nI (s + 1)), iv (nI n)] (u, Y) = some (.inl (some (iv 0)), (u2, Y)) ∧ BAD f2 u2 ∧ FB f f2 u u2) := by
  have hN := P.tu.nl
  have htk := P.tk
  obtain ⟨h1, h2, h3⟩ := tS_le (t := t) P.lc
  obtain ⟨q1, q2, q3, q4⟩ := tk_cls P.tkk
  have bg := P.bg
  have en := P.en.1
  have hsz : nI (tE b N t) - nI (tS b N t) = nI (tE b N t - tS b N t) := nI_sub h1
  have keyC := fun d g X => E_Names_readNew (L := L) (xs := xs) (d := d + 4) (f, g, X)
  have keyU := E_Ref_newName (L := L) (xs := xs) (d := 7) (nI (s + 1)) (nI n) (u, Y)
  simp only [px_isWord P, clI, P.at_] at keyC
  simp only [bg, en, hsz] at keyU
  have bad : ∀ q : Int32, q ≠ 0 → (∀ d g X, EL (mP L xs) (d + 5) 52 [rv 14 (some 0)] (f, g, X) = mclV (EL (mP L xs) (d + 4) 41 [rv 20 (some 0), iv q] (f, g, X)) (fun h7 => some (.inl (some (iv (-1))), h7)) (fun e h => some (.inr e, h))) →
      EL (mP L xs) 8 105 [rv 22 (some 0), iv (nI (s + 1)), iv (nI n)] (u, Y) = mclV (EL (mP L xs) 7 102 [rv 22 (some 0), iv q, iv (nI (tS b N t))] (u, Y)) (fun h4 => RL (mP L xs) 7 105 58 [some (rv 22 (some 0)), some (iv (nI (s + 1))), some (iv (nI n))] [] h4) (fun e h => some (.inr e, h)) →
      ∃ f2 u2, (∀ d g X, EL (mP L xs) (d + 5) 52 [rv 14 (some 0)] (f, g, X) = some (.inl (some (iv (-1))), (f2, g, X))) ∧ EL (mP L xs) 8 105 [rv 22 (some 0), iv (nI (s + 1)), iv (nI n)] (u, Y) = some (.inl (some (iv 0)), (u2, Y)) ∧ BAD f2 u2 ∧ FB f f2 u u2 := by
    intro q hq hC hU
    obtain ⟨f2, u2, a1, a2, a3, a4, a5⟩ := px_bad (L := L) (xs := xs) (Y := Y) P hq
    rw [bg] at a2
    refine ⟨f2, u2, fun d g X => ?_, ?_, a3, a4⟩
    · rw [hC, a1, clV]
    · rw [hU, a2 6, clV, K_Ref_newName_58, if_neg (show ¬ u2 22 0 12 = 0 by rw [a5]; exact hq)]
  by_cases z1 : sg t < 300
  · refine Or.inr (bad 1 (by decide) (fun d g X => ?_) ?_)
    · rw [keyC, if_pos z1, if_pos rfl]
    · rw [keyU, if_neg (q1.mp z1)]
  · have hk1 : u 22 0 7 = 1 := Decidable.by_contra (fun e => z1 (q1.mpr e))
    simp only [if_neg z1, if_neg (show ¬ (1 : Int32) = 0 by decide)] at keyC
    rw [if_pos hk1] at keyU
    have keyT := fun d g X => E_Names_isThere (L := L) (xs := xs) (d := d + 3) (nI t) (f, g, X)
    simp only [px_sort P, clI] at keyT
    by_cases z2 : sg t = 300
    · obtain ⟨-, w1⟩ := q2.mp z2
      rw [if_pos w1] at keyU
      obtain ⟨v, v1, v2⟩ := r_known (L := L) (xs := xs) (Y := Y) P.lc P.tu Z t
      rw [v1 6, clI] at keyU
      simp only [if_pos z2] at keyT
      have n0 := fun d g X => c_nof (L := L) (xs := xs) (d := d) (g := g) (X := X) P.lc M htk (s := 0) (by decide)
      have n1 := fun d g X => c_nof (L := L) (xs := xs) (d := d) (g := g) (X := X) P.lc M htk (s := 1) (by decide)
      have n2 := fun d g X => c_nof (L := L) (xs := xs) (d := d) (g := g) (X := X) P.lc M htk (s := 2) (by decide)
      rcases v2 with ⟨i, i1, rfl, i3⟩ | ⟨rfl, v3⟩
      · -- it is there
        have hth : ∀ d g X, EL (mP L xs) (d + 4) 51 [rv 14 (some 0), iv (nI t)] (f, g, X) = some (.inl (some (iv 1)), (f, g, X)) := fun d g X => by
          obtain ⟨w0, x0, y0⟩ := n0 (d + 1) g X
          obtain ⟨w1, x1, y1⟩ := n1 (d + 1) g X
          obtain ⟨w2, x2, y2⟩ := n2 (d + 1) g X
          have x0' : EL (mP L xs) (d + 3) 50 [rv 14 (some 0), iv (nI t), iv 0] (f, g, X) = _ := x0
          have x1' : EL (mP L xs) (d + 3) 50 [rv 14 (some 0), iv (nI t), iv 1] (f, g, X) = _ := x1
          have x2' : EL (mP L xs) (d + 3) 50 [rv 14 (some 0), iv (nI t), iv 2] (f, g, X) = _ := x2
          rw [keyT]
          simp only [x0', x1', x2', clI]
          have hnn := fun i (hi : i < c) => (M.ar i hi).2.2.2.1
          rcases y0 with ⟨j, j1, -, -, rfl⟩ | ⟨rfl, y0⟩
          · rw [if_neg (nI_ne1 (by have := hnn j j1; omega))]
          · rw [if_pos rfl]
            rcases y1 with ⟨j, j1, -, -, rfl⟩ | ⟨rfl, y1⟩
            · rw [if_neg (nI_ne1 (by have := hnn j j1; omega))]
            · rw [if_pos rfl]
              rcases y2 with ⟨j, j1, -, -, rfl⟩ | ⟨rfl, y2⟩
              · rw [if_neg (nI_ne1 (by have := hnn j j1; omega))]
              · exfalso
                have h9 := (M.ar i i1).2.2.1
                have : ns i = 0 ∨ ns i = 1 ∨ ns i = 2 := by omega
                rcases this with e | e | e
                · exact y0 i i1 e i3
                · exact y1 i i1 e i3
                · exact y2 i i1 e i3
        have hi26 := Z.cl
        refine Or.inr (bad 2 (by decide) (fun d g X => ?_) ?_)
        · rw [keyC, hth, clI, if_neg (by decide)]
        · rw [keyU, if_neg (nI_ne1 (by omega))]
          simp only [bg]
      · have hth : ∀ d g X, EL (mP L xs) (d + 4) 51 [rv 14 (some 0), iv (nI t)] (f, g, X) = some (.inl (some (iv 0)), (f, g, X)) := fun d g X => by
          obtain ⟨w0, x0, y0⟩ := n0 (d + 1) g X
          obtain ⟨w1, x1, y1⟩ := n1 (d + 1) g X
          obtain ⟨w2, x2, y2⟩ := n2 (d + 1) g X
          have x0' : EL (mP L xs) (d + 3) 50 [rv 14 (some 0), iv (nI t), iv 0] (f, g, X) = _ := x0
          have x1' : EL (mP L xs) (d + 3) 50 [rv 14 (some 0), iv (nI t), iv 1] (f, g, X) = _ := x1
          have x2' : EL (mP L xs) (d + 3) 50 [rv 14 (some 0), iv (nI t), iv 2] (f, g, X) = _ := x2
          rw [keyT]
          simp only [x0', x1', x2', clI]
          rcases y0 with ⟨j, j1, -, j3, -⟩ | ⟨rfl, -⟩
          · exact absurd j3 (v3 j j1)
          · rcases y1 with ⟨j, j1, -, j3, -⟩ | ⟨rfl, -⟩
            · exact absurd j3 (v3 j j1)
            · rcases y2 with ⟨j, j1, -, j3, -⟩ | ⟨rfl, -⟩
              · exact absurd j3 (v3 j j1)
              · rw [if_pos rfl, if_pos rfl, if_pos rfl]
        rw [if_pos rfl, K_Ref_newName_58] at keyU
        have e18 : u 22 0 18 = nI c := Z.cc
        have hnin := nin hc (show 26 < 2 ^ 31 by decide)
        have hcl := nI_clamp (show c < 2 ^ 31 by omega)
        have a1 : ∀ v, (m3 u 45 0 c v) 22 0 18 = nI c := fun v => (m3_r (by decide)).trans e18
        have a2 : ∀ v w, (m3 (m3 u 45 0 c v) 46 0 c w) 22 0 18 = nI c := fun v w => (m3_r (by decide)).trans (a1 v)
        have a3 : ∀ v w x, (m3 (m3 (m3 u 45 0 c v) 46 0 c w) 47 0 c x) 22 0 18 = nI c := fun v w x => (m3_r (by decide)).trans (a2 v w)
        have a4 : ∀ v w x y, (m3 (m3 (m3 (m3 u 45 0 c v) 46 0 c w) 47 0 c x) 48 0 c y) 22 0 18 = nI c := fun v w x y => (m3_r (by decide)).trans (a3 v w x)
        have a5 : ∀ v w, (m3 (m3 u 45 0 c v) 46 0 c w) 22 0 8 = nI (tS b N t) := fun v w => (m3_r (by decide)).trans ((m3_r (by decide)).trans bg)
        have a6 : ∀ v w x, (m3 (m3 (m3 u 45 0 c v) 46 0 c w) 47 0 c x) 22 0 8 = nI (tS b N t) := fun v w x => (m3_r (by decide)).trans (a5 v w)
        have a7 : ∀ v w x, (m3 (m3 (m3 u 45 0 c v) 46 0 c w) 47 0 c x) 22 0 9 = nI (tE b N t) := fun v w x => (m3_r (by decide)).trans ((m3_r (by decide)).trans ((m3_r (by decide)).trans en))
        simp only [P.fu, if_true, e18, if_neg hnin, hcl, a1, a2, a3, a4, a5, a6, a7, hsz, nI_1] at keyU
        generalize hV : m3 (m3 (m3 (m3 (m3 u 45 0 c (nI (s + 1))) 46 0 c (nI n)) 47 0 c (nI (tS b N t))) 48 0 c (nI (tE b N t - tS b N t))) 22 0 18 (nI (c + 1)) = V at keyU
        have VR : ∀ R o i, ¬ (R = 45 ∨ R = 46 ∨ R = 47 ∨ R = 48 ∨ (R = 22 ∧ i = 18)) → V R o i = u R o i := fun R o i h => by rw [← hV, m3_no (by omega), m3_no (by omega), m3_no (by omega), m3_no (by omega), m3_no (by omega)]
        have PV : PX f V N k b sg t := P.fr (fun _ _ _ _ => rfl) (fun R o i h => VR R o i (by omega))
        have n0' : sg t ≠ 0 := by rw [z2]; decide
        have n1' : sg t ≠ 1 := by rw [z2]; decide
        obtain ⟨b1, u2, b2, b3, b4⟩ := px_adv (L := L) (xs := xs) (Y := Y) PV n0' n1'
        rw [b2, clV] at keyU
        refine Or.inl ⟨u2, fun d g X => ?_, keyU, z2, b4, ⟨by omega, ?_, fun j hj => ?_, fun i j hi hj hsm => ?_⟩, fun R o i h => ?_⟩
        · rw [keyC, hth, clI, if_pos rfl, b1, clV]
        · rw [b3 22 0 18 (by omega), ← hV, m3_eq]
        · rw [b3 45 0 j (by omega), b3 46 0 j (by omega), b3 47 0 j (by omega), b3 48 0 j (by omega)]
          by_cases y : j = c
          · subst y
            rw [ext_eq, ext_eq, ext_eq]
            refine ⟨htk, z2, hs, hn, ?_, ?_, ?_, ?_⟩
            · rw [← hV, m3_r (by decide), m3_r (by decide), m3_r (by decide), m3_r (by decide), m3_eq]
            · rw [← hV, m3_r (by decide), m3_r (by decide), m3_r (by decide), m3_eq]
            · rw [← hV, m3_r (by decide), m3_r (by decide), m3_eq]
            · rw [← hV, m3_r (by decide), m3_eq]
          · rw [ext_ne y, ext_ne y, ext_ne y]
            have hz := Z.ar j (by omega)
            rw [← hV, m3_r (by decide), m3_r (by decide), m3_r (by decide), m3_r (by decide), m3_i y, m3_r (by decide), m3_r (by decide), m3_r (by decide), m3_i y, m3_r (by decide), m3_r (by decide), m3_r (by decide), m3_i y, m3_r (by decide), m3_r (by decide), m3_r (by decide), m3_i y, m3_r (by decide), m3_r (by decide), m3_r (by decide)]
            exact hz
        · by_cases y1 : i = c
          · by_cases y2 : j = c
            · omega
            · rw [y1, ext_eq, ext_ne y2] at hsm
              exact absurd (same_sy hsm) (v3 j (by omega))
          · by_cases y2 : j = c
            · rw [y2, ext_eq, ext_ne y1] at hsm
              exact absurd hsm (v3 i (by omega))
            · rw [ext_ne y1, ext_ne y2] at hsm
              exact Z.df i j (by omega) (by omega) hsm
        · rw [b3 R o i (by omega), VR R o i (by omega)]
    · have w1 : ¬ u 22 0 11 = -1 := fun e => z2 (q2.mpr ⟨hk1, e⟩)
      rw [if_neg w1] at keyU
      simp only [if_neg z2] at keyT
      refine Or.inr (bad 2 (by decide) (fun d g X => ?_) keyU)
      rw [keyC, keyT, clI, if_neg (by decide)]
/-- a name that is there -/
theorem px_old (P : PX f u N k b sg t) (M : NC f k sg c nt ns nn) (Z : NU u N k b sg c nt ns nn) {s : Nat} (hs : s ≤ 2) :
    (∃ u2 j, j < c ∧ ns j = s ∧ same b N (nt j) t ∧ (∀ d g X, EL (mP L xs) (d + 3) 76 [rv 14 (some 0), iv (nI s)] (f, g, X) = some (.inl (some (iv (nI (nn j)))), (m3 f 20 0 6 (nI (t + 1)), g, X))) ∧ EL (mP L xs) 8 106 [rv 22 (some 0), iv (nI (s + 1))] (u, Y) = some (.inl (some (iv (nI (nn j)))), (u2, Y)) ∧ PX (m3 f 20 0 6 (nI (t + 1))) u2 N k b sg (t + 1) ∧ Fr6 u u2 ∧ sg t = 300) ∨
    (∃ f2 u2, (∀ d g X, EL (mP L xs) (d + 3) 76 [rv 14 (some 0), iv (nI s)] (f, g, X) = some (.inl (some (iv (-1))), (f2, g, X))) ∧ EL (mP L xs) 8 106 [rv 22 (some 0), iv (nI (s + 1))] (u, Y) = some (.inl (some (iv (-1))), (u2, Y)) ∧ BAD f2 u2 ∧ FB f f2 u u2) := by
  have hN := P.tu.nl
  have htk := P.tk
  obtain ⟨h1, h2, h3⟩ := tS_le (t := t) P.lc
  obtain ⟨q1, q2, q3, q4⟩ := tk_cls P.tkk
  have bg := P.bg
  have en := P.en.1
  have hsz : nI (tE b N t) - nI (tS b N t) = nI (tE b N t - tS b N t) := nI_sub h1
  have keyC := fun d g X => E_Names_readTold (L := L) (xs := xs) (d := d + 2) (nI s) (f, g, X)
  have keyU := E_Ref_oldName (L := L) (xs := xs) (d := 7) (nI (s + 1)) (u, Y)
  simp only [px_isWord P, clI, P.at_] at keyC
  simp only [bg, en, hsz] at keyU
  have bad : ∀ q : Int32, q ≠ 0 → (∀ d g X, EL (mP L xs) (d + 3) 76 [rv 14 (some 0), iv (nI s)] (f, g, X) = mclV (EL (mP L xs) (d + 2) 41 [rv 20 (some 0), iv q] (f, g, X)) (fun h7 => some (.inl (some (iv (-1))), h7)) (fun e h => some (.inr e, h))) →
      EL (mP L xs) 8 106 [rv 22 (some 0), iv (nI (s + 1))] (u, Y) = mclV (EL (mP L xs) 7 102 [rv 22 (some 0), iv q, iv (nI (tS b N t))] (u, Y)) (fun h4 => some (.inl (some (iv (-1))), h4)) (fun e h => some (.inr e, h)) →
      ∃ f2 u2, (∀ d g X, EL (mP L xs) (d + 3) 76 [rv 14 (some 0), iv (nI s)] (f, g, X) = some (.inl (some (iv (-1))), (f2, g, X))) ∧ EL (mP L xs) 8 106 [rv 22 (some 0), iv (nI (s + 1))] (u, Y) = some (.inl (some (iv (-1))), (u2, Y)) ∧ BAD f2 u2 ∧ FB f f2 u u2 := by
    intro q hq hC hU
    obtain ⟨f2, u2, a1, a2, a3, a4, a5⟩ := px_bad (L := L) (xs := xs) (Y := Y) P hq
    rw [bg] at a2
    refine ⟨f2, u2, fun d g X => ?_, ?_, a3, a4⟩
    · rw [hC, a1, clV]
    · rw [hU, a2 6, clV]
  by_cases z1 : sg t < 300
  · refine Or.inr (bad 1 (by decide) (fun d g X => ?_) ?_)
    · rw [keyC, if_pos z1, if_pos rfl]
    · rw [keyU, if_neg (q1.mp z1)]
  · have hk1 : u 22 0 7 = 1 := Decidable.by_contra (fun e => z1 (q1.mpr e))
    simp only [if_neg z1, if_neg (show ¬ (1 : Int32) = 0 by decide)] at keyC
    rw [if_pos hk1] at keyU
    have hnof : ∃ v : Int32, (∀ d g X, EL (mP L xs) (d + 2) 50 [rv 14 (some 0), iv (nI t), iv (nI s)] (f, g, X) = some (.inl (some (iv v)), (f, g, X))) ∧ ((∃ i, i < c ∧ ns i = s ∧ same b N (nt i) t ∧ v = nI (nn i)) ∨ (v = -1 ∧ ∀ i, i < c → ns i = s → ¬ same b N (nt i) t)) := by
      by_cases e : ∃ i, i < c ∧ ns i = s ∧ same b N (nt i) t
      · obtain ⟨i, i1, i2, i3⟩ := e
        refine ⟨nI (nn i), fun d g X => ?_, Or.inl ⟨i, i1, i2, i3, rfl⟩⟩
        obtain ⟨v, v1, v2⟩ := c_nof (L := L) (xs := xs) (d := d) (g := g) (X := X) P.lc M htk hs
        rcases v2 with ⟨j, j1, j2, j3, rfl⟩ | ⟨-, v2⟩
        · rw [v1, Z.df i j i1 j1 (same_tr i3 (same_sy j3))]
        · exact absurd i3 (v2 i i1 i2)
      · refine ⟨-1, fun d g X => ?_, Or.inr ⟨rfl, fun i i1 i2 i3 => e ⟨i, i1, i2, i3⟩⟩⟩
        obtain ⟨v, v1, v2⟩ := c_nof (L := L) (xs := xs) (d := d) (g := g) (X := X) P.lc M htk hs
        rcases v2 with ⟨j, j1, j2, j3, rfl⟩ | ⟨rfl, v2⟩
        · exact absurd ⟨j, j1, j2, j3⟩ e
        · exact v1
    obtain ⟨v, v1, v2⟩ := hnof
    simp only [v1, clI] at keyC
    rcases v2 with ⟨i, i1, i2, i3, rfl⟩ | ⟨rfl, v2⟩
    · have hi := Z.ar i i1
      have h26 := Z.cl
      have z2 : sg t = 300 := same_300 P.lc hi.1 htk hi.2.1 i3 z1
      obtain ⟨-, w1⟩ := q2.mp z2
      obtain ⟨w, x1, x2⟩ := r_known (L := L) (xs := xs) (Y := Y) P.lc P.tu Z t
      rw [if_pos w1, x1 6, clI, K_Ref_oldName_48] at keyU
      rcases x2 with ⟨j, j1, rfl, j3⟩ | ⟨-, x3⟩
      · have eij := Z.df i j i1 j1 (same_tr i3 (same_sy j3))
        subst eij
        have n0' : sg t ≠ 0 := by rw [z2]; decide
        have n1' : sg t ≠ 1 := by rw [z2]; decide
        obtain ⟨b1, u2, b2, b3, b4⟩ := px_adv (L := L) (xs := xs) (Y := Y) P n0' n1'
        rw [if_neg (nI_ne1 (by omega)), if_neg (nin (show i < 26 by omega) (by decide)), b2, clV, if_neg (nin (show i < 26 by omega) (by decide))] at keyU
        simp only [nI_clamp (show i < 2 ^ 31 by omega), hi.2.2.2.2.1, i2, if_true] at keyU
        have e46 : u2 46 0 i = nI (nn i) := (b3 46 0 i (by omega)).trans hi.2.2.2.2.2.1
        rw [e46] at keyU
        refine Or.inl ⟨u2, i, i1, i2, i3, fun d g X => ?_, keyU, b4, b3, z2⟩
        rw [keyC, if_neg (nI_ne1 (by have := hi.2.2.2.1; omega)), b1, clV]
      · exact absurd i3 (x3 i i1)
    · refine Or.inr (bad 3 (by decide) (fun d g X => ?_) ?_)
      · rw [keyC, if_pos rfl]
      · by_cases z2 : u 22 0 11 = -1
        · obtain ⟨w, x1, x2⟩ := r_known (L := L) (xs := xs) (Y := Y) P.lc P.tu Z t
          rw [if_pos z2, x1 6, clI, K_Ref_oldName_48] at keyU
          rcases x2 with ⟨j, j1, rfl, j3⟩ | ⟨rfl, -⟩
          · have hj := Z.ar j j1
            have h26 := Z.cl
            rw [if_neg (nI_ne1 (by omega)), if_neg (nin (show j < 26 by omega) (by decide))] at keyU
            simp only [nI_clamp (show j < 2 ^ 31 by omega), hj.2.2.2.2.1, nI_is (show ns j + 1 < 2 ^ 31 by omega) (show s + 1 < 2 ^ 31 by omega), bg] at keyU
            rw [if_neg (fun e => v2 j j1 (by omega) j3)] at keyU
            exact keyU
          · rw [if_pos rfl] at keyU
            simp only [bg] at keyU
            exact keyU
        · rw [if_neg z2, K_Ref_oldName_48, if_pos rfl] at keyU
          simp only [bg] at keyU
          exact keyU
/-- a number from 1 to some most -/
theorem px_nin (P : PX f u N k b sg t) {m : Nat} (hm : m < 10000) :
    (∃ u2 v, 1 ≤ v ∧ v ≤ m ∧ (∀ d g X, EL (mP L xs) (d + 3) 45 [rv 12 (some 0), iv (nI m)] (f, g, X) = some (.inl (some (iv (nI v))), (m3 f 20 0 6 (nI (t + 1)), g, X))) ∧ EL (mP L xs) 8 103 [rv 22 (some 0), iv 1, iv (nI m)] (u, Y) = some (.inl (some (iv (nI v))), (u2, Y)) ∧ PX (m3 f 20 0 6 (nI (t + 1))) u2 N k b sg (t + 1) ∧ Fr6 u u2) ∨
    (∃ f2 u2 v, (∀ d g X, EL (mP L xs) (d + 3) 45 [rv 12 (some 0), iv (nI m)] (f, g, X) = some (.inl (some (iv v)), (f2, g, X))) ∧ EL (mP L xs) 8 103 [rv 22 (some 0), iv 1, iv (nI m)] (u, Y) = some (.inl (some (iv v)), (u2, Y)) ∧ BAD f2 u2 ∧ FB f f2 u u2) := by
  have bg := P.bg
  have keyC := fun d g X => E_FairReader_number (L := L) (xs := xs) (d := d + 2) (nI m) (f, g, X)
  have keyU := E_Ref_numberIn (L := L) (xs := xs) (d := 7) 1 (nI m) (u, Y)
  simp only [px_sort P, clI] at keyC
  obtain ⟨q1, -⟩ := tk_num P.tkk
  by_cases z : sg t = 2
  · obtain ⟨v, v1, v2, v3⟩ := px_num (L := L) (xs := xs) P z
    have hk : u 22 0 7 = 2 := q1.mp z
    simp only [if_pos z, v3, clI] at keyC
    simp only [if_pos hk, v2, P.fu, if_true] at keyU
    have bad : (∀ d g X, EL (mP L xs) (d + 3) 45 [rv 12 (some 0), iv (nI m)] (f, g, X) = mclV (EL (mP L xs) (d + 2) 41 [rv 20 (some 0), iv 5] (f, g, X)) (fun h5 => mclV (EL (mP L xs) (d + 2) 42 [rv 20 (some 0)] h5) (fun h6 => some (.inl (some (iv (nI v))), h6)) (fun e h => some (.inr e, h))) (fun e h => some (.inr e, h))) →
        EL (mP L xs) 8 103 [rv 22 (some 0), iv 1, iv (nI m)] (u, Y) = mclV (EL (mP L xs) 7 102 [rv 22 (some 0), iv 5, iv (u 22 0 8)] (u, Y)) (fun h1 => if h1.1 22 0 12 = 0 then mclV (EL (mP L xs) 7 101 [rv 22 (some 0)] h1) (fun h2 => some (.inl (some (iv (nI v))), h2)) (fun e h => some (.inr e, h)) else some (.inl (some (iv (nI v))), h1)) (fun e h => some (.inr e, h)) →
        ∃ f2 u2 v, (∀ d g X, EL (mP L xs) (d + 3) 45 [rv 12 (some 0), iv (nI m)] (f, g, X) = some (.inl (some (iv v)), (f2, g, X))) ∧ EL (mP L xs) 8 103 [rv 22 (some 0), iv 1, iv (nI m)] (u, Y) = some (.inl (some (iv v)), (u2, Y)) ∧ BAD f2 u2 ∧ FB f f2 u u2 := by
      intro hC hU
      obtain ⟨f2, u2, a1, a2, a3, a4, a5⟩ := px_bad (L := L) (xs := xs) (Y := Y) P (q := 5) (by decide)
      refine ⟨f2, u2, nI v, fun d g X => ?_, ?_, a3, a4⟩
      · obtain ⟨q, p, hE, -⟩ := a3
        rw [hC, a1, clV, ed_adv hE, clV]
      · rw [hU, a2 6, clV, if_neg (show ¬ u2 22 0 12 = 0 by rw [a5]; decide)]
    by_cases y1 : nI v < 1
    · simp only [if_pos y1] at keyC keyU
      exact Or.inr (bad keyC keyU)
    · by_cases y2 : nI m < nI v
      · simp only [if_neg y1, if_pos y2] at keyC keyU
        exact Or.inr (bad keyC keyU)
      · simp only [if_neg y1, if_neg y2] at keyC keyU
        have n0' : sg t ≠ 0 := by rw [z]; decide
        have n1' : sg t ≠ 1 := by rw [z]; decide
        obtain ⟨b1, u2, b2, b3, b4⟩ := px_adv (L := L) (xs := xs) (Y := Y) P n0' n1'
        rw [b2, clV] at keyU
        refine Or.inl ⟨u2, v, ?_, ?_, fun d g X => ?_, keyU, b4, b3⟩
        · exact Nat.le_of_not_lt (fun w => y1 (nI_lt (b := 1) w (by decide)))
        · exact Nat.le_of_not_lt (fun w => y2 (nI_lt w (by omega)))
        · rw [keyC, b1, clV]
  · obtain ⟨f2, u2, a1, a2, a3, a4, a5⟩ := px_bad (L := L) (xs := xs) (Y := Y) P (q := 1) (by decide)
    refine Or.inr ⟨f2, u2, 0, fun d g X => ?_, ?_, a3, a4⟩
    · rw [keyC, if_neg z, a1, clV]
    · rw [keyU, if_neg (fun e => z (q1.mpr e)), a2 6, clV]
end Nm2
