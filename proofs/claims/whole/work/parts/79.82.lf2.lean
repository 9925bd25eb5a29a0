/-! ===== read: every step without a block ===== -/
section Lf2
variable {L : Nat} {xs : Nat → Int32} {Y : MR × ML × (Nat → Nat) × Nat × Nat} {N k t c q s kk st A cn sl fl r kd m : Nat} {b : Nat → Nat} {sg : Nat → Int32} {f f2 u u2 : MI} {g g2 : MR} {X X2 : ML × (Nat → Nat) × Nat × Nat} {nt ns nn : Nat → Nat} {o gd l : Option Nat} {gv lv : Int32}
theorem W1_no {w pl : Int32} {R o i : Nat} (h1 : ¬ (R = 19 ∧ o = A)) (h2 : ¬ (R = 12 ∧ i = 6)) (h3 : ¬ (R = 20 ∧ i = 6)) : W1 f A w pl t st R o i = f R o i := by
  unfold W1
  rw [m3_no (by omega), m3_no (by omega), NF_o h1]
theorem W1_0 {w pl : Int32} : W1 f A w pl t st 19 A 0 = w := by
  unfold W1
  rw [m3_r (by decide), m3_r (by decide), NF_0]
theorem W1_1 {w pl : Int32} : W1 f A w pl t st 19 A 1 = pl := by
  unfold W1
  rw [m3_r (by decide), m3_r (by decide), NF_1]
theorem W1_fr {w pl : Int32} : FrK c A f (W1 f A w pl t st) := fun R o i z => W1_no (by omega) (by omega) (by omega)
theorem fit_of {i : Nat} {lb : Bool} (i1 : i < 19) (hf : fitb kd i lb = true) {x : Int32} (hx : x = nI (301 + i)) : (x = 301 → aTu kd = true) ∧ (x = 302 → aLi kd = true) ∧ (x = 319 → aLa kd = true) ∧ (x = 303 → aSo kd = true) := by
  subst hx
  have key : ∀ j, j < 19 → nI (301 + i) = nI (301 + j) → i = j := fun j hj h => by
    have := (nI_eq (a := 301 + i) (b := 301 + j) (by omega) (by omega)).mp h
    omega
  refine ⟨fun h => ?_, fun h => ?_, fun h => ?_, fun h => ?_⟩
  · have := key 0 (by decide) h
    subst this
    simp [fitb] at hf
    exact hf.1
  · have := key 1 (by decide) h
    subst this
    simp [fitb] at hf
    exact hf
  · have := key 18 (by decide) h
    subst this
    simp [fitb] at hf
    exact hf
  · have := key 2 (by decide) h
    subst this
    simp [fitb] at hf
    exact hf
theorem fit_4 : ((400 : Int32) = 301 → aTu kd = true) ∧ ((400 : Int32) = 302 → aLi kd = true) ∧ ((400 : Int32) = 319 → aLa kd = true) ∧ ((400 : Int32) = 303 → aSo kd = true) := ⟨fun h => absurd h (by decide), fun h => absurd h (by decide), fun h => absurd h (by decide), fun h => absurd h (by decide)⟩
def eki (i : Nat) : Prop := i = 0 ∨ i = 1 ∨ i = 2 ∨ i = 3 ∨ i = 5 ∨ i = 6 ∨ i = 18
theorem r_116E {d i : Nat} (hi : eki i) (v1 v2 v3 : Int32) (h : MH) : RL (mP L xs) d 124 116 [some (rv 22 (some 0)), some (iv v1), some (iv v2), some (iv v3), some (iv (nI (wm i)))] [] h = mclI (EL (mP L xs) d 118 [rv 22 (some 0)] h) (fun x2 h1 => mclI (EL (mP L xs) d 119 [rv 22 (some 0), iv (nI (wm i)), iv v3, iv x2, iv 0, iv 0, iv v2] h1) (fun x4 h3 => if h3.1 22 0 12 = 0 then (mclI (EL (mP L xs) d 112 [rv 22 (some 0), iv 59] h3) (fun x6 h5 => some (.inl none, h5)) (fun e h => some (.inr e, h))) else (some (.inl none, h3))) (fun e h => some (.inr e, h))) (fun e h => some (.inr e, h)) := by
  have hw : nI (wm i) < 41 ∧ ¬ nI (wm i) = 12 ∧ ¬ nI (wm i) = 13 ∧ ¬ nI (wm i) = 14 ∧ ¬ nI (wm i) = 15 ∧ ¬ nI (wm i) = 16 ∧ ¬ nI (wm i) = 21 ∧ ¬ nI (wm i) = 9 ∧ ¬ nI (wm i) = 22 := by
    rcases hi with rfl | rfl | rfl | rfl | rfl | rfl | rfl <;> decide
  obtain ⟨w0, w1, w2, w3, w4, w5, w6, w7, w8⟩ := hw
  rw [K_Ref_step_116, if_pos w0, if_neg w1, if_neg w2, if_neg w3, if_neg w4, if_neg w5, if_neg w6, if_neg w7, if_neg w8]
theorem kda_E {F U : MI} {Γ : Gh} {n sF qF i : Nat} {x y : Int32} (hi : eki i) (gp : gP Γ A = kk) (ge : gE Γ A = kk + 1) (e0 : F 19 A 0 = nI (301 + i)) (e4 : F 19 A 4 = x) (e59 : U 59 0 kk = nI (wm i)) (e61 : U 61 0 kk = y) (fx : FMx F U n x y) : KdA F U (gP Γ) (gE Γ) (gL Γ) n sF qF A := by
  unfold KdA
  rw [gp, ge, e0, e4, e59, e61]
  refine ⟨rfl, ?_⟩
  rcases hi with rfl | rfl | rfl | rfl | rfl | rfl | rfl
  · exact Or.inl ⟨Or.inl ⟨rfl, rfl⟩, fx⟩
  · exact Or.inl ⟨Or.inr (Or.inl ⟨rfl, rfl⟩), fx⟩
  · exact Or.inl ⟨Or.inr (Or.inr (Or.inr ⟨rfl, rfl⟩)), fx⟩
  · exact Or.inr (Or.inl ⟨Or.inl ⟨rfl, rfl⟩, fx⟩)
  · exact Or.inr (Or.inl ⟨Or.inr (Or.inl ⟨rfl, rfl⟩), fx⟩)
  · exact Or.inr (Or.inl ⟨Or.inr (Or.inr ⟨rfl, rfl⟩), fx⟩)
  · exact Or.inl ⟨Or.inr (Or.inr (Or.inl ⟨rfl, rfl⟩)), fx⟩
theorem lf_res {F1 f3 u1 u2 : MI} {v4 p0 p2 p3 : Int32} (hm : m ≤ 9) (a : ∀ d, 77 ≤ d → EL (mP L xs) (d + 1) 80 [rv 12 (some 0), iv (nI (m + 1)), rv 19 o, rv 19 gd, rv 16 (some r)] (f, g, X) = mclV (EL (mP L xs) d 79 [rv 12 (some 0), rv 19 (some A), iv (nI (m + 1)), rv 16 (some r)] (F1, NG g A o gd, NX X A)) (fun h2 => some (.inl (some (rv 19 (some A))), h2)) (fun e h => some (.inr e, h))) (b' : ∀ d, 76 ≤ d → EL (mP L xs) (d + 1) 79 [rv 12 (some 0), rv 19 (some A), iv (nI (m + 1)), rv 16 (some r)] (F1, NG g A o gd, NX X A) = mclV (EL (mP L xs) d 46 [rv 20 (some 0), iv 59] (f3, NG g A o gd, NX X A)) (fun h5 => some (.inl none, h5)) (fun e h => some (.inr e, h))) (c' : ∀ d, 77 ≤ d → EL (mP L xs) (d + 1) 124 [rv 22 (some 0), iv (nI (m + 1)), iv gv] (u, Y) = RL (mP L xs) d 124 116 [some (rv 22 (some 0)), some (iv (nI (m + 1))), some (iv gv), some (iv (nI (tS b N t))), some (iv v4)] [] (u1, Y)) (e : ∀ d, 76 ≤ d → RL (mP L xs) d 124 116 [some (rv 22 (some 0)), some (iv (nI (m + 1))), some (iv gv), some (iv (nI (tS b N t))), some (iv v4)] [] (u1, Y) = mclI (EL (mP L xs) d 119 [rv 22 (some 0), iv p0, iv (nI (tS b N t)), iv p2, iv p3, iv 0, iv gv] (u2, Y)) (fun x4 h3 => if h3.1 22 0 12 = 0 then (mclI (EL (mP L xs) d 112 [rv 22 (some 0), iv 59] h3) (fun x6 h5 => some (.inl none, h5)) (fun e h => some (.inr e, h))) else (some (.inl none, h3))) (fun e h => some (.inr e, h)))
    (Z : ∃ f4 u4, (∀ d g X, EL (mP L xs) (d + 2) 46 [rv 20 (some 0), iv 59] (f3, g, X) = some (.inl none, (f4, g, X))) ∧ (∀ d, 8 ≤ d → mclI (EL (mP L xs) d 119 [rv 22 (some 0), iv p0, iv (nI (tS b N t)), iv p2, iv p3, iv 0, iv gv] (u2, Y)) (fun x4 h3 => if h3.1 22 0 12 = 0 then (mclI (EL (mP L xs) d 112 [rv 22 (some 0), iv 59] h3) (fun x6 h5 => some (.inl none, h5)) (fun e h => some (.inr e, h))) else (some (.inl none, h3))) (fun e h => some (.inr e, h)) = some (.inl none, (u4, Y))) ∧ ((∃ t' c' q' s' kk' st' A', PGd N k b sg cn nt ns nn sl fl r kd m o gd l gv lv t c q s kk A f g u X f4 (NG g A o gd) u4 (NX X A) t' c' q' s' kk' st' A') ∨ SB k t c q s kk A none f g u X f4 (NG g A o gd) u4 (NX X A))) : (∃ f2 g2 u2 X2, (∀ d, 80 + 3 * (11 - m) ≤ d → EL (mP L xs) d 80 [rv 12 (some 0), iv (nI (m + 1)), rv 19 o, rv 19 gd, rv 16 (some r)] (f, g, X) = some (.inl (some (rv 19 (some A))), (f2, g2, X2))) ∧ (∀ d, 80 + 3 * (11 - m) ≤ d → EL (mP L xs) d 124 [rv 22 (some 0), iv (nI (m + 1)), iv gv] (u, Y) = some (.inl none, (u2, Y))) ∧ ((∃ t' c' q' s' kk' st' A', PGd N k b sg cn nt ns nn sl fl r kd m o gd l gv lv t c q s kk A f g u X f2 g2 u2 X2 t' c' q' s' kk' st' A') ∨ SB k t c q s kk A none f g u X f2 g2 u2 X2)) := by
  obtain ⟨f4, u4, z1, z2, z3⟩ := Z
  refine ⟨f4, NG g A o gd, u4, NX X A, fun d hd => ?_, fun d hd => ?_, z3⟩
  · obtain ⟨d, rfl⟩ : ∃ d', d = d' + 4 := ⟨d - 4, by omega⟩
    rw [a (d + 3) (by omega), b' (d + 2) (by omega), z1, clV, clV]
  · obtain ⟨d, rfl⟩ : ∃ d', d = d' + 1 := ⟨d - 1, by omega⟩
    rw [c' d (by omega), e d (by omega)]
    exact z2 d (by omega)
/-- with an E -/
theorem st_E {i : Nat} {u1 : MI} (H : SX N k b sg cn nt ns nn sl fl r kd f u t c q s kk st) (hA : X.2.1 19 = A) (hm : m ≤ 9) (hl : u 22 0 54 = lv) (i1 : i < 19) (hfit : fitb kd i l.isSome = true) (H1 : SX N k b sg cn nt ns nn sl fl r kd (W1 f A (nI (301 + i)) (nI (tS b N t)) t st) u1 (t + 1) c q s kk (st + 1)) (hu1 : ∀ R o i, ¬ (R = 22 ∧ ((6 ≤ i ∧ i ≤ 11) ∨ i = 53)) → u1 R o i = u R o i) (hC : ∀ d, 8 ≤ d → EL (mP L xs) (d + 1) 80 [rv 12 (some 0), iv (nI (m + 1)), rv 19 o, rv 19 gd, rv 16 (some r)] (f, g, X) = mclV (EL (mP L xs) d 79 [rv 12 (some 0), rv 19 (some A), iv (nI (m + 1)), rv 16 (some r)] (W1 f A (nI (301 + i)) (nI (tS b N t)) t st, NG g A o gd, NX X A)) (fun h2 => some (.inl (some (rv 19 (some A))), h2)) (fun e h => some (.inr e, h))) (hU : ∀ d, 8 ≤ d → EL (mP L xs) (d + 1) 124 [rv 22 (some 0), iv (nI (m + 1)), iv gv] (u, Y) = RL (mP L xs) d 124 116 [some (rv 22 (some 0)), some (iv (nI (m + 1))), some (iv gv), some (iv (nI (tS b N t))), some (iv (nI (wm i)))] [] (u1, Y)) (hi : eki i) : (∃ f2 g2 u2 X2, (∀ d, 80 + 3 * (11 - m) ≤ d → EL (mP L xs) d 80 [rv 12 (some 0), iv (nI (m + 1)), rv 19 o, rv 19 gd, rv 16 (some r)] (f, g, X) = some (.inl (some (rv 19 (some A))), (f2, g2, X2))) ∧ (∀ d, 80 + 3 * (11 - m) ≤ d → EL (mP L xs) d 124 [rv 22 (some 0), iv (nI (m + 1)), iv gv] (u, Y) = some (.inl none, (u2, Y))) ∧ ((∃ t' c' q' s' kk' st' A', PGd N k b sg cn nt ns nn sl fl r kd m o gd l gv lv t c q s kk A f g u X f2 g2 u2 X2 t' c' q' s' kk' st' A') ∨ SB k t c q s kk A none f g u X f2 g2 u2 X2)) := by
  have hcl := H.gx.cl
  have hsl := H1.sl
  obtain ⟨f2, u2, a1, a2, a3⟩ := ex_expr (L := L) (xs := xs) (Y := Y) H1.gx (by omega)
  have w0 : (W1 f A (nI (301 + i)) (nI (tS b N t)) t st) 19 A 0 = nI (301 + i) := W1_0
  have n401 : (W1 f A (nI (301 + i)) (nI (tS b N t)) t st) 19 A 0 ≠ 401 := by
    rw [w0]
    exact fun h => by have := (nI_eq (a := 301 + i) (b := 401) (by omega) (by omega)).mp h; omega
  have hdf : dfl ((W1 f A (nI (301 + i)) (nI (tS b N t)) t st) 19 A 0) := by
    rw [w0]
    rcases hi with rfl | rfl | rfl | rfl | rfl | rfl | rfl <;> (unfold dfl; decide)
  have FC : FrC c (W1 f A (nI (301 + i)) (nI (tS b N t)) t st) f2 := by
    rcases a3 with ⟨t', c', q', E⟩ | E
    · exact E.fc
    · exact E.fc
  have FA : FrA q s u1 u2 := by
    rcases a3 with ⟨t', c', q', E⟩ | E
    · exact FrA.oq E.fu
    · exact FrA.oq E.fu
  refine lf_res (u1 := u1) (v4 := nI (wm i)) hm (fun d hd => hC d (by omega)) (fun d hd => ?_) (fun d hd => hU d (by omega)) (fun d hd => ?_) (lf_go (p0 := nI (wm i)) (p2 := nI q) (p3 := 0) (fi := 4) (v := nI c) H hA hm H1 (by omega) W1_fr (fun R o i z => hu1 R o i (by omega)) ((hu1 22 0 54 (by omega)).trans hl) n401 W1_1 (Or.inl rfl) (fit_of i1 hfit w0) FC FA ?_)
  · rw [rt_E hdf, a1 _ _ _ (by omega), clI]
  · rw [r_116E hi, a2 d (by omega), clI]
  · rcases a3 with ⟨t', c', q', E⟩ | E
    · have ett := E.tt
      have ecl := E.cl
      have eql := E.ql
      refine Or.inl ⟨t', c', q', s, E.px, by omega, E.cc, by omega, by omega, E.qu, by omega, by omega, (E.fu 22 0 51 (by omega)).trans H1.su, Nat.le_refl s, by omega, E.nm, fun F U Γ n sF qF ei e59 e61 e62 fm cm _ _ gp ge gl lvx => ?_⟩
      obtain ⟨c1, lc, lr, g1, g2, g3, g4⟩ := E.fe
      have fx : FMx F U n (nI c) (nI q) := fm _ _ ⟨c, q, c1, lc, lr, rfl, rfl, g1, g2, g3, g4⟩
      exact kda_E hi gp ge ((ei 0 (by decide)).trans ((m3_i (by decide)).trans ((E.fc 19 A 0 (by omega)).trans w0))) ((ei 4 (by decide)).trans m3_eq) e59 e61 fx
    · exact Or.inr ⟨E.bd, E.cc⟩
/-- until -/
theorem st_C {i : Nat} {u1 : MI} (H : SX N k b sg cn nt ns nn sl fl r kd f u t c q s kk st) (hA : X.2.1 19 = A) (hm : m ≤ 9) (hl : u 22 0 54 = lv) (i1 : i < 19) (hfit : fitb kd i l.isSome = true) (H1 : SX N k b sg cn nt ns nn sl fl r kd (W1 f A (nI (301 + i)) (nI (tS b N t)) t st) u1 (t + 1) c q s kk (st + 1)) (hu1 : ∀ R o i, ¬ (R = 22 ∧ ((6 ≤ i ∧ i ≤ 11) ∨ i = 53)) → u1 R o i = u R o i) (hC : ∀ d, 8 ≤ d → EL (mP L xs) (d + 1) 80 [rv 12 (some 0), iv (nI (m + 1)), rv 19 o, rv 19 gd, rv 16 (some r)] (f, g, X) = mclV (EL (mP L xs) d 79 [rv 12 (some 0), rv 19 (some A), iv (nI (m + 1)), rv 16 (some r)] (W1 f A (nI (301 + i)) (nI (tS b N t)) t st, NG g A o gd, NX X A)) (fun h2 => some (.inl (some (rv 19 (some A))), h2)) (fun e h => some (.inr e, h))) (hU : ∀ d, 8 ≤ d → EL (mP L xs) (d + 1) 124 [rv 22 (some 0), iv (nI (m + 1)), iv gv] (u, Y) = RL (mP L xs) d 124 116 [some (rv 22 (some 0)), some (iv (nI (m + 1))), some (iv gv), some (iv (nI (tS b N t))), some (iv (nI (wm i)))] [] (u1, Y)) (hi : i = 7) : (∃ f2 g2 u2 X2, (∀ d, 80 + 3 * (11 - m) ≤ d → EL (mP L xs) d 80 [rv 12 (some 0), iv (nI (m + 1)), rv 19 o, rv 19 gd, rv 16 (some r)] (f, g, X) = some (.inl (some (rv 19 (some A))), (f2, g2, X2))) ∧ (∀ d, 80 + 3 * (11 - m) ≤ d → EL (mP L xs) d 124 [rv 22 (some 0), iv (nI (m + 1)), iv gv] (u, Y) = some (.inl none, (u2, Y))) ∧ ((∃ t' c' q' s' kk' st' A', PGd N k b sg cn nt ns nn sl fl r kd m o gd l gv lv t c q s kk A f g u X f2 g2 u2 X2 t' c' q' s' kk' st' A') ∨ SB k t c q s kk A none f g u X f2 g2 u2 X2)) := by
  subst hi
  have hcl := H.gx.cl
  have hsl := H1.sl
  obtain ⟨f2, u2, a1, a2, a3⟩ := ex_cond (L := L) (xs := xs) (Y := Y) (fl := fl) H1.gx (by omega) H1.su H1.sl H1.hf
  have w0 : (W1 f A (nI (301 + 7)) (nI (tS b N t)) t st) 19 A 0 = nI (301 + 7) := W1_0
  have FC : FrC c (W1 f A (nI (301 + 7)) (nI (tS b N t)) t st) f2 := by
    rcases a3 with ⟨t', c', q', s', E⟩ | E
    · exact E.fc
    · exact E.fc
  have FA : FrA q s u1 u2 := by
    rcases a3 with ⟨t', c', q', s', E⟩ | E
    · exact E.fu
    · exact E.fu
  refine lf_res (u1 := u1) (v4 := nI (wm 7)) hm (fun d hd => hC d (by omega)) (fun d hd => ?_) (fun d hd => hU d (by omega)) (fun d hd => ?_) (lf_go (p0 := nI (wm 7)) (p2 := nI s) (p3 := 0) (fi := 4) (v := nI c) H hA hm H1 (by omega) W1_fr (fun R o i z => hu1 R o i (by omega)) ((hu1 22 0 54 (by omega)).trans hl) (by rw [w0]; decide) W1_1 (Or.inl rfl) (fit_of i1 hfit w0) FC FA ?_)
  · rw [rt_C (w0.trans rfl), a1 _ _ _ (by omega), clI]
  · rw [K_Ref_step_116, if_pos (by decide), if_pos (by decide), a2 d (by omega), clI]
  · rcases a3 with ⟨t', c', q', s', E⟩ | E
    · have ett := E.tt
      have ecl := E.cl
      have eql := E.ql
      have esl := E.sl
      refine Or.inl ⟨t', c', q', s', E.px, by omega, E.cc, by omega, by omega, E.qu, by omega, by omega, E.su, by omega, by omega, E.nm, fun F U Γ n sF qF ei e59 e61 e62 fm cm _ _ gp ge gl lvx => ?_⟩
      obtain ⟨m', e, g1, g2, g3⟩ := E.cm
      have fx : CDx F U n qF (nI c) (nI s) := cm _ _ ⟨c, s, m', e, rfl, rfl, g1, g2, g3⟩
      have e0 : F 19 A 0 = 308 := (ei 0 (by decide)).trans ((m3_i (by decide)).trans ((E.fc 19 A 0 (by omega)).trans w0))
      have e4 : F 19 A 4 = nI c := (ei 4 (by decide)).trans m3_eq
      unfold KdA
      rw [gp, ge, e4, e61]
      exact ⟨rfl, Or.inr (Or.inr (Or.inr (Or.inr (Or.inl ⟨e0, e59, fx⟩))))⟩
    · exact Or.inr ⟨E.bd, E.cc⟩
/-- a staff, a flag -/
theorem st_N {i j : Nat} {u1 : MI} (H : SX N k b sg cn nt ns nn sl fl r kd f u t c q s kk st) (hA : X.2.1 19 = A) (hm : m ≤ 9) (hl : u 22 0 54 = lv) (i1 : i < 19) (hfit : fitb kd i l.isSome = true) (H1 : SX N k b sg cn nt ns nn sl fl r kd (W1 f A (nI (301 + i)) (nI (tS b N t)) t st) u1 (t + 1) c q s kk (st + 1)) (hu1 : ∀ R o i, ¬ (R = 22 ∧ ((6 ≤ i ∧ i ≤ 11) ∨ i = 53)) → u1 R o i = u R o i) (hC : ∀ d, 8 ≤ d → EL (mP L xs) (d + 1) 80 [rv 12 (some 0), iv (nI (m + 1)), rv 19 o, rv 19 gd, rv 16 (some r)] (f, g, X) = mclV (EL (mP L xs) d 79 [rv 12 (some 0), rv 19 (some A), iv (nI (m + 1)), rv 16 (some r)] (W1 f A (nI (301 + i)) (nI (tS b N t)) t st, NG g A o gd, NX X A)) (fun h2 => some (.inl (some (rv 19 (some A))), h2)) (fun e h => some (.inr e, h))) (hU : ∀ d, 8 ≤ d → EL (mP L xs) (d + 1) 124 [rv 22 (some 0), iv (nI (m + 1)), iv gv] (u, Y) = RL (mP L xs) d 124 116 [some (rv 22 (some 0)), some (iv (nI (m + 1))), some (iv gv), some (iv (nI (tS b N t))), some (iv (nI (wm i)))] [] (u1, Y)) (hi : (j = 0 ∧ (i = 8 ∨ i = 9)) ∨ (j = 1 ∧ (i = 10 ∨ i = 11))) : (∃ f2 g2 u2 X2, (∀ d, 80 + 3 * (11 - m) ≤ d → EL (mP L xs) d 80 [rv 12 (some 0), iv (nI (m + 1)), rv 19 o, rv 19 gd, rv 16 (some r)] (f, g, X) = some (.inl (some (rv 19 (some A))), (f2, g2, X2))) ∧ (∀ d, 80 + 3 * (11 - m) ≤ d → EL (mP L xs) d 124 [rv 22 (some 0), iv (nI (m + 1)), iv gv] (u, Y) = some (.inl none, (u2, Y))) ∧ ((∃ t' c' q' s' kk' st' A', PGd N k b sg cn nt ns nn sl fl r kd m o gd l gv lv t c q s kk A f g u X f2 g2 u2 X2 t' c' q' s' kk' st' A') ∨ SB k t c q s kk A none f g u X f2 g2 u2 X2)) := by
  have hcl := H.gx.cl
  have hsl := H1.sl
  have hql := H1.gx.ql
  have w0 : (W1 f A (nI (301 + i)) (nI (tS b N t)) t st) 19 A 0 = nI (301 + i) := W1_0
  have j2 : j ≤ 2 := by omega
  have hrt : (j = 0 ∧ ((W1 f A (nI (301 + i)) (nI (tS b N t)) t st) 19 A 0 = 309 ∨ (W1 f A (nI (301 + i)) (nI (tS b N t)) t st) 19 A 0 = 310)) ∨ (j = 1 ∧ ((W1 f A (nI (301 + i)) (nI (tS b N t)) t st) 19 A 0 = 311 ∨ (W1 f A (nI (301 + i)) (nI (tS b N t)) t st) 19 A 0 = 312)) := by
    rw [w0]
    rcases hi with ⟨rfl, rfl | rfl⟩ | ⟨rfl, rfl | rfl⟩
    · exact Or.inl ⟨rfl, Or.inl rfl⟩
    · exact Or.inl ⟨rfl, Or.inr rfl⟩
    · exact Or.inr ⟨rfl, Or.inl rfl⟩
    · exact Or.inr ⟨rfl, Or.inr rfl⟩
  have n401 : (W1 f A (nI (301 + i)) (nI (tS b N t)) t st) 19 A 0 ≠ 401 := by
    rw [w0]
    exact fun h => by have := (nI_eq (a := 301 + i) (b := 401) (by omega) (by omega)).mp h; omega
  have r116 : ∀ d, RL (mP L xs) d 124 116 [some (rv 22 (some 0)), some (iv (nI (m + 1))), some (iv gv), some (iv (nI (tS b N t))), some (iv (nI (wm i)))] [] (u1, Y) = mclI (EL (mP L xs) d 106 [rv 22 (some 0), iv (nI (j + 1))] (u1, Y)) (fun x2 h1 => mclI (EL (mP L xs) d 119 [rv 22 (some 0), iv (nI (wm i)), iv (nI (tS b N t)), iv x2, iv 0, iv 0, iv gv] h1) (fun x4 h3 => if h3.1 22 0 12 = 0 then (mclI (EL (mP L xs) d 112 [rv 22 (some 0), iv 59] h3) (fun x6 h5 => some (.inl none, h5)) (fun e h => some (.inr e, h))) else (some (.inl none, h3))) (fun e h => some (.inr e, h))) (fun e h => some (.inr e, h)) := fun d => by
    rcases hi with ⟨rfl, rfl | rfl⟩ | ⟨rfl, rfl | rfl⟩
    · rw [K_Ref_step_116, if_pos (by decide), if_neg (by decide), if_pos (by decide), K_Ref_step_194]; rfl
    · rw [K_Ref_step_116, if_pos (by decide), if_neg (by decide), if_neg (by decide), if_pos (by decide), K_Ref_step_194]; rfl
    · rw [K_Ref_step_116, if_pos (by decide), if_neg (by decide), if_neg (by decide), if_neg (by decide), if_pos (by decide), K_Ref_step_227]; rfl
    · rw [K_Ref_step_116, if_pos (by decide), if_neg (by decide), if_neg (by decide), if_neg (by decide), if_neg (by decide), if_pos (by decide), K_Ref_step_227]; rfl
  rcases px_old (L := L) (xs := xs) (Y := Y) H1.gx.px H1.gx.nc H1.gx.nz j2 with ⟨u2, x, x1, x2, -, a1, a2, a3, a4, -⟩ | ⟨f2, u2, a1, a2, a3, a4⟩
  · refine lf_res (u1 := u1) (v4 := nI (wm i)) hm (fun d hd => hC d (by omega)) (fun d hd => ?_) (fun d hd => hU d (by omega)) (fun d hd => ?_) (lf_go (p0 := nI (wm i)) (p2 := nI (nn x)) (p3 := 0) (fi := 5) (v := nI (nn x)) (f2 := m3 (W1 f A (nI (301 + i)) (nI (tS b N t)) t st) 20 0 6 (nI (t + 1 + 1))) (u2 := u2) H hA hm H1 (by omega) W1_fr (fun R o i z => hu1 R o i (by omega)) ((hu1 22 0 54 (by omega)).trans hl) n401 W1_1 (Or.inr rfl) (fit_of i1 hfit w0) FrC.at6 (FrA.f6 a4) (Or.inl ⟨t + 1 + 1, c, q, s, a3, by omega, (m3_r (by decide)).trans H1.gx.cc, Nat.le_refl c, by omega, (a4 22 0 45 (by omega)).trans H1.gx.qu, Nat.le_refl q, by omega, (a4 22 0 51 (by omega)).trans H1.su, Nat.le_refl s, by omega, fun nm => NMI_cg nm (fun i _ => m3_r (by decide)) (fun R i hR _ => a4 R 0 i (by omega)), fun F U Γ n sF qF ei e59 e61 e62 fm cm hsF hqF gp ge gl lvx => ?_⟩))
    · obtain ⟨d, rfl⟩ : ∃ d', d = d' + 3 := ⟨d - 3, by omega⟩
      rw [rt_N hrt, a1, clI]
    · rw [r116, EL_mono (by omega) a2, clI]
    · have e0 : F 19 A 0 = nI (301 + i) := (ei 0 (by decide)).trans ((m3_i (by decide)).trans ((m3_r (by decide)).trans w0))
      have e5 : F 19 A 5 = nI (nn x) := (ei 5 (by decide)).trans m3_eq
      unfold KdA
      rw [gp, ge, e0, e5, e59, e61]
      refine ⟨rfl, ?_⟩
      rcases hi with ⟨rfl, rfl | rfl⟩ | ⟨rfl, rfl | rfl⟩
      · have := H.hs x x1 x2
        exact Or.inr (Or.inr (Or.inr (Or.inr (Or.inr (Or.inl ⟨Or.inl ⟨rfl, rfl⟩, nn x, by omega, rfl, rfl⟩)))))
      · have := H.hs x x1 x2
        exact Or.inr (Or.inr (Or.inr (Or.inr (Or.inr (Or.inl ⟨Or.inr ⟨rfl, rfl⟩, nn x, by omega, rfl, rfl⟩)))))
      · have := H.hf x x1 x2
        exact Or.inr (Or.inr (Or.inr (Or.inr (Or.inr (Or.inr (Or.inl ⟨Or.inl ⟨rfl, rfl⟩, nn x, by omega, rfl, rfl⟩))))))
      · have := H.hf x x1 x2
        exact Or.inr (Or.inr (Or.inr (Or.inr (Or.inr (Or.inr (Or.inl ⟨Or.inr ⟨rfl, rfl⟩, nn x, by omega, rfl, rfl⟩))))))
  · have htk := H.gx.px.tk
    have hkp := H.gx.px.lc.kp
    refine lf_res (u1 := u1) (v4 := nI (wm i)) hm (fun d hd => hC d (by omega)) (fun d hd => ?_) (fun d hd => hU d (by omega)) (fun d hd => ?_) (lf_go (p0 := nI (wm i)) (p2 := -1) (p3 := 0) (fi := 5) (v := -1) (f2 := f2) (u2 := u2) H hA hm H1 (by omega) W1_fr (fun R o i z => hu1 R o i (by omega)) ((hu1 22 0 54 (by omega)).trans hl) n401 W1_1 (Or.inr rfl) (fit_of i1 hfit w0) (FrC.b6 a4) (FrA.b6 a4) (Or.inr ⟨a3, c, Nat.le_refl c, by omega, (a4.1 10 0 3 (by omega)).trans H1.gx.cc⟩))
    · obtain ⟨d, rfl⟩ : ∃ d', d = d' + 3 := ⟨d - 3, by omega⟩
      rw [rt_N hrt, a1, clI]
    · rw [r116, EL_mono (by omega) a2, clI]
/-- unload, leave, stop -/
theorem st_S {i : Nat} {u1 : MI} (H : SX N k b sg cn nt ns nn sl fl r kd f u t c q s kk st) (hA : X.2.1 19 = A) (hm : m ≤ 9) (hl : u 22 0 54 = lv) (i1 : i < 19) (hfit : fitb kd i l.isSome = true) (H1 : SX N k b sg cn nt ns nn sl fl r kd (W1 f A (nI (301 + i)) (nI (tS b N t)) t st) u1 (t + 1) c q s kk (st + 1)) (hu1 : ∀ R o i, ¬ (R = 22 ∧ ((6 ≤ i ∧ i ≤ 11) ∨ i = 53)) → u1 R o i = u R o i) (hC : ∀ d, 8 ≤ d → EL (mP L xs) (d + 1) 80 [rv 12 (some 0), iv (nI (m + 1)), rv 19 o, rv 19 gd, rv 16 (some r)] (f, g, X) = mclV (EL (mP L xs) d 79 [rv 12 (some 0), rv 19 (some A), iv (nI (m + 1)), rv 16 (some r)] (W1 f A (nI (301 + i)) (nI (tS b N t)) t st, NG g A o gd, NX X A)) (fun h2 => some (.inl (some (rv 19 (some A))), h2)) (fun e h => some (.inr e, h))) (hU : ∀ d, 8 ≤ d → EL (mP L xs) (d + 1) 124 [rv 22 (some 0), iv (nI (m + 1)), iv gv] (u, Y) = RL (mP L xs) d 124 116 [some (rv 22 (some 0)), some (iv (nI (m + 1))), some (iv gv), some (iv (nI (tS b N t))), some (iv (nI (wm i)))] [] (u1, Y)) (hi : i = 4 ∨ i = 16 ∨ i = 17) : (∃ f2 g2 u2 X2, (∀ d, 80 + 3 * (11 - m) ≤ d → EL (mP L xs) d 80 [rv 12 (some 0), iv (nI (m + 1)), rv 19 o, rv 19 gd, rv 16 (some r)] (f, g, X) = some (.inl (some (rv 19 (some A))), (f2, g2, X2))) ∧ (∀ d, 80 + 3 * (11 - m) ≤ d → EL (mP L xs) d 124 [rv 22 (some 0), iv (nI (m + 1)), iv gv] (u, Y) = some (.inl none, (u2, Y))) ∧ ((∃ t' c' q' s' kk' st' A', PGd N k b sg cn nt ns nn sl fl r kd m o gd l gv lv t c q s kk A f g u X f2 g2 u2 X2 t' c' q' s' kk' st' A') ∨ SB k t c q s kk A none f g u X f2 g2 u2 X2)) := by
  have hcl := H.gx.cl
  have hsl := H1.sl
  have hql := H1.gx.ql
  have w0 : (W1 f A (nI (301 + i)) (nI (tS b N t)) t st) 19 A 0 = nI (301 + i) := W1_0
  have hrt : (W1 f A (nI (301 + i)) (nI (tS b N t)) t st) 19 A 0 = 305 ∨ (W1 f A (nI (301 + i)) (nI (tS b N t)) t st) 19 A 0 = 317 ∨ (W1 f A (nI (301 + i)) (nI (tS b N t)) t st) 19 A 0 = 318 := by
    rw [w0]
    rcases hi with rfl | rfl | rfl
    · exact Or.inl rfl
    · exact Or.inr (Or.inl rfl)
    · exact Or.inr (Or.inr rfl)
  have n401 : (W1 f A (nI (301 + i)) (nI (tS b N t)) t st) 19 A 0 ≠ 401 := by
    rw [w0]
    exact fun h => by have := (nI_eq (a := 301 + i) (b := 401) (by omega) (by omega)).mp h; omega
  have l1 : u1 22 0 54 = lv := (hu1 22 0 54 (by omega)).trans hl
  refine lf_res (u1 := u1) (v4 := nI (wm i)) (f3 := m3 (W1 f A (nI (301 + i)) (nI (tS b N t)) t st) 19 A 5 ((W1 f A (nI (301 + i)) (nI (tS b N t)) t st) 19 A 5)) hm (fun d hd => hC d (by omega)) (fun d hd => ?_) (fun d hd => hU d (by omega)) (fun d hd => ?_) (lf_go (p0 := nI (wm i)) (p2 := if i = 16 then lv else 0) (p3 := 0) (fi := 5) (v := (W1 f A (nI (301 + i)) (nI (tS b N t)) t st) 19 A 5) (f2 := W1 f A (nI (301 + i)) (nI (tS b N t)) t st) (u2 := u1) H hA hm H1 (by omega) W1_fr (fun R o i z => hu1 R o i (by omega)) l1 n401 W1_1 (Or.inr rfl) (fit_of i1 hfit w0) FrC.rf (fun _ _ _ _ => rfl) (Or.inl ⟨t + 1, c, q, s, H1.gx.px, by omega, H1.gx.cc, Nat.le_refl c, by omega, H1.gx.qu, Nat.le_refl q, by omega, H1.su, Nat.le_refl s, by omega, id, fun F U Γ n sF qF ei e59 e61 e62 fm cm hsF hqF gp ge gl lvx => ?_⟩))
  · rw [rt_S hrt, m3_id]
  · rcases hi with rfl | rfl | rfl
    · rw [K_Ref_step_116, if_pos (by decide), if_neg (by decide), if_neg (by decide), if_neg (by decide), if_neg (by decide), if_neg (by decide), if_neg (by decide), if_pos (by decide), K_Ref_step_285, if_neg (by decide)]
    · rw [K_Ref_step_116, if_pos (by decide), if_neg (by decide), if_neg (by decide), if_neg (by decide), if_neg (by decide), if_neg (by decide), if_pos (by decide), if_pos rfl, show (u1, Y).1 22 0 54 = lv from l1]
    · rw [K_Ref_step_116, if_pos (by decide), if_neg (by decide), if_neg (by decide), if_neg (by decide), if_neg (by decide), if_neg (by decide), if_neg (by decide), if_neg (by decide), if_pos (by decide), K_Ref_step_285, if_neg (by decide)]
  · have e0 : F 19 A 0 = nI (301 + i) := (ei 0 (by decide)).trans ((m3_i (by decide)).trans w0)
    unfold KdA
    rw [gp, ge, e0, e59]
    refine ⟨rfl, ?_⟩
    rcases hi with rfl | rfl | rfl
    · exact Or.inr (Or.inr (Or.inl ⟨rfl, rfl⟩))
    · have hs : l.isSome = true := by
        simp [fitb] at hfit
        exact hfit
      obtain ⟨b', hb⟩ := Option.isSome_iff_exists.mp hs
      refine Or.inr (Or.inr (Or.inr (Or.inr (Or.inr (Or.inr (Or.inr (Or.inr ⟨rfl, rfl, b', by rw [gl]; exact hb, ?_⟩)))))))
      rw [e61, if_pos rfl]
      exact lvx b' hb
    · exact Or.inr (Or.inr (Or.inr (Or.inl ⟨rfl, rfl⟩)))
end Lf2
