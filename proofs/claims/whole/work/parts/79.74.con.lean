/-! ===== read: conditions ===== -/
def CMp (N k : Nat) (b : Nat → Nat) (sg : Nat → Int32) (f u : MI) (fl Q e : Nat) : Nat → Nat → Nat → Prop
  | 0, c, s => ∃ c' : Nat, Qnp N k b sg f u fl Q c c' s ∧ u 72 0 s = -1 ∧ f 32 0 c' = 0 ∧ c' ≤ e
  | m + 1, c, s => ∃ (c' : Nat) (jn : Bool), Qnp N k b sg f u fl Q c c' s ∧ u 72 0 s = (bif jn then 48 else 49) ∧ f 32 0 c' = (bif jn then 7 else 8) ∧ c' < e ∧ CMp N k b sg f u fl Q e m (c' + 1) (s + 1)
def TLp (N k : Nat) (b : Nat → Nat) (sg : Nat → Int32) (f u : MI) (fl Q e : Nat) : Nat → Nat → Nat → Prop
  | 0, c, s => u 72 0 s = -1 ∧ f 32 0 c = 0 ∧ c ≤ e
  | m + 1, c, s => ∃ jn : Bool, u 72 0 s = (bif jn then 48 else 49) ∧ f 32 0 c = (bif jn then 7 else 8) ∧ c < e ∧ CMp N k b sg f u fl Q e m (c + 1) (s + 1)
def CT (N k : Nat) (b : Nat → Nat) (sg : Nat → Int32) (fl : Nat) (f u : MI) (t c q s : Nat) (f2 u2 : MI) (t' c' q' s' : Nat) : Prop := (t ≤ t') ∧ (PX f2 u2 N k b sg t') ∧ (f2 10 0 3 = nI c') ∧ (c < c' ∧ c' ≤ t') ∧ (u2 22 0 45 = nI q') ∧ (q ≤ q' ∧ q' ≤ 2 * t') ∧ (u2 22 0 51 = nI s') ∧ (s < s' ∧ 2 * s' ≤ t') ∧ (∃ m e, TLp N k b sg f2 u2 fl q' e m c s ∧ c ≤ e ∧ e < c' ∧ s + m < s') ∧ (∀ R, 68 ≤ R → R ≤ 71 → u2 R 0 s = u R 0 s) ∧ (FrC c f f2) ∧ (FrA q s u u2) ∧ (NMI N k b sg f u c q → NMI N k b sg f2 u2 c' q')
theorem CT.tt {N k : Nat} {b : Nat → Nat} {sg : Nat → Int32} {fl : Nat} {f u : MI} {t c q s : Nat} {f2 u2 : MI} {t' c' q' s' : Nat} (x : CT N k b sg fl f u t c q s f2 u2 t' c' q' s') : t ≤ t' := x.1
theorem CT.px {N k : Nat} {b : Nat → Nat} {sg : Nat → Int32} {fl : Nat} {f u : MI} {t c q s : Nat} {f2 u2 : MI} {t' c' q' s' : Nat} (x : CT N k b sg fl f u t c q s f2 u2 t' c' q' s') : PX f2 u2 N k b sg t' := x.2.1
theorem CT.cc {N k : Nat} {b : Nat → Nat} {sg : Nat → Int32} {fl : Nat} {f u : MI} {t c q s : Nat} {f2 u2 : MI} {t' c' q' s' : Nat} (x : CT N k b sg fl f u t c q s f2 u2 t' c' q' s') : f2 10 0 3 = nI c' := x.2.2.1
theorem CT.cl {N k : Nat} {b : Nat → Nat} {sg : Nat → Int32} {fl : Nat} {f u : MI} {t c q s : Nat} {f2 u2 : MI} {t' c' q' s' : Nat} (x : CT N k b sg fl f u t c q s f2 u2 t' c' q' s') : c < c' ∧ c' ≤ t' := x.2.2.2.1
theorem CT.qu {N k : Nat} {b : Nat → Nat} {sg : Nat → Int32} {fl : Nat} {f u : MI} {t c q s : Nat} {f2 u2 : MI} {t' c' q' s' : Nat} (x : CT N k b sg fl f u t c q s f2 u2 t' c' q' s') : u2 22 0 45 = nI q' := x.2.2.2.2.1
theorem CT.ql {N k : Nat} {b : Nat → Nat} {sg : Nat → Int32} {fl : Nat} {f u : MI} {t c q s : Nat} {f2 u2 : MI} {t' c' q' s' : Nat} (x : CT N k b sg fl f u t c q s f2 u2 t' c' q' s') : q ≤ q' ∧ q' ≤ 2 * t' := x.2.2.2.2.2.1
theorem CT.su {N k : Nat} {b : Nat → Nat} {sg : Nat → Int32} {fl : Nat} {f u : MI} {t c q s : Nat} {f2 u2 : MI} {t' c' q' s' : Nat} (x : CT N k b sg fl f u t c q s f2 u2 t' c' q' s') : u2 22 0 51 = nI s' := x.2.2.2.2.2.2.1
theorem CT.sl {N k : Nat} {b : Nat → Nat} {sg : Nat → Int32} {fl : Nat} {f u : MI} {t c q s : Nat} {f2 u2 : MI} {t' c' q' s' : Nat} (x : CT N k b sg fl f u t c q s f2 u2 t' c' q' s') : s < s' ∧ 2 * s' ≤ t' := x.2.2.2.2.2.2.2.1
theorem CT.tl {N k : Nat} {b : Nat → Nat} {sg : Nat → Int32} {fl : Nat} {f u : MI} {t c q s : Nat} {f2 u2 : MI} {t' c' q' s' : Nat} (x : CT N k b sg fl f u t c q s f2 u2 t' c' q' s') : ∃ m e, TLp N k b sg f2 u2 fl q' e m c s ∧ c ≤ e ∧ e < c' ∧ s + m < s' := x.2.2.2.2.2.2.2.2.1
theorem CT.k4 {N k : Nat} {b : Nat → Nat} {sg : Nat → Int32} {fl : Nat} {f u : MI} {t c q s : Nat} {f2 u2 : MI} {t' c' q' s' : Nat} (x : CT N k b sg fl f u t c q s f2 u2 t' c' q' s') : ∀ R, 68 ≤ R → R ≤ 71 → u2 R 0 s = u R 0 s := x.2.2.2.2.2.2.2.2.2.1
theorem CT.fc {N k : Nat} {b : Nat → Nat} {sg : Nat → Int32} {fl : Nat} {f u : MI} {t c q s : Nat} {f2 u2 : MI} {t' c' q' s' : Nat} (x : CT N k b sg fl f u t c q s f2 u2 t' c' q' s') : FrC c f f2 := x.2.2.2.2.2.2.2.2.2.2.1
theorem CT.fu {N k : Nat} {b : Nat → Nat} {sg : Nat → Int32} {fl : Nat} {f u : MI} {t c q s : Nat} {f2 u2 : MI} {t' c' q' s' : Nat} (x : CT N k b sg fl f u t c q s f2 u2 t' c' q' s') : FrA q s u u2 := x.2.2.2.2.2.2.2.2.2.2.2.1
theorem CT.nm {N k : Nat} {b : Nat → Nat} {sg : Nat → Int32} {fl : Nat} {f u : MI} {t c q s : Nat} {f2 u2 : MI} {t' c' q' s' : Nat} (x : CT N k b sg fl f u t c q s f2 u2 t' c' q' s') : NMI N k b sg f u c q → NMI N k b sg f2 u2 c' q' := x.2.2.2.2.2.2.2.2.2.2.2.2
def CX (N k : Nat) (b : Nat → Nat) (sg : Nat → Int32) (fl : Nat) (f u : MI) (t c q s : Nat) (f2 u2 : MI) (t' c' q' s' : Nat) : Prop := (t < t') ∧ (PX f2 u2 N k b sg t') ∧ (f2 10 0 3 = nI c') ∧ (c < c' ∧ c' ≤ t') ∧ (u2 22 0 45 = nI q') ∧ (q ≤ q' ∧ q' ≤ 2 * t') ∧ (u2 22 0 51 = nI s') ∧ (s < s' ∧ 2 * s' ≤ t') ∧ (∃ m e, CMp N k b sg f2 u2 fl q' e m c s ∧ e < c' ∧ s + m < s') ∧ (FrC c f f2) ∧ (FrA q s u u2) ∧ (NMI N k b sg f u c q → NMI N k b sg f2 u2 c' q')
theorem CX.tt {N k : Nat} {b : Nat → Nat} {sg : Nat → Int32} {fl : Nat} {f u : MI} {t c q s : Nat} {f2 u2 : MI} {t' c' q' s' : Nat} (x : CX N k b sg fl f u t c q s f2 u2 t' c' q' s') : t < t' := x.1
theorem CX.px {N k : Nat} {b : Nat → Nat} {sg : Nat → Int32} {fl : Nat} {f u : MI} {t c q s : Nat} {f2 u2 : MI} {t' c' q' s' : Nat} (x : CX N k b sg fl f u t c q s f2 u2 t' c' q' s') : PX f2 u2 N k b sg t' := x.2.1
theorem CX.cc {N k : Nat} {b : Nat → Nat} {sg : Nat → Int32} {fl : Nat} {f u : MI} {t c q s : Nat} {f2 u2 : MI} {t' c' q' s' : Nat} (x : CX N k b sg fl f u t c q s f2 u2 t' c' q' s') : f2 10 0 3 = nI c' := x.2.2.1
theorem CX.cl {N k : Nat} {b : Nat → Nat} {sg : Nat → Int32} {fl : Nat} {f u : MI} {t c q s : Nat} {f2 u2 : MI} {t' c' q' s' : Nat} (x : CX N k b sg fl f u t c q s f2 u2 t' c' q' s') : c < c' ∧ c' ≤ t' := x.2.2.2.1
theorem CX.qu {N k : Nat} {b : Nat → Nat} {sg : Nat → Int32} {fl : Nat} {f u : MI} {t c q s : Nat} {f2 u2 : MI} {t' c' q' s' : Nat} (x : CX N k b sg fl f u t c q s f2 u2 t' c' q' s') : u2 22 0 45 = nI q' := x.2.2.2.2.1
theorem CX.ql {N k : Nat} {b : Nat → Nat} {sg : Nat → Int32} {fl : Nat} {f u : MI} {t c q s : Nat} {f2 u2 : MI} {t' c' q' s' : Nat} (x : CX N k b sg fl f u t c q s f2 u2 t' c' q' s') : q ≤ q' ∧ q' ≤ 2 * t' := x.2.2.2.2.2.1
theorem CX.su {N k : Nat} {b : Nat → Nat} {sg : Nat → Int32} {fl : Nat} {f u : MI} {t c q s : Nat} {f2 u2 : MI} {t' c' q' s' : Nat} (x : CX N k b sg fl f u t c q s f2 u2 t' c' q' s') : u2 22 0 51 = nI s' := x.2.2.2.2.2.2.1
theorem CX.sl {N k : Nat} {b : Nat → Nat} {sg : Nat → Int32} {fl : Nat} {f u : MI} {t c q s : Nat} {f2 u2 : MI} {t' c' q' s' : Nat} (x : CX N k b sg fl f u t c q s f2 u2 t' c' q' s') : s < s' ∧ 2 * s' ≤ t' := x.2.2.2.2.2.2.2.1
theorem CX.cm {N k : Nat} {b : Nat → Nat} {sg : Nat → Int32} {fl : Nat} {f u : MI} {t c q s : Nat} {f2 u2 : MI} {t' c' q' s' : Nat} (x : CX N k b sg fl f u t c q s f2 u2 t' c' q' s') : ∃ m e, CMp N k b sg f2 u2 fl q' e m c s ∧ e < c' ∧ s + m < s' := x.2.2.2.2.2.2.2.2.1
theorem CX.fc {N k : Nat} {b : Nat → Nat} {sg : Nat → Int32} {fl : Nat} {f u : MI} {t c q s : Nat} {f2 u2 : MI} {t' c' q' s' : Nat} (x : CX N k b sg fl f u t c q s f2 u2 t' c' q' s') : FrC c f f2 := x.2.2.2.2.2.2.2.2.2.1
theorem CX.fu {N k : Nat} {b : Nat → Nat} {sg : Nat → Int32} {fl : Nat} {f u : MI} {t c q s : Nat} {f2 u2 : MI} {t' c' q' s' : Nat} (x : CX N k b sg fl f u t c q s f2 u2 t' c' q' s') : FrA q s u u2 := x.2.2.2.2.2.2.2.2.2.2.1
theorem CX.nm {N k : Nat} {b : Nat → Nat} {sg : Nat → Int32} {fl : Nat} {f u : MI} {t c q s : Nat} {f2 u2 : MI} {t' c' q' s' : Nat} (x : CX N k b sg fl f u t c q s f2 u2 t' c' q' s') : NMI N k b sg f u c q → NMI N k b sg f2 u2 c' q' := x.2.2.2.2.2.2.2.2.2.2.2
section Con
variable {L : Nat} {xs : Nat → Int32} {Y : MR × ML × (Nat → Nat) × Nat × Nat} {N k t c q s cn fl : Nat} {b : Nat → Nat} {sg : Nat → Int32} {f f2 u u2 : MI} {nt ns nn : Nat → Nat}
theorem CM_of {Q e c' : Nat} : ∀ {m : Nat}, Qnp N k b sg f u fl Q c c' s → TLp N k b sg f u fl Q e m c' s → CMp N k b sg f u fl Q e m c s
  | 0, h1, ⟨h2, h3, h4⟩ => ⟨c', h1, h2, h3, h4⟩
  | m + 1, h1, ⟨jn, h2, h3, h4, h5⟩ => ⟨c', jn, h1, h2, h3, h4, h5⟩
theorem CMp.mv {Q Q2 C S e fl2 : Nat} (hf : ∀ i, i < C → f2 32 0 i = f 32 0 i) (hC : e < C) (hu : ∀ R i, (R = 65 ∨ R = 66 ∨ R = 67) → i < Q → u2 R 0 i = u R 0 i) (hQ : Q ≤ Q2) (hfl : fl ≤ fl2) (hs : ∀ R i, 68 ≤ R → R ≤ 72 → i < S → u2 R 0 i = u R 0 i) : ∀ {m c s : Nat}, s + m < S → CMp N k b sg f u fl Q e m c s → CMp N k b sg f2 u2 fl2 Q2 e m c s
  | 0, c, s, h, ⟨c', h1, h2, h3, h4⟩ => ⟨c', h1.mv hf (by omega) hu hQ hfl (fun R a b => hs R s a (by omega) (by omega)), (hs 72 s (by omega) (by omega) (by omega)).trans h2, (hf c' (by omega)).trans h3, h4⟩
  | m + 1, c, s, h, ⟨c', jn, h1, h2, h3, h4, h5⟩ => ⟨c', jn, h1.mv hf (by omega) hu hQ hfl (fun R a b => hs R s a (by omega) (by omega)), (hs 72 s (by omega) (by omega) (by omega)).trans h2, (hf c' (by omega)).trans h3, h4, CMp.mv hf hC hu hQ hfl hs (by omega) h5⟩
def jw (jn : Bool) : Int32 := bif jn then 349 else 350
theorem c_150 (P : PX f u N k b sg t) {jn : Bool} {v2 : Int32} (hv : (v2 = -1 ∧ (sg t = 349 → jn = true) ∧ (sg t = 350 → jn = false)) ∨ v2 = jw jn) {d : Nat} {g : MR} {X : ML × (Nat → Nat) × Nat × Nat} {z6 z7 : Option MV} (v1 v3 v4 v5 : Int32) :
    (sg t = jw jn → RL (mP L xs) (d + 1) 78 150 [some (rv 13 (some 0)), some (iv v1), some (iv v2), some (iv v3), some (iv v4), some (iv v5), z6, z7] [] (f, g, X) = RL (mP L xs) (d + 1) 78 203 [some (rv 13 (some 0)), some (iv v1), some (iv v2), some (iv v3), some (iv v4), some (iv v5), some (iv (jw jn)), some (iv 1)] [iv 1] (f, g, X)) ∧
    (¬ sg t = jw jn → ∃ x7, RL (mP L xs) (d + 1) 78 150 [some (rv 13 (some 0)), some (iv v1), some (iv v2), some (iv v3), some (iv v4), some (iv v5), z6, z7] [] (f, g, X) = RL (mP L xs) (d + 1) 78 203 [some (rv 13 (some 0)), some (iv v1), some (iv v2), some (iv v3), some (iv v4), some (iv v5), some (iv (sg t)), some (iv x7)] [iv 0] (f, g, X)) := by
  rw [K_FormulaReader_condition_150, px_sort P, clI]
  refine ⟨fun h => ?_, fun h => ?_⟩
  · have hv2 : v2 = -1 ∨ v2 = sg t := by
      rcases hv with ⟨h1, -⟩ | h1
      · exact Or.inl h1
      · exact Or.inr (h1.trans h.symm)
    have hj : (if v2 = (-1) then RL (mP L xs) (d + 1) 78 203 [some (rv 13 (some 0)), some (iv v1), some (iv v2), some (iv v3), some (iv v4), some (iv v5), some (iv (sg t)), some (iv 1)] [iv 1] (f, g, X) else (if v2 = sg t then RL (mP L xs) (d + 1) 78 203 [some (rv 13 (some 0)), some (iv v1), some (iv v2), some (iv v3), some (iv v4), some (iv v5), some (iv (sg t)), some (iv 1)] [iv 1] (f, g, X) else RL (mP L xs) (d + 1) 78 203 [some (rv 13 (some 0)), some (iv v1), some (iv v2), some (iv v3), some (iv v4), some (iv v5), some (iv (sg t)), some (iv 1)] [iv 0] (f, g, X))) = RL (mP L xs) (d + 1) 78 203 [some (rv 13 (some 0)), some (iv v1), some (iv v2), some (iv v3), some (iv v4), some (iv v5), some (iv (jw jn)), some (iv 1)] [iv 1] (f, g, X) := by
      rw [← h]
      by_cases y : v2 = -1
      · rw [if_pos y]
      · rw [if_neg y, if_pos (hv2.resolve_left y)]
    rw [hj]
    cases jn with
    | true => rw [if_pos (show sg t = 349 from h)]
    | false => rw [if_neg (show ¬ sg t = 349 by rw [h]; decide), if_pos (show sg t = 350 from h)]
  · by_cases y1 : sg t = 349
    · have hj : jn = false := by cases jn with
        | true => exact absurd y1 h
        | false => rfl
      have hv2 : v2 = 350 := by
        rcases hv with ⟨-, h1, -⟩ | h1
        · exact absurd (hj.symm.trans (h1 y1)) (by decide)
        · rw [h1, hj]; rfl
      exact ⟨1, by rw [if_pos y1, if_neg (show ¬ v2 = -1 by rw [hv2]; decide), if_neg (show ¬ v2 = sg t by rw [hv2, y1]; decide)]⟩
    · by_cases y2 : sg t = 350
      · have hj : jn = true := by cases jn with
          | true => rfl
          | false => exact absurd y2 h
        have hv2 : v2 = 349 := by
          rcases hv with ⟨-, -, h1⟩ | h1
          · exact absurd (hj.symm.trans (h1 y2)) (by decide)
          · rw [h1, hj]; rfl
        exact ⟨1, by rw [if_neg y1, if_pos y2, if_neg (show ¬ v2 = -1 by rw [hv2]; decide), if_neg (show ¬ v2 = sg t by rw [hv2, y2]; decide)]⟩
      · exact ⟨0, by rw [if_neg y1, if_neg y2]⟩
theorem c_203 {jn : Bool} {d : Nat} (v1 v2 v3 v4 v5 v7 : Int32) (h : MH) : RL (mP L xs) d 78 203 [some (rv 13 (some 0)), some (iv v1), some (iv v2), some (iv v3), some (iv v4), some (iv v5), some (iv (jw jn)), some (iv v7)] [iv 1] h = mclV (EL (mP L xs) d 68 [rv 10 (some 0), iv (bif jn then 7 else 8), iv 0] h) (fun h3 => mclV (EL (mP L xs) d 42 [rv 20 (some 0)] h3) (fun h4 => RL (mP L xs) d 78 15 [some (rv 13 (some 0)), some (iv v1), some (iv (jw jn)), some (iv 1), some (iv (v4 + 1)), some (iv v5), some (iv (jw jn)), some (iv v7)] [] h4) (fun e h => some (.inr e, h))) (fun e h => some (.inr e, h)) := by
  rw [K_FormulaReader_condition_203, if_neg (by decide)]
  cases jn with
  | true => rw [if_pos (show jw true = 349 from rfl)]; rfl
  | false => rw [if_neg (show ¬ jw false = 349 by decide)]; rfl
theorem c_203e {d : Nat} (v1 v2 v3 v4 v5 v6 v7 : Int32) (h : MH) : RL (mP L xs) d 78 203 [some (rv 13 (some 0)), some (iv v1), some (iv v2), some (iv v3), some (iv v4), some (iv v5), some (iv v6), some (iv v7)] [iv 0] h = mclV (EL (mP L xs) d 68 [rv 10 (some 0), iv 0, iv 0] h) (fun h2 => some (.inl (some (iv v1)), h2)) (fun e h => some (.inr e, h)) := by
  rw [K_FormulaReader_condition_203, if_pos rfl, K_FormulaReader_condition_15]
  by_cases y : v4 + 1 < 4000
  · rw [if_pos y, if_pos rfl]
  · rw [if_neg y]
theorem ed_150 {p0 q0 : Int32} (E : ED f p0 q0) (hc : f 10 0 3 = nI c) (h : c ≤ 4001) : ∃ f2, (∀ d g X v1 v2 v3 v4 v5 (z6 z7 : Option MV), 1 ≤ d → RL (mP L xs) d 78 150 [some (rv 13 (some 0)), some (iv v1), some (iv v2), some (iv v3), some (iv v4), some (iv v5), z6, z7] [] (f, g, X) = some (.inl (some (iv v1)), (f2, g, X))) ∧ ED f2 p0 q0 ∧ (∃ c2 : Nat, c ≤ c2 ∧ c2 ≤ 4001 ∧ f2 10 0 3 = nI c2) ∧ FrC c f f2 := by
  obtain ⟨f2, a1, a2, a3, a4⟩ := ed_put (L := L) (xs := xs) E hc h 0 0
  refine ⟨f2, fun d g X v1 v2 v3 v4 v5 z6 z7 hd => ?_, a2, a3, a4⟩
  obtain ⟨d, rfl⟩ : ∃ d', d = d' + 1 := ⟨d - 1, by omega⟩
  rw [K_FormulaReader_condition_150, ed_sort E, clI, if_neg (by decide), if_neg (by decide), c_203e, a1, clV]
theorem cd_loop (hfl : ∀ i, i < cn → ns i = 1 → nn i < fl) : ∀ (R t i : Nat) (f u : MI) (c q s : Nat) (jn : Bool) (v2 : Int32), k ≤ t + R → 2 * i ≤ t → GX N k b sg cn nt ns nn f u t c q → c + 1 ≤ t → u 22 0 51 = nI (s + 1) → 2 * (s + 1) ≤ t → u 72 0 s = -1 → ((v2 = -1 ∧ (sg t = 349 → jn = true) ∧ (sg t = 350 → jn = false)) ∨ v2 = jw jn) →
    ∃ f2 u2, (∀ d g X v1 v5 (z6 z7 : Option MV), 71 ≤ d → RL (mP L xs) d 78 150 [some (rv 13 (some 0)), some (iv v1), some (iv v2), some (iv 1), some (iv (nI i)), some (iv v5), z6, z7] [] (f, g, X) = some (.inl (some (iv v1)), (f2, g, X))) ∧ (∀ d v1, 73 ≤ d → RL (mP L xs) d 122 26 [some (rv 22 (some 0)), some (iv v1), some (iv (bif jn then 48 else 49))] [] (u, Y) = some (.inl (some (iv v1)), (u2, Y))) ∧ ((∃ t' c' q' s', CT N k b sg fl f u t c q s f2 u2 t' c' q' s') ∨ QB f u c q s f2 u2)
  | R, t, i, f, u, c, q, s, jn, v2, hR, hi, G, hc1, hsu, hsl, h72, hv => by
    have P := G.px
    have htk := P.tk
    have hkp := P.lc.kp
    have hql := G.ql
    have isw : ∀ d, EL (mP L xs) (d + 1) 120 [rv 22 (some 0), iv (bif jn then 48 else 49)] (u, Y) = some (.inl (some (iv (if sg t = jw jn then 1 else 0))), (u, Y)) := fun d => by
      cases jn with
      | true => exact px_isW (L := L) (xs := xs) (d := d) (Y := Y) P (j := 48) (by decide)
      | false => exact px_isW (L := L) (xs := xs) (d := d) (Y := Y) P (j := 49) (by decide)
    by_cases z : sg t = jw jn
    · have n0 : sg t ≠ 0 := by rw [z]; cases jn <;> decide
      have n1 : sg t ≠ 1 := by rw [z]; cases jn <;> decide
      have hput : ∀ d g X, EL (mP L xs) (d + 1) 68 [rv 10 (some 0), iv (bif jn then 7 else 8), iv 0] (f, g, X) = some (.inl none, (m3 (m3 f 32 0 c (bif jn then 7 else 8)) 10 0 3 (nI (c + 1)), g, X)) := fun d g X => by
        cases jn with
        | true => exact c_put (L := L) (xs := xs) (d := d) (g := g) (X := X) (w := 7) (v := 0) G.cc (show c < 4001 by omega) (by decide) (by decide)
        | false => exact c_put (L := L) (xs := xs) (d := d) (g := g) (X := X) (w := 8) (v := 0) G.cc (show c < 4001 by omega) (by decide) (by decide)
      generalize hf1 : m3 (m3 f 32 0 c (bif jn then 7 else 8)) 10 0 3 (nI (c + 1)) = f1 at hput
      have hF1 : FrC c f f1 := by rw [← hf1]; exact FrC.put (Nat.le_refl c)
      have P1 : PX f1 (m3 u 72 0 s (bif jn then 48 else 49)) N k b sg t := P.fr (fun R o i y => by rw [← hf1, m3_no (by omega), m3_no (by omega)]) (fun R o i y => m3_no (by omega))
      obtain ⟨b1, u2, b2, b3, b4⟩ := px_adv (L := L) (xs := xs) (Y := Y) P1 n0 n1
      have hp4 := b4.tk
      have hF2 : FrC c f (m3 f1 20 0 6 (nI (t + 1))) := hF1.tr FrC.at6 (Nat.le_refl c)
      have hU2 : FrA q s u u2 := fun R o i y => (b3 R o i (by omega)).trans (m3_no (by omega))
      have G2 : GX N k b sg cn nt ns nn (m3 f1 20 0 6 (nI (t + 1))) u2 (t + 1) (c + 1) q := ⟨b4, by rw [m3_r (by decide), ← hf1]; exact m3_eq, by omega, (b3 22 0 45 (by omega)).trans ((m3_r (by decide)).trans G.qu), by omega, G.nc.frC hF2, G.nz.frA hU2⟩
      have hsu2 : u2 22 0 51 = nI (s + 1) := (b3 22 0 51 (by omega)).trans ((m3_r (by decide)).trans hsu)
      obtain ⟨f3, u3, c1, c2, c3⟩ := q_one (L := L) (xs := xs) (Y := Y) (s := s + 1) (fl := fl) G2 (by omega) hsu2 (by omega) hfl
      have kC : ∀ d g X v1 v5 (z6 z7 : Option MV), 71 ≤ d → ∃ x4 z6', RL (mP L xs) d 78 150 [some (rv 13 (some 0)), some (iv v1), some (iv v2), some (iv 1), some (iv (nI i)), some (iv v5), z6, z7] [] (f, g, X) = RL (mP L xs) d 78 150 [some (rv 13 (some 0)), some (iv v1), some (iv (jw jn)), some (iv 1), some (iv (nI (i + 1))), some (iv x4), z6', some (iv 1)] [] (f3, g, X) := fun d g X v1 v5 z6 z7 hd => by
        obtain ⟨x4, z6', h1⟩ := c1 d g X v1 (jw jn) (nI (i + 1)) (some (iv v5)) (some (iv (jw jn))) (some (iv 1)) (by omega) (nI_lt (b := 4000) (by omega) (by decide))
        refine ⟨x4, z6', ?_⟩
        obtain ⟨d, rfl⟩ : ∃ d', d = d' + 1 := ⟨d - 1, by omega⟩
        rw [(c_150 P hv v1 1 (nI i) v5).1 z, c_203, hput, clV, b1, clV, nI_1]
        exact h1
      have kU : ∀ d v1, 73 ≤ d → RL (mP L xs) d 122 26 [some (rv 22 (some 0)), some (iv v1), some (iv (bif jn then 48 else 49))] [] (u, Y) = RL (mP L xs) d 122 26 [some (rv 22 (some 0)), some (iv v1), some (iv (bif jn then 48 else 49))] [] (u3, Y) := fun d v1 hd => by
        have h2 : EL (mP L xs) d 101 [rv 22 (some 0)] (m3 u 72 0 s (bif jn then 48 else 49), Y) = some (.inl none, (u2, Y)) := EL_mono (by omega) b2
        have h3 := c2 d (by omega)
        have hs1 : nI (s + 1) - 1 = nI s := by rw [← nI_1, Int32.add_sub_cancel]
        obtain ⟨d, rfl⟩ : ∃ d', d = d' + 1 := ⟨d - 1, by omega⟩
        rw [K_Ref_condition_26, if_pos P.fu, isw, clI, if_pos z, if_neg (by decide)]
        simp only [hsu, hs1, if_neg (nin (show s < 2100 by omega) (show 2100 < 2 ^ 31 by decide)), nI_clamp (show s < 2 ^ 31 by omega), h2, clV, h3]
      rcases c3 with ⟨t2, c2', q2, E⟩ | E
      · have ett := E.tt
        have ecl := E.cl
        have eql := E.ql
        have epk := E.px.tk
        match R, hR with
        | 0, hR => omega
        | R + 1, hR =>
          have G3 : GX N k b sg cn nt ns nn f3 u3 t2 c2' q2 := ⟨E.px, E.cc, by omega, E.qu, by omega, G2.nc.frC E.fc, G2.nz.frA E.fu⟩
          obtain ⟨f4, u4, d1, d2, d3⟩ := cd_loop hfl R t2 (i + 1) f3 u3 c2' q2 (s + 1) jn (jw jn) (by omega) (by omega) G3 (by omega) E.su (by omega) E.jn (Or.inr rfl)
          refine ⟨f4, u4, fun d g X v1 v5 z6 z7 hd => ?_, fun d v1 hd => ?_, ?_⟩
          · obtain ⟨x4, z6', h1⟩ := kC d g X v1 v5 z6 z7 hd
            rw [h1]
            exact d1 d g X v1 x4 z6' (some (iv 1)) hd
          · rw [kU d v1 hd]
            exact d2 d v1 hd
          · rcases d3 with ⟨t', c', q', s', T⟩ | T
            · have ttt := T.tt
              have tcl := T.cl
              have tql := T.ql
              have tsl := T.sl
              obtain ⟨m, e, l1, l2, l3, l4⟩ := T.tl
              refine Or.inl ⟨t', c', q', s', ⟨by omega, T.px, T.cc, by omega, T.qu, by omega, T.su, by omega, ⟨m + 1, e, ⟨jn, ?_, ?_, by omega, ?_⟩, by omega, l3, by omega⟩, fun R r1 r2 => ?_, (hF2.tr E.fc (by omega)).tr T.fc (by omega), (hU2.tr E.fu (Nat.le_refl q) (by omega)).tr T.fu (by omega) (by omega), fun nm => T.nm (E.nm (NMI_c1 nm (fun i hi => hF2 32 0 i (by omega)) ?_ (fun R i hR hi => hU2 R 0 i (by omega))))⟩⟩
              · rw [T.fu 72 0 s (by omega), E.fu 72 0 s (by omega), b3 72 0 s (by omega), m3_eq]
              · rw [T.fc 32 0 c (by omega), E.fc 32 0 c (by omega), m3_r (by decide), ← hf1, m3_r (by decide), m3_eq]
              · exact CM_of (E.qn.mv (C := c2') (fun i hi => T.fc 32 0 i (by omega)) (Nat.le_refl _) (fun R i hR hi => T.fu R 0 i (by omega)) (by omega) (Nat.le_refl _) T.k4) l1
              · rw [T.fu R 0 s (by omega), E.fu R 0 s (by omega), b3 R 0 s (by omega), m3_r (by omega)]
              · rw [m3_r (by decide), ← hf1, m3_r (by decide), m3_eq]
                cases jn with
                | true => exact ClN_v (a := 7) (by decide) (by decide) 0 (by decide)
                | false => exact ClN_v (a := 8) (by decide) (by decide) 0 (by decide)
            · obtain ⟨cz, y0, y1, y2⟩ := T.cc
              exact Or.inr ⟨T.bd, ⟨cz, by omega, y1, y2⟩, (hF2.tr E.fc (by omega)).tr T.fc (by omega), (hU2.tr E.fu (Nat.le_refl q) (by omega)).tr T.fu (by omega) (by omega)⟩
      · obtain ⟨p0, q0, E2, y1, y2⟩ := E.bd
        obtain ⟨c2', z0, z1, z2⟩ := E.cc
        obtain ⟨f4, d1, d2, ⟨c4, d3, d4, d5⟩, d6⟩ := ed_150 (L := L) (xs := xs) E2 z2 z1
        refine ⟨f4, u3, fun d g X v1 v5 z6 z7 hd => ?_, fun d v1 hd => ?_, Or.inr ⟨⟨p0, q0, d2, y1, y2⟩, ⟨c4, by omega, d4, d5⟩, (hF2.tr E.fc (by omega)).tr d6 (by omega), hU2.tr E.fu (Nat.le_refl q) (by omega)⟩⟩
        · obtain ⟨x4, z6', h1⟩ := kC d g X v1 v5 z6 z7 hd
          rw [h1]
          exact d1 d g X v1 _ _ _ x4 z6' (some (iv 1)) (by omega)
        · rw [kU d v1 hd, K_Ref_condition_26, if_neg (show ¬ u3 22 0 12 = 0 by rw [y1]; exact E2.qn)]
    · have hput : ∀ d g X, EL (mP L xs) (d + 1) 68 [rv 10 (some 0), iv 0, iv 0] (f, g, X) = some (.inl none, (m3 (m3 f 32 0 c 0) 10 0 3 (nI (c + 1)), g, X)) := fun d g X => c_put (L := L) (xs := xs) (d := d) (g := g) (X := X) (w := 0) (v := 0) G.cc (show c < 4001 by omega) (by decide) (by decide)
      refine ⟨m3 (m3 f 32 0 c 0) 10 0 3 (nI (c + 1)), u, fun d g X v1 v5 z6 z7 hd => ?_, fun d v1 hd => ?_, Or.inl ⟨t, c + 1, q, s + 1, ⟨Nat.le_refl t, P.fr (fun R o i y => by rw [m3_no (by omega), m3_no (by omega)]) (fun _ _ _ _ => rfl), m3_eq, by omega, G.qu, by omega, hsu, by omega, ⟨0, c, ⟨h72, by rw [m3_r (by decide), m3_eq], Nat.le_refl c⟩, Nat.le_refl c, by omega, by omega⟩, fun _ _ _ => rfl, FrC.put (Nat.le_refl c), fun _ _ _ _ => rfl, fun nm => NMI_c1 nm (fun i hi => by rw [m3_no (by omega), m3_no (by omega)]) (by rw [m3_r (by decide), m3_eq]; exact ClN_v (a := 0) (by decide) (by decide) 0 (by decide)) (fun _ _ _ _ => rfl)⟩⟩⟩
      · obtain ⟨d, rfl⟩ : ∃ d', d = d' + 1 := ⟨d - 1, by omega⟩
        obtain ⟨x7, h7⟩ := (c_150 (L := L) (xs := xs) (d := d) (g := g) (X := X) (z6 := z6) (z7 := z7) P hv v1 1 (nI i) v5).2 z
        rw [h7, c_203e, hput, clV]
      · obtain ⟨d, rfl⟩ : ∃ d', d = d' + 1 := ⟨d - 1, by omega⟩
        rw [K_Ref_condition_26, if_pos P.fu, isw, clI, if_neg z, if_pos rfl]
  termination_by R => R
/-- a condition -/
theorem ex_cond (G : GX N k b sg cn nt ns nn f u t c q) (hc1 : c + 1 ≤ t) (hsu : u 22 0 51 = nI s) (hsl : 2 * s ≤ t) (hfl : ∀ i, i < cn → ns i = 1 → nn i < fl) :
    ∃ f2 u2, (∀ d g X, 75 ≤ d → EL (mP L xs) d 78 [rv 13 (some 0)] (f, g, X) = some (.inl (some (iv (nI c))), (f2, g, X))) ∧ (∀ d, 75 ≤ d → EL (mP L xs) d 122 [rv 22 (some 0)] (u, Y) = some (.inl (some (iv (nI s))), (u2, Y))) ∧ ((∃ t' c' q' s', CX N k b sg fl f u t c q s f2 u2 t' c' q' s') ∨ QB f u c q s f2 u2) := by
  have htk := G.px.tk
  have hkp := G.px.lc.kp
  have hql := G.ql
  obtain ⟨f1, u1, a1, a2, a3⟩ := q_one (L := L) (xs := xs) (Y := Y) (s := s) (fl := fl) G hc1 hsu hsl hfl
  have keyC : ∀ d g X, 70 ≤ d → ∃ x4 z6', EL (mP L xs) (d + 1) 78 [rv 13 (some 0)] (f, g, X) = RL (mP L xs) d 78 150 [some (rv 13 (some 0)), some (iv (nI c)), some (iv (-1)), some (iv 1), some (iv (nI 0)), some (iv x4), z6', none] [] (f1, g, X) := fun d g X hd => by
    obtain ⟨x4, z6', h1⟩ := a1 d g X (nI c) (-1) 0 none none none hd (by decide)
    refine ⟨x4, z6', Eq.trans ?_ h1⟩
    obtain ⟨d, rfl⟩ : ∃ d', d = d' + 1 := ⟨d - 1, by omega⟩
    rw [E_FormulaReader_condition, E_Code_here, clI]
    show RL (mP L xs) (d + 1) 78 15 [some (rv 13 (some 0)), some (iv (f 10 0 3)), some (iv (-1)), some (iv 1), some (iv 0), none, none, none] [] (f, g, X) = _
    rw [G.cc]
  have keyU : ∀ d, 73 ≤ d → EL (mP L xs) (d + 1) 122 [rv 22 (some 0)] (u, Y) = mclI (EL (mP L xs) d 120 [rv 22 (some 0), iv 48] (u1, Y)) (fun x3 h2 => if x3 = 0 then (RL (mP L xs) d 122 26 [some (rv 22 (some 0)), some (iv (nI s)), some (iv 49)] [] h2) else (RL (mP L xs) d 122 26 [some (rv 22 (some 0)), some (iv (nI s)), some (iv 48)] [] h2)) (fun e h => some (.inr e, h)) := fun d hd => by
    rw [E_Ref_condition, a2 d (by omega), clV]
    show mclI _ (fun x3 h2 => if x3 = 0 then (RL (mP L xs) d 122 26 [some (rv 22 (some 0)), some (iv (u 22 0 51)), some (iv 49)] [] h2) else (RL (mP L xs) d 122 26 [some (rv 22 (some 0)), some (iv (u 22 0 51)), some (iv 48)] [] h2)) _ = _
    rw [hsu]
  rcases a3 with ⟨t1, c1, q1, E⟩ | E
  · have ett := E.tt
    have ecl := E.cl
    have eql := E.ql
    have epk := E.px.tk
    have G1 : GX N k b sg cn nt ns nn f1 u1 t1 c1 q1 := ⟨E.px, E.cc, by omega, E.qu, by omega, G.nc.frC E.fc, G.nz.frA E.fu⟩
    have isw : ∀ d, EL (mP L xs) (d + 1) 120 [rv 22 (some 0), iv 48] (u1, Y) = some (.inl (some (iv (if sg t1 = 349 then 1 else 0))), (u1, Y)) := fun d => px_isW (L := L) (xs := xs) (d := d) (Y := Y) E.px (j := 48) (by decide)
    obtain ⟨f2, u2, b1, b2, b3⟩ := cd_loop (L := L) (xs := xs) (Y := Y) hfl k t1 0 f1 u1 c1 q1 s (decide (sg t1 = 349)) (-1) (by omega) (by omega) G1 (by omega) E.su (by omega) E.jn (Or.inl ⟨rfl, fun h => decide_eq_true h, fun h => decide_eq_false (by rw [h]; decide)⟩)
    refine ⟨f2, u2, fun d g X hd => ?_, fun d hd => ?_, ?_⟩
    · obtain ⟨d, rfl⟩ : ∃ d', d = d' + 1 := ⟨d - 1, by omega⟩
      obtain ⟨x4, z6', h1⟩ := keyC d g X (by omega)
      rw [h1]
      exact b1 d g X (nI c) x4 z6' none (by omega)
    · obtain ⟨d, rfl⟩ : ∃ d', d = d' + 2 := ⟨d - 2, by omega⟩
      have h2 := b2 (d + 1) (nI s) (by omega)
      rw [keyU (d + 1) (by omega), isw, clI]
      by_cases y : sg t1 = 349
      · rw [decide_eq_true y] at h2
        rw [if_pos y, if_neg (by decide)]
        exact h2
      · rw [decide_eq_false y] at h2
        rw [if_neg y, if_pos rfl]
        exact h2
    · rcases b3 with ⟨t', c', q', s', T⟩ | T
      · have ttt := T.tt
        have tcl := T.cl
        have tql := T.ql
        have tsl := T.sl
        obtain ⟨m, e, l1, l2, l3, l4⟩ := T.tl
        exact Or.inl ⟨t', c', q', s', ⟨by omega, T.px, T.cc, by omega, T.qu, by omega, T.su, by omega, ⟨m, e, CM_of (E.qn.mv (C := c1) (fun i hi => T.fc 32 0 i (by omega)) (Nat.le_refl _) (fun R i hR hi => T.fu R 0 i (by omega)) (by omega) (Nat.le_refl _) T.k4) l1, l3, l4⟩, E.fc.tr T.fc (by omega), E.fu.tr T.fu (by omega) (by omega), fun nm => T.nm (E.nm nm)⟩⟩
      · obtain ⟨cz, y0, y1, y2⟩ := T.cc
        exact Or.inr ⟨T.bd, ⟨cz, by omega, y1, y2⟩, E.fc.tr T.fc (by omega), E.fu.tr T.fu (by omega) (by omega)⟩
  · obtain ⟨p0, q0, E2, y1, y2⟩ := E.bd
    obtain ⟨c2, z0, z1, z2⟩ := E.cc
    obtain ⟨f4, d1, d2, ⟨c4, d3, d4, d5⟩, d6⟩ := ed_150 (L := L) (xs := xs) E2 z2 z1
    have n0 : ¬ u1 22 0 12 = 0 := by rw [y1]; exact E2.qn
    refine ⟨f4, u1, fun d g X hd => ?_, fun d hd => ?_, Or.inr ⟨⟨p0, q0, d2, y1, y2⟩, ⟨c4, by omega, d4, d5⟩, E.fc.tr d6 z0, E.fu⟩⟩
    · obtain ⟨d, rfl⟩ : ∃ d', d = d' + 1 := ⟨d - 1, by omega⟩
      obtain ⟨x4, z6', h1⟩ := keyC d g X (by omega)
      rw [h1]
      exact d1 d g X _ _ _ _ _ _ _ (by omega)
    · obtain ⟨d, rfl⟩ : ∃ d', d = d' + 2 := ⟨d - 2, by omega⟩
      rw [keyU (d + 1) (by omega), E_Ref_isWord, ite_val, ite_val, clI, K_Ref_condition_26, K_Ref_condition_26, if_neg n0, if_neg n0]
      exact ite_self _
/-- behind a fault -/
theorem ed_cond {p0 q0 : Int32} (E : ED f p0 q0) (hc : f 10 0 3 = nI c) (h : c ≤ 4001) : ∃ f2, (∀ d g X, 7 ≤ d → EL (mP L xs) d 78 [rv 13 (some 0)] (f, g, X) = some (.inl (some (iv (nI c))), (f2, g, X))) ∧ ED f2 p0 q0 ∧ (∃ c2 : Nat, c ≤ c2 ∧ c2 ≤ 4001 ∧ f2 10 0 3 = nI c2) ∧ FrC c f f2 := by
  obtain ⟨f1, a1, a2, ⟨c1, a3, a4, a5⟩, a6⟩ := ed_cmp (L := L) (xs := xs) E hc h 0
  obtain ⟨f2, b1, b2, ⟨c2, b3, b4, b5⟩, b6⟩ := ed_150 (L := L) (xs := xs) a2 a5 a4
  refine ⟨f2, fun d g X hd => ?_, b2, ⟨c2, by omega, b4, b5⟩, a6.tr b6 a3⟩
  obtain ⟨d, rfl⟩ : ∃ d', d = d' + 7 := ⟨d - 7, by omega⟩
  rw [E_FormulaReader_condition, E_Code_here, clI]
  show RL (mP L xs) (d + 6) 78 15 [some (rv 13 (some 0)), some (iv (f 10 0 3)), some (iv (-1)), some (iv 1), some (iv 0), none, none, none] [] (f, g, X) = _
  rw [hc, K_FormulaReader_condition_15, if_pos (by decide), if_neg (by decide), E_FormulaReader_nots, K_FormulaReader_nots_4, if_pos (by decide), ed_sort E, clI, if_neg (by decide), clI, ed_sort E, clI, if_neg (by decide), ed_sum E, clV]
  refine Eq.trans (a1 (d + 6) g X (nI c) (-1) 1 0 none (by omega)) ?_
  exact b1 (d + 6) g X _ _ _ _ _ _ _ (by omega)
end Con
