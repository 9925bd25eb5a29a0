/-! ===== read: a question ===== -/
def FT (f f2 u u2 : MI) : Prop := (∀ R o i, ¬ (R = 34 ∨ R = 20) → f2 R o i = f R o i) ∧ (∀ R o i, ¬ (R = 22 ∧ 6 ≤ i ∧ i ≤ 13) → u2 R o i = u R o i)
def FrA (q s : Nat) (u u2 : MI) : Prop := ∀ R o i, ¬ ((R = 22 ∧ ((6 ≤ i ∧ i ≤ 13) ∨ i = 45 ∨ i = 51 ∨ i = 55)) ∨ ((R = 65 ∨ R = 66 ∨ R = 67) ∧ q ≤ i) ∨ (68 ≤ R ∧ R ≤ 72 ∧ s ≤ i)) → u2 R o i = u R o i
def cmo (s : Int32) : Int32 := if s = 60 then 13 else if s = 62 then 15 else if s = 161 then 18 else if s = 188 then 14 else if s = 189 then 17 else if s = 190 then 16 else -1
def cwo (w : Int32) : Int32 := if w = 60 then 1 else if w = 62 then 1 else if w = 316 then 1 else if w = 318 then 1 else if w = 317 then 1 else if w = 289 then 1 else 0
/-- a question, before names are settled -/
def Qnp (N k : Nat) (b : Nat → Nat) (sg : Nat → Int32) (f u : MI) (fl Q c c' s : Nat) : Prop := s < 2100 ∧ ∃ (nt : Bool) (c2 : Nat), u 68 0 s = (bif nt then 1 else 0) ∧ c' = c2 + 1 + (bif nt then 1 else 0) ∧ (nt = true → f 32 0 (c2 + 1) = 6) ∧
  ((∃ j : Nat, j < fl ∧ u 69 0 s = 0 ∧ u 70 0 s = nI j ∧ f 32 0 c2 = nI (4 + 32 * j) ∧ c2 = c) ∨
  (∃ (c1 ka kb w : Nat) (lc1 lr1 lc2 lr2 : PL), 13 ≤ w ∧ w ≤ 18 ∧ u 69 0 s = sgw w ∧ u 70 0 s = nI ka ∧ u 71 0 s = nI kb ∧ (FEp N k b sg f u c c1 ka lc1 lr1 ∧ ka + lr1.length < Q) ∧ (FEp N k b sg f u c1 c2 kb lc2 lr2 ∧ kb + lr2.length < Q) ∧ f 32 0 c2 = nI w))
def QG (N k : Nat) (b : Nat → Nat) (sg : Nat → Int32) (fl : Nat) (f u : MI) (t c q s : Nat) (f2 u2 : MI) (t' c' q' : Nat) : Prop := (t + 2 ≤ t') ∧ (PX f2 u2 N k b sg t') ∧ (f2 10 0 3 = nI c') ∧ (c ≤ c' ∧ c' + 1 ≤ t') ∧ (u2 22 0 45 = nI q') ∧ (q ≤ q' ∧ q' ≤ 2 * t') ∧ (u2 22 0 51 = nI (s + 1)) ∧ (Qnp N k b sg f2 u2 fl q' c c' s) ∧ (u2 72 0 s = -1) ∧ (FrC c f f2) ∧ (FrA q s u u2) ∧ (NMI N k b sg f u c q → NMI N k b sg f2 u2 c' q')
theorem QG.tt {N k : Nat} {b : Nat → Nat} {sg : Nat → Int32} {fl : Nat} {f u : MI} {t c q s : Nat} {f2 u2 : MI} {t' c' q' : Nat} (x : QG N k b sg fl f u t c q s f2 u2 t' c' q') : t + 2 ≤ t' := x.1
theorem QG.px {N k : Nat} {b : Nat → Nat} {sg : Nat → Int32} {fl : Nat} {f u : MI} {t c q s : Nat} {f2 u2 : MI} {t' c' q' : Nat} (x : QG N k b sg fl f u t c q s f2 u2 t' c' q') : PX f2 u2 N k b sg t' := x.2.1
theorem QG.cc {N k : Nat} {b : Nat → Nat} {sg : Nat → Int32} {fl : Nat} {f u : MI} {t c q s : Nat} {f2 u2 : MI} {t' c' q' : Nat} (x : QG N k b sg fl f u t c q s f2 u2 t' c' q') : f2 10 0 3 = nI c' := x.2.2.1
theorem QG.cl {N k : Nat} {b : Nat → Nat} {sg : Nat → Int32} {fl : Nat} {f u : MI} {t c q s : Nat} {f2 u2 : MI} {t' c' q' : Nat} (x : QG N k b sg fl f u t c q s f2 u2 t' c' q') : c ≤ c' ∧ c' + 1 ≤ t' := x.2.2.2.1
theorem QG.qu {N k : Nat} {b : Nat → Nat} {sg : Nat → Int32} {fl : Nat} {f u : MI} {t c q s : Nat} {f2 u2 : MI} {t' c' q' : Nat} (x : QG N k b sg fl f u t c q s f2 u2 t' c' q') : u2 22 0 45 = nI q' := x.2.2.2.2.1
theorem QG.ql {N k : Nat} {b : Nat → Nat} {sg : Nat → Int32} {fl : Nat} {f u : MI} {t c q s : Nat} {f2 u2 : MI} {t' c' q' : Nat} (x : QG N k b sg fl f u t c q s f2 u2 t' c' q') : q ≤ q' ∧ q' ≤ 2 * t' := x.2.2.2.2.2.1
theorem QG.su {N k : Nat} {b : Nat → Nat} {sg : Nat → Int32} {fl : Nat} {f u : MI} {t c q s : Nat} {f2 u2 : MI} {t' c' q' : Nat} (x : QG N k b sg fl f u t c q s f2 u2 t' c' q') : u2 22 0 51 = nI (s + 1) := x.2.2.2.2.2.2.1
theorem QG.qn {N k : Nat} {b : Nat → Nat} {sg : Nat → Int32} {fl : Nat} {f u : MI} {t c q s : Nat} {f2 u2 : MI} {t' c' q' : Nat} (x : QG N k b sg fl f u t c q s f2 u2 t' c' q') : Qnp N k b sg f2 u2 fl q' c c' s := x.2.2.2.2.2.2.2.1
theorem QG.jn {N k : Nat} {b : Nat → Nat} {sg : Nat → Int32} {fl : Nat} {f u : MI} {t c q s : Nat} {f2 u2 : MI} {t' c' q' : Nat} (x : QG N k b sg fl f u t c q s f2 u2 t' c' q') : u2 72 0 s = -1 := x.2.2.2.2.2.2.2.2.1
theorem QG.fc {N k : Nat} {b : Nat → Nat} {sg : Nat → Int32} {fl : Nat} {f u : MI} {t c q s : Nat} {f2 u2 : MI} {t' c' q' : Nat} (x : QG N k b sg fl f u t c q s f2 u2 t' c' q') : FrC c f f2 := x.2.2.2.2.2.2.2.2.2.1
theorem QG.fu {N k : Nat} {b : Nat → Nat} {sg : Nat → Int32} {fl : Nat} {f u : MI} {t c q s : Nat} {f2 u2 : MI} {t' c' q' : Nat} (x : QG N k b sg fl f u t c q s f2 u2 t' c' q') : FrA q s u u2 := x.2.2.2.2.2.2.2.2.2.2.1
theorem QG.nm {N k : Nat} {b : Nat → Nat} {sg : Nat → Int32} {fl : Nat} {f u : MI} {t c q s : Nat} {f2 u2 : MI} {t' c' q' : Nat} (x : QG N k b sg fl f u t c q s f2 u2 t' c' q') : NMI N k b sg f u c q → NMI N k b sg f2 u2 c' q' := x.2.2.2.2.2.2.2.2.2.2.2
def QB (f u : MI) (c q s : Nat) (f2 u2 : MI) : Prop := (BAD f2 u2) ∧ (∃ c2 : Nat, c ≤ c2 ∧ c2 ≤ 4001 ∧ f2 10 0 3 = nI c2) ∧ (FrC c f f2) ∧ (FrA q s u u2)
theorem QB.bd {f u : MI} {c q s : Nat} {f2 u2 : MI} (x : QB f u c q s f2 u2) : BAD f2 u2 := x.1
theorem QB.cc {f u : MI} {c q s : Nat} {f2 u2 : MI} (x : QB f u c q s f2 u2) : ∃ c2 : Nat, c ≤ c2 ∧ c2 ≤ 4001 ∧ f2 10 0 3 = nI c2 := x.2.1
theorem QB.fc {f u : MI} {c q s : Nat} {f2 u2 : MI} (x : QB f u c q s f2 u2) : FrC c f f2 := x.2.2.1
theorem QB.fu {f u : MI} {c q s : Nat} {f2 u2 : MI} (x : QB f u c q s f2 u2) : FrA q s u u2 := x.2.2.2
section Qst
variable {L : Nat} {xs : Nat → Int32} {Y : MR × ML × (Nat → Nat) × Nat × Nat} {N k t c q s cn fl : Nat} {b : Nat → Nat} {sg : Nat → Int32} {f f2 u u2 : MI} {nt ns nn : Nat → Nat}
theorem FrA.oq (h : FrQ q u u2) : FrA q s u u2 := fun R o i z => h R o i (by omega)
theorem FrA.f6 (h : Fr6 u u2) : FrA q s u u2 := fun R o i z => h R o i (by omega)
theorem FrA.ft (h : FT f f2 u u2) : FrA q s u u2 := fun R o i z => h.2 R o i (by omega)
theorem FrA.b6 (h : FB f f2 u u2) : FrA q s u u2 := fun R o i z => h.2 R o i (by omega)
theorem FrC.ft (h : FT f f2 u u2) : FrC c f f2 := fun R o i z => h.1 R o i (by omega)
theorem FrQ.ft (h : FT f f2 u u2) : FrQ q u u2 := fun R o i z => h.2 R o i (by omega)
theorem FrA.tr {u3 : MI} {q' s' : Nat} (h1 : FrA q s u u2) (h2 : FrA q' s' u2 u3) (hq : q ≤ q') (hs : s ≤ s') : FrA q s u u3 := fun R o i z => (h2 R o i (by omega)).trans (h1 R o i z)
theorem NU.frA (M : NU u N k b sg cn nt ns nn) (h : FrA q s u u2) : NU u2 N k b sg cn nt ns nn := M.fr (fun R o i z => h R o i (by omega))
theorem Qnp.mv {Q Q2 C c' fl2 : Nat} (F : Qnp N k b sg f u fl Q c c' s) (hf : ∀ i, i < C → f2 32 0 i = f 32 0 i) (hC : c' ≤ C) (hu : ∀ R i, (R = 65 ∨ R = 66 ∨ R = 67) → i < Q → u2 R 0 i = u R 0 i) (hQ : Q ≤ Q2) (hfl : fl ≤ fl2) (hs : ∀ R, 68 ≤ R → R ≤ 71 → u2 R 0 s = u R 0 s) : Qnp N k b sg f2 u2 fl2 Q2 c c' s := by
  obtain ⟨h1, bt, c2, h2, h3, h4, h5⟩ := F
  have hc2 : c2 < C := by cases bt <;> simp at h3 <;> omega
  refine ⟨h1, bt, c2, (hs 68 (by omega) (by omega)).trans h2, h3, fun e => ?_, ?_⟩
  · rw [hf (c2 + 1) (by rw [e] at h3; simp at h3; omega)]
    exact h4 e
  · rcases h5 with ⟨j, j1, j2, j3, j4, j5⟩ | ⟨c1, ka, kb, w, lc1, lr1, lc2, lr2, w1, w2, x1, x2, x3, ⟨y1, y2⟩, ⟨z1, z2⟩, z3⟩
    · exact Or.inl ⟨j, by omega, (hs 69 (by omega) (by omega)).trans j2, (hs 70 (by omega) (by omega)).trans j3, (hf c2 hc2).trans j4, j5⟩
    · have := z1.cc
      exact Or.inr ⟨c1, ka, kb, w, lc1, lr1, lc2, lr2, w1, w2, (hs 69 (by omega) (by omega)).trans x1, (hs 70 (by omega) (by omega)).trans x2, (hs 71 (by omega) (by omega)).trans x3, ⟨y1.mv hf (by omega) hu y2, by omega⟩, ⟨z1.mv hf (by omega) hu z2, by omega⟩, (hf c2 hc2).trans z3⟩
theorem c_cmq {d : Nat} (s : Int32) (h : MH) : EL (mP L xs) (d + 1) 77 [iv s] h = some (.inl (some (iv (cmo s))), h) := by
  rw [E_FormulaReader_comparison]
  unfold cmo
  simp only [ite_val]
theorem r_85 {d : Nat} {z5 : Option MV} (v1 v2 v3 v4 w0 : Int32) (h : MH) : RL (mP L xs) d 121 85 [some (rv 22 (some 0)), some (iv v1), some (iv v2), some (iv v3), some (iv v4), z5] [iv w0] h = RL (mP L xs) d 121 138 [some (rv 22 (some 0)), some (iv v1), some (iv v2), some (iv v3), some (iv w0), z5] [iv (cwo w0)] h := by
  rw [K_Ref_question_85]
  unfold cwo
  by_cases z1 : w0 = 60
  · rw [if_pos z1, if_pos z1]
  rw [if_neg z1, if_neg z1]
  by_cases z2 : w0 = 62
  · rw [if_pos z2, if_pos z2]
  rw [if_neg z2, if_neg z2]
  by_cases z3 : w0 = 316
  · rw [if_pos z3, if_pos z3]
  rw [if_neg z3, if_neg z3]
  by_cases z4 : w0 = 318
  · rw [if_pos z4, if_pos z4]
  rw [if_neg z4, if_neg z4]
  by_cases z5 : w0 = 317
  · rw [if_pos z5, if_pos z5]
  rw [if_neg z5, if_neg z5]
  by_cases z6 : w0 = 289
  · rw [if_pos z6, if_pos z6]
  rw [if_neg z6, if_neg z6]
theorem r_ask {d s : Nat} {z5 : Option MV} (hs : u 22 0 51 = nI s) (h : s < 2100) (v1 v2 v3 v4 : Int32) : RL (mP L xs) d 121 171 [some (rv 22 (some 0)), some (iv v1), some (iv v2), some (iv v3), some (iv v4), z5] [] (u, Y) = some (.inl none, (m3 (m3 (m3 (m3 (m3 (m3 u 68 0 s (v1 - v1 / 2 * 2)) 69 0 s v4) 70 0 s v2) 71 0 s v3) 72 0 s (-1)) 22 0 51 (nI (s + 1)), Y)) := by
  have e1 : (m3 u 68 0 s (v1 - v1 / 2 * 2)) 22 0 51 = nI s := (m3_r (by decide)).trans hs
  have e2 : (m3 (m3 u 68 0 s (v1 - v1 / 2 * 2)) 69 0 s v4) 22 0 51 = nI s := (m3_r (by decide)).trans e1
  have e3 : (m3 (m3 (m3 u 68 0 s (v1 - v1 / 2 * 2)) 69 0 s v4) 70 0 s v2) 22 0 51 = nI s := (m3_r (by decide)).trans e2
  have e4 : (m3 (m3 (m3 (m3 u 68 0 s (v1 - v1 / 2 * 2)) 69 0 s v4) 70 0 s v2) 71 0 s v3) 22 0 51 = nI s := (m3_r (by decide)).trans e3
  have e5 : (m3 (m3 (m3 (m3 (m3 u 68 0 s (v1 - v1 / 2 * 2)) 69 0 s v4) 70 0 s v2) 71 0 s v3) 72 0 s (-1)) 22 0 51 = nI s := (m3_r (by decide)).trans e4
  rw [K_Ref_question_171]
  simp only [hs, if_neg (nin h (show 2100 < 2 ^ 31 by decide)), nI_clamp (show s < 2 ^ 31 by omega), e1, e2, e3, e4, e5, nI_1]
/-- the sign that compares -/
theorem px_cmp (P : PX f u N k b sg t) : (∃ w : Nat, 13 ≤ w ∧ w ≤ 18 ∧ cmo (sg t) = nI w ∧ (if u 22 0 7 = 3 then u 22 0 10 else 0) = sgw w ∧ cwo (sgw w) = 1 ∧ sg t ≠ 0 ∧ sg t ≠ 1) ∨ (cmo (sg t) = -1 ∧ cwo (if u 22 0 7 = 3 then u 22 0 10 else 0) = 0) := by
  have c0 : ∀ i, i < 51 → cmo (nI (301 + i)) = -1 := by decide +kernel
  rcases P.tkk with ⟨h1, h2⟩ | ⟨h1, h2⟩ | ⟨h1, h2, -⟩ | ⟨h1, h2, h3⟩ | ⟨i, i1, h1, h2, h3⟩ | ⟨x, x1, h1, h2, h3⟩ | ⟨x, x1, h1, h2, h3⟩
  · rw [h1, h2, if_neg (by decide)]; exact Or.inr ⟨by decide, by decide⟩
  · rw [h1, h2, if_neg (by decide)]; exact Or.inr ⟨by decide, by decide⟩
  · rw [h1, h2, if_neg (by decide)]; exact Or.inr ⟨by decide, by decide⟩
  · rw [h1, h2, if_neg (by decide)]; exact Or.inr ⟨by decide, by decide⟩
  · rw [h1, h2, if_neg (by decide)]; exact Or.inr ⟨c0 i i1, by decide⟩
  · rw [h1, h2, h3, if_pos rfl]
    rcases x1 with rfl | rfl | rfl | rfl | rfl | rfl | rfl | rfl | rfl | rfl | rfl | rfl | rfl <;> first | exact Or.inr ⟨by decide, by decide⟩ | exact Or.inl ⟨13, by decide, by decide, by decide, by decide, by decide, by decide, by decide⟩ | exact Or.inl ⟨15, by decide, by decide, by decide, by decide, by decide, by decide, by decide⟩
  · rw [h1, h2, h3, if_pos rfl]
    rcases x1 with rfl | rfl | rfl | rfl
    · exact Or.inl ⟨14, by decide, by decide, by decide, by decide, by decide, by decide, by decide⟩
    · exact Or.inl ⟨16, by decide, by decide, by decide, by decide, by decide, by decide, by decide⟩
    · exact Or.inl ⟨17, by decide, by decide, by decide, by decide, by decide, by decide, by decide⟩
    · exact Or.inl ⟨18, by decide, by decide, by decide, by decide, by decide, by decide, by decide⟩
/-- the nots -/
theorem q_nots {z2 z3 z4 z5 : Option MV} : ∀ (j m t : Nat) (f u : MI), m + j = 12 → PX f u N k b sg t → ∃ f2 u2 m' t', m ≤ m' ∧ t' = t + (m' - m) ∧ (∀ d g X, 1 ≤ d → RL (mP L xs) d 75 4 [some (rv 13 (some 0)), some (iv (nI m)), some (iv (nI m))] [] (f, g, X) = some (.inl (some (iv (nI m'))), (f2, g, X))) ∧ FT f f2 u u2 ∧
    ((m' ≤ 12 ∧ PX f2 u2 N k b sg t' ∧ ¬ sg t' = 351 ∧ (∀ d, 8 ≤ d → RL (mP L xs) d 121 2 [some (rv 22 (some 0)), some (iv (nI m)), z2, z3, z4, z5] [] (u, Y) = RL (mP L xs) d 121 2 [some (rv 22 (some 0)), some (iv (nI m')), z2, z3, z4, z5] [] (u2, Y))) ∨
     (m' = 13 ∧ BAD f2 u2 ∧ (∀ d, 8 ≤ d → RL (mP L xs) d 121 2 [some (rv 22 (some 0)), some (iv (nI m)), z2, z3, z4, z5] [] (u, Y) = some (.inl none, (u2, Y)))))
  | j, m, t, f, u, hj, P => by
    have hm4 : nI m < 4000 := nI_lt (b := 4000) (by omega) (by decide)
    have isw : ∀ d, EL (mP L xs) (d + 1) 120 [rv 22 (some 0), iv 50] (u, Y) = some (.inl (some (iv (if sg t = 351 then 1 else 0))), (u, Y)) := fun d => px_isW (L := L) (xs := xs) (d := d) (Y := Y) P (j := 50) (by decide)
    by_cases z : sg t = 351
    · match j, hj with
      | 0, hj =>
        have e12 : m = 12 := by omega
        subst e12
        obtain ⟨f2, u2, a1, a2, a3, a4, a5⟩ := px_bad (L := L) (xs := xs) (Y := Y) P (q := 4) (by decide)
        obtain ⟨p0, q0, E2, y1, y2⟩ := a3
        refine ⟨f2, u2, 13, t + 1, by omega, rfl, fun d g X hd => ?_, ⟨a4.1, fun R o i w => a4.2 R o i (by omega)⟩, Or.inr ⟨rfl, ⟨p0, q0, E2, y1, y2⟩, fun d hd => ?_⟩⟩
        · obtain ⟨d, rfl⟩ : ∃ d', d = d' + 1 := ⟨d - 1, by omega⟩
          rw [K_FormulaReader_nots_4, if_pos hm4, px_sort P, clI, if_pos z, if_neg (show ¬ nI 12 < 12 by decide), a1, clV, ed_adv E2, clV, nI_1, K_FormulaReader_nots_4, if_pos (by decide), ed_sort E2, clI, if_neg (by decide)]
        · obtain ⟨d, rfl⟩ : ∃ d', d = d' + 1 := ⟨d - 1, by omega⟩
          rw [K_Ref_question_2, isw, clI, if_pos z, if_neg (by decide), if_pos (show nI 12 = 12 from rfl), a2 d, clV]
      | j + 1, hj =>
        obtain ⟨b1, u1, b2, b3, b4⟩ := px_adv (L := L) (xs := xs) (Y := Y) P (by rw [z]; decide) (by rw [z]; decide)
        obtain ⟨f2, u2, m', t', c1, c2, c3, c4, c5⟩ := q_nots j (m + 1) (t + 1) _ u1 (by omega) b4
        have nn12 : ¬ nI m = 12 := fun e => by have := (nI_eq (b := 12) (by omega) (by decide)).mp e; omega
        have kU : ∀ d, 8 ≤ d → RL (mP L xs) d 121 2 [some (rv 22 (some 0)), some (iv (nI m)), z2, z3, z4, z5] [] (u, Y) = RL (mP L xs) d 121 2 [some (rv 22 (some 0)), some (iv (nI (m + 1))), z2, z3, z4, z5] [] (u1, Y) := fun d hd => by
          have b2' := EL_mono (d' := d) (by omega) b2
          obtain ⟨d, rfl⟩ : ∃ d', d = d' + 1 := ⟨d - 1, by omega⟩
          rw [K_Ref_question_2, isw, clI, if_pos z, if_neg (by decide), if_neg nn12, b2', clV, nI_1]
        refine ⟨f2, u2, m', t', by omega, by omega, fun d g X hd => ?_, ⟨fun R o i w => (c4.1 R o i w).trans (m3_r (by omega)), fun R o i w => (c4.2 R o i w).trans (b3 R o i (by omega))⟩, ?_⟩
        · have hc3 := c3 d g X hd
          obtain ⟨d, rfl⟩ : ∃ d', d = d' + 1 := ⟨d - 1, by omega⟩
          rw [K_FormulaReader_nots_4, if_pos hm4, px_sort P, clI, if_pos z, if_pos (show nI m < 12 from nI_lt (b := 12) (by omega) (by decide)), b1, clV, nI_1, hc3]
        · rcases c5 with ⟨x1, x2, x3, x4⟩ | ⟨x1, x2, x3⟩
          · exact Or.inl ⟨x1, x2, x3, fun d hd => (kU d hd).trans (x4 d hd)⟩
          · exact Or.inr ⟨x1, x2, fun d hd => (kU d hd).trans (x3 d hd)⟩
    · refine ⟨f, u, m, t, Nat.le_refl m, by omega, fun d g X hd => ?_, ⟨fun _ _ _ _ => rfl, fun _ _ _ _ => rfl⟩, Or.inl ⟨by omega, P, z, fun d hd => rfl⟩⟩
      obtain ⟨d, rfl⟩ : ∃ d', d = d' + 1 := ⟨d - 1, by omega⟩
      rw [K_FormulaReader_nots_4, if_pos hm4, px_sort P, clI, if_neg z]
  termination_by j => j
/-- a not's cell -/
theorem q_par {c2 m : Nat} (hc : f 10 0 3 = nI c2) (hl : c2 < 4001) (hm : m < 13) : ∃ f2, (∀ d g X (K : MH → MX), 1 ≤ d → (if nI m - nI m / 2 * 2 = 0 then K (f, g, X) else mclV (EL (mP L xs) d 68 [rv 10 (some 0), iv 6, iv 0] (f, g, X)) K (fun e h => some (.inr e, h))) = K (f2, g, X)) ∧ f2 10 0 3 = nI (c2 + (bif m % 2 == 1 then 1 else 0)) ∧ ((m % 2 == 1) = true → f2 32 0 c2 = 6) ∧ (∀ R o i, ¬ ((R = 32 ∧ i = c2) ∨ (R = 10 ∧ i = 3)) → f2 R o i = f R o i) := by
  have hp := par_ev m hm
  by_cases z : m % 2 = 0
  · have e : (m % 2 == 1) = false := by rw [z]; rfl
    refine ⟨f, fun d g X K hd => by rw [if_pos (hp.mpr z)], by rw [e]; exact hc, fun w => absurd (e.symm.trans w) (by decide), fun _ _ _ _ => rfl⟩
  · have e : (m % 2 == 1) = true := by rw [show m % 2 = 1 by omega]; rfl
    have hput' : ∀ d g X, EL (mP L xs) (d + 1) 68 [rv 10 (some 0), iv 6, iv 0] (f, g, X) = some (.inl none, (m3 (m3 f 32 0 c2 (nI (6 + 32 * 0))) 10 0 3 (nI (c2 + 1)), g, X)) := fun d g X => c_put (L := L) (xs := xs) (d := d) (g := g) (X := X) (w := 6) (v := 0) hc hl (by decide) (by decide)
    refine ⟨m3 (m3 f 32 0 c2 (nI (6 + 32 * 0))) 10 0 3 (nI (c2 + 1)), fun d g X K hd => ?_, by rw [e]; exact m3_eq, fun _ => by rw [m3_r (by decide), m3_eq]; rfl, fun R o i w => by rw [m3_no (by omega), m3_no (by omega)]⟩
    obtain ⟨d, rfl⟩ : ∃ d', d = d' + 1 := ⟨d - 1, by omega⟩
    rw [if_neg (fun w => z (hp.mp w)), hput', clV]
theorem ed_par {p0 q0 : Int32} (E : ED f p0 q0) (hc : f 10 0 3 = nI c) (h : c ≤ 4001) (v5 : Int32) : ∃ f2, (∀ d g X (K : MH → MX), 1 ≤ d → (if v5 - v5 / 2 * 2 = 0 then K (f, g, X) else mclV (EL (mP L xs) d 68 [rv 10 (some 0), iv 6, iv 0] (f, g, X)) K (fun e h => some (.inr e, h))) = K (f2, g, X)) ∧ ED f2 p0 q0 ∧ (∃ c2 : Nat, c ≤ c2 ∧ c2 ≤ 4001 ∧ f2 10 0 3 = nI c2) ∧ FrC c f f2 := by
  by_cases z : v5 - v5 / 2 * 2 = 0
  · exact ⟨f, fun d g X K hd => by rw [if_pos z], E, ⟨c, Nat.le_refl c, h, hc⟩, FrC.rf⟩
  · obtain ⟨f2, a1, a2, a3, a4⟩ := ed_put (L := L) (xs := xs) E hc h 6 0
    refine ⟨f2, fun d g X K hd => ?_, a2, a3, a4⟩
    obtain ⟨d, rfl⟩ : ∃ d', d = d' + 1 := ⟨d - 1, by omega⟩
    rw [if_neg z, a1, clV]
/-- the class behind a fault, from the sign that compares -/
theorem ed_107 {p0 q0 : Int32} (E : ED f p0 q0) (hc : f 10 0 3 = nI c) (h : c ≤ 4001) (v5 v6 : Int32) : ∃ f2, (∀ d g X v1 v2 v3 v4 (z7 : Option MV), 5 ≤ d → RL (mP L xs) d 78 107 [some (rv 13 (some 0)), some (iv v1), some (iv v2), some (iv v3), some (iv v4), some (iv v5), some (iv v6), z7] [] (f, g, X) = RL (mP L xs) d 78 150 [some (rv 13 (some 0)), some (iv v1), some (iv v2), some (iv v3), some (iv v4), some (iv v5), some (iv v6), z7] [] (f2, g, X)) ∧ ED f2 p0 q0 ∧ (∃ c2 : Nat, c ≤ c2 ∧ c2 ≤ 4001 ∧ f2 10 0 3 = nI c2) ∧ FrC c f f2 := by
  obtain ⟨f1, a1, a2, ⟨c2, x1, x2, x3⟩, a4⟩ := ed_put (L := L) (xs := xs) E hc h (if (0 : Int32) < v6 then v6 else 0) 0
  obtain ⟨f2, b1, b2, ⟨c3, y1, y2, y3⟩, b4⟩ := ed_par (L := L) (xs := xs) a2 x3 x2 v5
  refine ⟨f2, fun d g X v1 v2 v3 v4 z7 hd => ?_, b2, ⟨c3, by omega, y2, y3⟩, a4.tr b4 x1⟩
  obtain ⟨d, rfl⟩ : ∃ d', d = d' + 5 := ⟨d - 5, by omega⟩
  rw [K_FormulaReader_condition_107, ed_adv E, clV, ed_sum E, clV, a1, clV]
  exact b1 (d + 5) g X (fun h => RL (mP L xs) (d + 5) 78 150 [some (rv 13 (some 0)), some (iv v1), some (iv v2), some (iv v3), some (iv v4), some (iv v5), some (iv v6), z7] [] h) (by omega)
/-- the same, from the sum before -/
theorem ed_cmp {p0 q0 : Int32} (E : ED f p0 q0) (hc : f 10 0 3 = nI c) (h : c ≤ 4001) (v5 : Int32) : ∃ f2, (∀ d g X v1 v2 v3 v4 (z7 : Option MV), 5 ≤ d → mclI (EL (mP L xs) d 40 [rv 20 (some 0)] (f, g, X)) (fun x9 h8 => mclI (EL (mP L xs) d 77 [iv x9] h8) (fun x11 h10 => if x11 = (-1) then (mclV (EL (mP L xs) d 41 [rv 20 (some 0), iv 1] h10) (fun h12 => RL (mP L xs) d 78 107 [some (rv 13 (some 0)), some (iv v1), some (iv v2), some (iv v3), some (iv v4), some (iv v5), some (iv x11), z7] [] h12) (fun e h => some (.inr e, h))) else (RL (mP L xs) d 78 107 [some (rv 13 (some 0)), some (iv v1), some (iv v2), some (iv v3), some (iv v4), some (iv v5), some (iv x11), z7] [] h10)) (fun e h => some (.inr e, h))) (fun e h => some (.inr e, h)) = RL (mP L xs) d 78 150 [some (rv 13 (some 0)), some (iv v1), some (iv v2), some (iv v3), some (iv v4), some (iv v5), some (iv (-1)), z7] [] (f2, g, X)) ∧ ED f2 p0 q0 ∧ (∃ c2 : Nat, c ≤ c2 ∧ c2 ≤ 4001 ∧ f2 10 0 3 = nI c2) ∧ FrC c f f2 := by
  obtain ⟨f2, a1, a2, a3, a4⟩ := ed_107 (L := L) (xs := xs) E hc h v5 (-1)
  refine ⟨f2, fun d g X v1 v2 v3 v4 z7 hd => ?_, a2, a3, a4⟩
  obtain ⟨d, rfl⟩ : ∃ d', d = d' + 5 := ⟨d - 5, by omega⟩
  rw [ed_sort E, clI, c_cmq, clI, if_pos (show cmo 0 = -1 by decide), ed_ref E, clV]
  exact a1 (d + 5) g X v1 v2 v3 v4 z7 (by omega)
end Qst
