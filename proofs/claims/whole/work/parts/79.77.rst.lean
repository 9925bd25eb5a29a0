/-! ===== read: what stands behind a step's word (the class), and behind a fault ===== -/
section Rst
variable {L : Nat} {xs : Nat → Int32} {d : Nat} {g g2 g3 : MR} {X X2 X3 : ML × (Nat → Nat) × Nat × Nat} {a A : Nat} {p1 : Int32} {o2 : Option Nat} {f f2 f3 : MI} {c : Nat}
def dfl (x : Int32) : Prop := x ≠ 305 ∧ x ≠ 308 ∧ x ≠ 309 ∧ x ≠ 310 ∧ x ≠ 311 ∧ x ≠ 312 ∧ x ≠ 313 ∧ x ≠ 314 ∧ x ≠ 315 ∧ x ≠ 316 ∧ x ≠ 317 ∧ x ≠ 318
theorem rt_E (h : dfl (f 19 a 0)) : EL (mP L xs) (d + 1) 79 [rv 12 (some 0), rv 19 (some a), iv p1, rv 16 o2] (f, g, X) = mclI (EL (mP L xs) d 74 [rv 13 (some 0)] (f, g, X)) (fun x h => mclV (EL (mP L xs) d 46 [rv 20 (some 0), iv 59] (m3 h.1 19 a 4 x, h.2)) (fun h5 => some (.inl none, h5)) (fun e h => some (.inr e, h))) (fun e h => some (.inr e, h)) := by
  obtain ⟨h1, h2, h3, h4, h5, h6, h7, h8, h9, h10, h11, h12⟩ := h
  rw [E_FairReader_rest]
  simp only [onS_s, if_neg h1, if_neg h2, if_neg h3, if_neg h4, if_neg h5, if_neg h6, if_neg h7, if_neg h8, if_neg h9, if_neg h10, if_neg h11, if_neg h12, ite_self]
theorem rt_S (h : f 19 a 0 = 305 ∨ f 19 a 0 = 317 ∨ f 19 a 0 = 318) : EL (mP L xs) (d + 1) 79 [rv 12 (some 0), rv 19 (some a), iv p1, rv 16 o2] (f, g, X) = mclV (EL (mP L xs) d 46 [rv 20 (some 0), iv 59] (f, g, X)) (fun h5 => some (.inl none, h5)) (fun e h => some (.inr e, h)) := by
  rw [E_FairReader_rest]
  rcases h with h | h | h <;> simp (decide := true) only [onS_s, h, if_true, if_false]
theorem rt_C (h : f 19 a 0 = 308) : EL (mP L xs) (d + 1) 79 [rv 12 (some 0), rv 19 (some a), iv p1, rv 16 o2] (f, g, X) = mclI (EL (mP L xs) d 78 [rv 13 (some 0)] (f, g, X)) (fun x h => mclV (EL (mP L xs) d 46 [rv 20 (some 0), iv 59] (m3 h.1 19 a 4 x, h.2)) (fun h5 => some (.inl none, h5)) (fun e h => some (.inr e, h))) (fun e h => some (.inr e, h)) := by
  rw [E_FairReader_rest]
  simp (decide := true) only [onS_s, h, if_true, if_false]
theorem rt_N {j : Nat} (h : (j = 0 ∧ (f 19 a 0 = 309 ∨ f 19 a 0 = 310)) ∨ (j = 1 ∧ (f 19 a 0 = 311 ∨ f 19 a 0 = 312))) : EL (mP L xs) (d + 1) 79 [rv 12 (some 0), rv 19 (some a), iv p1, rv 16 o2] (f, g, X) = mclI (EL (mP L xs) d 76 [rv 14 (some 0), iv (nI j)] (f, g, X)) (fun x h => mclV (EL (mP L xs) d 46 [rv 20 (some 0), iv 59] (m3 h.1 19 a 5 x, h.2)) (fun h5 => some (.inl none, h5)) (fun e h => some (.inr e, h))) (fun e h => some (.inr e, h)) := by
  rw [E_FairReader_rest]
  rcases h with ⟨rfl, h | h⟩ | ⟨rfl, h | h⟩ <;> simp (decide := true) only [onS_s, h, if_true, if_false] <;> rfl
theorem rt_R (h : f 19 a 0 = 313) : EL (mP L xs) (d + 1) 79 [rv 12 (some 0), rv 19 (some a), iv p1, rv 16 o2] (f, g, X) = mclI (EL (mP L xs) d 74 [rv 13 (some 0)] (f, g, X)) (fun x h => RL (mP L xs) d 79 97 [some (rv 12 (some 0)), some (rv 19 (some a)), some (iv p1), some (rv 16 o2)] [] (m3 h.1 19 a 4 x, h.2)) (fun e h => some (.inr e, h)) := by
  rw [E_FairReader_rest]
  simp (decide := true) only [onS_s, h, if_true, if_false]
theorem rt_L (h : f 19 a 0 = 314) : EL (mP L xs) (d + 1) 79 [rv 12 (some 0), rv 19 (some a), iv p1, rv 16 o2] (f, g, X) = RL (mP L xs) d 79 97 [some (rv 12 (some 0)), some (rv 19 (some a)), some (iv p1), some (rv 16 o2)] [] (f, g, X) := by
  rw [E_FairReader_rest]
  simp (decide := true) only [onS_s, h, if_true, if_false]
theorem rt_I (h : f 19 a 0 = 315) : EL (mP L xs) (d + 1) 79 [rv 12 (some 0), rv 19 (some a), iv p1, rv 16 o2] (f, g, X) = mclI (EL (mP L xs) d 78 [rv 13 (some 0)] (f, g, X)) (fun x17 h16 => mclR (EL (mP L xs) d 81 [rv 12 (some 0), iv (p1 + 1), rv 19 (some a), rv 19 (h16.2.1 19 a 3), rv 16 o2] (m3 h16.1 19 a 4 x17, h16.2)) 19 (fun o21 h20 => mclI (EL (mP L xs) d 40 [rv 20 (some 0)] (h20.1, m3 h20.2.1 19 a 8 o21, h20.2.2)) (fun x24 h23 => if x24 = 347 then (mclV (EL (mP L xs) d 42 [rv 20 (some 0)] h23) (fun h25 => mclR (EL (mP L xs) d 81 [rv 12 (some 0), iv (p1 + 1), rv 19 (some a), rv 19 (h25.2.1 19 a 3), rv 16 o2] h25) 19 (fun o28 h27 => some (.inl none, (h27.1, m3 h27.2.1 19 a 9 o28, h27.2.2))) (fun e h => some (.inr e, h))) (fun e h => some (.inr e, h))) else (some (.inl none, h23))) (fun e h => some (.inr e, h))) (fun e h => some (.inr e, h))) (fun e h => some (.inr e, h)) := by
  rw [E_FairReader_rest]
  simp (decide := true) only [onS_s, h, if_true, if_false]
theorem rt_G (h : f 19 a 0 = 316) : EL (mP L xs) (d + 1) 79 [rv 12 (some 0), rv 19 (some a), iv p1, rv 16 o2] (f, g, X) = mclR (EL (mP L xs) d 81 [rv 12 (some 0), iv (p1 + 1), rv 19 (some a), rv 19 (some a), rv 16 o2] (f, g, X)) 19 (fun o9 h8 => mclV (EL (mP L xs) d 46 [rv 20 (some 0), iv 346] (h8.1, m3 h8.2.1 19 a 8 o9, h8.2.2)) (fun h11 => mclR (EL (mP L xs) d 81 [rv 12 (some 0), iv (p1 + 1), rv 19 (some a), rv 19 (h11.2.1 19 a 3), rv 16 o2] h11) 19 (fun o14 h13 => some (.inl none, (h13.1, m3 h13.2.1 19 a 9 o14, h13.2.2))) (fun e h => some (.inr e, h))) (fun e h => some (.inr e, h))) (fun e h => some (.inr e, h)) := by
  rw [E_FairReader_rest]
  simp (decide := true) only [onS_s, h, if_true, if_false]
theorem rt_97 (hA : X.2.1 19 = A) (ha : a ≠ A) : RL (mP L xs) (d + 1) 79 97 [some (rv 12 (some 0)), some (rv 19 (some a)), some (iv p1), some (rv 16 o2)] [] (f, g, X) = mclR (EL (mP L xs) (d + 1) 81 [rv 12 (some 0), iv (p1 + 1), rv 19 (some a), rv 19 (g 19 a 3), rv 16 o2] (NF f A 401 (f 19 a 1), m3 (NG g A (some a) (g 19 a 3)) 19 a 10 (some A), NX X A)) 19 (fun o7 h6 => some (.inl none, (h6.1, m3 h6.2.1 19 a 8 o7, h6.2.2))) (fun e h => some (.inr e, h)) := by
  have e1 : (m2 f 19 A 0) 19 a 1 = f 19 a 1 := by unfold m2; rw [if_pos rfl, if_neg ha]
  have e2 : (m2 g 19 A none) 19 a 3 = g 19 a 3 := by unfold m2; rw [if_pos rfl, if_neg ha]
  have e3 : m3 (NG g A (some a) (g 19 a 3)) 19 a 10 (some A) 19 a 3 = g 19 a 3 := by
    rw [m3_i (by decide), NG_o (fun h => ha h.2)]
  rw [K_FairReader_rest_97]
  simp only [onS_s, hA, e1, e2, E_Step_init, clV]
  show mclR (EL (mP L xs) (d + 1) 81 [rv 12 (some 0), iv (p1 + 1), rv 19 (some a), rv 19 (m3 (NG g A (some a) (g 19 a 3)) 19 a 10 (some A) 19 a 3), rv 16 o2] (NF f A 401 (f 19 a 1), m3 (NG g A (some a) (g 19 a 3)) 19 a 10 (some A), NX X A)) 19 _ _ = _
  rw [e3]
/-- behind a fault -/
theorem ed_rest {p0 q0 : Int32} (E : ED f p0 q0) (hc : f 10 0 3 = nI c) (hl : c ≤ 4001) (hA : X.2.1 19 = A) (ha : a < A) : ∃ f2 g2 X2 A2, (∀ d p1 o2, 10 ≤ d → EL (mP L xs) d 79 [rv 12 (some 0), rv 19 (some a), iv p1, rv 16 o2] (f, g, X) = some (.inl none, (f2, g2, X2))) ∧ ED f2 p0 q0 ∧ (∃ c2 : Nat, c ≤ c2 ∧ c2 ≤ 4001 ∧ f2 10 0 3 = nI c2) ∧ XR A A2 X X2 ∧ A2 ≤ A + 1 ∧ FrK c a f f2 ∧ FrG a none g g2 := by
  have m19 : ∀ {f2 : MI} {i : Nat} {v : Int32}, FrC c f f2 → FrK c a f (m3 f2 19 a i v) := fun h R o i z => (m3_no (by omega)).trans (h R o i (by omega))
  have x97 : ∀ (f1 : MI) (c1 : Nat), ED f1 p0 q0 → f1 10 0 3 = nI c1 → c ≤ c1 → c1 ≤ 4001 → FrK c a f f1 → (∃ f2 g2 X2 A2, (∀ d p1 o2, 9 ≤ d → RL (mP L xs) d 79 97 [some (rv 12 (some 0)), some (rv 19 (some a)), some (iv p1), some (rv 16 o2)] [] (f1, g, X) = some (.inl none, (f2, g2, X2))) ∧ ED f2 p0 q0 ∧ (∃ c2 : Nat, c ≤ c2 ∧ c2 ≤ 4001 ∧ f2 10 0 3 = nI c2) ∧ XR A A2 X X2 ∧ A2 ≤ A + 1 ∧ FrK c a f f2 ∧ FrG a none g g2) := fun f1 c1 E1 h1 h2 h3 h4 => by
    refine ⟨NF f1 A 401 (f1 19 a 1), m3 (m3 (NG g A (some a) (g 19 a 3)) 19 a 10 (some A)) 19 a 8 none, NX X A, A + 1, fun d p1 o2 hd => ?_, E1.m2, ⟨c1, h2, h3, (NF_o (by omega)).trans h1⟩, XR.new hA, Nat.le_refl _, fun R o i z => (NF_o (by omega)).trans (h4 R o i z), fun R o i z => ?_⟩
    · obtain ⟨d, rfl⟩ : ∃ d', d = d' + 2 := ⟨d - 2, by omega⟩
      rw [rt_97 hA (by omega), ed_block E1.m2, clR]
    · rw [m3_no (fun h => z ⟨h.1, Or.inl (by omega)⟩), m3_no (fun h => z ⟨h.1, Or.inl (by omega)⟩), NG_o (fun h => z ⟨h.1, Or.inl (by omega)⟩)]
  by_cases w1 : f 19 a 0 = 305 ∨ f 19 a 0 = 317 ∨ f 19 a 0 = 318
  · refine ⟨f, g, X, A, fun d p1 o2 hd => ?_, E, ⟨c, Nat.le_refl c, hl, hc⟩, XR.rf hA, by omega, FrK.rf, FrG.rf⟩
    obtain ⟨d, rfl⟩ : ∃ d', d = d' + 3 := ⟨d - 3, by omega⟩
    rw [rt_S w1, ed_exp E (by decide), clV]
  by_cases w2 : f 19 a 0 = 308
  · obtain ⟨f1, a1, a2, ⟨c1, a3, a4, a5⟩, a6⟩ := ed_cond (L := L) (xs := xs) E hc hl
    refine ⟨m3 f1 19 a 4 (nI c), g, X, A, fun d p1 o2 hd => ?_, a2.m19, ⟨c1, a3, a4, (m3_r (by decide)).trans a5⟩, XR.rf hA, by omega, m19 a6, FrG.rf⟩
    obtain ⟨d, rfl⟩ : ∃ d', d = d' + 3 := ⟨d - 3, by omega⟩
    rw [rt_C w2, a1 (d + 2) g X (by omega), clI, ed_exp a2.m19 (by decide), clV]
  by_cases w3 : ∃ j : Nat, (j = 0 ∧ (f 19 a 0 = 309 ∨ f 19 a 0 = 310)) ∨ (j = 1 ∧ (f 19 a 0 = 311 ∨ f 19 a 0 = 312))
  · obtain ⟨j, w3⟩ := w3
    refine ⟨m3 f 19 a 5 (-1), g, X, A, fun d p1 o2 hd => ?_, E.m19, ⟨c, Nat.le_refl c, hl, (m3_r (by decide)).trans hc⟩, XR.rf hA, by omega, m19 FrC.rf, FrG.rf⟩
    obtain ⟨d, rfl⟩ : ∃ d', d = d' + 4 := ⟨d - 4, by omega⟩
    rw [rt_N w3, ed_told E, clI, ed_exp E.m19 (by decide), clV]
  by_cases w4 : f 19 a 0 = 313
  · obtain ⟨f1, a1, a2, ⟨c1, a3, a4, a5⟩, a6⟩ := ed_expr (L := L) (xs := xs) E hc hl
    obtain ⟨f2, g2, X2, A2, b1, b2⟩ := x97 (m3 f1 19 a 4 (nI c)) c1 a2.m19 ((m3_r (by decide)).trans a5) a3 a4 (m19 a6)
    refine ⟨f2, g2, X2, A2, fun d p1 o2 hd => ?_, b2⟩
    obtain ⟨d, rfl⟩ : ∃ d', d = d' + 7 := ⟨d - 7, by omega⟩
    rw [rt_R w4, a1, clI]
    exact b1 (d + 6) p1 o2 (by omega)
  by_cases w5 : f 19 a 0 = 314
  · obtain ⟨f2, g2, X2, A2, b1, b2⟩ := x97 f c E hc (Nat.le_refl c) hl FrK.rf
    refine ⟨f2, g2, X2, A2, fun d p1 o2 hd => ?_, b2⟩
    obtain ⟨d, rfl⟩ : ∃ d', d = d' + 1 := ⟨d - 1, by omega⟩
    rw [rt_L w5]
    exact b1 d p1 o2 (by omega)
  by_cases w6 : f 19 a 0 = 315
  · obtain ⟨f1, a1, a2, ⟨c1, a3, a4, a5⟩, a6⟩ := ed_cond (L := L) (xs := xs) E hc hl
    refine ⟨m3 f1 19 a 4 (nI c), m3 g 19 a 8 none, X, A, fun d p1 o2 hd => ?_, a2.m19, ⟨c1, a3, a4, (m3_r (by decide)).trans a5⟩, XR.rf hA, by omega, m19 a6, fun R o i z => m3_no (fun h => z ⟨h.1, Or.inl (by omega)⟩)⟩
    obtain ⟨d, rfl⟩ : ∃ d', d = d' + 3 := ⟨d - 3, by omega⟩
    rw [rt_I w6, a1 (d + 2) g X (by omega), clI, ed_block a2.m19, clR, ed_sort a2.m19, clI, if_neg (by decide)]
  by_cases w7 : f 19 a 0 = 316
  · refine ⟨f, m3 (m3 g 19 a 8 none) 19 a 9 none, X, A, fun d p1 o2 hd => ?_, E, ⟨c, Nat.le_refl c, hl, hc⟩, XR.rf hA, by omega, FrK.rf, fun R o i z => (m3_no (fun h => z ⟨h.1, Or.inl (by omega)⟩)).trans (m3_no (fun h => z ⟨h.1, Or.inl (by omega)⟩))⟩
    obtain ⟨d, rfl⟩ : ∃ d', d = d' + 3 := ⟨d - 3, by omega⟩
    rw [rt_G w7, ed_block E, clR, ed_exp E (by decide), clV, ed_block E, clR]
  · have hdf : dfl (f 19 a 0) := ⟨fun e => w1 (Or.inl e), w2, fun e => w3 ⟨0, Or.inl ⟨rfl, Or.inl e⟩⟩, fun e => w3 ⟨0, Or.inl ⟨rfl, Or.inr e⟩⟩, fun e => w3 ⟨1, Or.inr ⟨rfl, Or.inl e⟩⟩, fun e => w3 ⟨1, Or.inr ⟨rfl, Or.inr e⟩⟩, w4, w5, w6, w7, fun e => w1 (Or.inr (Or.inl e)), fun e => w1 (Or.inr (Or.inr e))⟩
    obtain ⟨f1, a1, a2, ⟨c1, a3, a4, a5⟩, a6⟩ := ed_expr (L := L) (xs := xs) E hc hl
    refine ⟨m3 f1 19 a 4 (nI c), g, X, A, fun d p1 o2 hd => ?_, a2.m19, ⟨c1, a3, a4, (m3_r (by decide)).trans a5⟩, XR.rf hA, by omega, m19 a6, FrG.rf⟩
    obtain ⟨d, rfl⟩ : ∃ d', d = d' + 7 := ⟨d - 7, by omega⟩
    rw [rt_E hdf, a1, clI, ed_exp a2.m19 (by decide), clV]
end Rst
