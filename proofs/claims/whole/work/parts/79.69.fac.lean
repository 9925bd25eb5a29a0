/-! ===== read: factors, products, sums ===== -/
/-- as EG, without what the lists mean -/
def EG0 (N k : Nat) (b : Nat → Nat) (sg : Nat → Int32) (f u : MI) (t c q n e : Nat) (f2 u2 : MI) (t' : Nat) (lc lr : PL) : Prop := (t < t') ∧ (PX f2 u2 N k b sg t') ∧ (f2 10 0 3 = nI (c + lc.length)) ∧ (u2 22 0 45 = nI (q + lr.length)) ∧ (u2 22 0 55 = nI n) ∧ (lc.length ≤ t' - t + e ∧ lr.length ≤ t' - t) ∧ (Sp f2 c lc) ∧ (Rpp b N u2 q lr) ∧ (∀ x ∈ lc, okp k sg x) ∧ (∀ x ∈ lr, okp k sg x) ∧ (FrC c f f2) ∧ (FrQ q u u2)
theorem EG0.tt {N k : Nat} {b : Nat → Nat} {sg : Nat → Int32} {f u : MI} {t c q n e : Nat} {f2 u2 : MI} {t' : Nat} {lc lr : PL} (x : EG0 N k b sg f u t c q n e f2 u2 t' lc lr) : t < t' := x.1
theorem EG0.px {N k : Nat} {b : Nat → Nat} {sg : Nat → Int32} {f u : MI} {t c q n e : Nat} {f2 u2 : MI} {t' : Nat} {lc lr : PL} (x : EG0 N k b sg f u t c q n e f2 u2 t' lc lr) : PX f2 u2 N k b sg t' := x.2.1
theorem EG0.cc {N k : Nat} {b : Nat → Nat} {sg : Nat → Int32} {f u : MI} {t c q n e : Nat} {f2 u2 : MI} {t' : Nat} {lc lr : PL} (x : EG0 N k b sg f u t c q n e f2 u2 t' lc lr) : f2 10 0 3 = nI (c + lc.length) := x.2.2.1
theorem EG0.qu {N k : Nat} {b : Nat → Nat} {sg : Nat → Int32} {f u : MI} {t c q n e : Nat} {f2 u2 : MI} {t' : Nat} {lc lr : PL} (x : EG0 N k b sg f u t c q n e f2 u2 t' lc lr) : u2 22 0 45 = nI (q + lr.length) := x.2.2.2.1
theorem EG0.nu {N k : Nat} {b : Nat → Nat} {sg : Nat → Int32} {f u : MI} {t c q n e : Nat} {f2 u2 : MI} {t' : Nat} {lc lr : PL} (x : EG0 N k b sg f u t c q n e f2 u2 t' lc lr) : u2 22 0 55 = nI n := x.2.2.2.2.1
theorem EG0.ll {N k : Nat} {b : Nat → Nat} {sg : Nat → Int32} {f u : MI} {t c q n e : Nat} {f2 u2 : MI} {t' : Nat} {lc lr : PL} (x : EG0 N k b sg f u t c q n e f2 u2 t' lc lr) : lc.length ≤ t' - t + e ∧ lr.length ≤ t' - t := x.2.2.2.2.2.1
theorem EG0.sp {N k : Nat} {b : Nat → Nat} {sg : Nat → Int32} {f u : MI} {t c q n e : Nat} {f2 u2 : MI} {t' : Nat} {lc lr : PL} (x : EG0 N k b sg f u t c q n e f2 u2 t' lc lr) : Sp f2 c lc := x.2.2.2.2.2.2.1
theorem EG0.rp {N k : Nat} {b : Nat → Nat} {sg : Nat → Int32} {f u : MI} {t c q n e : Nat} {f2 u2 : MI} {t' : Nat} {lc lr : PL} (x : EG0 N k b sg f u t c q n e f2 u2 t' lc lr) : Rpp b N u2 q lr := x.2.2.2.2.2.2.2.1
theorem EG0.oc {N k : Nat} {b : Nat → Nat} {sg : Nat → Int32} {f u : MI} {t c q n e : Nat} {f2 u2 : MI} {t' : Nat} {lc lr : PL} (x : EG0 N k b sg f u t c q n e f2 u2 t' lc lr) : ∀ x ∈ lc, okp k sg x := x.2.2.2.2.2.2.2.2.1
theorem EG0.ou {N k : Nat} {b : Nat → Nat} {sg : Nat → Int32} {f u : MI} {t c q n e : Nat} {f2 u2 : MI} {t' : Nat} {lc lr : PL} (x : EG0 N k b sg f u t c q n e f2 u2 t' lc lr) : ∀ x ∈ lr, okp k sg x := x.2.2.2.2.2.2.2.2.2.1
theorem EG0.fc {N k : Nat} {b : Nat → Nat} {sg : Nat → Int32} {f u : MI} {t c q n e : Nat} {f2 u2 : MI} {t' : Nat} {lc lr : PL} (x : EG0 N k b sg f u t c q n e f2 u2 t' lc lr) : FrC c f f2 := x.2.2.2.2.2.2.2.2.2.2.1
theorem EG0.fu {N k : Nat} {b : Nat → Nat} {sg : Nat → Int32} {f u : MI} {t c q n e : Nat} {f2 u2 : MI} {t' : Nat} {lc lr : PL} (x : EG0 N k b sg f u t c q n e f2 u2 t' lc lr) : FrQ q u u2 := x.2.2.2.2.2.2.2.2.2.2.2
section Fac
variable {L : Nat} {xs : Nat → Int32} {Y : MR × ML × (Nat → Nat) × Nat × Nat} {N k t c q n cn : Nat} {b : Nat → Nat} {sg : Nat → Int32} {f f2 u u2 : MI} {nt ns nn : Nat → Nat}
theorem EG.up {t h h' : Nat} {t' : Nat} {lc lr : PL} (E : EG N k b sg f u t c q n h f2 u2 t' lc lr) (hh : h ≤ h') : EG N k b sg f u t c q n h' f2 u2 t' lc lr := ⟨E.tt, E.px, E.cc, E.qu, E.nu, E.ll, E.sp, E.rp, E.sm, Wf_up E.wc hh, Wf_up E.wr hh, E.oc, E.ou, E.fc, E.fu⟩
theorem EG.zero {t h t' : Nat} {lc lr : PL} (E : EG N k b sg f u t c q n h f2 u2 t' lc lr) : EG0 N k b sg f u t c q n 0 f2 u2 t' lc lr := ⟨E.tt, E.px, E.cc, E.qu, E.nu, E.ll, E.sp, E.rp, E.oc, E.ou, E.fc, E.fu⟩
/-- behind a fault -/
theorem ed_op {p0 q0 v : Int32} (E : ED f p0 q0) {d : Nat} {g : MR} {X : ML × (Nat → Nat) × Nat × Nat} : EL (mP L xs) (d + 2) 70 [rv 13 (some 0), iv v] (f, g, X) = some (.inl none, (f, g, X)) := by
  rw [E_FormulaReader_operand, ed_sort E, clI, c_vo, clI, show vo 0 = -1 from rfl, if_neg (by decide), if_pos rfl, if_neg (by decide), if_neg (by decide), ed_ref E, clV]
theorem ed_53 {p0 q0 : Int32} (E : ED f p0 q0) (hc : f 10 0 3 = nI c) (h : c ≤ 4001) (v1 v2 : Int32) : ∃ f2, (∀ d g X v3, RL (mP L xs) (d + 2) 71 53 [some (rv 13 (some 0)), some (iv v1), some (iv v2), some (iv v3)] [] (f, g, X) = some (.inl none, (f2, g, X))) ∧ ED f2 p0 q0 ∧ (∃ c2 : Nat, c ≤ c2 ∧ c2 ≤ 4001 ∧ f2 10 0 3 = nI c2) ∧ FrC c f f2 := by
  by_cases z : (v2 - v1) - (v2 - v1) / 2 * 2 = 0
  · refine ⟨f, fun d g X v3 => ?_, E, ⟨c, Nat.le_refl c, h, hc⟩, FrC.rf⟩
    rw [K_FormulaReader_factor_53, ed_op E, clV, if_pos z]
  · obtain ⟨f2, c2, a1, a2, a3, a4, a5⟩ := c_putE (L := L) (xs := xs) hc h 5 0
    refine ⟨f2, fun d g X v3 => ?_, E.fr (a5 20 0 5 (by omega)) (a5 20 0 6 (by omega)) (a5 20 0 7 (by omega)) (a5 20 0 8 (by omega)) (a5 34 0 4000 (by omega)), ⟨c2, a3, a4, a2⟩, fun R o i z => a5 R o i (by omega)⟩
    rw [K_FormulaReader_factor_53, ed_op E, clV, if_neg z, a1, clV]
theorem ed_fac {p0 q0 v : Int32} (E : ED f p0 q0) {d : Nat} {g : MR} {X : ML × (Nat → Nat) × Nat × Nat} : EL (mP L xs) (d + 3) 71 [rv 13 (some 0), iv v] (f, g, X) = some (.inl none, (f, g, X)) := by
  rw [E_FormulaReader_factor, K_FormulaReader_factor_4, if_pos (by decide), ed_sort E, clI, if_neg (by decide), K_FormulaReader_factor_53, ed_op E, clV, Int32.sub_self, if_pos (by decide)]
theorem ed_trm {p0 q0 v : Int32} (E : ED f p0 q0) {d : Nat} {g : MR} {X : ML × (Nat → Nat) × Nat × Nat} : EL (mP L xs) (d + 4) 72 [rv 13 (some 0), iv v] (f, g, X) = some (.inl none, (f, g, X)) := by
  rw [E_FormulaReader_term, ed_fac E, clV, K_FormulaReader_term_7, if_pos (by decide), ed_sort E, clI, if_neg (by decide), ed_sort E, clI, if_neg (by decide)]
theorem ed_sum {p0 q0 v : Int32} (E : ED f p0 q0) {d : Nat} {g : MR} {X : ML × (Nat → Nat) × Nat × Nat} : EL (mP L xs) (d + 5) 73 [rv 13 (some 0), iv v] (f, g, X) = some (.inl none, (f, g, X)) := by
  rw [E_FormulaReader_sum, ed_trm E, clV, K_FormulaReader_sum_7, if_pos (by decide), ed_sort E, clI, if_neg (by decide), ed_sort E, clI, if_neg (by decide)]
theorem EL_102 (d : Nat) (p0 p1 : Int32) (u : MI) (Y : MR × ML × (Nat → Nat) × Nat × Nat) : EL (mP L xs) (d + 1) 102 [rv 22 (some 0), iv p0, iv p1] (u, Y) = if u 22 0 12 = 0 then some (.inl none, (m3 (m3 u 22 0 12 p0) 22 0 13 p1, Y)) else some (.inl none, (u, Y)) := E_Ref_wrong p0 p1 (u, Y)
theorem dlift {D : Nat} {P : Nat → Prop} (h : ∀ d, P (d + D)) : ∀ d, D ≤ d → P d := fun d hd => by
  have := h (d - D)
  rw [show d - D + D = d by omega] at this
  exact this
/-- a word that asks for something -/
theorem ex_val (F : FX N k b sg cn nt ns nn f u t c q n) {i : Nat} (hi : i < 51) (hs : sg t = nI (301 + i)) (h18 : 18 ≤ i ∧ i ≤ 31) (v1 : Int32) :
    ∃ f2 u2, (∀ d g X, 12 ≤ d → EL (mP L xs) d 70 [rv 13 (some 0), iv v1] (f, g, X) = some (.inl none, (f2, g, X))) ∧ (∀ d, 12 ≤ d → EL (mP L xs) d 115 [rv 22 (some 0)] (u, Y) = some (.inl none, (u2, Y))) ∧ ((∃ t' lc lr, EG N k b sg f u t c q n 1 f2 u2 t' lc lr) ∨ EB f u t c q f2 u2) := by
  have P := F.px
  obtain ⟨n0, n1, n2, n3, n4, n5⟩ := nI_sm hi
  obtain ⟨hk1, hw1⟩ := (tk_word P.tkk hi).mp hs
  have hv : vo (sg t) = vt i := by rw [hs]; exact vo_i i hi
  have hvt : vt i = nI (if i = 18 then 13 else i - 19) := by
    unfold vt
    by_cases z : i = 18
    · rw [if_pos z, if_pos z]; rfl
    · rw [if_neg z, if_neg z, if_pos (by omega)]
  generalize ha : (if i = 18 then 13 else i - 19) = a at hvt
  have ha13 : a ≤ 13 := by rw [← ha]; split <;> omega
  have s1 := fun d => px_isSign (L := L) (xs := xs) (d := d) (Y := Y) P (c := 45) (by decide) (by decide)
  have s2 := fun d => px_isSign (L := L) (xs := xs) (d := d) (Y := Y) P (c := 40) (by decide) (by decide)
  have s1' : ∀ d, EL (mP L xs) (d + 1) 108 [rv 22 (some 0), iv 45] (u, Y) = some (.inl (some (iv 0)), (u, Y)) := fun d => (s1 d).trans (by rw [if_neg (show ¬ sg t = nI 45 by rw [hs]; exact n5)])
  have s2' : ∀ d, EL (mP L xs) (d + 1) 108 [rv 22 (some 0), iv 40] (u, Y) = some (.inl (some (iv 0)), (u, Y)) := fun d => (s2 d).trans (by rw [if_neg (show ¬ sg t = nI 40 by rw [hs]; exact n4)])
  have keyC : ∀ d g X, EL (mP L xs) (d + 12) 70 [rv 13 (some 0), iv v1] (f, g, X) = mclV (EL (mP L xs) (d + 11) 68 [rv 10 (some 0), iv 2, iv (nI a)] (f, g, X)) (fun h16 => mclV (EL (mP L xs) (d + 11) 42 [rv 20 (some 0)] h16) (fun h17 => some (.inl none, h17)) (fun e h => some (.inr e, h))) (fun e h => some (.inr e, h)) := fun d g X => by
    rw [E_FormulaReader_operand, px_sort P, clI, c_vo, clI, hv, hvt, if_neg (by rw [hs]; exact n2), if_neg (nI_ne1 (by omega))]
  have keyU : ∀ d, EL (mP L xs) (d + 12) 115 [rv 22 (some 0)] (u, Y) = mclV (EL (mP L xs) (d + 11) 114 [rv 22 (some 0)] (u, Y)) (fun h6 => some (.inl none, h6)) (fun e h => some (.inr e, h)) := fun d => by
    rw [E_Ref_factor, s1', clI, if_pos rfl, s2', clI, if_pos rfl]
    simp only [hk1, if_neg (show ¬ (1 : Int32) = 2 by decide), if_true]
  have fin : ∀ (a1 a2 : Int32), (∀ d, EL (mP L xs) (d + 11) 114 [rv 22 (some 0)] (u, Y) = mclV (EL (mP L xs) (d + 10) 111 [rv 22 (some 0), iv a1, iv a2, iv 0] (u, Y)) (fun h5 => mclV (EL (mP L xs) (d + 10) 101 [rv 22 (some 0)] h5) (fun h6 => some (.inl none, h6)) (fun e h => some (.inr e, h))) (fun e h => some (.inr e, h))) →
      (∀ u' : MI, u' 65 0 q = a1 → u' 66 0 q = a2 → u' 67 0 q = 0 → RC u' q (2, a)) →
      ∃ f2 u2, (∀ d g X, 12 ≤ d → EL (mP L xs) d 70 [rv 13 (some 0), iv v1] (f, g, X) = some (.inl none, (f2, g, X))) ∧ (∀ d, 12 ≤ d → EL (mP L xs) d 115 [rv 22 (some 0)] (u, Y) = some (.inl none, (u2, Y))) ∧ ((∃ t' lc lr, EG N k b sg f u t c q n 1 f2 u2 t' lc lr) ∨ EB f u t c q f2 u2) := by
    intro a1 a2 hU hR
    obtain ⟨f3, u3, f4, u4, x1, x2, x3, x4, x5⟩ := ex_emit (L := L) (xs := xs) (Y := Y) F (t0 := t) (w := 2) (v := a) (a1 := a1) (a2 := a2) (a3 := 0) (f0 := f) (u0 := u) (by rw [hs]; exact n0) (by rw [hs]; exact n1) (by decide) (by omega) (Or.inr (Or.inl ⟨rfl, ha13⟩)) (Nat.le_refl t) FrC.rf FrQ.rf (fun u' y1 y2 y3 => Or.inl ⟨show (2 : Nat) ≠ 3 by decide, hR u' y1 y2 y3⟩)
    have x1' : ∀ d g X, EL (mP L xs) (d + 1) 68 [rv 10 (some 0), iv 2, iv (nI a)] (f, g, X) = some (.inl none, (f3, g, X)) := x1
    refine ⟨f4, u4, fun d g X hd => ?_, dlift (P := fun d => EL (mP L xs) d 115 [rv 22 (some 0)] (u, Y) = some (.inl none, (u4, Y))) (fun d => ?_), Or.inl ⟨_, _, _, x5⟩⟩
    · have := keyC (d - 12) g X
      rw [show d - 12 + 12 = d by omega] at this
      rw [this, x1', clV, x2, clV]
    · rw [keyU, hU, x3 (d + 9), clV, x4 (d + 3), clV, clV]
  have keyW := fun d => E_Ref_wordFactor (L := L) (xs := xs) (d := d + 10) (u, Y)
  simp only [r_ms, hk1, if_true, hw1, ms_i i hi, clI] at keyW
  by_cases z : i = 18 ∨ (26 ≤ i ∧ i ≤ 31)
  · have ha7 : 7 ≤ a := by rw [← ha]; split <;> omega
    simp only [if_pos z, ha] at keyW
    simp only [if_neg (mz_ne a ha7 ha13)] at keyW
    exact fin 6 (mz a) keyW (fun u' y1 y2 y3 => Or.inr (Or.inr (Or.inr (Or.inr (Or.inr (Or.inl ⟨rfl, ha7, y1, y2⟩))))))
  · simp only [if_neg z, if_true] at keyW
    have hai : a = i - 19 := by rw [← ha, if_neg (by omega)]
    by_cases y : i ≤ 22
    · have hwm : wm i = 41 + a := by
        have : ∀ i, i < 51 → 19 ≤ i → i ≤ 22 → wm i = 41 + (i - 19) := by decide +kernel
        rw [hai]
        exact this i hi (by omega) y
      simp only [hwm, if_neg (show ¬ nI (41 + a) < 32 from nI_nlt (a := 41 + a) (b := 32) (by omega) (by omega)), if_pos (show 34 < nI (41 + a) from nI_lt (a := 34) (by omega) (by omega)), K_Ref_wordFactor_61] at keyW
      rw [hwm] at hw1
      simp only [hw1, if_neg (show ¬ nI (41 + a) < 41 from nI_nlt (a := 41 + a) (b := 41) (by omega) (by omega)), if_neg (show ¬ 44 < nI (41 + a) from nI_nlt (a := 44) (b := 41 + a) (by omega) (by decide)), show nI (41 + a) - 41 = nI a from (nI_sub (a := 41 + a) (b := 41) (by omega)).trans (by rw [show 41 + a - 41 = a by omega])] at keyW
      exact fin 2 (nI a) keyW (fun u' y1 y2 y3 => Or.inr (Or.inl ⟨rfl, by omega, y1, y2⟩))
    · have hwm : wm i = 32 + (a - 4) := by
        have : ∀ i, i < 51 → 23 ≤ i → i ≤ 25 → wm i = 32 + (i - 19 - 4) := by decide +kernel
        rw [hai]
        exact this i hi (by omega) (by omega)
      have hcode : (3 : Int32) + nI (32 + (a - 4)) - 32 = nI (3 + (a - 4)) := by
        rw [show (3 : Int32) + nI (32 + (a - 4)) = nI (3 + (32 + (a - 4))) from nI_add 3 _]
        exact (nI_sub (a := 3 + (32 + (a - 4))) (b := 32) (by omega)).trans (by rw [show 3 + (32 + (a - 4)) - 32 = 3 + (a - 4) by omega])
      simp only [hwm, if_neg (show ¬ nI (32 + (a - 4)) < 32 from nI_nlt (a := 32 + (a - 4)) (b := 32) (by omega) (by omega)), if_neg (show ¬ 34 < nI (32 + (a - 4)) from nI_nlt (a := 34) (b := 32 + (a - 4)) (by omega) (by decide)), hcode] at keyW
      refine fin (nI (3 + (a - 4))) 0 keyW (fun u' y1 y2 y3 => ?_)
      have : a = 4 ∨ a = 5 ∨ a = 6 := by omega
      rcases this with e | e | e
      · rw [e] at y1 ⊢; exact Or.inr (Or.inr (Or.inl ⟨rfl, rfl, y1⟩))
      · rw [e] at y1 ⊢; exact Or.inr (Or.inr (Or.inr (Or.inl ⟨rfl, rfl, y1⟩)))
      · rw [e] at y1 ⊢; exact Or.inr (Or.inr (Or.inr (Or.inr (Or.inl ⟨rfl, rfl, y1⟩))))
/-- an operand -/
theorem ex_op (F : FX N k b sg cn nt ns nn f u t c q n) (h45 : sg t ≠ 45) (IH : SUMs L xs Y N k b sg cn nt ns nn (t + 1)) :
    ∃ f2 u2, (∀ d g X, 4 * (12 - n) + 17 ≤ d → EL (mP L xs) d 70 [rv 13 (some 0), iv (nI n)] (f, g, X) = some (.inl none, (f2, g, X))) ∧ (∀ d, 4 * (12 - n) + 17 ≤ d → EL (mP L xs) d 115 [rv 22 (some 0)] (u, Y) = some (.inl none, (u2, Y))) ∧ ((∃ t' lc lr, EG N k b sg f u t c q n (1 + 2 * (12 - n)) f2 u2 t' lc lr) ∨ EB f u t c q f2 u2) := by
  have P := F.px
  have htk := P.tk
  have hkp := P.lc.kp
  have hcl := F.cl
  have hql := F.ql
  have hnl := F.nl
  have bg := P.bg
  have s1 := fun d => px_isSign (L := L) (xs := xs) (d := d) (Y := Y) P (c := 45) (by decide) (by decide)
  have s2 := fun d => px_isSign (L := L) (xs := xs) (d := d) (Y := Y) P (c := 40) (by decide) (by decide)
  have s1' : ∀ d, EL (mP L xs) (d + 1) 108 [rv 22 (some 0), iv 45] (u, Y) = some (.inl (some (iv 0)), (u, Y)) := fun d => (s1 d).trans (by rw [if_neg (show ¬ sg t = nI 45 from h45)])
  have wide : ∀ (D : Nat), D ≤ 17 → (∃ f2 u2, (∀ d g X, D ≤ d → EL (mP L xs) d 70 [rv 13 (some 0), iv (nI n)] (f, g, X) = some (.inl none, (f2, g, X))) ∧ (∀ d, D ≤ d → EL (mP L xs) d 115 [rv 22 (some 0)] (u, Y) = some (.inl none, (u2, Y))) ∧ ((∃ t' lc lr, EG N k b sg f u t c q n 1 f2 u2 t' lc lr) ∨ EB f u t c q f2 u2)) →
      ∃ f2 u2, (∀ d g X, 4 * (12 - n) + 17 ≤ d → EL (mP L xs) d 70 [rv 13 (some 0), iv (nI n)] (f, g, X) = some (.inl none, (f2, g, X))) ∧ (∀ d, 4 * (12 - n) + 17 ≤ d → EL (mP L xs) d 115 [rv 22 (some 0)] (u, Y) = some (.inl none, (u2, Y))) ∧ ((∃ t' lc lr, EG N k b sg f u t c q n (1 + 2 * (12 - n)) f2 u2 t' lc lr) ∨ EB f u t c q f2 u2) := by
    rintro D hD ⟨f2, u2, a1, a2, a3⟩
    refine ⟨f2, u2, fun d g X hd => a1 d g X (by omega), fun d hd => a2 d (by omega), ?_⟩
    rcases a3 with ⟨t', lc, lr, a3⟩ | a3
    · exact Or.inl ⟨t', lc, lr, a3.up (by omega)⟩
    · exact Or.inr a3
  -- neither number, word nor (
  have none1 : vo (sg t) = -1 → sg t ≠ 2 → sg t ≠ 300 → sg t ≠ 40 → (∀ d, EL (mP L xs) (d + 12) 115 [rv 22 (some 0)] (u, Y) = mclV (EL (mP L xs) (d + 9) 102 [rv 22 (some 0), iv 1, iv (u 22 0 8)] (u, Y)) (fun h5 => some (.inl none, h5)) (fun e h => some (.inr e, h)) ∨ EL (mP L xs) (d + 12) 115 [rv 22 (some 0)] (u, Y) = mclV (mclV (EL (mP L xs) (d + 9) 102 [rv 22 (some 0), iv 1, iv (u 22 0 8)] (u, Y)) (fun h5 => some (.inl none, h5)) (fun e h => some (.inr e, h))) (fun h5 => some (.inl none, h5)) (fun e h => some (.inr e, h))) →
      ∃ f2 u2, (∀ d g X, 12 ≤ d → EL (mP L xs) d 70 [rv 13 (some 0), iv (nI n)] (f, g, X) = some (.inl none, (f2, g, X))) ∧ (∀ d, 12 ≤ d → EL (mP L xs) d 115 [rv 22 (some 0)] (u, Y) = some (.inl none, (u2, Y))) ∧ ((∃ t' lc lr, EG N k b sg f u t c q n 1 f2 u2 t' lc lr) ∨ EB f u t c q f2 u2) := by
    intro e1 e2 e3 e4 hU
    obtain ⟨f2, u2, a1, a2, a3, a4, a5⟩ := px_bad (L := L) (xs := xs) (Y := Y) P (q := 1) (by decide)
    refine ⟨f2, u2, fun d g X hd => ?_, dlift (P := fun d => EL (mP L xs) d 115 [rv 22 (some 0)] (u, Y) = some (.inl none, (u2, Y))) (fun d => ?_), Or.inr ⟨a3, ⟨c, Nat.le_refl c, by omega, (a4.1 10 0 3 (by omega)).trans F.cc⟩, ⟨q, Nat.le_refl q, by omega, (a4.2 22 0 45 (by omega)).trans F.qu⟩, FrC.b6 a4, FrQ.b6 a4⟩⟩
    · obtain ⟨d, rfl⟩ : ∃ d', d = d' + 12 := ⟨d - 12, by omega⟩
      rw [E_FormulaReader_operand, px_sort P, clI, c_vo, clI, e1, if_neg e2, if_pos rfl, if_neg e3, if_neg e4, a1, clV]
    · rcases hU d with hU | hU
      · rw [hU, a2 (d + 8), clV]
      · rw [hU, a2 (d + 8), clV, clV]
  have fU := fun d => E_Ref_factor (L := L) (xs := xs) (d := d + 11) (u, Y)
  simp only [s1', clI, if_true] at fU
  rcases P.tkk with ⟨h1, h2⟩ | ⟨h1, h2⟩ | ⟨h1, h2, h2'⟩ | ⟨h1, h2, h3⟩ | ⟨i, i1, h1, h2, h3⟩ | ⟨x, x1, h1, h2, h2'⟩ | ⟨x, x1, h1, h2, -⟩
  · have s2' : ∀ d, EL (mP L xs) (d + 1) 108 [rv 22 (some 0), iv 40] (u, Y) = some (.inl (some (iv 0)), (u, Y)) := fun d => (s2 d).trans (by rw [if_neg (show ¬ sg t = nI 40 by rw [h1]; decide)])
    simp only [s2', clI, if_true, h2, if_neg (show ¬ (0 : Int32) = 2 by decide), if_neg (show ¬ (0 : Int32) = 1 by decide)] at fU
    exact wide 12 (by decide) (none1 (by rw [h1]; rfl) (by rw [h1]; decide) (by rw [h1]; decide) (by rw [h1]; decide) (fun d => Or.inl (by rw [fU]; exact congrArg (fun x => mclV x _ _) ((EL_102 _ _ _ _ _).trans (EL_102 _ _ _ _ _).symm))))
  · have s2' : ∀ d, EL (mP L xs) (d + 1) 108 [rv 22 (some 0), iv 40] (u, Y) = some (.inl (some (iv 0)), (u, Y)) := fun d => (s2 d).trans (by rw [if_neg (show ¬ sg t = nI 40 by rw [h1]; decide)])
    simp only [s2', clI, if_true, h2, if_neg (show ¬ (4 : Int32) = 2 by decide), if_neg (show ¬ (4 : Int32) = 1 by decide)] at fU
    exact wide 12 (by decide) (none1 (by rw [h1]; rfl) (by rw [h1]; decide) (by rw [h1]; decide) (by rw [h1]; decide) (fun d => Or.inl (by rw [fU]; exact congrArg (fun x => mclV x _ _) ((EL_102 _ _ _ _ _).trans (EL_102 _ _ _ _ _).symm))))
  · -- a number
    have s2' : ∀ d, EL (mP L xs) (d + 1) 108 [rv 22 (some 0), iv 40] (u, Y) = some (.inl (some (iv 0)), (u, Y)) := fun d => (s2 d).trans (by rw [if_neg (show ¬ sg t = nI 40 by rw [h1]; decide)])
    simp only [s2', clI, if_true, h2] at fU
    obtain ⟨v, v1, v2, v3⟩ := px_num (L := L) (xs := xs) P h1
    obtain ⟨f3, u3, f4, u4, x1, x2, x3, x4, x5⟩ := ex_emit (L := L) (xs := xs) (Y := Y) F (t0 := t) (w := 1) (v := v) (a1 := 1) (a2 := nI v) (a3 := 0) (f0 := f) (u0 := u) (by rw [h1]; decide) (by rw [h1]; decide) (by decide) (by omega) (Or.inl ⟨rfl, v1⟩) (Nat.le_refl t) FrC.rf FrQ.rf (fun u' y1 y2 y3 => Or.inl ⟨show (1 : Nat) ≠ 3 by decide, Or.inl ⟨rfl, y1, y2⟩⟩)
    have x1' : ∀ d g X, EL (mP L xs) (d + 1) 68 [rv 10 (some 0), iv 1, iv (nI v)] (f, g, X) = some (.inl none, (f3, g, X)) := x1
    refine wide 12 (by decide) ⟨f4, u4, fun d g X hd => ?_, dlift (P := fun d => EL (mP L xs) d 115 [rv 22 (some 0)] (u, Y) = some (.inl none, (u4, Y))) (fun d => ?_), Or.inl ⟨_, _, _, x5⟩⟩
    · obtain ⟨d, rfl⟩ : ∃ d', d = d' + 12 := ⟨d - 12, by omega⟩
      rw [E_FormulaReader_operand, px_sort P, clI, c_vo, clI, if_pos h1, v3, clI, x1', clV, x2, clV]
    · rw [fU, v2, x3 (d + 10), clV, x4 (d + 4), clV]
  · exact wide 16 (by decide) (ex_name (L := L) (xs := xs) (Y := Y) F h1 (nI n))
  · -- a word of the language
    obtain ⟨n0, n1, n2, n3, n4, n5⟩ := nI_sm i1
    by_cases z : 18 ≤ i ∧ i ≤ 31
    · exact wide 12 (by decide) (ex_val (L := L) (xs := xs) (Y := Y) F i1 h1 z (nI n))
    · have s2' : ∀ d, EL (mP L xs) (d + 1) 108 [rv 22 (some 0), iv 40] (u, Y) = some (.inl (some (iv 0)), (u, Y)) := fun d => (s2 d).trans (by rw [if_neg (show ¬ sg t = nI 40 by rw [h1]; exact n4)])
      simp only [s2', clI, if_true, h2, if_neg (show ¬ (1 : Int32) = 2 by decide)] at fU
      have hvt : vt i = -1 := by
        unfold vt
        rw [if_neg (by omega), if_neg (by omega)]
      have hwm : wm i < 32 ∨ 44 < wm i := by
        have : ∀ i, i < 51 → ¬ (18 ≤ i ∧ i ≤ 31) → wm i < 32 ∨ 44 < wm i := by decide +kernel
        exact this i i1 z
      have wl : ∀ i, i < 51 → wm i < 51 := by decide +kernel
      have hw5 := wl i i1
      have keyW := fun d => E_Ref_wordFactor (L := L) (xs := xs) (d := d + 10) (u, Y)
      simp only [r_ms, h2, if_true, h3, ms_i i i1, if_neg (show ¬ (i = 18 ∨ 26 ≤ i ∧ i ≤ 31) by omega), clI] at keyW
      have k61 : ∀ d, EL (mP L xs) (d + 11) 114 [rv 22 (some 0)] (u, Y) = RL (mP L xs) (d + 10) 114 61 [some (rv 22 (some 0)), some (iv (-1)), none, none] [] (u, Y) := fun d => by
        rw [keyW]
        rcases hwm with y | y
        · rw [if_pos (show nI (wm i) < 32 from nI_lt (b := 32) y (by decide))]
        · rw [if_neg (show ¬ nI (wm i) < 32 from nI_nlt (a := wm i) (b := 32) (by omega) (by omega)), if_pos (show 34 < nI (wm i) from nI_lt (a := 34) (by omega) (by omega))]
      have k97 : ∀ d, RL (mP L xs) (d + 10) 114 61 [some (rv 22 (some 0)), some (iv (-1)), none, none] [] (u, Y) = RL (mP L xs) (d + 10) 114 97 [some (rv 22 (some 0)), some (iv (-1)), none, none] [] (u, Y) := fun d => by
        rw [K_Ref_wordFactor_61]
        simp only [h3]
        rcases hwm with y | y
        · rw [if_pos (show nI (wm i) < 41 from nI_lt (b := 41) (by omega) (by decide))]
        · rw [if_neg (show ¬ nI (wm i) < 41 from nI_nlt (a := wm i) (b := 41) (by omega) (by omega)), if_pos (show 44 < nI (wm i) from nI_lt (a := 44) (by omega) (by omega))]
      refine wide 12 (by decide) (none1 (by rw [h1, vo_i i i1]; exact hvt) (by rw [h1]; exact n2) (by rw [h1]; exact n3) (by rw [h1]; exact n4) (fun d => Or.inr ?_))
      rw [fU, k61, k97, K_Ref_wordFactor_97]
      simp only [h3, if_neg (nI_ne1 (show wm i < 2 ^ 31 by omega))]
      rw [show EL (mP L xs) (d + 10) 102 [rv 22 (some 0), iv 1, iv (u 22 0 8)] (u, Y) = EL (mP L xs) (d + 9) 102 [rv 22 (some 0), iv 1, iv (u 22 0 8)] (u, Y) from (EL_102 _ _ _ _ _).trans (EL_102 _ _ _ _ _).symm]
  · have hx := sgn_lt x1
    by_cases z : x = 40
    · -- in parentheses
      subst z
      have h40 : sg t = 40 := h1
      have s2' : ∀ d, EL (mP L xs) (d + 1) 108 [rv 22 (some 0), iv 40] (u, Y) = some (.inl (some (iv 1)), (u, Y)) := fun d => (s2 d).trans (by rw [if_pos (show sg t = nI 40 from h1)])
      simp only [s2', clI, if_neg (show ¬ (1 : Int32) = 0 by decide), K_Ref_factor_18, F.nu] at fU
      have keyC : ∀ d g X, EL (mP L xs) (d + 12) 70 [rv 13 (some 0), iv (nI n)] (f, g, X) = if nI n < 12 then (mclV (EL (mP L xs) (d + 11) 42 [rv 20 (some 0)] (f, g, X)) (fun h5 => mclV (EL (mP L xs) (d + 11) 73 [rv 13 (some 0), iv (nI n + 1)] h5) (fun h6 => mclV (EL (mP L xs) (d + 11) 46 [rv 20 (some 0), iv 41] h6) (fun h7 => some (.inl none, h7)) (fun e h => some (.inr e, h))) (fun e h => some (.inr e, h))) (fun e h => some (.inr e, h))) else (mclV (EL (mP L xs) (d + 11) 41 [rv 20 (some 0), iv 4] (f, g, X)) (fun h8 => some (.inl none, h8)) (fun e h => some (.inr e, h))) := fun d g X => by
        rw [E_FormulaReader_operand, px_sort P, clI, c_vo, clI, h40, show vo 40 = -1 from rfl, if_neg (by decide), if_pos rfl, if_neg (by decide), if_pos rfl]
      by_cases y : n = 12
      · simp only [y, if_pos (show nI 12 = 12 from rfl)] at fU
        simp only [y, if_neg (show ¬ nI 12 < 12 by decide)] at keyC
        obtain ⟨f2, u2, a1, a2, a3, a4, a5⟩ := px_bad (L := L) (xs := xs) (Y := Y) P (q := 4) (by decide)
        refine wide 12 (by decide) ⟨f2, u2, fun d g X hd => ?_, dlift (P := fun d => EL (mP L xs) d 115 [rv 22 (some 0)] (u, Y) = some (.inl none, (u2, Y))) (fun d => ?_), Or.inr ⟨a3, ⟨c, Nat.le_refl c, by omega, (a4.1 10 0 3 (by omega)).trans F.cc⟩, ⟨q, Nat.le_refl q, by omega, (a4.2 22 0 45 (by omega)).trans F.qu⟩, FrC.b6 a4, FrQ.b6 a4⟩⟩
        · obtain ⟨d, rfl⟩ : ∃ d', d = d' + 12 := ⟨d - 12, by omega⟩
          rw [y, keyC, a1, clV]
        · rw [fU, a2 (d + 10), clV]
      · have nn12 : ¬ nI n = 12 := fun e => y ((nI_eq (b := 12) (by omega) (by decide)).mp e)
        simp only [if_neg nn12, s1', clI, F.nu, nI_1, if_true] at fU
        simp only [if_pos (show nI n < 12 from nI_lt (b := 12) (by omega) (by decide)), nI_1] at keyC
        have P1 : PX f (m3 u 22 0 55 (nI (n + 1))) N k b sg t := P.fr (fun _ _ _ _ => rfl) (fun R o i z => m3_no (by omega))
        obtain ⟨b1, u1, b2, b3, b4⟩ := px_adv (L := L) (xs := xs) (Y := Y) P1 (by rw [h40]; decide) (by rw [h40]; decide)
        have hU1 : FrQ q u u1 := (show FrQ q u (m3 u 22 0 55 (nI (n + 1))) from fun R o i z => m3_no (by omega)).tr (FrQ.f6 b3) (Nat.le_refl q)
        have hF1 : FrC c f (m3 f 20 0 6 (nI (t + 1))) := FrC.at6
        have F1 : FX N k b sg cn nt ns nn (m3 f 20 0 6 (nI (t + 1))) u1 (t + 1) c q (n + 1) := ⟨b4, (m3_r (by decide)).trans F.cc, by omega, (b3 22 0 45 (by omega)).trans ((m3_i (by decide)).trans F.qu), by omega, (b3 22 0 55 (by omega)).trans m3_eq, by omega, F.nc.frC hF1, F.nz.frQ hU1⟩
        obtain ⟨f2, u2, c1, c2, c3⟩ := IH _ _ _ _ _ F1
        have b2' : ∀ d, EL (mP L xs) (d + 11) 101 [rv 22 (some 0)] (m3 u 22 0 55 (nI (n + 1)), Y) = some (.inl none, (u1, Y)) := fun d => EL_mono (by omega) b2
        simp only [b2', clV] at fU
        simp only [b1, clV] at keyC
        rcases c3 with ⟨t', lc, lr, E⟩ | E
        · -- the sum is read
          obtain ⟨f3, u3, d1, d2⟩ := px_need (L := L) (xs := xs) (Y := Y) E.px (c := 41) (by decide) (by decide)
          have d1' : ∀ d g X, EL (mP L xs) (d + 2) 46 [rv 20 (some 0), iv 41] (f2, g, X) = some (.inl none, (f3, g, X)) := d1
          have ett := E.tt
          have ell := E.ll
          have epk := E.px.tk
          have cC : ∀ d g X, 4 * (12 - n) + 17 ≤ d → EL (mP L xs) d 70 [rv 13 (some 0), iv (nI n)] (f, g, X) = some (.inl none, (f3, g, X)) := fun d g X hd => by
            obtain ⟨d, rfl⟩ : ∃ d', d = d' + 12 := ⟨d - 12, by omega⟩
            rw [keyC, c1 (d + 11) g X (by omega), clV, d1' (d + 9), clV]
          have cU : ∀ (w : Int32), EL (mP L xs) 8 112 [rv 22 (some 0), iv 41] (u2, Y) = some (.inl (some (iv w)), (u3, Y)) → ∀ d, 4 * (12 - n) + 17 ≤ d → EL (mP L xs) d 115 [rv 22 (some 0)] (u, Y) = some (.inl none, (m3 u3 22 0 55 (u3 22 0 55 - 1), Y)) := fun w hw d hd => by
            obtain ⟨d, rfl⟩ : ∃ d', d = d' + 12 := ⟨d - 12, by omega⟩
            rw [fU, c2 (d + 11) (by omega), clV, if_pos E.px.fu, EL_mono (show 8 ≤ d + 11 by omega) hw, clI]
          rcases d2 with ⟨e1, e2, e3, e4, P3⟩ | ⟨e2, e3, e4, e5⟩
          · have hn3 : u3 22 0 55 = nI (n + 1) := (e3 22 0 55 (by omega)).trans E.nu
            have hn4 : u3 22 0 55 - 1 = nI n := by rw [hn3, ← nI_1, Int32.add_sub_cancel]
            have cU' := cU 1 e2
            rw [hn4] at cU'
            have hF3 : FrC c f f3 := by rw [e4]; exact (hF1.tr E.fc (Nat.le_refl c)).tr FrC.at6 (Nat.le_refl c)
            have hU3 : FrQ q u (m3 u3 22 0 55 (nI n)) := ((hU1.tr E.fu (Nat.le_refl q)).tr (FrQ.f6 e3) (Nat.le_refl q)).tr (fun R o i z => m3_no (by omega)) (Nat.le_refl q)
            refine ⟨f3, _, cC, cU', Or.inl ⟨t' + 1, lc, lr, ⟨by omega, P3.fr (fun _ _ _ _ => rfl) (fun R o i z => m3_no (by omega)), ?_, ?_, m3_eq, ⟨by omega, by omega⟩, ?_, ?_, E.sm, ?_, ?_, E.oc, E.ou, hF3, hU3⟩⟩⟩
            · rw [e4, m3_r (by decide)]; exact E.cc
            · rw [m3_i (by decide), e3 22 0 45 (by omega)]; exact E.qu
            · exact Sp_lt (m := c + lc.length) (fun i hi => by rw [e4]; exact m3_r (by decide)) (Nat.le_refl _) E.sp
            · exact Rpp_lt (m := q + lr.length) (fun R i hR hi => by rw [m3_no (by omega), e3 R 0 i (by omega)]) (Nat.le_refl _) E.rp
            · exact Wf_up E.wc (by omega)
            · exact Wf_up E.wr (by omega)
          · have hF3 : FrC c f f3 := (hF1.tr E.fc (Nat.le_refl c)).tr (fun R o i z => e4 R o i (by omega)) (Nat.le_refl c)
            obtain ⟨p0, q0, E3, y1, y2⟩ := e3
            refine ⟨f3, _, cC, cU 0 e2, Or.inr ⟨⟨p0, q0, E3, (m3_i (by decide)).trans y1, (m3_i (by decide)).trans y2⟩, ⟨c + lc.length, by omega, by omega, (e4 10 0 3 (by omega)).trans E.cc⟩, ⟨q + lr.length, by omega, by omega, ?_⟩, hF3, ((hU1.tr E.fu (Nat.le_refl q)).tr (fun R o i z => e5 R o i (by omega)) (Nat.le_refl q)).tr (fun R o i z => m3_no (by omega)) (Nat.le_refl q)⟩⟩
            rw [m3_i (by decide), e5 22 0 45 (by omega)]
            exact E.qu
        · -- a fault inside
          obtain ⟨p0, q0, E2, y1, y2⟩ := E.bd
          obtain ⟨q2, z0, z1, z2⟩ := E.qu
          refine ⟨f2, m3 u2 22 0 55 (u2 22 0 55 - 1), fun d g X hd => ?_, fun d hd => ?_, Or.inr ⟨⟨p0, q0, E2, (m3_i (by decide)).trans y1, (m3_i (by decide)).trans y2⟩, E.cc, ⟨q2, z0, by omega, (m3_i (by decide)).trans z2⟩, hF1.tr E.fc (Nat.le_refl c), (hU1.tr E.fu (Nat.le_refl q)).tr (fun R o i z => m3_no (by omega)) (Nat.le_refl q)⟩⟩
          · obtain ⟨d, rfl⟩ : ∃ d', d = d' + 12 := ⟨d - 12, by omega⟩
            rw [keyC, c1 (d + 11) g X (by omega), clV, ed_exp (d := d + 9) E2 (by decide), clV]
          · obtain ⟨d, rfl⟩ : ∃ d', d = d' + 12 := ⟨d - 12, by omega⟩
            rw [fU, c2 (d + 11) (by omega), clV, if_neg (show ¬ u2 22 0 12 = 0 by rw [y1]; exact E2.qn)]
    · have h40 : ¬ nI x = 40 := fun e => z ((nI_eq (b := 40) (by omega) (by decide)).mp e)
      have s2' : ∀ d, EL (mP L xs) (d + 1) 108 [rv 22 (some 0), iv 40] (u, Y) = some (.inl (some (iv 0)), (u, Y)) := fun d => (s2 d).trans (by rw [if_neg (show ¬ sg t = nI 40 by rw [h1]; exact h40)])
      simp only [s2', clI, if_true, h2, if_neg (show ¬ (3 : Int32) = 2 by decide), if_neg (show ¬ (3 : Int32) = 1 by decide)] at fU
      exact wide 12 (by decide) (none1 (by rw [h1]; exact vo_s x (by omega)) (by rw [h1]; exact fun e => by have := (nI_eq (b := 2) (by omega) (by decide)).mp e; omega) (by rw [h1]; exact fun e => by have := (nI_eq (b := 300) (by omega) (by decide)).mp e; omega) (by rw [h1]; exact h40) (fun d => Or.inl (by rw [fU]; exact congrArg (fun x => mclV x _ _) ((EL_102 _ _ _ _ _).trans (EL_102 _ _ _ _ _).symm))))
  · have hx := jn_lt x1
    have h40 : ¬ nI (128 + x) = 40 := fun e => by have := (nI_eq (b := 40) (by omega) (by decide)).mp e; omega
    have s2' : ∀ d, EL (mP L xs) (d + 1) 108 [rv 22 (some 0), iv 40] (u, Y) = some (.inl (some (iv 0)), (u, Y)) := fun d => (s2 d).trans (by rw [if_neg (show ¬ sg t = nI 40 by rw [h1]; exact h40)])
    simp only [s2', clI, if_true, h2, if_neg (show ¬ (3 : Int32) = 2 by decide), if_neg (show ¬ (3 : Int32) = 1 by decide)] at fU
    exact wide 12 (by decide) (none1 (by rw [h1]; exact vo_s (128 + x) (by omega)) (by rw [h1]; exact fun e => by have := (nI_eq (b := 2) (by omega) (by decide)).mp e; omega) (by rw [h1]; exact fun e => by have := (nI_eq (b := 300) (by omega) (by decide)).mp e; omega) (by rw [h1]; exact h40) (fun d => Or.inl (by rw [fU]; exact congrArg (fun x => mclV x _ _) ((EL_102 _ _ _ _ _).trans (EL_102 _ _ _ _ _).symm))))
end Fac
