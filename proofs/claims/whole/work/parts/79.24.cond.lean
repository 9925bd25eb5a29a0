/-! ===== conditions ===== -/
def cmpB (w : Nat) (x y : Int32) : Bool := if w = 13 then decide (x < y) else if w = 14 then !decide (y < x) else if w = 15 then decide (y < x) else if w = 16 then !decide (x < y) else if w = 17 then decide (x = y) else !decide (x = y)
theorem w6 {w : Nat} (h1 : 13 ≤ w) (h2 : w ≤ 18) : w = 13 ∨ w = 14 ∨ w = 15 ∨ w = 16 ∨ w = 17 ∨ w = 18 := by omega
theorem bI_1 {b : Bool} : (bI b = 0) = (b = false) := by cases b <;> simp [bI]
section Cond
variable {L : Nat} {xs : Nat → Int32} {d : Nat} {X : ML × (Nat → Nat) × Nat × Nat} {Y : MR × ML × (Nat → Nat) × Nat × Nat}
variable {B n s q : Nat} {rd ps en dp : Nat → Nat} {lp : Nat → Option Nat} {f f' : MI} {g : MR} {u u' : MI} {r : Nat}
theorem c_cmp {w : Nat} {x y : Int32} (h1 : 13 ≤ w) (h2 : w ≤ 18) : EL (mP L xs) (d + 2) 164 [rv 10 (some 0), iv (nI w), iv x, iv y] (f, g, X) = some (.inl (some (iv (bI (cmpB w x y)))), (f, g, X)) := by
  rw [E_Code_joined, E_Code_compares]
  rcases w6 h1 h2 with rfl | rfl | rfl | rfl | rfl | rfl
  · simp (decide := true) only [if_true, if_false, cmpB]
    by_cases z : x < y <;> simp [z, clI, bI]
  · simp (decide := true) only [if_true, if_false, cmpB]
    by_cases z : y < x <;> simp [z, clI, bI]
  · simp (decide := true) only [if_true, if_false, cmpB]
    by_cases z : y < x <;> simp [z, clI, bI]
  · simp (decide := true) only [if_true, if_false, cmpB]
    by_cases z : x < y <;> simp [z, clI, bI]
  · simp (decide := true) only [if_true, if_false, cmpB]
    by_cases z : x = y <;> simp [z, clI, bI]
  · simp (decide := true) only [if_true, if_false, cmpB]
    by_cases z : x = y <;> simp [z, clI, bI]
/-- a step of the class's loop at a cell with a comparison -/
theorem c_stepC {v1 : Int32} {c cn w : Nat} {x y : Int32} {z5 z6 z7 z8 : Option MV} (h1 : 13 ≤ w) (h2 : w ≤ 18) (hc : c < cn) (hcn : cn ≤ 4001) (h3 : f 10 0 3 = nI cn) (hw : f 32 0 c = nI w) (h4 : f 10 0 4 = nI 2) (hx : f 33 0 0 = x) (hy : f 33 0 1 = y) (h5 : f 10 0 5 = 0) :
    ∃ (f2 : MI) (y5 y6 y7 y8 : Option MV), RL (mP L xs) (d + 2) 165 15 (cvL r v1 1 (nI c) z5 z6 z7 z8) [] (f, g, X) = RL (mP L xs) (d + 2) 165 15 (cvL r v1 1 (nI (c + 1)) y5 y6 y7 y8) [] (f2, g, X) ∧ mk nsC f2 = mk nsC f ∧ f2 10 0 4 = nI 1 ∧ f2 33 0 0 = bI (cmpB w x y) ∧ f2 10 0 5 = 0 := by
  have hw' : f 32 0 c = nI (w + 32 * 0) := hw
  rw [K_Code_value_15]
  simp only [if_neg (show ¬ (1 : Int32) = 0 by decide), if_neg (nI_pos (show c < 2 ^ 31 by omega)), h3, if_pos (nI_lt hc (show cn < 2 ^ 31 by omega)), if_pos (show nI c < 4001 from nI_lt (b := 4001) (by omega) (by decide)), if_neg (nin (show c < 4001 by omega) (by decide)), nI_clamp (show c < 2 ^ 31 by omega), hw', c_work (show w < 32 by omega), c_num (a := 0) (show w < 32 by omega) (by omega), nI_1]
  rw [if_neg (show ¬ nI w = 0 by rw [show (0 : Int32) = nI 0 from rfl, nI_eq (by omega) (by decide)]; omega), if_pos (show (4 : Int32) < nI w from nI_lt (a := 4) (by omega) (by omega)), if_pos (show (6 : Int32) < nI w from nI_lt (a := 6) (by omega) (by omega)), if_pos (show (8 : Int32) < nI w from nI_lt (a := 8) (by omega) (by omega)), c_pop (t := 1) h4 (by decide)]
  simp only [clI]
  rw [c_pop (t := 0) m3_eq (by decide)]
  simp only [clI, m3_r (show 33 ≠ 10 by decide), hx, hy]
  rw [c_cmp h1 h2]
  simp only [clI]
  rw [c_push (t := 0) m3_eq (by decide)]
  simp only [clV]
  have h50 : m3 (m3 (m3 (m3 f 10 0 4 (nI 1)) 10 0 4 (nI 0)) 33 0 0 (bI (cmpB w x y))) 10 0 4 (nI (0 + 1)) 10 0 5 = 0 := by
    rw [m3_i (by decide), m3_r (by decide), m3_i (by decide), m3_i (by decide)]; exact h5
  rw [if_pos h50]
  exact ⟨_, _, _, _, _, rfl, (mk_m3 rfl).trans ((mk_m3 rfl).trans ((mk_m3 rfl).trans (mk_m3 rfl))), m3_eq, by rw [m3_r (by decide), m3_eq], h50⟩
theorem c_stepN {v1 : Int32} {c cn : Nat} {b : Bool} {z5 z6 z7 z8 : Option MV} (hc : c < cn) (hcn : cn ≤ 4001) (h3 : f 10 0 3 = nI cn) (hw : f 32 0 c = 6) (h4 : f 10 0 4 = nI 1) (hx : f 33 0 0 = bI b) (h5 : f 10 0 5 = 0) :
    ∃ (f2 : MI) (y5 y6 y7 y8 : Option MV), RL (mP L xs) (d + 2) 165 15 (cvL r v1 1 (nI c) z5 z6 z7 z8) [] (f, g, X) = RL (mP L xs) (d + 2) 165 15 (cvL r v1 1 (nI (c + 1)) y5 y6 y7 y8) [] (f2, g, X) ∧ mk nsC f2 = mk nsC f ∧ f2 10 0 4 = nI 1 ∧ f2 33 0 0 = bI (!b) ∧ f2 10 0 5 = 0 := by
  rw [K_Code_value_15]
  simp (decide := true) only [if_neg (nI_pos (show c < 2 ^ 31 by omega)), h3, if_pos (nI_lt hc (show cn < 2 ^ 31 by omega)), if_pos (show nI c < 4001 from nI_lt (b := 4001) (by omega) (by decide)), if_neg (nin (show c < 4001 by omega) (by decide)), nI_clamp (show c < 2 ^ 31 by omega), hw, nI_1, if_true, if_false]
  rw [c_pop (t := 0) h4 (by decide)]
  simp only [clI]
  rw [c_push (t := 0) m3_eq (by decide)]
  simp only [clV]
  refine ⟨_, _, _, _, _, rfl, (mk_m3 rfl).trans ((mk_m3 rfl).trans (mk_m3 rfl)), m3_eq, ?_, by rw [m3_i (by decide), m3_r (by decide), m3_i (by decide)]; exact h5⟩
  rw [m3_r (by decide), m3_eq, hx]
  cases b <;> decide
theorem c_stepF {v1 : Int32} {c cn j : Nat} {b : Bool} {z5 z6 z7 z8 : Option MV} (hj : j < 8) (hc : c < cn) (hcn : cn ≤ 4001) (h3 : f 10 0 3 = nI cn) (hw : f 32 0 c = nI (4 + 32 * j)) (h4 : f 10 0 4 = nI 0) (hx : (f 11 0 7 >>> (nI j &&& 31)) &&& 1 = bI b) (h5 : f 10 0 5 = 0) :
    ∃ (f2 : MI) (y5 y6 y7 y8 : Option MV), RL (mP L xs) (d + 2) 165 15 (cvL r v1 1 (nI c) z5 z6 z7 z8) [] (f, g, X) = RL (mP L xs) (d + 2) 165 15 (cvL r v1 1 (nI (c + 1)) y5 y6 y7 y8) [] (f2, g, X) ∧ mk nsC f2 = mk nsC f ∧ f2 10 0 4 = nI 1 ∧ f2 33 0 0 = bI b ∧ f2 10 0 5 = 0 := by
  have ho : EL (mP L xs) (d + 2) 160 [rv 10 (some 0), iv (nI 4), iv (nI j), rv 16 (some r)] (f, g, X) = some (.inl (some (iv (bI b))), (f, g, X)) := by
    rw [E_Code_operand]
    simp (decide := true) only [if_false, e_flagUp, hx, clI]
    cases b <;> simp (decide := true) [bI]
  rw [K_Code_value_15]
  simp only [if_neg (show ¬ (1 : Int32) = 0 by decide), if_neg (nI_pos (show c < 2 ^ 31 by omega)), h3, if_pos (nI_lt hc (show cn < 2 ^ 31 by omega)), if_pos (show nI c < 4001 from nI_lt (b := 4001) (by omega) (by decide)), if_neg (nin (show c < 4001 by omega) (by decide)), nI_clamp (show c < 2 ^ 31 by omega), hw, c_work (show 4 < 32 by omega), c_num (a := j) (show 4 < 32 by omega) (by omega), nI_1]
  rw [if_neg (by decide), if_neg (by decide), ho]
  simp only [clI]
  rw [c_push (t := 0) h4 (by decide)]
  simp only [clV]
  exact ⟨_, _, _, _, _, rfl, (mk_m3 rfl).trans (mk_m3 rfl), m3_eq, by rw [m3_r (by decide), m3_eq], by rw [m3_i (by decide), m3_r (by decide)]; exact h5⟩
/-- the class's side of a question -/
def cQ (L : Nat) (xs : Nat → Int32) (d : Nat) (X : ML × (Nat → Nat) × Nat × Nat) (f : MI) (g : MR) (r c c' : Nat) (res : Option Bool) : Prop := ∀ (f1 : MI) (z5 z6 z7 z8 : Option MV) (v1 : Int32), mk nsC f1 = mk nsC f → f1 10 0 4 = nI 0 → f1 10 0 5 = 0 →
  (∀ b, res = some b → ∃ (f2 : MI) (y5 y6 y7 y8 : Option MV), RL (mP L xs) (d + 2) 165 15 (cvL r v1 1 (nI c) z5 z6 z7 z8) [] (f1, g, X) = RL (mP L xs) (d + 2) 165 15 (cvL r v1 1 (nI c') y5 y6 y7 y8) [] (f2, g, X) ∧ mk nsC f2 = mk nsC f ∧ f2 10 0 4 = nI 1 ∧ f2 33 0 0 = bI b ∧ f2 10 0 5 = 0) ∧
  (res = none → ∃ f2 : MI, RL (mP L xs) (d + 2) 165 15 (cvL r v1 1 (nI c) z5 z6 z7 z8) [] (f1, g, X) = some (.inl (some (iv 0)), (f2, g, X)) ∧ mk nsC f2 = mk nsC f ∧ f2 10 0 5 = 1)
def rQ (L : Nat) (xs : Nat → Int32) (d : Nat) (Y : MR × ML × (Nat → Nat) × Nat × Nat) (u : MI) (r k : Nat) (res : Option Bool) : Prop := ∀ u1 : MI, mk nsU u1 = mk nsU u → u1 22 0 89 = 0 →
  (∀ b, res = some b → ∃ u2 : MI, EL (mP L xs) (d + 4) 222 [rv 22 (some 0), iv (nI k), iv (nI r)] (u1, Y) = some (.inl (some (iv (bI b))), (u2, Y)) ∧ mk nsU u2 = mk nsU u ∧ u2 22 0 89 = 0) ∧
  (res = none → ∃ u2 : MI, EL (mP L xs) (d + 4) 222 [rv 22 (some 0), iv (nI k), iv (nI r)] (u1, Y) = some (.inl (some (iv 0)), (u2, Y)) ∧ mk nsU u2 = mk nsU u ∧ u2 22 0 89 = 1)
theorem k217 {k : Nat} {nt b : Bool} {p1 : Int32} {z4 z5 : Option MV} (hk : k < 2100) (h : u 68 0 k = bI nt) : RL (mP L xs) d 222 217 [some (rv 22 (some 0)), some (iv (nI k)), some (iv p1), some (iv (bI b)), z4, z5] [] (u, Y) = some (.inl (some (iv (bI (nt.xor b)))), (u, Y)) := by
  rw [K_Ref_asked_217]
  simp only [if_neg (nin hk (by decide)), nI_clamp (show k < 2 ^ 31 by omega), h]
  cases nt <;> cases b <;> simp (decide := true) [bI]
theorem p_qst (T : TT B n s q rd ps en dp lp f g u) (hr : r < n) {e cn : Nat} (he : e < cn) (hcn : cn ≤ 4001) (h3 : f 10 0 3 = nI cn) {c c' k : Nat} (Q : Qn f u n q c c' k) (hce : c' ≤ e) :
    ∃ res : Option Bool, cQ L xs d X f g r c c' res ∧ rQ L xs d Y u r k res := by
  obtain ⟨hk, nt, c2, q1, q2, q3, Q⟩ := Q
  have hq8 : q ≤ 8 := T.cn.2.2.1
  have q1' : u 68 0 k = bI nt := q1
  -- what the class does behind the first part
  have tail : ∀ (f1 : MI) (z5 z6 z7 z8 : Option MV) (v1 : Int32) (b0 : Bool), mk nsC f1 = mk nsC f → f1 10 0 4 = nI 1 → f1 33 0 0 = bI b0 → f1 10 0 5 = 0 → ∃ (f2 : MI) (y5 y6 y7 y8 : Option MV), RL (mP L xs) (d + 2) 165 15 (cvL r v1 1 (nI (c2 + 1)) z5 z6 z7 z8) [] (f1, g, X) = RL (mP L xs) (d + 2) 165 15 (cvL r v1 1 (nI c') y5 y6 y7 y8) [] (f2, g, X) ∧ mk nsC f2 = mk nsC f ∧ f2 10 0 4 = nI 1 ∧ f2 33 0 0 = bI (nt.xor b0) ∧ f2 10 0 5 = 0 := by
    intro f1 z5 z6 z7 z8 v1 b0 hm h4 hx h5
    cases nt with
    | false =>
      have : c' = c2 + 1 := q2
      rw [this]
      exact ⟨f1, z5, z6, z7, z8, rfl, hm, h4, by simpa using hx, h5⟩
    | true =>
      have : c' = c2 + 1 + 1 := q2
      rw [this]
      obtain ⟨f2, y5, y6, y7, y8, a1, a2, a3, a4, a5⟩ := c_stepN (L := L) (xs := xs) (d := d) (g := g) (X := X) (r := r) (v1 := v1) (c := c2 + 1) (z5 := z5) (z6 := z6) (z7 := z7) (z8 := z8) (show c2 + 1 < cn by omega) hcn ((mk_at hm 10 0 3 rfl).trans h3) ((mk_at hm 32 0 _ rfl).trans (q3 rfl)) h4 hx h5
      exact ⟨f2, y5, y6, y7, y8, a1, a2.trans hm, a3, by simpa using a4, a5⟩
  have hc2 : c2 < cn := by
    have : c2 + 1 ≤ c' := by rw [q2]; omega
    omega
  rcases Q with ⟨j, j1, j2, j3, j4, j5⟩ | ⟨c1, ka, kb, w, lc1, lr1, lc2, lr2, w1, w2, s1, s2, s3, F1, F2, hw⟩
  · -- a flag
    subst j5
    have hfl : u 92 0 j = (f 11 0 7 >>> (nI j &&& 31)) &&& 1 := T.fl j j1
    obtain ⟨b0, hb0⟩ : ∃ b0 : Bool, u 92 0 j = bI b0 := ⟨_, hfl.trans (fbit _ (by omega))⟩
    refine ⟨some (nt.xor b0), ?_, ?_⟩
    · intro f1 z5 z6 z7 z8 v1 hm h4 h5
      refine ⟨fun b hb => ?_, fun h => nomatch h⟩
      cases hb
      obtain ⟨f2, y5, y6, y7, y8, a1, a2, a3, a4, a5⟩ := c_stepF (L := L) (xs := xs) (d := d) (g := g) (X := X) (r := r) (v1 := v1) (c := c2) (j := j) (b := b0) (z5 := z5) (z6 := z6) (z7 := z7) (z8 := z8) (by omega) hc2 hcn ((mk_at hm 10 0 3 rfl).trans h3) ((mk_at hm 32 0 _ rfl).trans j4) h4 (by rw [mk_at hm 11 0 7 rfl, ← hfl, hb0]) h5
      obtain ⟨f3, x5, x6, x7, x8, b1, b2⟩ := tail f2 y5 y6 y7 y8 v1 b0 (a2.trans hm) a3 a4 a5
      exact ⟨f3, x5, x6, x7, x8, a1.trans b1, b2⟩
    · intro u1 hm h5
      refine ⟨fun b hb => ?_, fun h => nomatch h⟩
      cases hb
      refine ⟨u1, ?_, hm, h5⟩
      have e1 : u1 69 0 k = 0 := (mk_at hm 69 0 k rfl).trans j2
      have e2 : u1 70 0 k = nI j := (mk_at hm 70 0 k rfl).trans j3
      have e3 : u1 92 0 j = bI b0 := (mk_at hm 92 0 j rfl).trans hb0
      rw [E_Ref_asked]
      simp only [if_neg (nin hk (by decide)), nI_clamp (show k < 2 ^ 31 by omega), e1, e2, if_true, if_neg (nin (show j < 8 by omega) (by decide)), nI_clamp (show j < 2 ^ 31 by omega), e3]
      exact k217 hk ((mk_at hm 68 0 k rfl).trans q1')
  · -- a comparison
    obtain ⟨φ1, hφ1⟩ := F1.sm
    obtain ⟨φ2, hφ2⟩ := F2.sm
    have cc1 := F1.cc
    have cc2 := F2.cc
    have hs0 : ¬ sgw w = 0 := by rcases w6 w1 w2 with rfl | rfl | rfl | rfl | rfl | rfl <;> decide
    have hR1 := fun (u1 : MI) (hm : mk nsU u1 = mk nsU u) => r_val (L := L) (xs := xs) (d := d) (Y := Y) T hr F1 hm
    have hR2 := fun (u1 : MI) (hm : mk nsU u1 = mk nsU u) => r_val (L := L) (xs := xs) (d := d) (Y := Y) T hr F2 hm
    have hC1 := fun (f1 : MI) (z5 z6 z7 z8 : Option MV) (v1 : Int32) (hm : mk nsC f1 = mk nsC f) (h4 : f1 10 0 4 = nI 0) (h5 : f1 10 0 5 = 0) => cv_loop (L := L) (xs := xs) (d := d + 1) (g := g) (X := X) (f0 := f) (n := n) (r := r) (e := e) (cn := cn) (μ := mu u r) (v1 := v1) (fun x hx h4 f' e => c_oper T hr hx h4 e) T.n12 he hcn h3 lc1 c [] f1 z5 z6 z7 z8 hm F1.sp (by omega) F1.oc (Hi64 F1.hc) h4 trivial h5 (Nat.zero_le _)
    have hC2 := fun (f1 : MI) (x : Int32) (z5 z6 z7 z8 : Option MV) (v1 : Int32) (hm : mk nsC f1 = mk nsC f) (h4 : f1 10 0 4 = nI 1) (hx : f1 33 0 0 = x) (h5 : f1 10 0 5 = 0) => cv_loop (L := L) (xs := xs) (d := d + 1) (g := g) (X := X) (f0 := f) (n := n) (r := r) (e := e) (cn := cn) (μ := mu u r) (v1 := v1) (fun x hx h4 f' e => c_oper T hr hx h4 e) T.n12 he hcn h3 lc2 c1 [x] f1 z5 z6 z7 z8 hm F2.sp (by omega) F2.oc (Hi64' F2.hc) h4 ⟨hx, trivial⟩ h5 (show 1 ≤ 64 by decide)
    obtain ⟨e1, e2⟩ := hφ1 (mu u r) []
    have rq0 : ∀ u1 : MI, mk nsU u1 = mk nsU u → EL (mP L xs) (d + 4) 222 [rv 22 (some 0), iv (nI k), iv (nI r)] (u1, Y) = mclI (EL (mP L xs) (d + 3) 216 [rv 22 (some 0), iv (nI ka), iv (nI r)] (u1, Y)) (fun x2 h1 => if h1.1 22 0 89 = 0 then (if ino (nI k) 2100 then none else (mclI (EL (mP L xs) (d + 3) 216 [rv 22 (some 0), iv (h1.1 71 0 k), iv (nI r)] h1) (fun x4 h3 => if h3.1 22 0 89 = 0 then (if ino (nI k) 2100 then none else RL (mP L xs) (d + 3) 222 217 [some (rv 22 (some 0)), some (iv (nI k)), some (iv (nI r)), some (iv (bI (if h3.1 69 0 k = 60 then decide (x2 < x4) else if h3.1 69 0 k = 62 then decide (x4 < x2) else if h3.1 69 0 k = 316 then !decide (x4 < x2) else if h3.1 69 0 k = 317 then decide (x2 = x4) else if h3.1 69 0 k = 318 then !decide (x2 < x4) else !decide (x2 = x4)))), some (iv x2), some (iv x4)] [] h3) else (some (.inl (some (iv 0)), h3))) (fun e h => some (.inr e, h)))) else (some (.inl (some (iv 0)), h1))) (fun e h => some (.inr e, h)) := by
      intro u1 hm
      have z1 : u1 69 0 k = sgw w := (mk_at hm 69 0 k rfl).trans s1
      have z2 : u1 70 0 k = nI ka := (mk_at hm 70 0 k rfl).trans s2
      rw [E_Ref_asked]
      simp only [if_neg (nin hk (by decide)), nI_clamp (show k < 2 ^ 31 by omega), z1, z2, if_neg hs0]
      congr 1
      funext x2 h1
      congr 2
      funext x4 h3
      congr 1
      by_cases c1 : h3.1 69 0 k = 60
      · simp only [c1, if_true]
        by_cases z : x2 < x4 <;> simp [z, bI]
      simp only [if_neg c1]
      by_cases c2 : h3.1 69 0 k = 62
      · simp only [c2, if_true]
        by_cases z : x4 < x2 <;> simp [z, bI]
      simp only [if_neg c2]
      by_cases c3 : h3.1 69 0 k = 316
      · simp only [c3, if_true]
        by_cases z : x4 < x2 <;> simp [z, bI]
      simp only [if_neg c3]
      by_cases c4 : h3.1 69 0 k = 317
      · simp only [c4, if_true]
        by_cases z : x2 = x4 <;> simp [z, bI]
      simp only [if_neg c4]
      by_cases c5 : h3.1 69 0 k = 318
      · simp only [c5, if_true]
        by_cases z : x2 < x4 <;> simp [z, bI]
      simp only [if_neg c5]
      by_cases z : x2 = x4 <;> simp [z, bI]
    cases hv1 : φ1 (mu u r) with
    | none =>
      rw [hv1] at e1 e2
      refine ⟨none, ?_, ?_⟩
      · intro f1 z5 z6 z7 z8 v1 hm h4 h5
        exact ⟨(fun b hb => nomatch hb), fun _ => (hC1 f1 z5 z6 z7 z8 v1 hm h4 h5).2 e1⟩
      · intro u1 hm h5
        refine ⟨(fun b hb => nomatch hb), fun _ => ?_⟩
        obtain ⟨u2, b1, b2, b3⟩ := (hR1 u1 hm).2 e2
        refine ⟨u2, ?_, b2, b3⟩
        rw [rq0 u1 hm, b1]
        simp (decide := true) only [clI, b3, if_false]
    | some x =>
      rw [hv1] at e1 e2
      obtain ⟨e3, -⟩ := hφ2 (mu u r) [x]
      obtain ⟨-, e4⟩ := hφ2 (mu u r) []
      cases hv2 : φ2 (mu u r) with
      | none =>
        rw [hv2] at e3 e4
        refine ⟨none, ?_, ?_⟩
        · intro f1 z5 z6 z7 z8 v1 hm h4 h5
          refine ⟨(fun b hb => nomatch hb), fun _ => ?_⟩
          obtain ⟨f2, y5, y6, y7, y8, a1, a2, a3, a4, a5, -⟩ := (hC1 f1 z5 z6 z7 z8 v1 hm h4 h5).1 [x] e1
          rw [← cc1] at a1
          obtain ⟨f3, b1, b2⟩ := (hC2 f2 x y5 y6 y7 y8 v1 a2 a3 a4.1 a5).2 e3
          exact ⟨f3, a1.trans b1, b2⟩
        · intro u1 hm h5
          refine ⟨(fun b hb => nomatch hb), fun _ => ?_⟩
          obtain ⟨u2, b1, b2, b3⟩ := (hR1 u1 hm).1 x e2
          obtain ⟨u3, d1, d2, d3⟩ := (hR2 u2 b2).2 e4
          refine ⟨u3, ?_, d2, d3⟩
          rw [rq0 u1 hm, b1]
          simp only [clI, b3, if_true, if_neg (nin hk (by decide)), show u2 71 0 k = nI kb from (mk_at b2 71 0 k rfl).trans s3]
          rw [d1]
          simp (decide := true) only [clI, d3, if_false]
      | some y =>
        rw [hv2] at e3 e4
        refine ⟨some (nt.xor (cmpB w x y)), ?_, ?_⟩
        · intro f1 z5 z6 z7 z8 v1 hm h4 h5
          refine ⟨fun b hb => ?_, fun h => nomatch h⟩
          cases hb
          obtain ⟨f2, y5, y6, y7, y8, a1, a2, a3, a4, a5, -⟩ := (hC1 f1 z5 z6 z7 z8 v1 hm h4 h5).1 [x] e1
          rw [← cc1] at a1
          obtain ⟨f3, x5, x6, x7, x8, b1, b2, b3, b4, b5, -⟩ := (hC2 f2 x y5 y6 y7 y8 v1 a2 a3 a4.1 a5).1 [y, x] e3
          rw [← cc2] at b1
          obtain ⟨f4, t5, t6, t7, t8, d1, d2, d3, d4, d5⟩ := c_stepC (L := L) (xs := xs) (d := d) (g := g) (X := X) (r := r) (v1 := v1) (z5 := x5) (z6 := x6) (z7 := x7) (z8 := x8) w1 w2 hc2 hcn ((mk_at b2 10 0 3 rfl).trans h3) ((mk_at b2 32 0 _ rfl).trans hw) b3 b4.2.1 b4.1 b5
          obtain ⟨f5, o5, o6, o7, o8, g1, g2⟩ := tail f4 t5 t6 t7 t8 v1 _ (d2.trans b2) d3 d4 d5
          exact ⟨f5, o5, o6, o7, o8, a1.trans (b1.trans (d1.trans g1)), g2⟩
        · intro u1 hm h5
          refine ⟨fun b hb => ?_, fun h => nomatch h⟩
          cases hb
          obtain ⟨u2, b1, b2, b3⟩ := (hR1 u1 hm).1 x e2
          obtain ⟨u3, d1, d2, d3⟩ := (hR2 u2 b2).1 y e4
          refine ⟨u3, ?_, d2, d3⟩
          rw [rq0 u1 hm, b1]
          simp only [clI, b3, if_true, if_neg (nin hk (by decide)), show u2 71 0 k = nI kb from (mk_at b2 71 0 k rfl).trans s3]
          rw [d1]
          simp only [clI, d3, if_true, show u3 69 0 k = sgw w from (mk_at d2 69 0 k rfl).trans s1]
          have hcm : (if sgw w = 60 then decide (x < y) else if sgw w = 62 then decide (y < x) else if sgw w = 316 then !decide (y < x) else if sgw w = 317 then decide (x = y) else if sgw w = 318 then !decide (x < y) else !decide (x = y)) = cmpB w x y := by
            rcases w6 w1 w2 with rfl | rfl | rfl | rfl | rfl | rfl <;> simp (decide := true) only [sgw, cmpB, if_true, if_false]
          rw [hcm]
          exact k217 hk ((mk_at d2 68 0 k rfl).trans q1')
end Cond
