/-! ===== formulas: the pairs ===== -/
theorem bimp {a b : Nat → Nat → Bool} (h : ∀ R i, a R i = true → b R i = true) : ∀ R i, a R i = true → b R i = true := h
theorem st_nsC : ∀ R i, stC R i = true → nsC R i = true := by
  intro R i h
  unfold stC at h
  unfold nsC
  rw [Bool.or_eq_true, Bool.or_eq_true] at h
  rcases h with (h | h) | h
  · rw [Bool.and_eq_true] at h
    have := Nat.eq_of_beq_eq_true h.1
    subst this
    rfl
  · have := Nat.eq_of_beq_eq_true h
    subst this
    rfl
  · rw [Bool.and_eq_true] at h
    have h1 := Nat.eq_of_beq_eq_true h.1
    have h2 := Nat.eq_of_beq_eq_true h.2
    subst h1; subst h2
    rfl
theorem st_nsU : ∀ R i, stU R i = true → nsU R i = true := by
  intro R i h
  unfold stU at h
  have hb : R < 73 := by
    rw [Bool.or_eq_true] at h
    rcases h with h | h
    · rw [Bool.or_eq_true] at h
      rcases h with h | h
      · have := Nat.eq_of_beq_eq_true h
        omega
      · have := Nat.eq_of_beq_eq_true h
        omega
    · rw [Bool.and_eq_true] at h
      have : R + 1 ≤ 73 := Nat.le_of_ble_eq_true h.2
      omega
  have hc : R ≠ 22 := by
    rintro rfl
    cases h
  unfold nsU
  have h1 : Nat.beq R 22 = false := by
    cases hz : Nat.beq R 22 with
    | false => rfl
    | true => exact absurd (Nat.eq_of_beq_eq_true hz) hc
  have h2 : Nat.beq R 98 = false := by
    cases hz : Nat.beq R 98 with
    | false => rfl
    | true => have := Nat.eq_of_beq_eq_true hz; omega
  have h3 : Nat.beq R 97 = false := by
    cases hz : Nat.beq R 97 with
    | false => rfl
    | true => have := Nat.eq_of_beq_eq_true hz; omega
  rw [h1, h2, h3]
  rfl
section Pair
variable {L : Nat} {xs : Nat → Int32} {d : Nat} {X : ML × (Nat → Nat) × Nat × Nat} {Y : MR × ML × (Nat → Nat) × Nat × Nat}
variable {B n s q : Nat} {rd ps en dp : Nat → Nat} {lp : Nat → Option Nat} {f f' : MI} {g : MR} {u u' : MI} {r : Nat}
theorem RR_ns (e1 : mk nsC f' = mk nsC f) (e2 : mk nsU u' = mk nsU u) (h : RR f g u rd ps dp r) : RR f' g u' rd ps dp r := by
  have h1 : RR (mk nsC f) g (mk nsU u) rd ps dp r := h
  rw [← e1, ← e2] at h1
  exact h1
theorem TT_ns (e1 : mk nsC f' = mk nsC f) (e2 : mk nsU u' = mk nsU u) (T : TT B n s q rd ps en dp lp f g u) : TT B n s q rd ps en dp lp f' g u' := by
  obtain ⟨t1, t2, t3, t4, t5, t6, t7, t8⟩ := T
  have a1 : R_cnt (mk nsC f) (mk nsU u) n s q := t1
  have a2 : R_glb (mk nsC f) (mk nsU u) := t2
  have a3 : ∃ l : Nat, l ≤ B ∧ (mk nsU u) 22 0 84 = nI l ∧ ∀ k, k < 1600 → k < 4 * l → (mk nsC f) 31 0 k = (mk nsU u) 96 0 k := t3
  have a4 : R_stf (mk nsC f) (mk nsU u) s := t4
  have a5 : Stf (mk nsU u) n s := t5
  have a6 : R_flg (mk nsC f) (mk nsU u) q := t6
  rw [← e1, ← e2] at a1 a2 a3 a4 a6
  rw [← e2] at a5
  refine ⟨a1, a2, a3, a4, a5, a6, ?_, fun r hr => RR_ns e1 e2 (t8 r hr)⟩
  rw [mk_sub st_nsC e1, mk_sub st_nsU e2]
  exact t7
theorem TT.n12 (T : TT B n s q rd ps en dp lp f g u) : n ≤ 12 := T.cn.1.2
theorem a14 {a : Nat} (h : a ≤ 13) : a = 0 ∨ a = 1 ∨ a = 2 ∨ a = 3 ∨ a = 4 ∨ a = 5 ∨ a = 6 ∨ a = 7 ∨ a = 8 ∨ a = 9 ∨ a = 10 ∨ a = 11 ∨ a = 12 ∨ a = 13 := by omega
theorem c_worth (T : TT B n s q rd ps en dp lp f g u) (hr : r < n) {a : Nat} (ha : a ≤ 13) (h5 : a ≠ 5) (h6 : a ≠ 6) : EL (mP L xs) (d + 1) 158 [rv 16 (some r), iv (nI a)] (f, g, X) = some (.inl (some (iv (mo u r a))), (f, g, X)) := by
  obtain ⟨-, ⟨m, Q⟩, ⟨s1, s2, s3, s4, s5⟩, -⟩ := T.rr r hr
  obtain ⟨kd, M⟩ := (T.rr r hr).rm
  obtain ⟨o1, o2, o3, o4, o5, o6, o7, o8, o9⟩ := M.mo
  have e7 : f 15 r 3 = sumN (fun k => u 94 0 (30 * r + k)) m := Q.sm.trans (sumN_congr (fun k hk => (Q.rw k hk).1))
  have em : (u 93 0 r).toNatClampNeg = m := by rw [Q.mr]; exact nI_clamp (by have := Q.ml; omega)
  have g0 := s4 0 (by decide)
  have g1 := s4 1 (by decide)
  have g2 := s4 2 (by decide)
  have g3 := s4 3 (by decide)
  rw [E_Ride_worth]
  rcases a14 ha with rfl | rfl | rfl | rfl | rfl | rfl | rfl | rfl | rfl | rfl | rfl | rfl | rfl | rfl
  · simp (decide := true) [mo, g0, nI_clamp]
  · simp (decide := true) [mo, g1, nI_clamp]
  · simp (decide := true) [mo, g2, nI_clamp]
  · simp (decide := true) [mo, g3, nI_clamp]
  · simp (decide := true) [mo, s2]
  · exact absurd rfl h5
  · exact absurd rfl h6
  · simp (decide := true) [mo, e7, em]
  · simp (decide := true) [mo, o1]
  · simp (decide := true) [mo, o3]
  · simp (decide := true) [mo, o6]
  · simp (decide := true) [mo, o8]
  · simp (decide := true) [mo, o9]
  · simp (decide := true) [mo, o7]
theorem c_oper (T : TT B n s q rd ps en dp lp f g u) (hr : r < n) {x : Nat × Nat} (hx : okc n x) (h4 : x.1 ≤ 4) (e : mk nsC f' = mk nsC f) : EL (mP L xs) (d + 2) 160 [rv 10 (some 0), iv (nI x.1), iv (nI x.2), rv 16 (some r)] (f', g, X) = some (.inl (some (iv (mu u r x))), (f', g, X)) := by
  have T' := TT_ns (f' := f') (u' := u) e rfl T
  have hn := T.n12
  rw [E_Code_operand]
  rcases hx with ⟨h1, h2⟩ | ⟨h1, h2⟩ | ⟨h1, h2, h3⟩ | h | h
  · rw [h1, if_pos (by decide)]
    simp [mu, h1]
  · rw [h1, if_neg (by decide), if_pos (by decide)]
    by_cases z5 : x.2 = 5
    · rw [z5, if_pos (by decide)]
      simp [mu, h1, z5, mo]
      exact T'.gb.1
    · by_cases z6 : x.2 = 6
      · rw [z6, if_neg (by decide), if_pos (by decide)]
        simp [mu, h1, z6, mo]
        exact T'.gb.2.1
      · rw [if_neg (show ¬ nI x.2 = 5 by rw [show (5 : Int32) = nI 5 from rfl, nI_eq (by omega) (by decide)]; exact z5), if_neg (show ¬ nI x.2 = 6 by rw [show (6 : Int32) = nI 6 from rfl, nI_eq (by omega) (by decide)]; exact z6)]
        simp only [onS_s]
        rw [c_worth T' hr h2 z5 z6]
        simp [clI, mu, h1]
  · have e1 : nI x.2 >>> ((5 : Int32) &&& 31) = nI (x.2 / 32) := nI_shr5 (by omega)
    have e2 : nI x.2 &&& 31 = nI (x.2 % 32) := nI_and31 _
    rw [h1, if_neg (by decide), if_neg (by decide), if_pos (by decide), e1, e2, if_neg (nI_pos (by omega)), if_pos (show nI (x.2 / 32) < 12 from nI_lt (b := 12) (by omega) (by decide)), if_neg (nin (by omega) (by decide)), nI_clamp (by omega), c_worth T' h2 h3.2 (by omega) (by omega)]
    simp [clI, mu, h1]
  · omega
  · omega
theorem TT.que (T : TT B n s q rd ps en dp lp f g u) : ∀ r', r' < n → ∃ m : Nat, m ≤ 30 ∧ u 93 0 r' = nI m := fun r' h => by
  obtain ⟨m, Q⟩ := (T.rr r' h).rq
  exact ⟨m, Q.ml, Q.mr⟩
theorem Hi64 {l : PL} {t : Nat} (h : Hi 62 l t) : Hi 64 l t := Hi_le (Hi_le h)
theorem Hi64' {l : PL} {t : Nat} (h : Hi 62 l t) : Hi 64 l (t + 1) := Hi_le (Hi_up h)
/-- the reference's value of an E -/
theorem r_val (T : TT B n s q rd ps en dp lp f g u) (hr : r < n) {c c' k : Nat} {lc lr : PL} (F : FE f u n c c' k lc lr) (e : mk nsU u' = mk nsU u) :
    (∀ v, ev (mu u r) lr [] = some [v] → ∃ u'', EL (mP L xs) (d + 3) 216 [rv 22 (some 0), iv (nI k), iv (nI r)] (u', Y) = some (.inl (some (iv v)), (u'', Y)) ∧ mk nsU u'' = mk nsU u ∧ u'' 22 0 89 = 0) ∧
    (ev (mu u r) lr [] = none → ∃ u'', EL (mP L xs) (d + 3) 216 [rv 22 (some 0), iv (nI k), iv (nI r)] (u', Y) = some (.inl (some (iv 0)), (u'', Y)) ∧ mk nsU u'' = mk nsU u ∧ u'' 22 0 89 = 1) := by
  rw [E_Ref_value]
  have hl := rv_loop (L := L) (xs := xs) (d := d) (Y := Y) (u0 := u) (v1 := nI k) hr T.n12 T.que lr k [] (m3 (m3 u' 22 0 88 0) 22 0 89 0) ((mk_m3 rfl).trans ((mk_m3 rfl).trans e)) F.rp F.kl F.ok (Hi64 F.hr) (by rw [m3_i (by decide), m3_eq]; rfl) trivial m3_eq (Nat.zero_le _)
  refine ⟨fun v hv => ?_, hl.2⟩
  obtain ⟨u2, h1, h2, h3, h4, h5, h6⟩ := hl.1 [v] hv
  refine ⟨u2, ?_, h2, h5⟩
  have kl := F.kl
  have ed : u2 65 0 (k + lr.length) = 0 := (mk_at h2 65 0 _ rfl).trans F.ed
  refine h1.trans ?_
  rw [K_Ref_value_12]
  simp only [if_neg (nin F.kl (by decide)), nI_clamp (show k + lr.length < 2 ^ 31 by omega), ed, h5, if_true]
  rw [show u2 98 0 0 = v from h4.1]
/-- an E on both sides -/
theorem p_val (T : TT B n s q rd ps en dp lp f g u) (hr : r < n) {x y : Int32} (F : FMx f u n x y) :
    ∃ (v w : Int32) (f1 u1 : MI) (z : Bool), EL (mP L xs) (d + 3) 165 [rv 10 (some 0), iv x, rv 16 (some r)] (f, g, X) = some (.inl (some (iv v)), (f1, g, X)) ∧ EL (mP L xs) (d + 3) 216 [rv 22 (some 0), iv y, iv (nI r)] (u, Y) = some (.inl (some (iv w)), (u1, Y)) ∧
      f1 10 0 5 = bI z ∧ u1 22 0 89 = bI z ∧ (z = false → w = v) ∧ mk nsC f1 = mk nsC f ∧ mk nsU u1 = mk nsU u := by
  obtain ⟨c, k, rfl, rfl, c', cn, lc, lr, F, he, h1, h2, h3⟩ := F
  obtain ⟨φ, hφ⟩ := F.sm
  have cc := F.cc
  have hR := r_val (L := L) (xs := xs) (d := d) (Y := Y) T hr F (u' := u) rfl
  have hC := cv_loop (L := L) (xs := xs) (d := d + 1) (g := g) (X := X) (f0 := f) (n := n) (r := r) (e := c') (cn := cn) (μ := mu u r) (v1 := nI c) (fun x hx h4 f' e => c_oper T hr hx h4 e) T.n12 h1 h2 h3 lc c [] (m3 (m3 f 10 0 5 0) 10 0 4 0) none none none none ((mk_m3 rfl).trans (mk_m3 rfl)) F.sp (by omega) F.oc (Hi64 F.hc) m3_eq trivial (by rw [m3_i (by decide), m3_eq]) (Nat.zero_le _)
  obtain ⟨e1, e2⟩ := hφ (mu u r) []
  rw [E_Code_value]
  cases hv : φ (mu u r) with
  | none =>
    rw [hv] at e1 e2
    obtain ⟨f1, a1, a2, a3⟩ := hC.2 e1
    obtain ⟨u1, b1, b2, b3⟩ := hR.2 e2
    exact ⟨0, 0, f1, u1, true, a1, b1, a3, b3, (fun z => nomatch z), a2, b2⟩
  | some v =>
    rw [hv] at e1 e2
    obtain ⟨f1, y5, y6, y7, y8, a1, a2, a3, a4, a5, a6⟩ := hC.1 [v] e1
    obtain ⟨u1, b1, b2, b3⟩ := hR.1 v e2
    rw [← cc] at a1
    have q1 : f1 10 0 3 = nI cn := (mk_at a2 10 0 3 rfl).trans h3
    have q2 : f1 32 0 c' = 0 := (mk_at a2 32 0 c' rfl).trans he
    refine ⟨v, v, m3 f1 10 0 4 (nI 0), u1, false, a1.trans ?_, b1, by rw [m3_i (by decide)]; exact a5, b3, fun _ => rfl, (mk_m3 rfl).trans a2, b2⟩
    rw [K_Code_value_15]
    simp (decide := true) only [if_neg (nI_pos (show c' < 2 ^ 31 by omega)), q1, if_pos (nI_lt h1 (show cn < 2 ^ 31 by omega)), if_pos (show nI c' < 4001 from nI_lt (b := 4001) (by omega) (by decide)), if_neg (nin (show c' < 4001 by omega) (by decide)), nI_clamp (show c' < 2 ^ 31 by omega), q2, if_true, if_false]
    rw [K_Code_value_15, if_pos rfl, c_pop (t := 0) a3 (by decide)]
    simp only [clI]
    rw [show f1 33 0 0 = v from a4.1]
end Pair
