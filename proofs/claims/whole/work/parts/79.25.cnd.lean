/-! ===== conditions: the pair ===== -/
section Cnd
variable {L : Nat} {xs : Nat → Int32} {d : Nat} {X : ML × (Nat → Nat) × Nat × Nat} {Y : MR × ML × (Nat → Nat) × Nat × Nat}
variable {B n s q : Nat} {rd ps en dp : Nat → Nat} {lp : Nat → Option Nat} {f f' : MI} {g : MR} {u u' : MI} {r : Nat}
theorem bI_and {b : Bool} : bI b &&& 1 = bI b := by cases b <;> decide
theorem CM_le : ∀ {e m c k : Nat}, CM f u n q e m c k → k + m < 2100
  | e, 0, c, k, h => by
    obtain ⟨c', h1, -⟩ := h
    exact h1.1
  | e, m + 1, c, k, h => by
    obtain ⟨c', jn, h1, h2, h3, h4, h5⟩ := h
    have := CM_le h5
    omega
theorem cm_run (T : TT B n s q rd ps en dp lp f g u) (hr : r < n) {e cn : Nat} (he : e < cn) (hcn : cn ≤ 4001) (h3 : f 10 0 3 = nI cn) :
    ∀ (m c k : Nat), CM f u n q e m c k → ∀ (f1 u1 : MI) (z5 z6 z7 z8 : Option MV) (v1 v2 : Int32), mk nsC f1 = mk nsC f → f1 10 0 4 = nI 0 → f1 10 0 5 = 0 → mk nsU u1 = mk nsU u → u1 22 0 89 = 0 →
      ∃ (w : Int32) (z tv : Bool) (f2 u2 : MI), RL (mP L xs) (d + 2) 165 15 (cvL r v1 1 (nI c) z5 z6 z7 z8) [] (f1, g, X) = some (.inl (some (iv w)), (f2, g, X)) ∧
        mclI (EL (mP L xs) (d + 4) 222 [rv 22 (some 0), iv (nI k), iv (nI r)] (u1, Y)) (fun x h1 => RL (mP L xs) (d + 4) 223 15 [some (rv 22 (some 0)), some (iv v2), some (iv (nI r)), some (iv x), some (iv (nI k))] [] h1) (fun e h => some (.inr e, h)) = some (.inl (some (iv (bI tv))), (u2, Y)) ∧
        f2 10 0 5 = bI z ∧ u2 22 0 89 = bI z ∧ (z = false → w = bI tv) ∧ mk nsC f2 = mk nsC f ∧ mk nsU u2 = mk nsU u
  | m, c, k, hM, f1, u1, z5, z6, z7, z8, v1, v2, hm, h4, h5, hmu, h5u => by
    have hk : k < 2100 := by have := CM_le hM; omega
    have hq : ∃ c', Qn f u n q c c' k ∧ c' ≤ e := by
      cases m with
      | zero => obtain ⟨c', a, -, -, b⟩ := hM; exact ⟨c', a, b⟩
      | succ m => obtain ⟨c', jn, a, -, -, b, -⟩ := hM; exact ⟨c', a, Nat.le_of_lt b⟩
    -- the end by a division by 0
    have bad : ∀ (f2 u2 : MI), RL (mP L xs) (d + 2) 165 15 (cvL r v1 1 (nI c) z5 z6 z7 z8) [] (f1, g, X) = some (.inl (some (iv 0)), (f2, g, X)) ∧ mk nsC f2 = mk nsC f ∧ f2 10 0 5 = 1 → EL (mP L xs) (d + 4) 222 [rv 22 (some 0), iv (nI k), iv (nI r)] (u1, Y) = some (.inl (some (iv 0)), (u2, Y)) ∧ mk nsU u2 = mk nsU u ∧ u2 22 0 89 = 1 → ∃ (w : Int32) (z tv : Bool) (f2 u2 : MI), RL (mP L xs) (d + 2) 165 15 (cvL r v1 1 (nI c) z5 z6 z7 z8) [] (f1, g, X) = some (.inl (some (iv w)), (f2, g, X)) ∧
        mclI (EL (mP L xs) (d + 4) 222 [rv 22 (some 0), iv (nI k), iv (nI r)] (u1, Y)) (fun x h1 => RL (mP L xs) (d + 4) 223 15 [some (rv 22 (some 0)), some (iv v2), some (iv (nI r)), some (iv x), some (iv (nI k))] [] h1) (fun e h => some (.inr e, h)) = some (.inl (some (iv (bI tv))), (u2, Y)) ∧
        f2 10 0 5 = bI z ∧ u2 22 0 89 = bI z ∧ (z = false → w = bI tv) ∧ mk nsC f2 = mk nsC f ∧ mk nsU u2 = mk nsU u := by
      rintro f2 u2 ⟨a1, a2, a3⟩ ⟨b1, b2, b3⟩
      refine ⟨0, true, false, f2, u2, a1, ?_, a3, b3, (fun z => nomatch z), a2, b2⟩
      rw [b1]
      simp only [clI]
      rw [K_Ref_isTrue_15]
      simp (decide := true) only [b3, if_false, bI]
      rfl
    match m, hM with
    | 0, hM =>
      obtain ⟨c', Q, n1, n2, n3⟩ := hM
      obtain ⟨res, hC, hR⟩ := p_qst (L := L) (xs := xs) (d := d) (X := X) (Y := Y) T hr he hcn h3 Q n3
      cases res with
      | none =>
        obtain ⟨f2, a⟩ := (hC f1 z5 z6 z7 z8 v1 hm h4 h5).2 rfl
        obtain ⟨u2, b⟩ := (hR u1 hmu h5u).2 rfl
        exact bad f2 u2 a b
      | some b0 =>
        obtain ⟨f2, y5, y6, y7, y8, a1, a2, a3, a4, a5⟩ := (hC f1 z5 z6 z7 z8 v1 hm h4 h5).1 b0 rfl
        obtain ⟨u2, b1, b2, b3⟩ := (hR u1 hmu h5u).1 b0 rfl
        have e1 : f2 10 0 3 = nI cn := (mk_at a2 10 0 3 rfl).trans h3
        have e2 : f2 32 0 c' = 0 := (mk_at a2 32 0 c' rfl).trans n2
        have e3 : u2 72 0 k = -1 := (mk_at b2 72 0 k rfl).trans n1
        refine ⟨bI b0, false, b0, m3 f2 10 0 4 (nI 0), u2, a1.trans ?_, ?_, by rw [m3_i (by decide)]; exact a5, b3, fun _ => rfl, (mk_m3 rfl).trans a2, b2⟩
        · rw [K_Code_value_15]
          simp (decide := true) only [if_neg (nI_pos (show c' < 2 ^ 31 by omega)), e1, if_pos (nI_lt (show c' < cn by omega) (show cn < 2 ^ 31 by omega)), if_pos (show nI c' < 4001 from nI_lt (b := 4001) (by omega) (by decide)), if_neg (nin (show c' < 4001 by omega) (by decide)), nI_clamp (show c' < 2 ^ 31 by omega), e2, if_true, if_false]
          rw [K_Code_value_15, if_pos rfl, c_pop (t := 0) a3 (by decide)]
          simp only [clI]
          rw [a4]
        · rw [b1]
          simp only [clI]
          rw [K_Ref_isTrue_15]
          simp only [b3, if_true, if_neg (nin hk (by decide)), nI_clamp (show k < 2 ^ 31 by omega), e3, bI_and]
    | m + 1, hM =>
      obtain ⟨c', jn, Q, n1, n2, n3, hM'⟩ := hM
      have hk1 : k + 1 < 2100 := by have := CM_le hM'; omega
      obtain ⟨res, hC, hR⟩ := p_qst (L := L) (xs := xs) (d := d) (X := X) (Y := Y) T hr he hcn h3 Q (Nat.le_of_lt n3)
      cases res with
      | none =>
        obtain ⟨f2, a⟩ := (hC f1 z5 z6 z7 z8 v1 hm h4 h5).2 rfl
        obtain ⟨u2, b⟩ := (hR u1 hmu h5u).2 rfl
        exact bad f2 u2 a b
      | some b0 =>
        obtain ⟨f2, y5, y6, y7, y8, a1, a2, a3, a4, a5⟩ := (hC f1 z5 z6 z7 z8 v1 hm h4 h5).1 b0 rfl
        obtain ⟨u2, b1, b2, b3⟩ := (hR u1 hmu h5u).1 b0 rfl
        have e1 : f2 10 0 3 = nI cn := (mk_at a2 10 0 3 rfl).trans h3
        have e2 : f2 32 0 c' = (bif jn then 7 else 8) := (mk_at a2 32 0 c' rfl).trans n2
        have e3 : u2 72 0 k = (bif jn then 48 else 49) := (mk_at b2 72 0 k rfl).trans n1
        have hcl := K_Code_value_15 (L := L) (xs := xs) (d := d + 2) (z5 := y5) (z6 := y6) (z7 := y7) (z8 := y8) v1 (some r) 1 (nI c') (f2, g, X)
        simp only [if_neg (show ¬ (1 : Int32) = 0 by decide), if_neg (nI_pos (show c' < 2 ^ 31 by omega)), e1, if_pos (nI_lt (show c' < cn by omega) (show cn < 2 ^ 31 by omega)), if_pos (show nI c' < 4001 from nI_lt (b := 4001) (by omega) (by decide)), if_neg (nin (show c' < 4001 by omega) (by decide)), nI_clamp (show c' < 2 ^ 31 by omega), e2, c_pop (t := 0) a3 (show 0 < 64 by decide), clI, a4, nI_1] at hcl
        -- it ends here
        have stp : (∃ y5 y6 y7 y8, RL (mP L xs) (d + 2) 165 15 (cvL r v1 1 (nI c) z5 z6 z7 z8) [] (f1, g, X) = mclV (EL (mP L xs) (d + 2) 161 [rv 10 (some 0), iv (bI b0)] (m3 f2 10 0 4 (nI 0), g, X)) (fun h2 => RL (mP L xs) (d + 2) 165 15 (cvL r v1 0 (nI (c' + 1)) y5 y6 y7 y8) [] h2) (fun e h => some (.inr e, h))) → RL (mP L xs) (d + 4) 223 15 [some (rv 22 (some 0)), some (iv v2), some (iv (nI r)), some (iv (bI b0)), some (iv (nI k))] [] (u2, Y) = some (.inl (some (iv (bI b0))), (u2, Y)) → ∃ (w : Int32) (z tv : Bool) (f2 u2 : MI), RL (mP L xs) (d + 2) 165 15 (cvL r v1 1 (nI c) z5 z6 z7 z8) [] (f1, g, X) = some (.inl (some (iv w)), (f2, g, X)) ∧
            mclI (EL (mP L xs) (d + 4) 222 [rv 22 (some 0), iv (nI k), iv (nI r)] (u1, Y)) (fun x h1 => RL (mP L xs) (d + 4) 223 15 [some (rv 22 (some 0)), some (iv v2), some (iv (nI r)), some (iv x), some (iv (nI k))] [] h1) (fun e h => some (.inr e, h)) = some (.inl (some (iv (bI tv))), (u2, Y)) ∧
            f2 10 0 5 = bI z ∧ u2 22 0 89 = bI z ∧ (z = false → w = bI tv) ∧ mk nsC f2 = mk nsC f ∧ mk nsU u2 = mk nsU u := by
          rintro ⟨x5, x6, x7, x8, hs⟩ hu
          rw [c_push (t := 0) m3_eq (by decide)] at hs
          simp only [clV] at hs
          have hs2 := K_Code_value_15 (L := L) (xs := xs) (d := d + 2) (z5 := x5) (z6 := x6) (z7 := x7) (z8 := x8) v1 (some r) 0 (nI (c' + 1)) (m3 (m3 (m3 f2 10 0 4 (nI 0)) 33 0 0 (bI b0)) 10 0 4 (nI (0 + 1)), g, X)
          rw [if_pos rfl, c_pop (t := 0) m3_eq (by decide)] at hs2
          simp only [clI] at hs2
          refine ⟨bI b0, false, b0, _, u2, hs.trans (hs2.trans (by rw [m3_r (by decide), m3_eq])), by rw [b1]; exact hu, ?_, b3, fun _ => rfl, (mk_m3 rfl).trans ((mk_m3 rfl).trans ((mk_m3 rfl).trans ((mk_m3 rfl).trans a2))), b2⟩
          rw [m3_i (by decide), m3_i (by decide), m3_r (by decide), m3_i (by decide)]
          exact a5
        -- it goes on
        have gon : (∃ y5 y6 y7 y8, RL (mP L xs) (d + 2) 165 15 (cvL r v1 1 (nI c) z5 z6 z7 z8) [] (f1, g, X) = RL (mP L xs) (d + 2) 165 15 (cvL r v1 1 (nI (c' + 1)) y5 y6 y7 y8) [] (m3 f2 10 0 4 (nI 0), g, X)) → RL (mP L xs) (d + 4) 223 15 [some (rv 22 (some 0)), some (iv v2), some (iv (nI r)), some (iv (bI b0)), some (iv (nI k))] [] (u2, Y) = mclI (EL (mP L xs) (d + 4) 222 [rv 22 (some 0), iv (nI (k + 1)), iv (nI r)] (u2, Y)) (fun x h1 => RL (mP L xs) (d + 4) 223 15 [some (rv 22 (some 0)), some (iv v2), some (iv (nI r)), some (iv x), some (iv (nI (k + 1)))] [] h1) (fun e h => some (.inr e, h)) → ∃ (w : Int32) (z tv : Bool) (f2 u2 : MI), RL (mP L xs) (d + 2) 165 15 (cvL r v1 1 (nI c) z5 z6 z7 z8) [] (f1, g, X) = some (.inl (some (iv w)), (f2, g, X)) ∧
            mclI (EL (mP L xs) (d + 4) 222 [rv 22 (some 0), iv (nI k), iv (nI r)] (u1, Y)) (fun x h1 => RL (mP L xs) (d + 4) 223 15 [some (rv 22 (some 0)), some (iv v2), some (iv (nI r)), some (iv x), some (iv (nI k))] [] h1) (fun e h => some (.inr e, h)) = some (.inl (some (iv (bI tv))), (u2, Y)) ∧
            f2 10 0 5 = bI z ∧ u2 22 0 89 = bI z ∧ (z = false → w = bI tv) ∧ mk nsC f2 = mk nsC f ∧ mk nsU u2 = mk nsU u := by
          rintro ⟨x5, x6, x7, x8, hs⟩ hu
          obtain ⟨w, z, tv, f3, u3, d1, d2, d3⟩ := cm_run T hr he hcn h3 m (c' + 1) (k + 1) hM' (m3 f2 10 0 4 (nI 0)) u2 x5 x6 x7 x8 v1 v2 ((mk_m3 rfl).trans a2) m3_eq (by rw [m3_i (by decide)]; exact a5) b2 b3
          exact ⟨w, z, tv, f3, u3, hs.trans d1, by rw [b1]; exact hu.trans d2, d3⟩
        have hru := K_Ref_isTrue_15 (L := L) (xs := xs) (d := d + 4) v2 (nI r) (bI b0) (nI k) (u2, Y)
        simp only [b3, if_true, if_neg (nin hk (by decide)), nI_clamp (show k < 2 ^ 31 by omega), e3, bI_and, nI_1] at hru
        cases jn with
        | true =>
          simp (decide := true) only [cond_true, if_true, if_false] at hcl hru
          cases b0 with
          | false =>
            simp (decide := true) only [bI, cond_false, if_true, if_false] at hcl hru
            rw [K_Code_value_157] at hcl
            simp (decide := true) only [if_true, if_false, nI_1] at hcl
            exact stp ⟨_, _, _, _, a1.trans hcl⟩ hru
          | true =>
            simp (decide := true) only [bI, cond_true, if_true, if_false] at hcl hru
            rw [K_Code_value_157] at hcl
            simp (decide := true) only [if_true, if_false, nI_1] at hcl
            exact gon ⟨_, _, _, _, a1.trans hcl⟩ hru
        | false =>
          simp (decide := true) only [cond_false, if_true, if_false] at hcl hru
          cases b0 with
          | false =>
            simp (decide := true) only [bI, cond_false, if_true, if_false] at hcl hru
            rw [K_Code_value_157] at hcl
            simp (decide := true) only [if_true, if_false, nI_1] at hcl
            exact gon ⟨_, _, _, _, a1.trans hcl⟩ hru
          | true =>
            simp (decide := true) only [bI, cond_true, if_true, if_false] at hcl hru
            rw [K_Code_value_157] at hcl
            simp (decide := true) only [if_true, if_false, nI_1] at hcl
            exact stp ⟨_, _, _, _, a1.trans hcl⟩ hru
  termination_by m => m
/-- a C on both sides -/
theorem p_cnd (T : TT B n s q rd ps en dp lp f g u) (hr : r < n) {x y : Int32} (F : CDx f u n q x y) :
    ∃ (w : Int32) (f1 u1 : MI) (z tv : Bool), EL (mP L xs) (d + 3) 165 [rv 10 (some 0), iv x, rv 16 (some r)] (f, g, X) = some (.inl (some (iv w)), (f1, g, X)) ∧ EL (mP L xs) (d + 5) 223 [rv 22 (some 0), iv y, iv (nI r)] (u, Y) = some (.inl (some (iv (bI tv))), (u1, Y)) ∧
      f1 10 0 5 = bI z ∧ u1 22 0 89 = bI z ∧ (z = false → w = bI tv) ∧ mk nsC f1 = mk nsC f ∧ mk nsU u1 = mk nsU u := by
  obtain ⟨c, k, m, e, cn, rfl, rfl, hM, he, hcn, h3⟩ := F
  rw [E_Code_value, E_Ref_isTrue]
  obtain ⟨w, z, tv, f2, u2, h1, h2, h⟩ := cm_run (L := L) (xs := xs) (d := d) (X := X) (Y := Y) T hr he hcn h3 m c k hM (m3 (m3 f 10 0 5 0) 10 0 4 0) (m3 u 22 0 89 0) none none none none (nI c) (nI k) ((mk_m3 rfl).trans (mk_m3 rfl)) m3_eq (by rw [m3_i (by decide), m3_eq]) (mk_m3 rfl) m3_eq
  exact ⟨w, f2, u2, z, tv, h1, h2, h⟩
end Cnd
