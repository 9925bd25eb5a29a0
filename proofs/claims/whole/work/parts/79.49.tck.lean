/-! ===== a whole tick ===== -/
section Tck
variable {L : Nat} {xs : Nat → Int32} {d : Nat} {X : ML × (Nat → Nat) × Nat × Nat} {Y : MR × ML × (Nat → Nat) × Nat × Nat}
variable {B B' n s q : Nat} {rd ps en dp : Nat → Nat} {lp : Nat → Option Nat} {f f1 f2 f' : MI} {g g' : MR} {u u1 u2 u' : MI} {r a b : Nat}
theorem TT_clk (T : TT B n s q rd ps en dp lp f g u) {v : Int32} : TT B n s q rd ps en dp lp (m3 f 11 0 9 v) g (m3 u 22 0 79 v) :=
  TT_glob T (fun r' => EqC.gl rfl) (fun r' => EqU.gl rfl) (fun b => rfl) (mk_m3 rfl) (mk_m3 rfl) T.cn ⟨rfl, T.gb.2⟩ T.lg T.sf T.ss T.fl
theorem TT_wnd (T : TT B n s q rd ps en dp lp f g u) {v : Int32} : TT B n s q rd ps en dp lp (m3 f 11 0 10 v) g (m3 u 22 0 80 v) :=
  TT_glob T (fun r' => EqC.gl rfl) (fun r' => EqU.gl rfl) (fun b => rfl) (mk_m3 rfl) (mk_m3 rfl) T.cn ⟨T.gb.1, rfl, T.gb.2.2⟩ T.lg T.sf T.ss T.fl
theorem k1_loop : ∀ (j r B : Nat) (f : MI) (u : MI) (z2 : Option MV), r + j = n → B + j < 2 ^ 30 → TT B n s q rd ps en dp lp f g u → ∃ f2 u2 z, RL (mP L xs) (d + 13) 207 34 [some (rv 17 (some 0)), some (iv (nI n)), some (iv (nI r))] [] (f, g, X) = RL (mP L xs) (d + 13) 207 60 [some (rv 17 (some 0)), some (iv (nI n)), some (iv 0)] [] (f2, g, X) ∧
    RL (mP L xs) (d + 13) 236 12 [some (rv 22 (some 0)), some (iv (nI r)), z2] [] (u, Y) = RL (mP L xs) (d + 13) 236 99 [some (rv 22 (some 0)), some (iv 0), z] [] (u2, Y) ∧ TT (B + j) n s q rd ps en dp lp f2 g u2
  | 0, r, B, f, u, z2, hj, hB, T => by
    have hn := T.n12
    have e : r = n := by omega
    subst e
    have hcn : u 22 0 20 = nI r := T.cn.2.2.2.1.2
    refine ⟨f, u, z2, ?_, ?_, T⟩
    · rw [K_Runner_oneTick_34, if_neg (nI_nlt (Nat.le_refl r) (by omega))]
    · rw [K_Ref_ticks_12]
      simp only [hcn]
      rw [if_neg (nI_nlt (Nat.le_refl r) (by omega))]
  | j + 1, r, B, f, u, z2, hj, hB, T => by
    have hn := T.n12
    have hcn : u 22 0 20 = nI n := T.cn.2.2.2.1.2
    obtain ⟨f1, u1, w, a1, a2, a3⟩ := p_send (L := L) (xs := xs) T (by omega) (show r < n by omega)
    obtain ⟨f2, u2, z, b1, b2, b3⟩ := k1_loop j (r + 1) (B + 1) f1 u1 (some (iv w)) (by omega) (by omega) a3
    refine ⟨f2, u2, z, ?_, ?_, b3.le (by omega)⟩
    · rw [K_Runner_oneTick_34, if_pos (nI_lt (show r < n by omega) (by omega)), if_neg (nin (show r < 12 by omega) (by decide)), nI_clamp (show r < 2 ^ 31 by omega), a1 (d + 10) X, clV, nI_1, b1]
    · rw [K_Ref_ticks_12]
      simp only [hcn]
      rw [if_pos (nI_lt (show r < n by omega) (by omega)), a2 (d + 12) Y, b2]
theorem k2_loop : ∀ (j r B : Nat) (f : MI) (g : MR) (u : MI) (z2 : Option MV), r + j = n → B + 80 * j < 2 ^ 30 → TT B n s q rd ps en dp lp f g u → ∃ f2 g2 u2, RL (mP L xs) (d + 13) 207 60 [some (rv 17 (some 0)), some (iv (nI n)), some (iv (nI r))] [] (f, g, X) = RL (mP L xs) (d + 13) 207 86 [some (rv 17 (some 0)), some (iv (nI n)), some (iv 0)] [] (f2, g2, X) ∧
    RL (mP L xs) (d + 13) 236 99 [some (rv 22 (some 0)), some (iv (nI r)), z2] [] (u, Y) = RL (mP L xs) (d + 13) 236 120 [some (rv 22 (some 0)), some (iv 0), z2] [] (u2, Y) ∧ TT (B + 80 * j) n s q rd ps en dp lp f2 g2 u2
  | 0, r, B, f, g, u, z2, hj, hB, T => by
    have hn := T.n12
    have e : r = n := by omega
    subst e
    have hcn : u 22 0 20 = nI r := T.cn.2.2.2.1.2
    refine ⟨f, g, u, ?_, ?_, T⟩
    · rw [K_Runner_oneTick_60, if_neg (nI_nlt (Nat.le_refl r) (by omega))]
    · rw [K_Ref_ticks_99]
      simp only [hcn]
      rw [if_neg (nI_nlt (Nat.le_refl r) (by omega))]
  | j + 1, r, B, f, g, u, z2, hj, hB, T => by
    have hn := T.n12
    have hcn : u 22 0 20 = nI n := T.cn.2.2.2.1.2
    obtain ⟨f1, g1, u1, a1, a2, a3⟩ := p_run (L := L) (xs := xs) (d := d) (X := X) (Y := Y) T (by omega) (show r < n by omega)
    obtain ⟨f2, g2, u2, b1, b2, b3⟩ := k2_loop j (r + 1) (B + 80) f1 g1 u1 z2 (by omega) (by omega) a3
    refine ⟨f2, g2, u2, ?_, ?_, b3.le (by omega)⟩
    · rw [K_Runner_oneTick_60, if_pos (nI_lt (show r < n by omega) (by omega)), if_neg (nin (show r < 12 by omega) (by decide)), nI_clamp (show r < 2 ^ 31 by omega), a1, clV, nI_1, b1]
    · rw [K_Ref_ticks_99]
      simp only [hcn]
      rw [if_pos (nI_lt (show r < n by omega) (by omega)), a2, clV, nI_1, b2]
theorem k3_loop : ∀ (j r : Nat) (f : MI) (u : MI) (z2 : Option MV), r + j = n → TT B n s q rd ps en dp lp f g u → ∃ f2 u2, RL (mP L xs) (d + 13) 207 86 [some (rv 17 (some 0)), some (iv (nI n)), some (iv (nI r))] [] (f, g, X) = mclV (EL (mP L xs) (d + 13) 202 [rv 17 (some 0), iv (nI n)] (f2, g, X)) (fun h1 => RL (mP L xs) (d + 13) 207 116 [some (rv 17 (some 0)), some (iv (nI n)), some (iv 0)] [] h1) (fun e h => some (.inr e, h)) ∧
    RL (mP L xs) (d + 13) 236 120 [some (rv 22 (some 0)), some (iv (nI r)), z2] [] (u, Y) = mclV (EL (mP L xs) (d + 13) 233 [rv 22 (some 0)] (u2, Y)) (fun h1 => RL (mP L xs) (d + 13) 236 145 [some (rv 22 (some 0)), some (iv 0), z2] [] h1) (fun e h => some (.inr e, h)) ∧ TT B n s q rd ps en dp lp f2 g u2
  | 0, r, f, u, z2, hj, T => by
    have hn := T.n12
    have e : r = n := by omega
    subst e
    have hcn : u 22 0 20 = nI r := T.cn.2.2.2.1.2
    refine ⟨f, u, ?_, ?_, T⟩
    · rw [K_Runner_oneTick_86, if_neg (nI_nlt (Nat.le_refl r) (by omega))]
    · rw [K_Ref_ticks_120]
      simp only [hcn]
      rw [if_neg (nI_nlt (Nat.le_refl r) (by omega))]
  | j + 1, r, f, u, z2, hj, T => by
    have hn := T.n12
    have hcn : u 22 0 20 = nI n := T.cn.2.2.2.1.2
    obtain ⟨f1, u1, a1, a2, a3⟩ := p_ease (L := L) (xs := xs) T (show r < n by omega)
    obtain ⟨f2, u2, b1, b2, b3⟩ := k3_loop j (r + 1) f1 u1 z2 (by omega) a3
    refine ⟨f2, u2, ?_, ?_, b3⟩
    · rw [K_Runner_oneTick_86, if_pos (nI_lt (show r < n by omega) (by omega)), if_neg (nin (show r < 12 by omega) (by decide)), nI_clamp (show r < 2 ^ 31 by omega), a1 (d + 10) X, clV, nI_1, b1]
    · rw [K_Ref_ticks_120]
      simp only [hcn]
      rw [if_pos (nI_lt (show r < n by omega) (by omega)), a2 (d + 10) Y, clV, nI_1, b2]
theorem k4_loop : ∀ (j r B : Nat) (f : MI) (g : MR) (u : MI) (z2 : Option MV), r + j = n → B + 2 * j < 2 ^ 30 → TT B n s q rd ps en dp lp f g u → ∃ f2 g2 u2, RL (mP L xs) (d + 13) 207 116 [some (rv 17 (some 0)), some (iv (nI n)), some (iv (nI r))] [] (f, g, X) = RL (mP L xs) (d + 13) 207 142 [some (rv 17 (some 0)), some (iv (nI n)), some (iv 0)] [] (f2, g2, X) ∧
    RL (mP L xs) (d + 13) 236 145 [some (rv 22 (some 0)), some (iv (nI r)), z2] [] (u, Y) = RL (mP L xs) (d + 13) 236 223 [some (rv 22 (some 0)), some (iv 0), z2] [] (u2, Y) ∧ TT (B + 2 * j) n s q rd ps en dp lp f2 g2 u2
  | 0, r, B, f, g, u, z2, hj, hB, T => by
    have hn := T.n12
    have e : r = n := by omega
    subst e
    have hcn : u 22 0 20 = nI r := T.cn.2.2.2.1.2
    refine ⟨f, g, u, ?_, ?_, T⟩
    · rw [K_Runner_oneTick_116, if_neg (nI_nlt (Nat.le_refl r) (by omega))]
    · rw [K_Ref_ticks_145]
      simp only [hcn]
      rw [if_neg (nI_nlt (Nat.le_refl r) (by omega))]
  | j + 1, r, B, f, g, u, z2, hj, hB, T => by
    have hn := T.n12
    obtain ⟨f1, g1, u1, a1, a2, a3⟩ := p_blow (L := L) (xs := xs) T (by omega) (show r < n by omega)
    obtain ⟨f2, g2, u2, b1, b2, b3⟩ := k4_loop j (r + 1) (B + 2) f1 g1 u1 z2 (by omega) (by omega) a3
    refine ⟨f2, g2, u2, ?_, ?_, b3.le (by omega)⟩
    · rw [K_Runner_oneTick_116, if_pos (nI_lt (show r < n by omega) (by omega)), if_neg (nin (show r < 12 by omega) (by decide)), nI_clamp (show r < 2 ^ 31 by omega), a1 (d + 6) X, clV, nI_1, b1]
    · rw [a2 (d + 9) Y, b2]
theorem k5_loop : ∀ (j r : Nat) (f : MI) (u : MI) (z2 : Option MV), r + j = n → TT B n s q rd ps en dp lp f g u → ∃ f2 u2, RL (mP L xs) (d + 13) 207 142 [some (rv 17 (some 0)), some (iv (nI n)), some (iv (nI r))] [] (f, g, X) = some (.inl none, (f2, g, X)) ∧
    RL (mP L xs) (d + 13) 236 223 [some (rv 22 (some 0)), some (iv (nI r)), z2] [] (u, Y) = some (.inl none, (u2, Y)) ∧ TT B n s q rd ps en dp lp f2 g u2
  | 0, r, f, u, z2, hj, T => by
    have hn := T.n12
    have e : r = n := by omega
    subst e
    have hcn : u 22 0 20 = nI r := T.cn.2.2.2.1.2
    refine ⟨f, u, ?_, ?_, T⟩
    · rw [K_Runner_oneTick_142, if_neg (nI_nlt (Nat.le_refl r) (by omega))]
    · rw [K_Ref_ticks_223]
      simp only [hcn]
      rw [if_neg (nI_nlt (Nat.le_refl r) (by omega))]
  | j + 1, r, f, u, z2, hj, T => by
    have hn := T.n12
    obtain ⟨f1, u1, a1, a2, a3⟩ := p_grow (L := L) (xs := xs) T (show r < n by omega)
    obtain ⟨z, a2⟩ := a2 (d + 11) Y z2
    obtain ⟨f2, u2, b1, b2, b3⟩ := k5_loop j (r + 1) f1 u1 (some (iv z)) (by omega) a3
    refine ⟨f2, u2, ?_, ?_, b3⟩
    · rw [K_Runner_oneTick_142, if_pos (nI_lt (show r < n by omega) (by omega)), if_neg (nin (show r < 12 by omega) (by decide)), nI_clamp (show r < 2 ^ 31 by omega), a1 (d + 10) X, clV, nI_1, b1]
    · exact a2.trans b2
theorem p_tick1 (T : TT B n s q rd ps en dp lp f g u) (hB : B + 1200 < 2 ^ 30) : ∃ f2 g2 u2, EL (mP L xs) (d + 14) 207 [rv 17 (some 0)] (f, g, X) = some (.inl none, (f2, g2, X)) ∧
    EL (mP L xs) (d + 14) 236 [rv 22 (some 0)] (u, Y) = some (.inl none, (u2, Y)) ∧ TT (B + 1200) n s q rd ps en dp lp f2 g2 u2 := by
  have hn := T.n12
  have hcn : f 11 0 4 = nI n := T.cn.2.2.2.1.1
  have hcl : f 11 0 9 = u 22 0 79 := T.gb.1
  have T0 := TT_clk (v := u 22 0 79 + 1) T
  obtain ⟨f1, u1, z1, a1, a2, T1⟩ := k1_loop (L := L) (xs := xs) (d := d) (X := X) (Y := Y) n 0 B _ _ none (by omega) (by omega) T0
  obtain ⟨f2, g2, u2, b1, b2, T2⟩ := k2_loop (L := L) (xs := xs) (d := d) (X := X) (Y := Y) n 0 (B + n) f1 g u1 z1 (by omega) (by omega) T1
  obtain ⟨f3, u3, c1, c2, T3⟩ := k3_loop (L := L) (xs := xs) (d := d) (X := X) (Y := Y) n 0 f2 u2 z1 (by omega) T2
  obtain ⟨f4, g4, u4, d1, d2, T4⟩ := p_shed (L := L) (xs := xs) T3 (by omega)
  obtain ⟨f5, g5, u5, e1, e2, T5⟩ := k4_loop (L := L) (xs := xs) (d := d) (X := X) (Y := Y) n 0 _ f4 g4 u4 z1 (by omega) (by omega) T4
  obtain ⟨f6, u6, h1, h2, T6⟩ := k5_loop (L := L) (xs := xs) (d := d) (X := X) (Y := Y) n 0 f5 u5 z1 (by omega) T5
  have d1' : EL (mP L xs) (d + 13) 202 [rv 17 (some 0), iv (nI n)] (f3, g2, X) = some (.inl none, (f4, g4, X)) := d1 (d + 6) X
  have d2' : EL (mP L xs) (d + 13) 233 [rv 22 (some 0)] (u3, Y) = some (.inl none, (u4, Y)) := d2 (d + 8) Y
  rw [nI_0] at a1 a2 b1 b2 c1 c2 e1 e2 h1 h2
  rw [d1', clV, e1, h1] at c1
  rw [d2', clV, e2, h2] at c2
  refine ⟨f6, g5, u6, ?_, ?_, T6.le (by omega)⟩
  · rw [E_Runner_oneTick]
    simp only [hcn, hcl]
    rw [if_neg (show ¬ (12 : Int32) < nI n from nI_nlt (a := 12) (b := n) (by omega) (by decide)), a1, b1, c1]
  · rw [E_Ref_ticks]
    simp only []
    rw [a2, b2, c2]
theorem tk_loop {N : Nat} (hN : N ≤ 100) {v2 w2 : Int32} : ∀ (j k B : Nat) (f : MI) (g : MR) (u : MI), k + j = N → B + 1200 * j < 2 ^ 30 → TT B n s q rd ps en dp lp f g u → ∃ f2 g2 u2, RL (mP L xs) (d + 14) 208 35 [some (rv 21 (some 0)), some (iv (nI N)), some (iv v2), some (iv (nI k))] [] (f, g, X) = some (.inl (some (iv (u2 22 0 84 - v2))), (f2, g2, X)) ∧
    RL (mP L xs) (d + 14) 237 47 [some (rv 22 (some 0)), some (iv (nI N)), some (iv w2), some (iv (nI k))] [] (u, Y) = some (.inl (some (iv (u2 22 0 84 - w2))), (u2, Y)) ∧ TT (B + 1200 * j) n s q rd ps en dp lp f2 g2 u2 ∧ u2 22 0 90 = u 22 0 90
  | 0, k, B, f, g, u, hk, hB, T => by
    have e : k = N := by omega
    subst e
    have hl : f 11 0 14 = u 22 0 84 := T.gb.2.2.2.2.2
    refine ⟨f, g, u, ?_, ?_, T, rfl⟩
    · rw [K_House_tick_35, if_neg (nI_nlt (Nat.le_refl k) (by omega))]
      simp only [hl]
    · rw [K_Ref_tick_47, if_neg (nI_nlt (Nat.le_refl k) (by omega))]
  | j + 1, k, B, f, g, u, hk, hB, T => by
    have hB2 : B + 1200 + 1200 * j < 2 ^ 30 := by
      rw [Nat.mul_succ] at hB
      generalize 1200 * j = w at hB ⊢
      omega
    have hB3 : B + 1200 < 2 ^ 30 := Nat.lt_of_le_of_lt (Nat.le_add_right _ _) hB2
    obtain ⟨f1, g1, u1, a1, a2, a3⟩ := p_tick1 (L := L) (xs := xs) (d := d) (X := X) (Y := Y) T hB3
    obtain ⟨f2, g2, u2, b1, b2, b3, b4⟩ := tk_loop hN j (k + 1) (B + 1200) f1 g1 u1 (by omega) hB2 a3
    refine ⟨f2, g2, u2, ?_, ?_, b3.le (by rw [Nat.mul_succ]; generalize 1200 * j = w; omega), b4.trans (fm_at (show 236 < mNo by decide +kernel) a2 22 0 90 (by decide +kernel) (by decide +kernel)).1⟩
    · rw [K_House_tick_35, if_pos (nI_lt (show k < N by omega) (by omega)), a1, clV, nI_1, b1]
    · rw [K_Ref_tick_47, if_pos (nI_lt (show k < N by omega) (by omega)), a2, clV, nI_1, b2]
end Tck
