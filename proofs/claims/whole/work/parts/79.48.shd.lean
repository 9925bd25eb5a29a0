/-! ===== wear; shedding ===== -/
section Shd
variable {L : Nat} {xs : Nat → Int32} {d : Nat} {X : ML × (Nat → Nat) × Nat × Nat} {Y : MR × ML × (Nat → Nat) × Nat × Nat}
variable {B B' n s q : Nat} {rd ps en dp : Nat → Nat} {lp : Nat → Option Nat} {f f1 f2 f' : MI} {g g' : MR} {u u1 u2 u' : MI} {r a b : Nat}
/-- what a call does not write -/
theorem fm_at {m : Nat} {as : List MV} {h : MH} {x : MO} (hm : m < mNo) (hq : EL (mP L xs) d m as h = some x) (R o i : Nat) (h1 : (mEff m).testBit (lid R i) = false) (h2 : (mEff m).testBit (R * 128 + 127) = false) : x.2.1 R o i = h.1 R o i ∧ x.2.2.1 R o i = h.2.1 R o i := by
  have z := (EL_fm hm hq).1 R o i h1 (Or.inr h2)
  exact ⟨z.1, z.2.1⟩
theorem p_grow (T : TT B n s q rd ps en dp lp f g u) (hr : r < n) : ∃ (f2 u2 : MI), (∀ d X, EL (mP L xs) (d + 3) 206 [rv 16 (some r)] (f, g, X) = some (.inl none, (f2, g, X))) ∧
    (∀ d Y z2, ∃ z, RL (mP L xs) (d + 2) 236 223 [some (rv 22 (some 0)), some (iv (nI r)), z2] [] (u, Y) = RL (mP L xs) (d + 2) 236 223 [some (rv 22 (some 0)), some (iv (nI (r + 1))), some (iv z)] [] (u2, Y)) ∧ TT B n s q rd ps en dp lp f2 g u2 := by
  have hn := T.n12
  have nn : ¬ ino (nI r) 12 := nin (by omega) (by decide)
  have cl : (nI r).toNatClampNeg = r := nI_clamp (by omega)
  have hcn : u 22 0 20 = nI n := T.cn.2.2.2.1.2
  obtain ⟨⟨kd, M⟩, -⟩ := T.rr r hr
  obtain ⟨w, w1, w2⟩ := M.rg.we
  have hw : f 16 r 15 = nI w := M.mo.2.2.2.2.2.2.2.2.trans w2
  obtain ⟨v, ⟨k, k1, rfl⟩, v1, v2⟩ := b_uni (L := L) (xs := xs) (f := f) (g := g) (u := u) (Pv := fun v => ∃ k : Nat, k ≤ 300 ∧ v = nI k) (mc := 205) (ac := [rv 16 (some r)]) (mr := 235) (ar := [rv 22 (some 0), iv (nI r)]) (fun d X Y => by
    obtain ⟨k, k1, k2, k3⟩ := b_tear (L := L) (xs := xs) (d := d) M (hc := (f, g, X)) (hr := (u, Y)) rfl rfl
    exact ⟨nI k, ⟨k, k1, rfl⟩, k2, k3⟩)
  refine ⟨_, _, fun d X => ?_, fun d Y z2 => ⟨nI (w + k), ?_⟩, TT_m15 (v := nI (if w + k < 9999 then w + k else 9999)) T hr (fun kd' M' => Rng_81 M'.rg ⟨_, ?_, rfl⟩)⟩
  · rw [E_Ride_grow, v1 d X]
    simp only [clI, hw, nI_add]
    by_cases z : w + k < 9999
    · rw [if_pos z, if_pos (show nI (w + k) < 9999 from nI_lt (b := 9999) z (by decide))]
    · rw [if_neg z, if_neg (show ¬ nI (w + k) < 9999 from nI_nlt (a := w + k) (b := 9999) (by omega) (by omega))]
      rfl
  · rw [K_Ref_ticks_223]
    simp only [hcn, if_pos (nI_lt hr (show n < 2 ^ 31 by omega)), nn, if_false, cl, v2 d Y, clI, w2, nI_add, nI_1]
    by_cases z : 9999 < w + k
    · rw [if_pos (show 9999 < nI (w + k) from nI_lt (a := 9999) z (by omega)), if_neg (by omega)]
      rfl
    · rw [if_neg (show ¬ 9999 < nI (w + k) from nI_nlt (a := 9999) (b := w + k) (by omega) (by decide))]
      by_cases z2 : w + k < 9999
      · rw [if_pos z2]
      · rw [if_neg z2, show w + k = 9999 by omega]
  · split <;> omega
theorem dr_cg {d' : Nat} {X' : ML × (Nat → Nat) × Nat × Nat} (h4 : f' 16 r 4 = f 16 r 4) (h7 : f' 16 r 7 = f 16 r 7) (h11 : f' 16 r 11 = f 16 r 11) (h13 : f' 16 r 13 = f 16 r 13) (h14 : f' 16 r 14 = f 16 r 14) (n0 : f' 27 r 0 = f 27 r 0) (n2 : f' 27 r 2 = f 27 r 2) (n5 : f' 27 r 5 = f 27 r 5) {v : Int32}
    (e : EL (mP L xs) (d + 2) 196 [rv 16 (some r)] (f, g, X) = some (.inl (some (iv v)), (f, g, X))) : EL (mP L xs) (d' + 2) 196 [rv 16 (some r)] (f', g', X') = some (.inl (some (iv v)), (f', g', X')) := by
  simp only [E_Ride_draw, E_Ride_turnsDraw, E_Ride_liftsDraw, E_Ride_lampsDraw, clI, clI_ite, ite_val] at e ⊢
  simp only [h4, h7, h11, h13, h14, n0, n2, n5]
  injection e with e
  injection e with e
  injection e with e
  injection e with e
  injection e with e
  rw [e]
/-- the draws, one number a ride -/
def DR (L : Nat) (xs : Nat → Int32) (f : MI) (g : MR) (D : Nat → Nat) (n : Nat) : Prop := ∀ i, i < n → D i ≤ 3000 ∧ ∀ d X, EL (mP L xs) (d + 2) 196 [rv 16 (some i)] (f, g, X) = some (.inl (some (iv (nI (D i)))), (f, g, X))
theorem dr_ex (T : TT B n s q rd ps en dp lp f g u) : ∃ D : Nat → Nat, DR L xs f g D n := by
  have h : ∀ i, ∃ k : Nat, i < n → k ≤ 3000 ∧ ∀ d X, EL (mP L xs) (d + 2) 196 [rv 16 (some i)] (f, g, X) = some (.inl (some (iv (nI k))), (f, g, X)) := by
    intro i
    by_cases hi : i < n
    · obtain ⟨⟨kd, M⟩, -⟩ := T.rr i hi
      obtain ⟨v, ⟨k, k1, rfl⟩, v1, v2⟩ := b_uni (L := L) (xs := xs) (f := f) (g := g) (u := u) (Pv := fun v => ∃ k : Nat, k ≤ 3000 ∧ v = nI k) (mc := 196) (ac := [rv 16 (some i)]) (mr := 232) (ar := [rv 22 (some 0), iv (nI i)]) (fun d X Y => by
        obtain ⟨k, k1, k2, k3⟩ := b_draw (L := L) (xs := xs) (d := d) M (hc := (f, g, X)) (hr := (u, Y)) rfl rfl
        exact ⟨nI k, ⟨k, k1, rfl⟩, k2, k3⟩)
      exact ⟨k, fun _ => ⟨k1, v1⟩⟩
    · exact ⟨0, fun z => absurd z hi⟩
  obtain ⟨D, hD⟩ := Classical.skolem.mp h
  exact ⟨D, hD⟩
theorem dr_u {D : Nat → Nat} (T : TT B n s q rd ps en dp lp f g u) (hD : DR L xs f g D n) (hr : r < n) (d : Nat) (Y : MR × ML × (Nat → Nat) × Nat × Nat) : EL (mP L xs) (d + 2) 232 [rv 22 (some 0), iv (nI r)] (u, Y) = some (.inl (some (iv (nI (D r)))), (u, Y)) := by
  obtain ⟨⟨kd, M⟩, -⟩ := T.rr r hr
  obtain ⟨k, k1, k2, k3⟩ := b_draw (L := L) (xs := xs) (d := d) M (hc := (f, g, (fun _ _ _ => 0, fun _ => 0, 0, 0))) (hr := (u, Y)) rfl rfl
  have e := (hD r hr).2 d (fun _ _ _ => 0, fun _ => 0, 0, 0)
  rw [k2] at e
  injection e with e
  injection e with e
  injection e with e
  injection e with e
  injection e with e
  rw [k3, e]
theorem sN_le {D : Nat → Nat} {c : Nat} : ∀ {n : Nat}, (∀ i, i < n → D i ≤ c) → sN D n ≤ c * n
  | 0, _ => by unfold sN; omega
  | n + 1, h => by
    unfold sN
    have h1 := sN_le (fun i hi => h i (Nat.lt_succ_of_lt hi)) (n := n)
    have h2 := h n (Nat.lt_succ_self n)
    rw [Nat.mul_succ]
    omega
theorem ad_c {D : Nat → Nat} (T : TT B n s q rd ps en dp lp f g u) (hD : DR L xs f g D n) : ∀ (j k d : Nat) (X : ML × (Nat → Nat) × Nat × Nat), k + j = n → RL (mP L xs) (d + 2) 197 4 [some (rv 11 (some 0)), some (iv (nI (sN D k))), some (iv (nI k))] [] (f, g, X) = some (.inl (some (iv (nI (sN D n)))), (f, g, X))
  | 0, k, d, X, hk => by
    have hn := T.n12
    have e : k = n := by omega
    subst e
    have hcn : f 11 0 4 = nI k := T.cn.2.2.2.1.1
    rw [K_Fair_allDraws_4]
    simp only [hcn]
    rw [if_neg (nI_nlt (Nat.le_refl k) (by omega))]
  | j + 1, k, d, X, hk => by
    have hn := T.n12
    have hcn : f 11 0 4 = nI n := T.cn.2.2.2.1.1
    rw [K_Fair_allDraws_4]
    simp only [hcn, if_pos (nI_lt (show k < n by omega) (show n < 2 ^ 31 by omega)), if_pos (show nI k < 12 from nI_lt (b := 12) (by omega) (by decide)), if_neg (nin (show k < 12 by omega) (show 12 < 2 ^ 31 by decide)), nI_clamp (show k < 2 ^ 31 by omega), (hD k (by omega)).2, clI, nI_add, nI_1]
    exact ad_c T hD j (k + 1) d X (by omega)
theorem ad_u {D : Nat → Nat} (hD : DR L xs f g D n) : ∀ (j k : Nat) (u : MI), k + j = n → TT B n s q rd ps en dp lp f g u → (∀ i, i < k → u 97 0 i = nI (D i)) →
    ∃ u2, (∀ d Y, RL (mP L xs) (d + 2) 233 4 [some (rv 22 (some 0)), some (iv (nI (sN D k))), some (iv (nI k))] [] (u, Y) = RL (mP L xs) (d + 2) 233 45 [some (rv 22 (some 0)), some (iv (nI (sN D n))), some (iv (nI n + (-1)))] [] (u2, Y)) ∧ TT B n s q rd ps en dp lp f g u2 ∧ ∀ i, i < n → u2 97 0 i = nI (D i)
  | 0, k, u, hk, T, h9 => by
    have hn := T.n12
    have e : k = n := by omega
    subst e
    have hcn : u 22 0 20 = nI k := T.cn.2.2.2.1.2
    refine ⟨u, fun d Y => ?_, T, h9⟩
    rw [K_Ref_shed_4]
    simp only [hcn]
    rw [if_neg (nI_nlt (Nat.le_refl k) (by omega)), Int32.sub_eq_add_neg]
  | j + 1, k, u, hk, T, h9 => by
    have hn := T.n12
    have hcn : u 22 0 20 = nI n := T.cn.2.2.2.1.2
    have T2 : TT B n s q rd ps en dp lp f g (m3 u 97 0 k (nI (D k))) := TT_ns rfl (mk_m3 rfl) T
    obtain ⟨u2, e1, e2, e3⟩ := ad_u hD j (k + 1) (m3 u 97 0 k (nI (D k))) (by omega) T2 (fun i hi => by
      by_cases z : i = k
      · rw [z, m3_eq]
      · rw [m3_i z]
        exact h9 i (by omega))
    refine ⟨u2, fun d Y => ?_, e2, e3⟩
    rw [K_Ref_shed_4]
    simp only [hcn, if_pos (nI_lt (show k < n by omega) (show n < 2 ^ 31 by omega)), dr_u T hD (show k < n by omega), clI, if_neg (nin (show k < 12 by omega) (show 12 < 2 ^ 31 by decide)), nI_clamp (show k < 2 ^ 31 by omega), m3_eq, nI_add, nI_1]
    exact e1 d Y
theorem dk_0 (T : TT B n s q rd ps en dp lp f g u) (hr : r < n) : TT B n s q rd ps en dp lp (m3 (m3 (m3 (m3 f 16 r 8 0) 16 r 10 0) 16 r 13 0) 16 r 14 0) g (m3 (m3 (m3 (m3 u 74 0 r 0) 76 0 r 0) 79 0 r 0) 80 0 r 0) :=
  TT_m14 (TT_m13 (goal0 T hr) hr (fun kd M => Rng_79 M.rg ⟨0, by omega, rfl⟩ (fun _ => rfl))) hr (fun kd M => Rng_80 M.rg ⟨0, by omega, rfl⟩ (fun _ => rfl))
theorem sh_loop (hn : n ≤ 12) {D : Nat → Nat} : ∀ (k B : Nat) (f : MI) (g : MR) (u : MI) (v : Int32), k ≤ n → B + 3 * k < 2 ^ 30 → TT B n s q rd ps en dp lp f g u → DR L xs f g D k → (∀ i, i < k → u 97 0 i = nI (D i)) →
    ∃ f2 g2 u2, (∀ d X z4 z5 v1, RL (mP L xs) (d + 6) 202 12 [some (rv 17 (some 0)), some (iv v1), some (iv v), some (iv (nI k + (-1))), z4, z5] [] (f, g, X) = some (.inl none, (f2, g2, X))) ∧
      (∀ d Y, RL (mP L xs) (d + 4) 233 45 [some (rv 22 (some 0)), some (iv v), some (iv (nI k + (-1)))] [] (u, Y) = some (.inl none, (u2, Y))) ∧ TT (B + 3 * k) n s q rd ps en dp lp f2 g2 u2
  | 0, B, f, g, u, v, hk, hB, T, hD, h9 => by
    refine ⟨f, g, u, fun d X z4 z5 v1 => ?_, fun d Y => ?_, T⟩
    · rw [K_Runner_shed_12, if_pos (by decide)]
    · rw [K_Ref_shed_45, if_pos (by decide)]
  | k + 1, B, f, g, u, v, hk, hB, T, hD, h9 => by
    have ek : nI (k + 1) + (-1) = nI k := by
      rw [← Int32.sub_eq_add_neg, ← nI_1, Int32.add_sub_cancel]
    have nn : ¬ ino (nI k) 12 := nin (by omega) (by decide)
    have cl : (nI k).toNatClampNeg = k := nI_clamp (by omega)
    have hp : f 11 0 8 = u 22 0 23 := T.cn.2.2.2.2.2.2
    have n0 : ¬ nI k < 0 := nI_pos (by omega)
    have n12 : nI k < 12 := nI_lt (b := 12) (by omega) (by decide)
    have hkn : k < n := by omega
    obtain ⟨⟨kd, M⟩, -⟩ := T.rr k hkn
    have t8 := M.mo.2.1
    have t10 := M.mo.2.2.2.1
    have t13 := M.mo.2.2.2.2.2.2.1
    have t14 := M.mo.2.2.2.2.2.2.2.1
    have keyC := fun d X z4 z5 v1 => K_Runner_shed_12 (L := L) (xs := xs) (d := d + 6) (z4 := z4) (z5 := z5) v1 v (nI k) (f, g, X)
    have keyU := fun d Y => K_Ref_shed_45 (L := L) (xs := xs) (d := d + 4) v (nI k) (u, Y)
    obtain ⟨hD1, hD2⟩ := hD k (Nat.lt_succ_self k)
    have hD2' : ∀ d X, EL (mP L xs) (d + 6) 196 [rv 16 (some k)] (f, g, X) = some (.inl (some (iv (nI (D k)))), (f, g, X)) := fun d X => hD2 (d + 4) X
    have h9k := h9 k (Nat.lt_succ_self k)
    simp only [if_neg n0, if_pos n12, hp, nn, if_false, cl, hD2', clI] at keyC
    simp only [if_neg n0, nn, if_false, cl, h9k] at keyU
    rw [ek]
    by_cases c0 : u 22 0 23 < v
    · simp only [if_pos c0] at keyC keyU
      have next : ∀ (hC : ∀ d X z4 z5 v1, ∃ z4' z5', RL (mP L xs) (d + 6) 202 12 [some (rv 17 (some 0)), some (iv v1), some (iv v), some (iv (nI k)), z4, z5] [] (f, g, X) = RL (mP L xs) (d + 6) 202 12 [some (rv 17 (some 0)), some (iv v1), some (iv v), some (iv (nI k + (-1))), z4', z5'] [] (f, g, X))
          (hU : ∀ d Y, RL (mP L xs) (d + 4) 233 45 [some (rv 22 (some 0)), some (iv v), some (iv (nI k))] [] (u, Y) = RL (mP L xs) (d + 4) 233 45 [some (rv 22 (some 0)), some (iv v), some (iv (nI k + (-1)))] [] (u, Y)),
          ∃ f2 g2 u2, (∀ d X z4 z5 v1, RL (mP L xs) (d + 6) 202 12 [some (rv 17 (some 0)), some (iv v1), some (iv v), some (iv (nI k)), z4, z5] [] (f, g, X) = some (.inl none, (f2, g2, X))) ∧
            (∀ d Y, RL (mP L xs) (d + 4) 233 45 [some (rv 22 (some 0)), some (iv v), some (iv (nI k))] [] (u, Y) = some (.inl none, (u2, Y))) ∧ TT (B + 3 * (k + 1)) n s q rd ps en dp lp f2 g2 u2 := by
        intro hC hU
        obtain ⟨f2, g2, u2, e1, e2, e3⟩ := sh_loop hn k B f g u v (by omega) (by omega) T (fun i hi => hD i (by omega)) (fun i hi => h9 i (by omega))
        refine ⟨f2, g2, u2, fun d X z4 z5 v1 => ?_, fun d Y => ?_, e3.le (by omega)⟩
        · obtain ⟨z4', z5', h⟩ := hC d X z4 z5 v1
          rw [h, e1]
        · rw [hU, e2]
      by_cases c1 : D k = 0
      · rw [c1, nI_0] at keyC keyU
        simp only [if_neg (show ¬ (0 : Int32) < 0 by decide)] at keyC
        simp only [if_true] at keyU
        exact next (fun d X z4 z5 v1 => ⟨_, _, keyC d X z4 z5 v1⟩) keyU
      · have p1 : 0 < nI (D k) := nI_lt (a := 0) (by omega) (by omega)
        have p2 : ¬ nI (D k) = 0 := fun e => c1 ((nI_eq (b := 0) (by omega) (by decide)).mp e)
        simp only [if_pos p1, E_Ride_canBeShed, E_Ride_hasGoal, t8, t10, t13, t14, clI, clI_ite, ite_val] at keyC
        simp only [if_neg p2] at keyU
        by_cases c2 : u 74 0 k = 0 ∧ u 76 0 k = 0 ∧ u 79 0 k = 0 ∧ u 80 0 k = 0
        · obtain ⟨a1, a2, a3, a4⟩ := c2
          simp only [a1, a2, a3, a4, if_true, clI] at keyC
          simp only [a1, a2, a3, a4, if_true] at keyU
          exact next (fun d X z4 z5 v1 => ⟨_, _, keyC d X z4 z5 v1⟩) keyU
        · have keyU2 : ∀ d Y, RL (mP L xs) (d + 4) 233 45 [some (rv 22 (some 0)), some (iv v), some (iv (nI k))] [] (u, Y) = RL (mP L xs) (d + 4) 233 105 [some (rv 22 (some 0)), some (iv v), some (iv (nI k))] [] (u, Y) := fun d Y => by
            rw [keyU]
            by_cases a1 : u 74 0 k = 0
            · by_cases a2 : u 76 0 k = 0
              · by_cases a3 : u 79 0 k = 0
                · by_cases a4 : u 80 0 k = 0
                  · exact absurd ⟨a1, a2, a3, a4⟩ c2
                  · rw [if_pos a1, if_pos a2, if_pos a3, if_neg a4]
                · rw [if_pos a1, if_pos a2, if_neg a3]
              · rw [if_pos a1, if_neg a2]
            · rw [if_neg a1]
          have hone : (if u 74 0 k = 0 then if u 76 0 k = 0 then (0 : Int32) else 1 else 1) = 0 → (if u 79 0 k = 0 then if u 80 0 k = 0 then (0 : Int32) else 1 else 1) = 1 := by
            intro h
            by_cases a1 : u 74 0 k = 0
            · by_cases a2 : u 76 0 k = 0
              · by_cases a3 : u 79 0 k = 0
                · by_cases a4 : u 80 0 k = 0
                  · exact absurd ⟨a1, a2, a3, a4⟩ c2
                  · rw [if_pos a3, if_neg a4]
                · rw [if_neg a3]
              · rw [if_pos a1, if_neg a2] at h
                exact absurd h (by decide)
            · rw [if_neg a1] at h
              exact absurd h (by decide)
          have hsh : (if (if u 74 0 k = 0 then if u 76 0 k = 0 then (0 : Int32) else 1 else 1) = 0 then (if u 79 0 k = 0 then if u 80 0 k = 0 then (0 : Int32) else 1 else 1) else 1) = 1 := by
            by_cases z : (if u 74 0 k = 0 then if u 76 0 k = 0 then (0 : Int32) else 1 else 1) = 0
            · rw [if_pos z]; exact hone z
            · rw [if_neg z]
          simp only [hsh, if_neg (show ¬ (1 : Int32) = 0 by decide), E_Ride_goDark, E_Ride_dropGoals, clV] at keyC
          have T1 := dk_0 T hkn
          obtain ⟨f4, u4, n1, n2, n3, n4, n5⟩ := p_note (L := L) (xs := xs) T1 (by omega) 3 (nI k) (nI (D k))
          obtain ⟨f5, g5, u5, o1, o2, o3⟩ := p_out (L := L) (xs := xs) n3 (by omega) hkn 7
          have hix : (m3 (m3 (m3 (m3 f 16 k 8 0) 16 k 10 0) 16 k 13 0) 16 k 14 0) 16 k 0 = nI k := by
            rw [m3_i (by decide), m3_i (by decide), m3_i (by decide), m3_i (by decide)]
            exact M.ix
          have h97 : (m3 (m3 (m3 (m3 u 74 0 k 0) 76 0 k 0) 79 0 k 0) 80 0 k 0) 97 0 k = nI (D k) := h9k
          have hfr : ∀ R o i, (mEff 201).testBit (lid R i) = false → (mEff 201).testBit (R * 128 + 127) = false → nnC R i = true → ¬ (R = 16 ∧ o = k) → f5 R o i = f R o i := fun R o i b1 b2 b3 b4 => by
            have h1 := (fm_at (show 201 < mNo by decide +kernel) (o1 0 (fun _ _ _ => 0, fun _ => 0, 0, 0)) R o i b1 b2).1
            have h2 := mk_at n4 R o i b3
            have h3 : ∀ (h : MI) (j : Nat), m3 h 16 k j 0 R o i = h R o i := fun h j => m3_no (fun z => b4 ⟨z.1, z.2.1⟩)
            exact h1.trans (h2.trans (by rw [h3, h3, h3, h3]))
          obtain ⟨f2, g2, u2, e1, e2, e3⟩ := sh_loop (D := D) hn k (B + 3) f5 g5 u5 (v - nI (D k)) (by omega) (by omega) o3 (fun i hi => by
            obtain ⟨q1, q2⟩ := hD i (by omega)
            have bb : ¬ ((16 : Nat) = 16 ∧ i = k) := fun z => by omega
            have bc : ¬ ((27 : Nat) = 16 ∧ i = k) := fun z => absurd z.1 (by decide)
            refine ⟨q1, fun d X => dr_cg (hfr 16 i 4 (by decide +kernel) (by decide +kernel) rfl bb) (hfr 16 i 7 (by decide +kernel) (by decide +kernel) rfl bb) (hfr 16 i 11 (by decide +kernel) (by decide +kernel) rfl bb) (hfr 16 i 13 (by decide +kernel) (by decide +kernel) rfl bb) (hfr 16 i 14 (by decide +kernel) (by decide +kernel) rfl bb) (hfr 27 i 0 (by decide +kernel) (by decide +kernel) rfl bc) (hfr 27 i 2 (by decide +kernel) (by decide +kernel) rfl bc) (hfr 27 i 5 (by decide +kernel) (by decide +kernel) rfl bc) (q2 0 X)⟩) (fun i hi => by
            have h1 : u4 97 0 i = nI (D i) := (mk_at n5 97 0 i rfl).trans (h9 i (by omega))
            rcases o2 with ⟨-, o4⟩ | ⟨-, rfl⟩
            · have h2 := (fm_at (show 218 < mNo by decide +kernel) (o4 0 (fun _ _ _ => none, fun _ _ _ => 0, fun _ => 0, 0, 0)) 97 0 i (by rw [lid_arr (by decide +kernel)]; decide +kernel) (by decide +kernel)).1
              exact h2.trans h1
            · exact h1)
          refine ⟨f2, g2, u2, fun d X z4 z5 v1 => ?_, fun d Y => ?_, e3.le (by omega)⟩
          · rw [keyC, hix, n1 (d + 5) X]
            simp only [clV]
            rw [o1 d X]
            simp only [clV]
            rw [e1]
          · rw [keyU2, K_Ref_shed_105]
            simp only [nn, if_false, cl, h97, n2 (d + 3) Y, clV]
            rcases o2 with ⟨o2, o4⟩ | ⟨o2, rfl⟩
            · rw [if_pos o2, o4 d Y]
              simp only [clV]
              rw [e2]
            · rw [if_neg o2, e2]
    · simp only [if_neg c0] at keyC keyU
      exact ⟨f, g, u, keyC, keyU, T.le (by omega)⟩
theorem p_shed (T : TT B n s q rd ps en dp lp f g u) (hB : B + 36 < 2 ^ 30) : ∃ f2 g2 u2, (∀ d X, EL (mP L xs) (d + 7) 202 [rv 17 (some 0), iv (nI n)] (f, g, X) = some (.inl none, (f2, g2, X))) ∧
    (∀ d Y, EL (mP L xs) (d + 5) 233 [rv 22 (some 0)] (u, Y) = some (.inl none, (u2, Y))) ∧ TT (B + 36) n s q rd ps en dp lp f2 g2 u2 := by
  have hn := T.n12
  obtain ⟨D, hD⟩ := dr_ex (L := L) (xs := xs) T
  obtain ⟨u1, a1, a2, a3⟩ := ad_u (B := B) (s := s) (q := q) (rd := rd) (ps := ps) (en := en) (dp := dp) (lp := lp) hD n 0 u (by omega) T (fun i hi => absurd hi (Nat.not_lt_zero i))
  obtain ⟨f2, g2, u2, e1, e2, e3⟩ := sh_loop (L := L) (xs := xs) hn n B f g u1 (nI (sN D n)) (Nat.le_refl n) (by omega) a2 hD a3
  refine ⟨f2, g2, u2, fun d X => ?_, fun d Y => ?_, e3.le (by omega)⟩
  · have h1 := ad_c T hD n 0 (d + 3) X (by omega)
    rw [E_Runner_shed, E_Fair_allDraws]
    have h1' : RL (mP L xs) (d + 5) 197 4 [some (rv 11 (some 0)), some (iv 0), some (iv 0)] [] (f, g, X) = some (.inl (some (iv (nI (sN D n)))), (f, g, X)) := h1
    rw [h1', clI, Int32.sub_eq_add_neg, e1]
  · have h1 := a1 (d + 2) Y
    rw [E_Ref_shed]
    exact h1.trans (e2 d Y)
end Shd
