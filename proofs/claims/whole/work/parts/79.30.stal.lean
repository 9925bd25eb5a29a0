/-! ===== staff; a stall ===== -/
theorem sN_cg {H H' : Nat → Nat} : ∀ {n : Nat}, (∀ r, r < n → H' r = H r) → sN H' n = sN H n
  | 0, _ => rfl
  | n + 1, h => by
    unfold sN
    rw [sN_cg (fun r hr => h r (by omega)), h n (by omega)]
theorem sN_up {H : Nat → Nat} {r x : Nat} : ∀ {n : Nat}, r < n → sN (fun k => if k = r then x else H k) n + H r = sN H n + x
  | 0, h => by omega
  | n + 1, h => by
    unfold sN
    by_cases e : r = n
    · subst e
      rw [sN_cg (H := H) (fun k hk => if_neg (by omega))]
      simp only [if_true]
      omega
    · have := sN_up (H := H) (r := r) (x := x) (n := n) (by omega)
      simp only [if_neg (show ¬ n = r by omega)]
      omega
section Stall
variable {L : Nat} {xs : Nat → Int32} {d : Nat} {X : ML × (Nat → Nat) × Nat × Nat} {Y : MR × ML × (Nat → Nat) × Nat × Nat}
variable {B n s q : Nat} {rd ps en dp : Nat → Nat} {lp : Nat → Option Nat} {f f1 : MI} {g : MR} {u u1 : MI} {r : Nat}
theorem TT_staff (T : TT B n s q rd ps en dp lp f g u) (hr : r < n) {k : Nat} (hk : k < 6) {x y : Int32} (hx : k < s → ∃ i' h' : Nat, x = nI i' ∧ y = nI h' ∧ h' ≤ 2 ∧ ∀ i h : Nat, u 91 0 k = nI i → u 90 0 (6 * r + k) = nI h → i ≤ 9 → h ≤ 2 → i' + h' = i + h) :
    TT B n s q rd ps en dp lp (m3 (m3 f 30 0 k x) 26 r k y) g (m3 (m3 u 91 0 k x) 90 0 (6 * r + k) y) := by
  obtain ⟨⟨kd, M⟩, ⟨m, Q⟩, ⟨s1, s2, s3, s4, s5⟩, P⟩ := T.rr r hr
  refine TT_ride T hr (fun r' h => (EqC.gl rfl).tr (EqC.ob h)) (fun r' h => (EqU.gl rfl).tr (EqU.s2 (Or.inr (Or.inr (Or.inl ⟨rfl, rfl, hk⟩))) h)) (fun b _ => rfl) (fun r' _ => ⟨rfl, rfl⟩) ((mk_m3 rfl).trans (mk_m3 rfl)) rfl ((mk_m3 rfl).trans (mk_m3 rfl)) T.cn T.gb T.lg (fun j hj => ⟨?_, (T.sf j hj).2⟩) (fun j hj => ?_) T.fl ⟨⟨kd, M⟩, ⟨m, Q⟩, ⟨s1, s2, s3, s4, fun j hj => ?_⟩, P⟩
  · show m3 f 30 0 k x 30 0 j = m3 u 91 0 k x 91 0 j
    by_cases e : j = k
    · rw [e, m3_eq, m3_eq]
    · rw [m3_i e, m3_i e]
      exact (T.sf j hj).1
  · obtain ⟨i, H, a1, a2, a3⟩ := T.ss j hj
    by_cases e : j = k
    · subst e
      obtain ⟨i', h', b1, b2, b3, b4⟩ := hx hj
      have h2 := a2 r hr
      have hup := sN_up (H := H) (r := r) (x := h') (n := n) hr
      have hle : H r ≤ sN H n := by
        have := sN_up (H := H) (r := r) (x := 0) (n := n) hr
        omega
      have hb := b4 i (H r) a1 h2.1 (by omega) h2.2
      refine ⟨i', fun k => if k = r then h' else H k, by rw [m3_r (by decide), m3_eq, b1], fun r' hr' => ?_, by omega⟩
      by_cases e : r' = r
      · rw [e, m3_eq]
        simp only [if_true]
        exact ⟨b2, b3⟩
      · rw [m3_i (by omega), m3_r (by decide)]
        simp only [if_neg e]
        exact a2 r' hr'
    · refine ⟨i, H, by rw [m3_r (by decide), m3_i e]; exact a1, fun r' hr' => ?_, a3⟩
      have hs6 : s ≤ 6 := T.cn.2.1
      rw [m3_i (by omega), m3_r (by decide)]
      exact a2 r' hr'
  · by_cases e : j = k
    · rw [e, m3_eq, m3_eq]
    · rw [m3_i e, m3_r (by decide), m3_i (by omega), m3_r (by decide)]
      exact s5 j hj
/-- all staff that the ride holds is free again -/
theorem fr_loop (hr : r < n) : ∀ (j k : Nat) (f u : MI), k + j = 6 → TT B n s q rd ps en dp lp f g u → ∃ f1 u1, (∀ d X, RL (mP L xs) d 185 2 [some (rv 17 (some 0)), some (rv 18 (some r)), some (iv (nI k))] [] (f, g, X) = some (.inl none, (f1, g, X))) ∧
      (∀ d Y v2 v3, RL (mP L xs) d 218 41 [some (rv 22 (some 0)), some (iv (nI r)), some (iv v2), some (iv v3), some (iv (nI k))] [] (u, Y) = mclV (EL (mP L xs) d 211 [rv 22 (some 0), iv 2, iv (nI r), iv v2] (u1, Y)) (fun h1 => some (.inl none, h1)) (fun e h => some (.inr e, h))) ∧ TT B n s q rd ps en dp lp f1 g u1 ∧ f1 18 r = f 18 r ∧ u1 82 0 r = u 82 0 r
  | 0, k, f, u, hk, T => by
    have e : k = 6 := by omega
    subst e
    refine ⟨f, u, fun d X => ?_, fun d Y v2 v3 => ?_, T, rfl, rfl⟩
    · rw [K_Runner_freeAll_2]
      simp (decide := true) only [onS_s, if_false]
    · rw [K_Ref_stalls_41]
      simp (decide := true) only [if_false]
  | j + 1, k, f, u, hk, T => by
    have hk6 : k < 6 := by omega
    have hn := T.n12
    obtain ⟨-, -, ⟨s1, s2, s3, s4, s5⟩, -⟩ := T.rr r hr
    have hs5 := s5 k hk6
    have T2 : TT B n s q rd ps en dp lp (m3 (m3 f 30 0 k (f 30 0 k + f 26 r k)) 26 r k 0) g (m3 (m3 u 91 0 k (u 91 0 k + u 90 0 (6 * r + k))) 90 0 (6 * r + k) 0) := by
      by_cases hs : k < s
      · obtain ⟨i, H, a1, a2, a3⟩ := T.ss k hs
        have e1 : f 30 0 k + f 26 r k = nI (i + H r) := by rw [(T.sf k hs).1, hs5, a1, (a2 r hr).1, nI_add]
        have e2 : u 91 0 k + u 90 0 (6 * r + k) = nI (i + H r) := by rw [a1, (a2 r hr).1, nI_add]
        rw [e1, e2]
        refine TT_staff T hr hk6 (fun _ => ⟨i + H r, 0, rfl, rfl, by omega, fun i9 h9 b1 b2 b3 b4 => ?_⟩)
        rw [a1] at b1
        rw [(a2 r hr).1] at b2
        have hle : H r ≤ sN H n := by
          have := sN_up (H := H) (r := r) (x := 0) (n := n) hr
          omega
        have c1 := (nI_eq (a := i) (b := i9) (by omega) (by omega)).mp b1
        have c2 := (nI_eq (a := H r) (b := h9) (by omega) (by omega)).mp b2
        omega
      · -- such staff was not told
        obtain ⟨⟨kd, M⟩, ⟨m, Q⟩, -, P⟩ := T.rr r hr
        refine TT_ride T hr (fun r' h => (EqC.gl rfl).tr (EqC.ob h)) (fun r' h => (EqU.gl rfl).tr (EqU.s2 (Or.inr (Or.inr (Or.inl ⟨rfl, rfl, hk6⟩))) h)) (fun b _ => rfl) (fun r' _ => ⟨rfl, rfl⟩) ((mk_m3 rfl).trans (mk_m3 rfl)) rfl ((mk_m3 rfl).trans (mk_m3 rfl)) T.cn T.gb T.lg (fun j hj => ⟨?_, (T.sf j hj).2⟩) (fun j hj => ?_) T.fl ⟨⟨kd, M⟩, ⟨m, Q⟩, ⟨s1, s2, s3, s4, fun j hj => ?_⟩, P⟩
        · show m3 f 30 0 k _ 30 0 j = m3 u 91 0 k _ 91 0 j
          rw [m3_i (by omega), m3_i (by omega)]
          exact (T.sf j hj).1
        · obtain ⟨i, H, a1, a2, a3⟩ := T.ss j hj
          have hs6 : s ≤ 6 := T.cn.2.1
          refine ⟨i, H, by rw [m3_r (by decide), m3_i (by omega)]; exact a1, fun r' hr' => ?_, a3⟩
          rw [m3_i (by omega), m3_r (by decide)]
          exact a2 r' hr'
        · by_cases e : j = k
          · rw [e, m3_eq, m3_eq]
          · rw [m3_i e, m3_r (by decide), m3_i (by omega), m3_r (by decide)]
            exact s5 j hj
    obtain ⟨f1, u1, h1, h2, h3, h4, h5⟩ := fr_loop hr j (k + 1) _ _ (by omega) T2
    refine ⟨f1, u1, fun d X => ?_, fun d Y v2 v3 => ?_, h3, h4.trans (by rw [m3_row (Or.inl (by decide)), m3_row (Or.inl (by decide))]), h5⟩
    · rw [K_Runner_freeAll_2]
      simp only [onS_s, if_pos (show nI k < 6 from nI_lt (b := 6) hk6 (by decide)), if_neg (nin hk6 (by decide)), nI_clamp (show k < 2 ^ 31 by omega), nI_1]
      exact h1 d X
    · rw [K_Ref_stalls_41]
      simp only [if_pos (show nI k < 6 from nI_lt (b := 6) hk6 (by decide)), if_neg (nin hk6 (by decide)), nI_clamp (show k < 2 ^ 31 by omega), show (6 : Int32) * nI r = nI (6 * r) from nI_mul 6 r, nI_add, if_neg (nin (show 6 * r + k < 72 by omega) (by decide)), nI_clamp (show 6 * r + k < 2 ^ 31 by omega), nI_1]
      exact h2 d Y v2 v3
end Stall
