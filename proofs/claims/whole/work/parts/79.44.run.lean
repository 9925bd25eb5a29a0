/-! ===== a script's tick ===== -/
section Run
variable {L : Nat} {xs : Nat → Int32} {d : Nat} {X : ML × (Nat → Nat) × Nat × Nat} {Y : MR × ML × (Nat → Nat) × Nat × Nat}
variable {B B' n s q : Nat} {rd ps en dp : Nat → Nat} {lp : Nat → Option Nat} {f f1 f2 f' : MI} {g : MR} {u u1 u2 u' : MI} {r a b : Nat}
theorem TT_cnt (T : TT B n s q rd ps en dp lp f g u) (hr : r < n) (h3 : g 18 r 3 = some a) {v : Int32} : TT B n s q rd ps en dp lp (m3 f 18 r 8 v) g (m3 u 85 0 r v) := by
  have A := T.live hr h3
  have M0 := Mid.rf T hr
  have M : Mid rd f (m3 f 18 r 8 v) u (m3 u 85 0 r v) r := ⟨mk_m3 rfl, fun r' h => m3_row (Or.inr h), fun b h => m3_r (by decide), mk_m3 rfl, fun r' h => EqU.s1 (by decide) h, (m3_i (by decide)).trans M0.s6, (m3_i (by decide)).trans M0.s7, by rw [m3_eq, m3_eq]⟩
  have T2 : TT B n s q rd ps en dp lp (m3 f 18 r 8 v) (m3 g 18 r 3 (some a)) (m3 u 85 0 r v) := by
    refine TT_mid T hr M (Or.inl ⟨a, m3_eq, A.rd, A.nx, A.st, ?_, A.ag, (m3_i (by decide)).trans A.bg, ?_⟩)
    · intro j b hb hk
      have hgg : (m3 g 18 r 3 (some a)) 19 = g 19 := rfl
      rw [up_g hgg, hgg] at hb
      exact A.tn j b hb hk
    · rw [m3_i (show (5 : Nat) ≠ 8 by decide)]
      exact A.lf
  rw [m3_same h3] at T2
  exact T2
theorem run_loop (hr : r < n) : ∀ (m k B : Nat) (f : MI) (g : MR) (u : MI) (v3 : Int32), k + m = 40 → B + 2 * m < 2 ^ 30 → PG L xs B n s q rd ps en dp lp r f g u → v3 ≠ -1 →
    ∃ f2 g2 u2, RL (mP L xs) (d + 12) 188 10 [some (rv 17 (some 0)), some (rv 16 (some r)), some (rv 18 (some r)), some (iv v3), some (iv (nI k))] [] (f, g, X) = some (.inl none, (f2, g2, X)) ∧
      RL (mP L xs) (d + 12) 228 44 [some (rv 22 (some 0)), some (iv (nI r)), some (iv (nI k)), some (iv (if u 82 0 r = 0 then 1 else 0))] [] (u, Y) = some (.inl none, (u2, Y)) ∧ TT (B + 2 * m) n s q rd ps en dp lp f2 g2 u2
  | m, k, B, f, g, u, v3, hk, hB, P, hv => by
    obtain ⟨f2, g2, e1, e2, e3⟩ := P.ex
    have hn := e2.n12
    have e1' : EL (mP L xs) (d + 12) 187 [rv 17 (some 0), rv 16 (some r)] (f, g, X) = some (.inl none, (f2, g2, X)) := e1 (d + 9) X
    cases h3 : g 18 r 3 with
    | none =>
      refine ⟨f2, g2, u, ?_, ?_, e2.le (by omega)⟩
      · rw [K_Runner_run_10]
        simp only [onS_s, h3, if_true, e1', clV, ite_self]
      · rw [K_Ref_goesOn_44, if_neg (P.dd h3), if_pos rfl]
    | some a =>
      have hne : g 18 r 3 ≠ none := by rw [h3]; exact fun z => nomatch z
      obtain ⟨rfl, rfl⟩ := e3 hne
      have h82 := P.lv hne
      cases m with
      | zero =>
        have hk : k = 40 := by omega
        subst hk
        refine ⟨f2, g2, u, ?_, ?_, e2⟩
        · rw [K_Runner_run_10, if_neg (show ¬ nI 40 < 40 by decide), e1', clV]
        · rw [K_Ref_goesOn_44, if_pos h82, if_neg (by decide), if_neg (show ¬ nI 40 < 40 by decide)]
      | succ m =>
        have S := (e2.rr r hr).ra
        have T1 := TT_cnt (v := u 85 0 r + 1) e2 hr h3
        obtain ⟨v, f3, g3, b, u3, r1, r2, r3⟩ := res_all (L := L) (xs := xs) (d := d) (X := X) (Y := Y) T1 (by omega) hr h3
        have hc : f2 18 r 8 = u 85 0 r := S.2.2.1
        have key := K_Runner_run_10 (L := L) (xs := xs) (d := d + 12) (some r) (some r) v3 (nI k) (f2, g2, X)
        simp only [if_pos (show nI k < 40 from nI_lt (b := 40) (by omega) (by decide)), if_neg hv, onS_s, h3, reduceCtorEq, if_false, hc, r1, clI, nI_1] at key
        have keu := K_Ref_goesOn_44 (L := L) (xs := xs) (d := d + 12) (nI r) (nI k) 1 (u, Y)
        simp only [if_pos (show nI k < 40 from nI_lt (b := 40) (by omega) (by decide)), if_neg (show ¬ (1 : Int32) = 0 by decide), if_neg (nin (show r < 12 by omega) (show 12 < 2 ^ 31 by decide)), nI_clamp (show r < 2 ^ 31 by omega), r2, clI, nI_1] at keu
        rw [key, if_pos h82, keu]
        rcases r3 with ⟨rfl, r4, r5⟩ | ⟨rfl, rfl, r4⟩ | ⟨r6, rfl, f4, g4, r7, r4⟩
        · obtain ⟨f5, g5, u5, q1, q2, q3⟩ := run_loop hr m (k + 1) (B + 2) f3 g3 u3 0 (by omega) (by omega) r4 (by decide)
          refine ⟨f5, g5, u5, ?_, ?_, q3.le (by omega)⟩
          · rw [if_neg (by decide)]
            exact q1
          · rw [← q2]
            cases b with
            | false => rw [if_pos (show bI false = 0 from rfl), if_neg (r5 rfl)]
            | true =>
              rw [if_neg (show ¬ bI true = 0 by decide)]
              by_cases z : u3 82 0 r = 0
              · rw [if_pos z, if_pos z]
              · rw [if_neg z, if_neg z]
        · obtain ⟨f5, g5, q1, q2, q3⟩ := r4.ex
          have q1' : EL (mP L xs) (d + 12) 187 [rv 17 (some 0), rv 16 (some r)] (f3, g3, X) = some (.inl none, (f5, g5, X)) := q1 (d + 9) X
          refine ⟨f5, g5, u3, ?_, ?_, q2.le (by omega)⟩
          · rw [if_neg (by decide), K_Runner_run_10, if_pos rfl, q1', clV, ite_self]
          · rw [if_pos (show bI false = 0 from rfl), K_Ref_goesOn_44, if_pos rfl]
        · have hv2 : v ≠ -1 := fun z => by
            rw [z] at r6
            exact absurd r6 (by decide)
          obtain ⟨f5, g5, u5, q1, q2, q3⟩ := run_loop hr m (k + 1) (B + 2) f4 g4 u3 v (by omega) (by omega) r4 hv2
          refine ⟨f5, g5, u5, ?_, ?_, q3.le (by omega)⟩
          · rw [if_pos r6, r7, clV]
            exact q1
          · rw [← q2, if_neg (show ¬ bI true = 0 by decide)]
            by_cases z : u3 82 0 r = 0
            · rw [if_pos z, if_pos z]
            · rw [if_neg z, if_neg z]
  termination_by m => m
/-- an empty script is over at once -/
theorem p_ovr0 (T : TT B n s q rd ps en dp lp f g u) (hB : B < 2 ^ 30) (hr : r < n) (hg : g 18 r 3 = none) (h0 : u 82 0 r = 0) :
    ∃ f2 u2, (∀ d X, EL (mP L xs) (d + 3) 187 [rv 17 (some 0), rv 16 (some r)] (f, g, X) = some (.inl none, (f2, g, X))) ∧ (∀ d Y, EL (mP L xs) (d + 2) 212 [rv 22 (some 0), iv (nI r)] (u, Y) = some (.inl none, (u2, Y))) ∧ TT (B + 1) n s q rd ps en dp lp f2 g u2 := by
  have hn := T.n12
  obtain ⟨⟨kd, hRM⟩, -⟩ := T.rr r hr
  have M := Mid.rf T hr
  have M2 : Mid rd f (m3 (m3 f 18 r 6 1) 18 r 4 0) u (m3 u 82 0 r 1) r := (M.c6).c4
  have T2 := TT_mid (o := none) T hr M2 (Or.inr (Or.inl ⟨m3_eq, Or.inl m3_eq⟩))
  rw [m3_same hg] at T2
  have hcl : (m3 (m3 f 18 r 6 1) 18 r 4 0) 11 0 9 = (m3 u 82 0 r 1) 22 0 79 := T2.gb.1
  have hix : (m3 (m3 f 18 r 6 1) 18 r 4 0) 16 r 0 = nI r := (mk_at M2.e1 16 r 0 rfl).trans hRM.ix
  obtain ⟨f3, u3, n1, n2, n3, n4, n5⟩ := p_note (L := L) (xs := xs) T2 hB 6 (nI r) ((m3 u 82 0 r 1) 22 0 79)
  refine ⟨f3, u3, fun d X => ?_, fun d Y => ?_, n3⟩
  · have hs : f 18 r 6 = 0 := M.s6.trans h0
    rw [E_Runner_endIfOver]
    simp only [onS_s, hg, if_true, hs]
    rw [E_Script_end]
    simp only [E_Script_goOn, clV]
    rw [hix, hcl, m3_same hg, n1 (d + 1) X]
    rfl
  · rw [E_Ref_isOver, if_neg (nin (show r < 12 by omega) (by decide)), nI_clamp (show r < 2 ^ 31 by omega)]
    rw [n2]
    rfl
theorem p_run (T : TT B n s q rd ps en dp lp f g u) (hB : B + 80 < 2 ^ 30) (hr : r < n) :
    ∃ f2 g2 u2, EL (mP L xs) (d + 13) 188 [rv 17 (some 0), rv 16 (some r)] (f, g, X) = some (.inl none, (f2, g2, X)) ∧
      EL (mP L xs) (d + 13) 228 [rv 22 (some 0), iv (nI r)] (u, Y) = some (.inl none, (u2, Y)) ∧ TT (B + 80) n s q rd ps en dp lp f2 g2 u2 := by
  have hn := T.n12
  have key := E_Runner_run (L := L) (xs := xs) (d := d + 12) (some r) (f, g, X)
  rw [onS_s] at key
  have keu := E_Ref_goesOn (L := L) (xs := xs) (d := d + 12) (nI r) (u, Y)
  simp only [if_neg (nin (show r < 12 by omega) (show 12 < 2 ^ 31 by decide)), nI_clamp (show r < 2 ^ 31 by omega), K_Ref_goesOn_16] at keu
  rcases (T.rr r hr).po with ⟨a, A⟩ | ⟨h1, h2⟩ | ⟨h1, h2, k, k1, k2, k3, -⟩
  · have H := T.loc hr A.rd
    have hpl := H.pl
    have hop : u 59 0 (ps a) ≠ 54 := by
      by_cases z : f 19 a 0 = 401
      · rcases H.kd with h | h | h
        · simp (decide := true) only [KdA, z, false_and, and_false, or_false] at h
        · simp (decide := true) only [KdB, z, false_and, or_false] at h
        · obtain ⟨-, b, -, ⟨-, h⟩ | ⟨-, h⟩, -⟩ := h <;> rw [h] <;> decide
      · exact (H.op z).2.2
    have hne : g 18 r 3 ≠ none := by rw [A.sp]; exact fun z => nomatch z
    obtain ⟨f2, g2, u2, q1, q2, q3⟩ := run_loop (L := L) (xs := xs) (d := d) (X := X) (Y := Y) hr 40 0 B f g u 0 rfl (by omega) (PG_live T hne A.st) (by decide)
    refine ⟨f2, g2, u2, key.trans q1, ?_, q3⟩
    rw [keu]
    simp (decide := true) only [A.st, if_true, if_false, A.nx, if_neg (nin hpl (show 6100 < 2 ^ 31 by decide)), nI_clamp (show ps a < 2 ^ 31 by omega), if_neg hop]
    rw [if_pos A.st] at q2
    exact q2
  · have h82 : u 82 0 r ≠ 0 := by rcases h2 with h2 | h2 <;> rw [h2] <;> decide
    refine ⟨f, g, u, ?_, ?_, T.le (by omega)⟩
    · rw [key, K_Runner_run_10]
      simp (decide := true) only [onS_s, h1, if_true, if_false]
      rw [e_over0 (d := d + 11) (Or.inr (by rw [(T.rr r hr).ra.1]; exact h82))]
      rfl
    · rw [keu, if_neg h82, if_pos trivial, K_Ref_goesOn_44, if_pos rfl]
  · obtain ⟨f2, u2, q1, q2, q3⟩ := p_ovr0 (L := L) (xs := xs) T (by omega) hr h1 h2
    refine ⟨f2, g, u2, ?_, ?_, q3.le (by omega)⟩
    · rw [key, K_Runner_run_10]
      simp (decide := true) only [onS_s, h1, if_true, if_false]
      rw [q1 (d + 9) X]
      rfl
    · rw [keu, if_pos h2, if_neg (by decide)]
      simp only [k2, if_neg (nin k1 (show 6100 < 2 ^ 31 by decide)), nI_clamp (show k < 2 ^ 31 by omega), k3, if_true]
      rw [q2 (d + 10) Y, clV, K_Ref_goesOn_44, if_pos rfl]
end Run
