/-! ===== read: factors, products, sums (their loops) ===== -/
section Lps
variable {L : Nat} {xs : Nat → Int32} {Y : MR × ML × (Nat → Nat) × Nat × Nat} {N k t c q n cn : Nat} {b : Nat → Nat} {sg : Nat → Int32} {f f2 u u2 : MI} {nt ns nn : Nat → Nat}
theorem par_ev : ∀ m, m < 13 → ((nI m - nI m / 2 * 2 = 0) = (m % 2 = 0)) := by decide +kernel
theorem FrC.put {w v : Int32} {c' : Nat} (h : c ≤ c') : FrC c f (m3 (m3 f 32 0 c' w) 10 0 3 v) := fun R o i z => by rw [m3_no (by omega), m3_no (by omega)]
theorem FrQ.new {a1 a2 a3 v : Int32} {q' : Nat} (h : q ≤ q') : FrQ q u (m3 (m3 (m3 (m3 u 65 0 q' a1) 66 0 q' a2) 67 0 q' a3) 22 0 45 v) := fun R o i z => by rw [m3_no (by omega), m3_no (by omega), m3_no (by omega), m3_no (by omega)]
theorem FrQ.n55 {v : Int32} : FrQ q u (m3 u 22 0 55 v) := fun R o i z => m3_no (by omega)
theorem fc_loop {n0 : Nat} : ∀ (j t n : Nat) (f u : MI) (c q : Nat), n + j = 12 → n0 ≤ n → FX N k b sg cn nt ns nn f u t c q n → (∀ t1, t < t1 → SUMs L xs Y N k b sg cn nt ns nn t1) →
    ∃ f2 u2, (∀ d g X, 4 * (12 - n) + 17 ≤ d → RL (mP L xs) d 71 4 [some (rv 13 (some 0)), some (iv (nI n0)), some (iv (nI n)), some (iv (nI (n - n0)))] [] (f, g, X) = some (.inl none, (f2, g, X))) ∧ (∀ d, 4 * (12 - n) + 17 ≤ d → EL (mP L xs) d 115 [rv 22 (some 0)] (u, Y) = some (.inl none, (u2, Y))) ∧
      ((∃ t' m lc lr, EG0 N k b sg f u t c q n (n - n0) f2 u2 t' (lc ++ par (m + (n - n0))) (lr ++ mns m) ∧ Sam lc lr ∧ Wf (1 + 2 * (12 - n)) lc ∧ Wf (1 + 2 * (12 - n)) lr) ∨ EB f u t c q f2 u2)
  | j, t, n, f, u, c, q, hj, hn0, F, IH => by
    have P := F.px
    have htk := P.tk
    have hkp := P.lc.kp
    have hcl := F.cl
    have hql := F.ql
    have hnl := F.nl
    have hsub : nI n - nI n0 = nI (n - n0) := nI_sub hn0
    have key4 := fun d g X => K_FormulaReader_factor_4 (L := L) (xs := xs) (d := d) (nI n0) (nI n) (nI (n - n0)) (f, g, X)
    simp only [if_pos (show nI (n - n0) < 4000 from nI_lt (b := 4000) (by omega) (by decide))] at key4
    by_cases z : sg t = 45
    · -- a minus
      have s1' : ∀ d, EL (mP L xs) (d + 1) 108 [rv 22 (some 0), iv 45] (u, Y) = some (.inl (some (iv 1)), (u, Y)) := fun d => (px_isSign (L := L) (xs := xs) (d := d) (Y := Y) P (c := 45) (by decide) (by decide)).trans (by rw [if_pos (show sg t = nI 45 from z)])
      have fU := fun d => E_Ref_factor (L := L) (xs := xs) (d := d + 11) (u, Y)
      simp only [s1', clI, if_neg (show ¬ (1 : Int32) = 0 by decide), K_Ref_factor_18, F.nu] at fU
      match j, hj with
      | 0, hj =>
        have e12 : n = 12 := by omega
        subst e12
        simp only [if_pos (show nI 12 = 12 from rfl)] at fU
        obtain ⟨f2, u2, a1, a2, a3, a4, a5⟩ := px_bad (L := L) (xs := xs) (Y := Y) P (q := 4) (by decide)
        obtain ⟨p0, q0, E2, y1, y2⟩ := a3
        have hc2 : f2 10 0 3 = nI c := (a4.1 10 0 3 (by omega)).trans F.cc
        obtain ⟨f3, w1, w2, w3, w4⟩ := ed_53 (L := L) (xs := xs) E2 hc2 (by omega) (nI n0) (nI 12 + 1)
        refine ⟨f3, u2, fun d g X hd => ?_, fun d hd => ?_, Or.inr ⟨⟨p0, q0, w2, y1, y2⟩, w3, ⟨q, Nat.le_refl q, by omega, (a4.2 22 0 45 (by omega)).trans F.qu⟩, (FrC.b6 a4).tr w4 (Nat.le_refl c), FrQ.b6 a4⟩⟩
        · obtain ⟨d, rfl⟩ : ∃ d', d = d' + 12 := ⟨d - 12, by omega⟩
          rw [key4, px_sort P, clI, if_pos z, if_neg (show ¬ nI 12 < 12 by decide), a1, clV, ed_adv E2, clV, K_FormulaReader_factor_4, nI_1 (12 - n0), if_pos (show nI (12 - n0 + 1) < 4000 from nI_lt (b := 4000) (by omega) (by decide)), ed_sort E2, clI, if_neg (by decide)]
          exact w1 (d + 10) g X _
        · obtain ⟨d, rfl⟩ : ∃ d', d = d' + 12 := ⟨d - 12, by omega⟩
          rw [fU, a2 (d + 10), clV]
      | j + 1, hj =>
        have nn12 : ¬ nI n = 12 := fun e => by have := (nI_eq (b := 12) (by omega) (by decide)).mp e; omega
        simp only [if_neg nn12, s1', clI, F.nu, nI_1, if_neg (show ¬ (1 : Int32) = 0 by decide)] at fU
        have P1 : PX f (m3 u 22 0 55 (nI (n + 1))) N k b sg t := P.fr (fun _ _ _ _ => rfl) (fun R o i z => m3_no (by omega))
        obtain ⟨b1, u1, b2, b3, b4⟩ := px_adv (L := L) (xs := xs) (Y := Y) P1 (by rw [z]; decide) (by rw [z]; decide)
        have hU1 : FrQ q u u1 := (FrQ.n55).tr (FrQ.f6 b3) (Nat.le_refl q)
        have hF1 : FrC c f (m3 f 20 0 6 (nI (t + 1))) := FrC.at6
        have F1 : FX N k b sg cn nt ns nn (m3 f 20 0 6 (nI (t + 1))) u1 (t + 1) c q (n + 1) := ⟨b4, (m3_r (by decide)).trans F.cc, by omega, (b3 22 0 45 (by omega)).trans ((m3_i (by decide)).trans F.qu), by omega, (b3 22 0 55 (by omega)).trans m3_eq, by omega, F.nc.frC hF1, F.nz.frQ hU1⟩
        obtain ⟨f2, u2, c1, c2, c3⟩ := fc_loop (n0 := n0) j (t + 1) (n + 1) _ u1 c q (by omega) (by omega) F1 (fun t1 h => IH t1 (by omega))
        have b2' : ∀ d, EL (mP L xs) (d + 11) 101 [rv 22 (some 0)] (m3 u 22 0 55 (nI (n + 1)), Y) = some (.inl none, (u1, Y)) := fun d => EL_mono (by omega) b2
        simp only [b2', clV] at fU
        have kC : ∀ d g X, 4 * (12 - n) + 17 ≤ d → RL (mP L xs) d 71 4 [some (rv 13 (some 0)), some (iv (nI n0)), some (iv (nI n)), some (iv (nI (n - n0)))] [] (f, g, X) = some (.inl none, (f2, g, X)) := fun d g X hd => by
          obtain ⟨d, rfl⟩ : ∃ d', d = d' + 1 := ⟨d - 1, by omega⟩
          rw [key4, px_sort P, clI, if_pos z, if_pos (show nI n < 12 from nI_lt (b := 12) (by omega) (by decide)), b1, clV, nI_1, nI_1, show n - n0 + 1 = n + 1 - n0 by omega]
          exact c1 (d + 1) g X (by omega)
        have kU : ∀ (q2 : Nat), u2 22 0 45 = nI q2 → q2 < 9000 → ∀ d, 4 * (12 - n) + 17 ≤ d → EL (mP L xs) d 115 [rv 22 (some 0)] (u, Y) = some (.inl none, (m3 (m3 (m3 (m3 (m3 u2 65 0 q2 8) 66 0 q2 0) 67 0 q2 0) 22 0 45 (nI (q2 + 1))) 22 0 55 (u2 22 0 55 - 1), Y)) := fun q2 hq2 hl d hd => by
          obtain ⟨d, rfl⟩ : ∃ d', d = d' + 12 := ⟨d - 12, by omega⟩
          rw [fU, c2 (d + 11) (by omega), clV, r_new hq2 hl, clV]
          simp only [show ∀ v, (m3 (m3 (m3 (m3 u2 65 0 q2 8) 66 0 q2 0) 67 0 q2 0) 22 0 45 v) 22 0 55 = u2 22 0 55 from fun v => by rw [m3_i (by decide), m3_r (by decide), m3_r (by decide), m3_r (by decide)]]
        rcases c3 with ⟨t', m, lc, lr, E, Sm, W1, W2⟩ | E
        · have ett := E.tt
          have ell := E.ll
          have epk := E.px.tk
          have hn4 : u2 22 0 55 - 1 = nI n := by rw [E.nu, ← nI_1, Int32.add_sub_cancel]
          have kU2 := kU _ E.qu (by omega)
          rw [hn4] at kU2
          generalize hV : m3 (m3 (m3 (m3 u2 65 0 (q + (lr ++ mns m).length) 8) 66 0 (q + (lr ++ mns m).length) 0) 67 0 (q + (lr ++ mns m).length) 0) 22 0 45 (nI (q + (lr ++ mns m).length + 1)) = V at kU2
          have FV : FrQ (q + (lr ++ mns m).length) u2 V := by rw [← hV]; exact FrQ.new (Nat.le_refl _)
          refine ⟨f2, _, kC, kU2, Or.inl ⟨t', m + 1, lc, lr, ⟨by omega, ?_, ?_, ?_, m3_eq, ⟨?_, ?_⟩, ?_, ?_, ?_, ?_, hF1.tr E.fc (Nat.le_refl c), ((hU1.tr E.fu (Nat.le_refl q)).tr FV (by omega)).tr FrQ.n55 (Nat.le_refl q)⟩, Sm, Wf_up W1 (by omega), Wf_up W2 (by omega)⟩⟩
          · exact E.px.fr (fun _ _ _ _ => rfl) (fun R o i z => by rw [m3_no (by omega), ← hV, m3_no (by omega), m3_no (by omega), m3_no (by omega), m3_no (by omega)])
          · rw [show m + 1 + (n - n0) = m + (n + 1 - n0) by omega]; exact E.cc
          · rw [m3_i (by decide), ← hV, m3_eq]
            show _ = nI (q + (lr ++ (mns m ++ [(5, 0)])).length)
            rw [← List.append_assoc, List.length_append (bs := [(5, 0)])]
            rfl
          · rw [show m + 1 + (n - n0) = m + (n + 1 - n0) by omega]; omega
          · show (lr ++ (mns m ++ [(5, 0)])).length ≤ t' - t
            rw [← List.append_assoc, List.length_append (bs := [(5, 0)])]
            show (lr ++ mns m).length + 1 ≤ t' - t
            omega
          · rw [show m + 1 + (n - n0) = m + (n + 1 - n0) by omega]; exact E.sp
          · show Rpp b N _ q (lr ++ (mns m ++ [(5, 0)]))
            rw [← List.append_assoc, Rpp_app]
            refine ⟨Rpp_lt (m := q + (lr ++ mns m).length) (fun R i hR hi => by rw [m3_no (by omega), FV R 0 i (by omega)]) (Nat.le_refl _) E.rp, Or.inl ⟨show (5 : Nat) ≠ 3 by decide, ?_⟩, trivial⟩
            refine Or.inr (Or.inr (Or.inr (Or.inr (Or.inr (Or.inr (Or.inr (Or.inl ⟨rfl, ?_⟩)))))))
            rw [m3_r (by decide), ← hV, m3_r (by decide), m3_r (by decide), m3_r (by decide), m3_eq]
          · rw [show m + 1 + (n - n0) = m + (n + 1 - n0) by omega]; exact E.oc
          · intro x hx
            have hx : x ∈ lr ++ (mns m ++ [(5, 0)]) := hx
            rw [← List.append_assoc, List.mem_append] at hx
            rcases hx with hx | hx
            · exact E.ou x hx
            · rw [List.mem_singleton.mp hx]
              exact Or.inr (Or.inr (Or.inr (Or.inl ⟨rfl, rfl⟩)))
        · obtain ⟨p0, q0, E2, y1, y2⟩ := E.bd
          obtain ⟨q2, z0, z1, z2⟩ := E.qu
          refine ⟨f2, _, kC, kU q2 z2 (by omega), Or.inr ⟨⟨p0, q0, E2, ?_, ?_⟩, E.cc, ⟨q2 + 1, by omega, by omega, ?_⟩, hF1.tr E.fc (Nat.le_refl c), fun R o i w => ?_⟩⟩
          · rw [m3_i (by decide), m3_i (by decide), m3_r (by decide), m3_r (by decide), m3_r (by decide)]; exact y1
          · rw [m3_i (by decide), m3_i (by decide), m3_r (by decide), m3_r (by decide), m3_r (by decide)]; exact y2
          · rw [m3_i (by decide), m3_eq]
          · rw [m3_no (by omega), m3_no (by omega), m3_no (by omega), m3_no (by omega), m3_no (by omega)]
            exact (hU1.tr E.fu (Nat.le_refl q)) R o i w
    · -- the operand
      obtain ⟨f2, u2, c1, c2, c3⟩ := ex_op (L := L) (xs := xs) (Y := Y) F z (IH (t + 1) (by omega))
      have key53 := fun d g X v3 => K_FormulaReader_factor_53 (L := L) (xs := xs) (d := d) (nI n0) (nI n) v3 (f, g, X)
      simp only [hsub, par_ev (n - n0) (by omega)] at key53
      have kC : ∀ d g X, 4 * (12 - n) + 17 ≤ d → RL (mP L xs) d 71 4 [some (rv 13 (some 0)), some (iv (nI n0)), some (iv (nI n)), some (iv (nI (n - n0)))] [] (f, g, X) = if (n - n0) % 2 = 0 then some (.inl none, (f2, g, X)) else mclV (EL (mP L xs) d 68 [rv 10 (some 0), iv 5, iv 0] (f2, g, X)) (fun h2 => some (.inl none, h2)) (fun e h => some (.inr e, h)) := fun d g X hd => by
        obtain ⟨d, rfl⟩ : ∃ d', d = d' + 1 := ⟨d - 1, by omega⟩
        rw [key4, px_sort P, clI, if_neg z, key53, c1 (d + 1) g X hd, clV]
      rcases c3 with ⟨t', lc, lr, E⟩ | E
      · have ett := E.tt
        have ell := E.ll
        have epk := E.px.tk
        have hr0 : lr ++ mns 0 = lr := List.append_nil lr
        by_cases y : (n - n0) % 2 = 0
        · have hp : lc ++ par (0 + (n - n0)) = lc := by
            rw [Nat.zero_add]
            unfold par
            rw [if_pos y, List.append_nil]
          refine ⟨f2, u2, fun d g X hd => by rw [kC d g X hd, if_pos y], c2, Or.inl ⟨t', 0, lc, lr, ?_, E.sm, E.wc, E.wr⟩⟩
          rw [hp, hr0]
          exact ⟨E.tt, E.px, E.cc, E.qu, E.nu, ⟨by omega, by omega⟩, E.sp, E.rp, E.oc, E.ou, E.fc, E.fu⟩
        · have hp : lc ++ par (0 + (n - n0)) = lc ++ [(5, 0)] := by
            rw [Nat.zero_add]
            unfold par
            rw [if_neg y]
          have hput := fun d g X => c_put (L := L) (xs := xs) (d := d) (g := g) (X := X) (w := 5) (v := 0) E.cc (show c + lc.length < 4001 by omega) (by decide) (by decide)
          have hput' : ∀ d g X, EL (mP L xs) (d + 1) 68 [rv 10 (some 0), iv 5, iv 0] (f2, g, X) = some (.inl none, (m3 (m3 f2 32 0 (c + lc.length) (nI (5 + 32 * 0))) 10 0 3 (nI (c + lc.length + 1)), g, X)) := hput
          refine ⟨m3 (m3 f2 32 0 (c + lc.length) (nI (5 + 32 * 0))) 10 0 3 (nI (c + lc.length + 1)), u2, fun d g X hd => ?_, c2, Or.inl ⟨t', 0, lc, lr, ?_, E.sm, E.wc, E.wr⟩⟩
          · rw [kC d g X hd, if_neg y]
            obtain ⟨d, rfl⟩ : ∃ d', d = d' + 1 := ⟨d - 1, by omega⟩
            rw [hput', clV]
          · rw [hp, hr0]
            refine ⟨E.tt, E.px.fr (fun R o i w => by rw [m3_no (by omega), m3_no (by omega)]) (fun _ _ _ _ => rfl), ?_, E.qu, E.nu, ⟨?_, by omega⟩, ?_, E.rp, ?_, E.ou, E.fc.tr (FrC.put (Nat.le_refl _)) (by omega), E.fu⟩
            · rw [m3_eq, List.length_append]; rfl
            · rw [List.length_append]
              show lc.length + 1 ≤ t' - t + (n - n0)
              omega
            · rw [Sp_app]
              refine ⟨Sp_lt (m := c + lc.length) (fun i hi => by rw [m3_r (by decide), m3_i (by omega)]) (Nat.le_refl _) E.sp, ?_, trivial⟩
              rw [m3_r (by decide), m3_eq]
            · intro x hx
              rcases List.mem_append.mp hx with hx | hx
              · exact E.oc x hx
              · rw [List.mem_singleton.mp hx]
                exact Or.inr (Or.inr (Or.inr (Or.inl ⟨rfl, rfl⟩)))
      · by_cases y : (n - n0) % 2 = 0
        · exact ⟨f2, u2, fun d g X hd => by rw [kC d g X hd, if_pos y], c2, Or.inr E⟩
        · obtain ⟨p0, q0, E2, y1, y2⟩ := E.bd
          obtain ⟨c2', z0, z1, z2⟩ := E.cc
          obtain ⟨f3, c3', a1, a2, a3, a4, a5⟩ := c_putE (L := L) (xs := xs) z2 z1 5 0
          refine ⟨f3, u2, fun d g X hd => ?_, c2, Or.inr ⟨⟨p0, q0, E2.fr (a5 20 0 5 (by omega)) (a5 20 0 6 (by omega)) (a5 20 0 7 (by omega)) (a5 20 0 8 (by omega)) (a5 34 0 4000 (by omega)), y1, y2⟩, ⟨c3', by omega, a4, a2⟩, E.qu, E.fc.tr (fun R o i w => a5 R o i (by omega)) z0, E.fu⟩⟩
          rw [kC d g X hd, if_neg y]
          obtain ⟨d, rfl⟩ : ∃ d', d = d' + 1 := ⟨d - 1, by omega⟩
          rw [a1, clV]
  termination_by j => j

/-- a factor -/
theorem ex_fac (F : FX N k b sg cn nt ns nn f u t c q n) (IH : ∀ t1, t < t1 → SUMs L xs Y N k b sg cn nt ns nn t1) : LSx L xs Y N k b sg f u t c q n (1 + 2 * (12 - n)) (4 * (12 - n) + 18) 71 [rv 13 (some 0), iv (nI n)] 115 [rv 22 (some 0)] := by
  have hnl := F.nl
  obtain ⟨f2, u2, a1, a2, a3⟩ := fc_loop (n0 := n) (12 - n) t n f u c q (by omega) (Nat.le_refl n) F IH
  refine ⟨f2, u2, fun d g X hd => ?_, fun d hd => a2 d (by omega), ?_⟩
  · obtain ⟨d, rfl⟩ : ∃ d', d = d' + 1 := ⟨d - 1, by omega⟩
    rw [E_FormulaReader_factor]
    have := a1 d g X (by omega)
    rw [Nat.sub_self] at this
    exact this
  · rcases a3 with ⟨t', m, lc, lr, E, Sm, W1, W2⟩ | E
    · rw [Nat.sub_self, Nat.add_zero] at E
      exact Or.inl ⟨t', _, _, ⟨E.tt, E.px, E.cc, E.qu, E.nu, ⟨by have := E.ll.1; omega, E.ll.2⟩, E.sp, E.rp, Sam_par Sm m, Wf_par W1 m, Wf_mns W2 m, E.oc, E.ou, E.fc, E.fu⟩⟩
    · exact Or.inr E

theorem tm_loop {t0 : Nat} {f0 u0 : MI} (F0 : FX N k b sg cn nt ns nn f0 u0 t0 c q n) (S : ∀ t1, t0 < t1 → ∀ f u c q, FX N k b sg cn nt ns nn f u t1 c q n → LSx L xs Y N k b sg f u t1 c q n (1 + 2 * (12 - n)) (4 * (12 - n) + 18) 71 [rv 13 (some 0), iv (nI n)] 115 [rv 22 (some 0)]) : ∀ (R t i : Nat) (f u : MI) (lc lr : PL), k ≤ t + R → 2 * i ≤ t → EG N k b sg f0 u0 t0 c q n (1 + 1 + 2 * (12 - n)) f u t lc lr →
    ∃ f2 u2, (∀ d g X z3, 4 * (12 - n) + 18 ≤ d → RL (mP L xs) d 72 7 [some (rv 13 (some 0)), some (iv (nI n)), some (iv (nI i)), z3] [] (f, g, X) = some (.inl none, (f2, g, X))) ∧ (∀ d z1, 4 * (12 - n) + 18 ≤ d → RL (mP L xs) d 116 4 [some (rv 22 (some 0)), z1] [] (u, Y) = some (.inl none, (u2, Y))) ∧ ((∃ t' lc' lr', EG N k b sg f0 u0 t0 c q n (1 + 1 + 2 * (12 - n)) f2 u2 t' lc' lr') ∨ EB f0 u0 t0 c q f2 u2)
  | R, t, i, f, u, lc, lr, hR, hi, E => by
    have P := E.px
    have htk := P.tk
    have hkp := P.lc.kp
    have ett := E.tt
    have ell := E.ll
    have hcl := F0.cl
    have hql := F0.ql
    have hnl := F0.nl
    have hi4 : nI i < 4000 := nI_lt (b := 4000) (by omega) (by decide)
    have hs1 : ∀ d, EL (mP L xs) (d + 1) 108 [rv 22 (some 0), iv 42] (u, Y) = some (.inl (some (iv (if sg t = 42 then 1 else 0))), (u, Y)) := fun d => px_isSign (L := L) (xs := xs) (d := d) (Y := Y) P (c := 42) (by decide) (by decide)
    have hs2 : ∀ d, EL (mP L xs) (d + 1) 108 [rv 22 (some 0), iv 47] (u, Y) = some (.inl (some (iv (if sg t = 47 then 1 else 0))), (u, Y)) := fun d => px_isSign (L := L) (xs := xs) (d := d) (Y := Y) P (c := 47) (by decide) (by decide)
    by_cases z : sg t = 42 ∨ sg t = 47
    · obtain ⟨w, w9, wS⟩ : ∃ w : Nat, (9 ≤ w ∧ w ≤ 12) ∧ ((sg t = 42 ∧ w = 11) ∨ (sg t = 47 ∧ ¬ sg t = 42 ∧ w = 12)) := by
        rcases z with z | z
        · exact ⟨11, by decide, Or.inl ⟨z, rfl⟩⟩
        · exact ⟨12, by decide, Or.inr ⟨z, by rw [z]; decide, rfl⟩⟩
      have n0 : sg t ≠ 0 := by rcases z with z | z <;> rw [z] <;> decide
      have n1 : sg t ≠ 1 := by rcases z with z | z <;> rw [z] <;> decide
      obtain ⟨b1, u1, b2, b3, b4⟩ := px_adv (L := L) (xs := xs) (Y := Y) P n0 n1
      have hU1 : FrQ (q + lr.length) u u1 := FrQ.f6 b3
      have hF1 : FrC (c + lc.length) f (m3 f 20 0 6 (nI (t + 1))) := FrC.at6
      have F1 : FX N k b sg cn nt ns nn (m3 f 20 0 6 (nI (t + 1))) u1 (t + 1) (c + lc.length) (q + lr.length) n := ⟨b4, (m3_r (by decide)).trans E.cc, by omega, (b3 22 0 45 (by omega)).trans E.qu, by omega, (b3 22 0 55 (by omega)).trans E.nu, hnl, (F0.nc.frC E.fc).frC hF1, (F0.nz.frQ E.fu).frQ hU1⟩
      obtain ⟨f2, u2, c1, c2, c3⟩ := S (t + 1) (by omega) _ _ _ _ F1
      have b2' : ∀ d, 7 ≤ d → EL (mP L xs) d 101 [rv 22 (some 0)] (u, Y) = some (.inl none, (u1, Y)) := fun d hd => EL_mono hd b2
      have kC : ∀ d g X z3, 4 * (12 - n) + 18 ≤ d → RL (mP L xs) d 72 7 [some (rv 13 (some 0)), some (iv (nI n)), some (iv (nI i)), z3] [] (f, g, X) = mclV (EL (mP L xs) d 68 [rv 10 (some 0), iv (nI w), iv 0] (f2, g, X)) (fun h8 => RL (mP L xs) d 72 7 [some (rv 13 (some 0)), some (iv (nI n)), some (iv (nI (i + 1))), some (iv (nI w))] [] h8) (fun e h => some (.inr e, h)) := fun d g X z3 hd => by
        have hc1 := c1 d g X (by omega)
        obtain ⟨d, rfl⟩ : ∃ d', d = d' + 1 := ⟨d - 1, by omega⟩
        rw [K_FormulaReader_term_7, if_pos hi4, px_sort P, clI]
        rcases wS with ⟨ws, rfl⟩ | ⟨ws, wn, rfl⟩
        · rw [if_pos ws, K_FormulaReader_term_38, px_sort P, clI, if_pos ws, b1, clV, hc1, clV, nI_1]
          rfl
        · rw [if_neg wn, px_sort P, clI, if_pos ws, K_FormulaReader_term_38, px_sort P, clI, if_neg wn, b1, clV, hc1, clV, nI_1]
          rfl
      have kU : ∀ d z1, 4 * (12 - n) + 18 ≤ d → RL (mP L xs) d 116 4 [some (rv 22 (some 0)), z1] [] (u, Y) = mclV (EL (mP L xs) d 111 [rv 22 (some 0), iv (nI w), iv 0, iv 0] (u2, Y)) (fun h8 => RL (mP L xs) d 116 4 [some (rv 22 (some 0)), some (iv (nI w))] [] h8) (fun e h => some (.inr e, h)) := fun d z1 hd => by
        have hc2 := c2 d (by omega)
        have hb2 := b2' d (by omega)
        obtain ⟨d, rfl⟩ : ∃ d', d = d' + 1 := ⟨d - 1, by omega⟩
        rw [K_Ref_product_4, if_pos P.fu, hs1, clI]
        rcases wS with ⟨ws, rfl⟩ | ⟨ws, wn, rfl⟩
        · rw [if_pos ws, if_neg (by decide), K_Ref_product_29, hs1, clI, if_pos ws, if_neg (by decide), hb2, clV, hc2, clV]
          rfl
        · rw [if_neg wn, if_pos rfl, hs2, clI, if_pos ws, if_neg (by decide), K_Ref_product_29, hs1, clI, if_neg wn, if_pos rfl, hb2, clV, hc2, clV]
          rfl
      rcases c3 with ⟨t2, lc2, lr2, E2⟩ | E2
      · have et2 := E2.tt
        have el2 := E2.ll
        have ep2 := E2.px.tk
        have hput := fun d g X => c_put (L := L) (xs := xs) (d := d) (g := g) (X := X) (w := w) (v := 0) E2.cc (show c + lc.length + lc2.length < 4001 by omega) (by omega) (by decide)
        have hnew := fun d => r_new (L := L) (xs := xs) (d := d) (Y := Y) E2.qu (show q + lr.length + lr2.length < 9000 by omega) (nI w) 0 0
        generalize hf3 : m3 (m3 f2 32 0 (c + lc.length + lc2.length) (nI (w + 32 * 0))) 10 0 3 (nI (c + lc.length + lc2.length + 1)) = f3 at hput
        generalize hu3 : m3 (m3 (m3 (m3 u2 65 0 (q + lr.length + lr2.length) (nI w)) 66 0 (q + lr.length + lr2.length) 0) 67 0 (q + lr.length + lr2.length) 0) 22 0 45 (nI (q + lr.length + lr2.length + 1)) = u3 at hnew
        have F3 : FrC (c + lc.length + lc2.length) f2 f3 := by rw [← hf3]; exact FrC.put (Nat.le_refl _)
        have U3 : FrQ (q + lr.length + lr2.length) u2 u3 := by rw [← hu3]; exact FrQ.new (Nat.le_refl _)
        have eg : EG N k b sg f0 u0 t0 c q n (1 + 1 + 2 * (12 - n)) f3 u3 t2 (lc ++ (lc2 ++ [(w, 0)])) (lr ++ (lr2 ++ [(w, 0)])) := by
          refine ⟨by omega, E2.px.fr (fun R o i y => by rw [← hf3, m3_no (by omega), m3_no (by omega)]) (fun R o i y => by rw [← hu3, m3_no (by omega), m3_no (by omega), m3_no (by omega), m3_no (by omega)]), ?_, ?_, ?_, ⟨?_, ?_⟩, ?_, ?_, Sam_bn w9 E.sm E2.sm, Wf_bn w9 E.wc E2.wc (by omega), Wf_bn w9 E.wr E2.wr (by omega), ?_, ?_, ((E.fc.tr hF1 (by omega)).tr E2.fc (by omega)).tr F3 (by omega), ((E.fu.tr hU1 (by omega)).tr E2.fu (by omega)).tr U3 (by omega)⟩
          · rw [← hf3, m3_eq, List.length_append, List.length_append, ← Nat.add_assoc, ← Nat.add_assoc]
            rfl
          · rw [← hu3, m3_eq, List.length_append, List.length_append, ← Nat.add_assoc, ← Nat.add_assoc]
            rfl
          · rw [← hu3, m3_i (by decide), m3_r (by decide), m3_r (by decide), m3_r (by decide)]
            exact E2.nu
          · rw [List.length_append, List.length_append]
            show lc.length + (lc2.length + 1) ≤ t2 - t0
            omega
          · rw [List.length_append, List.length_append]
            show lr.length + (lr2.length + 1) ≤ t2 - t0
            omega
          · rw [Sp_app, Sp_app]
            refine ⟨Sp_lt (m := c + lc.length) (fun i hi => ?_) (Nat.le_refl _) E.sp, Sp_lt (m := c + lc.length + lc2.length) (fun i hi => F3 32 0 i (by omega)) (Nat.le_refl _) E2.sp, ?_, trivial⟩
            · exact (F3 32 0 i (by omega)).trans ((E2.fc 32 0 i (by omega)).trans (hF1 32 0 i (by omega)))
            · rw [← hf3, m3_r (by decide), m3_eq]
          · rw [Rpp_app, Rpp_app]
            refine ⟨Rpp_lt (m := q + lr.length) (fun R i hR hi => ?_) (Nat.le_refl _) E.rp, Rpp_lt (m := q + lr.length + lr2.length) (fun R i hR hi => U3 R 0 i (by omega)) (Nat.le_refl _) E2.rp, Or.inl ⟨show w ≠ 3 by omega, ?_⟩, trivial⟩
            · exact (U3 R 0 i (by omega)).trans ((E2.fu R 0 i (by omega)).trans (hU1 R 0 i (by omega)))
            · refine Or.inr (Or.inr (Or.inr (Or.inr (Or.inr (Or.inr (Or.inr (Or.inr ⟨w9.1, ?_⟩)))))))
              rw [← hu3, m3_r (by decide), m3_r (by decide), m3_r (by decide), m3_eq]
          · intro x hx
            rcases List.mem_append.mp hx with hx | hx
            · exact E.oc x hx
            · rcases List.mem_append.mp hx with hx | hx
              · exact E2.oc x hx
              · rw [List.mem_singleton.mp hx]
                exact Or.inr (Or.inr (Or.inr (Or.inr ⟨w9.1, w9.2, rfl⟩)))
          · intro x hx
            rcases List.mem_append.mp hx with hx | hx
            · exact E.ou x hx
            · rcases List.mem_append.mp hx with hx | hx
              · exact E2.ou x hx
              · rw [List.mem_singleton.mp hx]
                exact Or.inr (Or.inr (Or.inr (Or.inr ⟨w9.1, w9.2, rfl⟩)))
        match R, hR with
        | 0, hR => omega
        | R + 1, hR =>
          obtain ⟨f4, u4, d1, d2, d3⟩ := tm_loop F0 S R t2 (i + 1) f3 u3 _ _ (by omega) (by omega) eg
          refine ⟨f4, u4, fun d g X z3 hd => ?_, fun d z1 hd => ?_, d3⟩
          · rw [kC d g X z3 hd]
            have hd1 := d1 d g X (some (iv (nI w))) hd
            obtain ⟨d, rfl⟩ : ∃ d', d = d' + 1 := ⟨d - 1, by omega⟩
            have hp : EL (mP L xs) (d + 1) 68 [rv 10 (some 0), iv (nI w), iv 0] (f2, g, X) = some (.inl none, (f3, g, X)) := hput d g X
            rw [hp, clV, hd1]
          · rw [kU d z1 hd]
            have hd2 := d2 d (some (iv (nI w))) hd
            obtain ⟨d, rfl⟩ : ∃ d', d = d' + 1 := ⟨d - 1, by omega⟩
            rw [hnew, clV, hd2]
      · obtain ⟨p0, q0, D2, y1, y2⟩ := E2.bd
        obtain ⟨c2', z0, z1, z2⟩ := E2.cc
        obtain ⟨q2, x0, x1, x2⟩ := E2.qu
        obtain ⟨f3, c3', a1, a2, a3, a4, a5⟩ := c_putE (L := L) (xs := xs) z2 z1 (nI w) 0
        have D3 : ED f3 p0 q0 := D2.fr (a5 20 0 5 (by omega)) (a5 20 0 6 (by omega)) (a5 20 0 7 (by omega)) (a5 20 0 8 (by omega)) (a5 34 0 4000 (by omega))
        have hnew := fun d => r_new (L := L) (xs := xs) (d := d) (Y := Y) x2 (show q2 < 9000 by omega) (nI w) 0 0
        refine ⟨f3, m3 (m3 (m3 (m3 u2 65 0 q2 (nI w)) 66 0 q2 0) 67 0 q2 0) 22 0 45 (nI (q2 + 1)), fun d g X z3 hd => ?_, fun d z1 hd => ?_, Or.inr ⟨⟨p0, q0, D3, ?_, ?_⟩, ⟨c3', by omega, a4, a2⟩, ⟨q2 + 1, by omega, by omega, ?_⟩, ((E.fc.tr hF1 (by omega)).tr E2.fc (by omega)).tr (show FrC c2' f2 f3 from fun R o i y => a5 R o i (by omega)) (by omega), ((E.fu.tr hU1 (by omega)).tr E2.fu (by omega)).tr (FrQ.new (q' := q2) (Nat.le_refl _)) (by omega)⟩⟩
        · rw [kC d g X z3 hd]
          obtain ⟨d, rfl⟩ : ∃ d', d = d' + 1 := ⟨d - 1, by omega⟩
          rw [a1, clV, K_FormulaReader_term_7, if_pos (show nI (i + 1) < 4000 from nI_lt (b := 4000) (by omega) (by decide)), ed_sort D3, clI, if_neg (by decide), ed_sort D3, clI, if_neg (by decide)]
        · rw [kU d z1 hd]
          obtain ⟨d, rfl⟩ : ∃ d', d = d' + 1 := ⟨d - 1, by omega⟩
          rw [hnew, clV, K_Ref_product_4, if_neg]
          show ¬ (m3 (m3 (m3 (m3 u2 65 0 q2 (nI w)) 66 0 q2 0) 67 0 q2 0) 22 0 45 (nI (q2 + 1))) 22 0 12 = 0
          rw [m3_i (by decide), m3_r (by decide), m3_r (by decide), m3_r (by decide), y1]
          exact D2.qn
        · rw [m3_i (by decide), m3_r (by decide), m3_r (by decide), m3_r (by decide)]; exact y1
        · rw [m3_i (by decide), m3_r (by decide), m3_r (by decide), m3_r (by decide)]; exact y2
        · exact m3_eq
    · have z1 : ¬ sg t = 42 := fun e => z (Or.inl e)
      have z2 : ¬ sg t = 47 := fun e => z (Or.inr e)
      refine ⟨f, u, fun d g X z3 hd => ?_, fun d z3 hd => ?_, Or.inl ⟨t, lc, lr, E⟩⟩
      · obtain ⟨d, rfl⟩ : ∃ d', d = d' + 1 := ⟨d - 1, by omega⟩
        rw [K_FormulaReader_term_7, if_pos hi4, px_sort P, clI, if_neg z1, px_sort P, clI, if_neg z2]
      · obtain ⟨d, rfl⟩ : ∃ d', d = d' + 1 := ⟨d - 1, by omega⟩
        rw [K_Ref_product_4, if_pos P.fu, hs1, clI, if_neg z1, if_pos rfl, hs2, clI, if_neg z2, if_pos rfl]
  termination_by R => R
theorem ex_trm (F : FX N k b sg cn nt ns nn f u t c q n) (IH : ∀ t1, t < t1 → SUMs L xs Y N k b sg cn nt ns nn t1) : LSx L xs Y N k b sg f u t c q n (1 + 1 + 2 * (12 - n)) (4 * (12 - n) + 19) 72 [rv 13 (some 0), iv (nI n)] 116 [rv 22 (some 0)] := by
  obtain ⟨f2, u2, a1, a2, a3⟩ := ex_fac (L := L) (xs := xs) (Y := Y) F IH
  have hkp := F.px.lc.kp
  rcases a3 with ⟨t', lc, lr, E⟩ | E
  · obtain ⟨f3, u3, b1, b2, b3⟩ := tm_loop (L := L) (xs := xs) (Y := Y) F (fun t1 h f u c q F1 => ex_fac (L := L) (xs := xs) (Y := Y) F1 (fun t2 h2 => IH t2 (by omega))) k t' 0 f2 u2 lc lr (by omega) (by omega) (E.up (by omega))
    refine ⟨f3, u3, fun d g X hd => ?_, fun d hd => ?_, b3⟩
    · obtain ⟨d, rfl⟩ : ∃ d', d = d' + 1 := ⟨d - 1, by omega⟩
      rw [E_FormulaReader_term, a1 d g X (by omega), clV]
      exact b1 d g X none (by omega)
    · obtain ⟨d, rfl⟩ : ∃ d', d = d' + 1 := ⟨d - 1, by omega⟩
      rw [E_Ref_product, a2 d (by omega), clV]
      exact b2 d none (by omega)
  · obtain ⟨p0, q0, D2, y1, y2⟩ := E.bd
    refine ⟨f2, u2, fun d g X hd => ?_, fun d hd => ?_, Or.inr E⟩
    · obtain ⟨d, rfl⟩ : ∃ d', d = d' + 2 := ⟨d - 2, by omega⟩
      rw [E_FormulaReader_term, a1 (d + 1) g X (by omega), clV, K_FormulaReader_term_7, if_pos (by decide), ed_sort D2, clI, if_neg (by decide), ed_sort D2, clI, if_neg (by decide)]
    · obtain ⟨d, rfl⟩ : ∃ d', d = d' + 1 := ⟨d - 1, by omega⟩
      rw [E_Ref_product, a2 d (by omega), clV, K_Ref_product_4, if_neg (show ¬ u2 22 0 12 = 0 by rw [y1]; exact D2.qn)]

theorem sm_loop {t0 : Nat} {f0 u0 : MI} (F0 : FX N k b sg cn nt ns nn f0 u0 t0 c q n) (S : ∀ t1, t0 < t1 → ∀ f u c q, FX N k b sg cn nt ns nn f u t1 c q n → LSx L xs Y N k b sg f u t1 c q n (2 + 2 * (12 - n)) (4 * (12 - n) + 19) 72 [rv 13 (some 0), iv (nI n)] 116 [rv 22 (some 0)]) : ∀ (R t i : Nat) (f u : MI) (lc lr : PL), k ≤ t + R → 2 * i ≤ t → EG N k b sg f0 u0 t0 c q n (2 + 1 + 2 * (12 - n)) f u t lc lr →
    ∃ f2 u2, (∀ d g X z3, 4 * (12 - n) + 19 ≤ d → RL (mP L xs) d 73 7 [some (rv 13 (some 0)), some (iv (nI n)), some (iv (nI i)), z3] [] (f, g, X) = some (.inl none, (f2, g, X))) ∧ (∀ d z1, 4 * (12 - n) + 19 ≤ d → RL (mP L xs) d 117 4 [some (rv 22 (some 0)), z1] [] (u, Y) = some (.inl none, (u2, Y))) ∧ ((∃ t' lc' lr', EG N k b sg f0 u0 t0 c q n (2 + 1 + 2 * (12 - n)) f2 u2 t' lc' lr') ∨ EB f0 u0 t0 c q f2 u2)
  | R, t, i, f, u, lc, lr, hR, hi, E => by
    have P := E.px
    have htk := P.tk
    have hkp := P.lc.kp
    have ett := E.tt
    have ell := E.ll
    have hcl := F0.cl
    have hql := F0.ql
    have hnl := F0.nl
    have hi4 : nI i < 4000 := nI_lt (b := 4000) (by omega) (by decide)
    have hs1 : ∀ d, EL (mP L xs) (d + 1) 108 [rv 22 (some 0), iv 43] (u, Y) = some (.inl (some (iv (if sg t = 43 then 1 else 0))), (u, Y)) := fun d => px_isSign (L := L) (xs := xs) (d := d) (Y := Y) P (c := 43) (by decide) (by decide)
    have hs2 : ∀ d, EL (mP L xs) (d + 1) 108 [rv 22 (some 0), iv 45] (u, Y) = some (.inl (some (iv (if sg t = 45 then 1 else 0))), (u, Y)) := fun d => px_isSign (L := L) (xs := xs) (d := d) (Y := Y) P (c := 45) (by decide) (by decide)
    by_cases z : sg t = 43 ∨ sg t = 45
    · obtain ⟨w, w9, wS⟩ : ∃ w : Nat, (9 ≤ w ∧ w ≤ 12) ∧ ((sg t = 43 ∧ w = 9) ∨ (sg t = 45 ∧ ¬ sg t = 43 ∧ w = 10)) := by
        rcases z with z | z
        · exact ⟨9, by decide, Or.inl ⟨z, rfl⟩⟩
        · exact ⟨10, by decide, Or.inr ⟨z, by rw [z]; decide, rfl⟩⟩
      have n0 : sg t ≠ 0 := by rcases z with z | z <;> rw [z] <;> decide
      have n1 : sg t ≠ 1 := by rcases z with z | z <;> rw [z] <;> decide
      obtain ⟨b1, u1, b2, b3, b4⟩ := px_adv (L := L) (xs := xs) (Y := Y) P n0 n1
      have hU1 : FrQ (q + lr.length) u u1 := FrQ.f6 b3
      have hF1 : FrC (c + lc.length) f (m3 f 20 0 6 (nI (t + 1))) := FrC.at6
      have F1 : FX N k b sg cn nt ns nn (m3 f 20 0 6 (nI (t + 1))) u1 (t + 1) (c + lc.length) (q + lr.length) n := ⟨b4, (m3_r (by decide)).trans E.cc, by omega, (b3 22 0 45 (by omega)).trans E.qu, by omega, (b3 22 0 55 (by omega)).trans E.nu, hnl, (F0.nc.frC E.fc).frC hF1, (F0.nz.frQ E.fu).frQ hU1⟩
      obtain ⟨f2, u2, c1, c2, c3⟩ := S (t + 1) (by omega) _ _ _ _ F1
      have b2' : ∀ d, 7 ≤ d → EL (mP L xs) d 101 [rv 22 (some 0)] (u, Y) = some (.inl none, (u1, Y)) := fun d hd => EL_mono hd b2
      have kC : ∀ d g X z3, 4 * (12 - n) + 19 ≤ d → RL (mP L xs) d 73 7 [some (rv 13 (some 0)), some (iv (nI n)), some (iv (nI i)), z3] [] (f, g, X) = mclV (EL (mP L xs) d 68 [rv 10 (some 0), iv (nI w), iv 0] (f2, g, X)) (fun h8 => RL (mP L xs) d 73 7 [some (rv 13 (some 0)), some (iv (nI n)), some (iv (nI (i + 1))), some (iv (nI w))] [] h8) (fun e h => some (.inr e, h)) := fun d g X z3 hd => by
        have hc1 := c1 d g X (by omega)
        obtain ⟨d, rfl⟩ : ∃ d', d = d' + 1 := ⟨d - 1, by omega⟩
        rw [K_FormulaReader_sum_7, if_pos hi4, px_sort P, clI]
        rcases wS with ⟨ws, rfl⟩ | ⟨ws, wn, rfl⟩
        · rw [if_pos ws, K_FormulaReader_sum_38, px_sort P, clI, if_pos ws, b1, clV, hc1, clV, nI_1]
          rfl
        · rw [if_neg wn, px_sort P, clI, if_pos ws, K_FormulaReader_sum_38, px_sort P, clI, if_neg wn, b1, clV, hc1, clV, nI_1]
          rfl
      have kU : ∀ d z1, 4 * (12 - n) + 19 ≤ d → RL (mP L xs) d 117 4 [some (rv 22 (some 0)), z1] [] (u, Y) = mclV (EL (mP L xs) d 111 [rv 22 (some 0), iv (nI w), iv 0, iv 0] (u2, Y)) (fun h8 => RL (mP L xs) d 117 4 [some (rv 22 (some 0)), some (iv (nI w))] [] h8) (fun e h => some (.inr e, h)) := fun d z1 hd => by
        have hc2 := c2 d (by omega)
        have hb2 := b2' d (by omega)
        obtain ⟨d, rfl⟩ : ∃ d', d = d' + 1 := ⟨d - 1, by omega⟩
        rw [K_Ref_sum_4, if_pos P.fu, hs1, clI]
        rcases wS with ⟨ws, rfl⟩ | ⟨ws, wn, rfl⟩
        · rw [if_pos ws, if_neg (by decide), K_Ref_sum_29, hs1, clI, if_pos ws, if_neg (by decide), hb2, clV, hc2, clV]
          rfl
        · rw [if_neg wn, if_pos rfl, hs2, clI, if_pos ws, if_neg (by decide), K_Ref_sum_29, hs1, clI, if_neg wn, if_pos rfl, hb2, clV, hc2, clV]
          rfl
      rcases c3 with ⟨t2, lc2, lr2, E2⟩ | E2
      · have et2 := E2.tt
        have el2 := E2.ll
        have ep2 := E2.px.tk
        have hput := fun d g X => c_put (L := L) (xs := xs) (d := d) (g := g) (X := X) (w := w) (v := 0) E2.cc (show c + lc.length + lc2.length < 4001 by omega) (by omega) (by decide)
        have hnew := fun d => r_new (L := L) (xs := xs) (d := d) (Y := Y) E2.qu (show q + lr.length + lr2.length < 9000 by omega) (nI w) 0 0
        generalize hf3 : m3 (m3 f2 32 0 (c + lc.length + lc2.length) (nI (w + 32 * 0))) 10 0 3 (nI (c + lc.length + lc2.length + 1)) = f3 at hput
        generalize hu3 : m3 (m3 (m3 (m3 u2 65 0 (q + lr.length + lr2.length) (nI w)) 66 0 (q + lr.length + lr2.length) 0) 67 0 (q + lr.length + lr2.length) 0) 22 0 45 (nI (q + lr.length + lr2.length + 1)) = u3 at hnew
        have F3 : FrC (c + lc.length + lc2.length) f2 f3 := by rw [← hf3]; exact FrC.put (Nat.le_refl _)
        have U3 : FrQ (q + lr.length + lr2.length) u2 u3 := by rw [← hu3]; exact FrQ.new (Nat.le_refl _)
        have eg : EG N k b sg f0 u0 t0 c q n (2 + 1 + 2 * (12 - n)) f3 u3 t2 (lc ++ (lc2 ++ [(w, 0)])) (lr ++ (lr2 ++ [(w, 0)])) := by
          refine ⟨by omega, E2.px.fr (fun R o i y => by rw [← hf3, m3_no (by omega), m3_no (by omega)]) (fun R o i y => by rw [← hu3, m3_no (by omega), m3_no (by omega), m3_no (by omega), m3_no (by omega)]), ?_, ?_, ?_, ⟨?_, ?_⟩, ?_, ?_, Sam_bn w9 E.sm E2.sm, Wf_bn w9 E.wc E2.wc (by omega), Wf_bn w9 E.wr E2.wr (by omega), ?_, ?_, ((E.fc.tr hF1 (by omega)).tr E2.fc (by omega)).tr F3 (by omega), ((E.fu.tr hU1 (by omega)).tr E2.fu (by omega)).tr U3 (by omega)⟩
          · rw [← hf3, m3_eq, List.length_append, List.length_append, ← Nat.add_assoc, ← Nat.add_assoc]
            rfl
          · rw [← hu3, m3_eq, List.length_append, List.length_append, ← Nat.add_assoc, ← Nat.add_assoc]
            rfl
          · rw [← hu3, m3_i (by decide), m3_r (by decide), m3_r (by decide), m3_r (by decide)]
            exact E2.nu
          · rw [List.length_append, List.length_append]
            show lc.length + (lc2.length + 1) ≤ t2 - t0
            omega
          · rw [List.length_append, List.length_append]
            show lr.length + (lr2.length + 1) ≤ t2 - t0
            omega
          · rw [Sp_app, Sp_app]
            refine ⟨Sp_lt (m := c + lc.length) (fun i hi => ?_) (Nat.le_refl _) E.sp, Sp_lt (m := c + lc.length + lc2.length) (fun i hi => F3 32 0 i (by omega)) (Nat.le_refl _) E2.sp, ?_, trivial⟩
            · exact (F3 32 0 i (by omega)).trans ((E2.fc 32 0 i (by omega)).trans (hF1 32 0 i (by omega)))
            · rw [← hf3, m3_r (by decide), m3_eq]
          · rw [Rpp_app, Rpp_app]
            refine ⟨Rpp_lt (m := q + lr.length) (fun R i hR hi => ?_) (Nat.le_refl _) E.rp, Rpp_lt (m := q + lr.length + lr2.length) (fun R i hR hi => U3 R 0 i (by omega)) (Nat.le_refl _) E2.rp, Or.inl ⟨show w ≠ 3 by omega, ?_⟩, trivial⟩
            · exact (U3 R 0 i (by omega)).trans ((E2.fu R 0 i (by omega)).trans (hU1 R 0 i (by omega)))
            · refine Or.inr (Or.inr (Or.inr (Or.inr (Or.inr (Or.inr (Or.inr (Or.inr ⟨w9.1, ?_⟩)))))))
              rw [← hu3, m3_r (by decide), m3_r (by decide), m3_r (by decide), m3_eq]
          · intro x hx
            rcases List.mem_append.mp hx with hx | hx
            · exact E.oc x hx
            · rcases List.mem_append.mp hx with hx | hx
              · exact E2.oc x hx
              · rw [List.mem_singleton.mp hx]
                exact Or.inr (Or.inr (Or.inr (Or.inr ⟨w9.1, w9.2, rfl⟩)))
          · intro x hx
            rcases List.mem_append.mp hx with hx | hx
            · exact E.ou x hx
            · rcases List.mem_append.mp hx with hx | hx
              · exact E2.ou x hx
              · rw [List.mem_singleton.mp hx]
                exact Or.inr (Or.inr (Or.inr (Or.inr ⟨w9.1, w9.2, rfl⟩)))
        match R, hR with
        | 0, hR => omega
        | R + 1, hR =>
          obtain ⟨f4, u4, d1, d2, d3⟩ := sm_loop F0 S R t2 (i + 1) f3 u3 _ _ (by omega) (by omega) eg
          refine ⟨f4, u4, fun d g X z3 hd => ?_, fun d z1 hd => ?_, d3⟩
          · rw [kC d g X z3 hd]
            have hd1 := d1 d g X (some (iv (nI w))) hd
            obtain ⟨d, rfl⟩ : ∃ d', d = d' + 1 := ⟨d - 1, by omega⟩
            have hp : EL (mP L xs) (d + 1) 68 [rv 10 (some 0), iv (nI w), iv 0] (f2, g, X) = some (.inl none, (f3, g, X)) := hput d g X
            rw [hp, clV, hd1]
          · rw [kU d z1 hd]
            have hd2 := d2 d (some (iv (nI w))) hd
            obtain ⟨d, rfl⟩ : ∃ d', d = d' + 1 := ⟨d - 1, by omega⟩
            rw [hnew, clV, hd2]
      · obtain ⟨p0, q0, D2, y1, y2⟩ := E2.bd
        obtain ⟨c2', z0, z1, z2⟩ := E2.cc
        obtain ⟨q2, x0, x1, x2⟩ := E2.qu
        obtain ⟨f3, c3', a1, a2, a3, a4, a5⟩ := c_putE (L := L) (xs := xs) z2 z1 (nI w) 0
        have D3 : ED f3 p0 q0 := D2.fr (a5 20 0 5 (by omega)) (a5 20 0 6 (by omega)) (a5 20 0 7 (by omega)) (a5 20 0 8 (by omega)) (a5 34 0 4000 (by omega))
        have hnew := fun d => r_new (L := L) (xs := xs) (d := d) (Y := Y) x2 (show q2 < 9000 by omega) (nI w) 0 0
        refine ⟨f3, m3 (m3 (m3 (m3 u2 65 0 q2 (nI w)) 66 0 q2 0) 67 0 q2 0) 22 0 45 (nI (q2 + 1)), fun d g X z3 hd => ?_, fun d z1 hd => ?_, Or.inr ⟨⟨p0, q0, D3, ?_, ?_⟩, ⟨c3', by omega, a4, a2⟩, ⟨q2 + 1, by omega, by omega, ?_⟩, ((E.fc.tr hF1 (by omega)).tr E2.fc (by omega)).tr (show FrC c2' f2 f3 from fun R o i y => a5 R o i (by omega)) (by omega), ((E.fu.tr hU1 (by omega)).tr E2.fu (by omega)).tr (FrQ.new (q' := q2) (Nat.le_refl _)) (by omega)⟩⟩
        · rw [kC d g X z3 hd]
          obtain ⟨d, rfl⟩ : ∃ d', d = d' + 1 := ⟨d - 1, by omega⟩
          rw [a1, clV, K_FormulaReader_sum_7, if_pos (show nI (i + 1) < 4000 from nI_lt (b := 4000) (by omega) (by decide)), ed_sort D3, clI, if_neg (by decide), ed_sort D3, clI, if_neg (by decide)]
        · rw [kU d z1 hd]
          obtain ⟨d, rfl⟩ : ∃ d', d = d' + 1 := ⟨d - 1, by omega⟩
          rw [hnew, clV, K_Ref_sum_4, if_neg]
          show ¬ (m3 (m3 (m3 (m3 u2 65 0 q2 (nI w)) 66 0 q2 0) 67 0 q2 0) 22 0 45 (nI (q2 + 1))) 22 0 12 = 0
          rw [m3_i (by decide), m3_r (by decide), m3_r (by decide), m3_r (by decide), y1]
          exact D2.qn
        · rw [m3_i (by decide), m3_r (by decide), m3_r (by decide), m3_r (by decide)]; exact y1
        · rw [m3_i (by decide), m3_r (by decide), m3_r (by decide), m3_r (by decide)]; exact y2
        · exact m3_eq
    · have z1 : ¬ sg t = 43 := fun e => z (Or.inl e)
      have z2 : ¬ sg t = 45 := fun e => z (Or.inr e)
      refine ⟨f, u, fun d g X z3 hd => ?_, fun d z3 hd => ?_, Or.inl ⟨t, lc, lr, E⟩⟩
      · obtain ⟨d, rfl⟩ : ∃ d', d = d' + 1 := ⟨d - 1, by omega⟩
        rw [K_FormulaReader_sum_7, if_pos hi4, px_sort P, clI, if_neg z1, px_sort P, clI, if_neg z2]
      · obtain ⟨d, rfl⟩ : ∃ d', d = d' + 1 := ⟨d - 1, by omega⟩
        rw [K_Ref_sum_4, if_pos P.fu, hs1, clI, if_neg z1, if_pos rfl, hs2, clI, if_neg z2, if_pos rfl]
  termination_by R => R
theorem ex_sum0 (F : FX N k b sg cn nt ns nn f u t c q n) (IH : ∀ t1, t < t1 → SUMs L xs Y N k b sg cn nt ns nn t1) : LSx L xs Y N k b sg f u t c q n (2 + 1 + 2 * (12 - n)) (4 * (12 - n) + 20) 73 [rv 13 (some 0), iv (nI n)] 117 [rv 22 (some 0)] := by
  obtain ⟨f2, u2, a1, a2, a3⟩ := ex_trm (L := L) (xs := xs) (Y := Y) F IH
  have hkp := F.px.lc.kp
  rcases a3 with ⟨t', lc, lr, E⟩ | E
  · obtain ⟨f3, u3, b1, b2, b3⟩ := sm_loop (L := L) (xs := xs) (Y := Y) F (fun t1 h f u c q F1 => ex_trm (L := L) (xs := xs) (Y := Y) F1 (fun t2 h2 => IH t2 (by omega))) k t' 0 f2 u2 lc lr (by omega) (by omega) (E.up (by omega))
    refine ⟨f3, u3, fun d g X hd => ?_, fun d hd => ?_, b3⟩
    · obtain ⟨d, rfl⟩ : ∃ d', d = d' + 1 := ⟨d - 1, by omega⟩
      rw [E_FormulaReader_sum, a1 d g X (by omega), clV]
      exact b1 d g X none (by omega)
    · obtain ⟨d, rfl⟩ : ∃ d', d = d' + 1 := ⟨d - 1, by omega⟩
      rw [E_Ref_sum, a2 d (by omega), clV]
      exact b2 d none (by omega)
  · obtain ⟨p0, q0, D2, y1, y2⟩ := E.bd
    refine ⟨f2, u2, fun d g X hd => ?_, fun d hd => ?_, Or.inr E⟩
    · obtain ⟨d, rfl⟩ : ∃ d', d = d' + 2 := ⟨d - 2, by omega⟩
      rw [E_FormulaReader_sum, a1 (d + 1) g X (by omega), clV, K_FormulaReader_sum_7, if_pos (by decide), ed_sort D2, clI, if_neg (by decide), ed_sort D2, clI, if_neg (by decide)]
    · obtain ⟨d, rfl⟩ : ∃ d', d = d' + 1 := ⟨d - 1, by omega⟩
      rw [E_Ref_sum, a2 d (by omega), clV, K_Ref_sum_4, if_neg (show ¬ u2 22 0 12 = 0 by rw [y1]; exact D2.qn)]

/-- every sum -/
theorem ex_sum : ∀ (R t : Nat), k ≤ t + R → SUMs L xs Y N k b sg cn nt ns nn t
  | 0, t, h => fun f u c q n F => absurd F.px.tk (by omega)
  | R + 1, t, h => fun f u c q n F => ex_sum0 F (fun t1 h1 => ex_sum R t1 (by omega))
theorem ex_sums (t : Nat) : SUMs L xs Y N k b sg cn nt ns nn t := ex_sum k t (by omega)
end Lps
