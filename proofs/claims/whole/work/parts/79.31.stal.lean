/-! ===== a stall ===== -/
section Stall
variable {L : Nat} {xs : Nat → Int32} {d : Nat} {X : ML × (Nat → Nat) × Nat × Nat} {Y : MR × ML × (Nat → Nat) × Nat × Nat}
variable {B n s q : Nat} {rd ps en dp : Nat → Nat} {lp : Nat → Option Nat} {f f1 : MI} {g : MR} {u u1 : MI} {r : Nat}
theorem goal0 (T : TT B n s q rd ps en dp lp f g u) (hr : r < n) : TT B n s q rd ps en dp lp (m3 (m3 f 16 r 8 0) 16 r 10 0) g (m3 (m3 u 74 0 r 0) 76 0 r 0) := by
  have T1 := TT_m8 (v := 0) T hr (fun kd M => Rng_74 M.rg ⟨0, by decide, Or.inl rfl⟩ (fun _ => rfl))
  exact TT_m10 (v := 0) T1 hr (fun kd M => Rng_76 M.rg ⟨0, by decide, rfl⟩ (fun _ => rfl))
theorem ntC_18 {l i : Nat} {a b c v : Int32} : ntC (m3 f 18 r i v) l a b c = m3 (ntC f l a b c) 18 r i v := by
  unfold ntC
  split
  · rw [m3_comm (r := 18) (r' := 31) (Or.inl (by decide)), m3_comm (r := 18) (r' := 31) (Or.inl (by decide)), m3_comm (r := 18) (r' := 31) (Or.inl (by decide)), m3_r (show 11 ≠ 18 by decide), m3_comm (r := 18) (r' := 31) (Or.inl (by decide)), m3_comm (r := 18) (r' := 11) (Or.inl (by decide))]
  · exact m3_comm (Or.inl (by decide))
theorem ntU_83 {l : Nat} {a b c v : Int32} : ntU (m3 u 83 0 r v) l a b c = m3 (ntU u l a b c) 83 0 r v := by
  unfold ntU
  split
  · rw [m3_comm (r := 83) (r' := 96) (Or.inl (by decide)), m3_comm (r := 83) (r' := 96) (Or.inl (by decide)), m3_comm (r := 83) (r' := 96) (Or.inl (by decide)), m3_r (show 22 ≠ 83 by decide), m3_comm (r := 83) (r' := 96) (Or.inl (by decide)), m3_comm (r := 83) (r' := 22) (Or.inl (by decide))]
  · exact m3_comm (Or.inl (by decide))
theorem Tgt_cg {f' u' : MI} {o : Option Nat} {k : Nat} (hf : f' 19 = f 19) (h1 : u' 59 = u 59) (h2 : u' 89 = u 89) (T : Tgt f g u rd ps dp r o k) : Tgt f' g u' rd ps dp r o k := by
  obtain ⟨a, b⟩ := T
  refine ⟨a, ?_⟩
  rw [h1, hf]
  rcases b with b | ⟨c, c1, c2, c3, c4, c5⟩
  · exact Or.inl b
  · refine Or.inr ⟨c, c1, c2, c3, fun j b hb hk => ?_, c5⟩
    rw [hf] at hk
    obtain ⟨t, t1, t2, t3, t4⟩ := c4 j b hb hk
    exact ⟨t, t1, t2, by rw [h2]; exact t3, by rw [hf]; exact t4⟩
/-- a stall of a script that goes on -/
theorem p_stall (T : TT B n s q rd ps en dp lp f g u) (hB : B + 2 < 2 ^ 30) (hr : r < n) {a : Nat} (A : Live f g u rd ps dp r a) (v : Int32) :
    ∃ f2 g2 u2, (∀ d X, EL (mP L xs) (d + 5) 186 [rv 17 (some 0), rv 16 (some r), iv v] (f, g, X) = some (.inl none, (f2, g2, X))) ∧ (∀ d Y, EL (mP L xs) (d + 4) 218 [rv 22 (some 0), iv (nI r), iv v] (u, Y) = some (.inl none, (u2, Y))) ∧ PG L xs (B + 2) n s q rd ps en dp lp r f2 g2 u2 := by
  have hn := T.n12
  have T1 := goal0 T hr
  have H := T.loc hr A.rd
  have hpl := H.pl
  obtain ⟨⟨kd, RMx⟩, -, S, -⟩ := T.rr r hr
  have hix : f 16 r 0 = nI r := RMx.ix
  have key := fun d X => E_Runner_stall (L := L) (xs := xs) (d := d) (some r) v (f, g, X)
  have keu := fun d Y => E_Ref_stalls (L := L) (xs := xs) (d := d) (nI r) v (u, Y)
  have e84 : (m3 (m3 u 74 0 r 0) 76 0 r 0) 84 0 r = nI (ps a) := A.nx
  simp only [if_neg (nin (show r < 12 by omega) (by decide)), nI_clamp (show r < 2 ^ 31 by omega), e84, if_neg (nin hpl (by decide)), nI_clamp (show ps a < 2 ^ 31 by omega)] at keu
  have hgsp : g 18 r 3 = some a := A.sp
  rcases H.gd with ⟨g1, g2⟩ | ⟨b, g1, g2, g3, g4⟩
  · -- down
    have e64 : (m3 (m3 u 74 0 r 0) 76 0 r 0) 64 0 (ps a) = -1 := g2
    simp only [e64, if_true] at keu
    have M1 := Mid.rf (r := r) T1 hr
    have T2 := TT_mid (o := none) T1 hr ((M1.c6 (v := 2)).c4 (v := 0)) (Or.inr (Or.inl ⟨m3_eq, Or.inr m3_eq⟩))
    obtain ⟨f3, u3, h1, h2, h3, h4, h5⟩ := fr_loop (L := L) (xs := xs) hr 6 0 _ _ rfl T2
    simp only [nI_0] at h1 h2
    obtain ⟨f4, u4, n1, n2, n3, n4, n5⟩ := p_note (L := L) (xs := xs) h3 (by omega) 2 (nI r) v
    have hix3 : f3 16 r 0 = nI r := by
      obtain ⟨kd3, M3⟩ := (h3.rr r hr).rm
      exact M3.ix
    have e3 : u4 82 0 r = 2 := (mk_at n5 82 0 r rfl).trans (h5.trans m3_eq)
    have e4 : f4 18 r 6 = 2 := by
      have : f4 18 r 6 = f3 18 r 6 := mk_at n4 18 r 6 rfl
      rw [this, h4, m3_i (by decide), m3_eq]
    refine ⟨f4, m3 g 18 r 3 none, u4, fun d X => ?_, fun d Y => ?_, ⟨f4, m3 g 18 r 3 none, fun d X => e_over0 (d := d + 2) (Or.inr (by rw [e4]; decide)), n3.le (by omega), fun _ => ⟨rfl, rfl⟩⟩, fun z => absurd m3_eq z, fun _ => by rw [e3]; decide⟩
    · rw [key]
      simp only [onS_s, E_Ride_dropGoals, clV, hgsp, reduceCtorEq, if_false, g1]
      rw [K_Runner_stall_27]
      simp only [if_true, onS_s]
      rw [E_Script_end]
      simp only [E_Script_goOn, clV, E_Runner_freeAll]
      rw [h1]
      simp only [clV]
      rw [hix3, n1]
      rfl
    · rw [keu]
      rw [h2]
      rw [n2]
      rfl
  · -- behind a guard
    have e64 : (m3 (m3 u 74 0 r 0) 76 0 r 0) 64 0 (ps a) = nI (ps b) := g4
    have Hb := T.loc hr g2
    have hpb := Hb.pl
    have hne : ¬ nI (ps b) = -1 := by
      intro z
      have : (nI (ps b)).toInt = (-1 : Int32).toInt := by rw [z]
      rw [nI_toInt (by omega)] at this
      have e9 : (-1 : Int32).toInt = -1 := by decide
      omega
    simp only [e64, if_neg hne] at keu
    obtain ⟨l, l1, l2, l3⟩ := T1.lgx (by omega)
    have T2 := TT_nt T1 l1 (by omega) l3 1 (nI r) v
    have hmC := ntC_mk (f := m3 (m3 f 16 r 8 0) 16 r 10 0) (l := l) (a := 1) (b := nI r) (c := v)
    have hmU := ntU_mk (u := m3 (m3 u 74 0 r 0) 76 0 r 0) (l := l) (a := 1) (b := nI r) (c := v)
    obtain ⟨j, k1, k2, k3⟩ : ∃ j : Nat, u 62 0 (ps b) = nI j ∧ BlkAt f g u rd ps en dp r b (g 19 b 9) j ∧ dp b ≤ 10 := by
      have hd : dp b ≤ 10 := by
        -- a guard is an owner of the step
        have : ∀ (D c : Nat), dp c = D → rd c = r → g 19 c 3 = some b → dp b ≤ 10 := by
          intro D
          induction D using Nat.strongRecOn with
          | _ D ih =>
            intro c hc hr' hg
            rcases (T.loc hr hr').ow with ⟨-, -, x, -⟩ | ⟨b', x1, x2, x3, x4, x5, x6, -⟩
            · rw [x] at hg; cases hg
            · rcases x6 with x6 | x6
              · exact ih (dp b') (by omega) b' rfl x2 (x6.symm.trans hg)
              · rw [x6] at hg
                cases hg
                exact x5
        exact this (dp a) a rfl A.rd g1
      rcases Hb.kd with ⟨h0, h | h | h | h | h | h | h | h | h⟩ | (h | h | h | h) | h
      · rcases h.1 with h | h | h | h <;> rw [h.1] at g3 <;> exact absurd g3 (by decide)
      · rcases h.1 with h | h | h <;> rw [h.1] at g3 <;> exact absurd g3 (by decide)
      · rw [h.1] at g3; exact absurd g3 (by decide)
      · rw [h.1] at g3; exact absurd g3 (by decide)
      · rw [h.1] at g3; exact absurd g3 (by decide)
      · rcases h.1 with h | h <;> rw [h.1] at g3 <;> exact absurd g3 (by decide)
      · rcases h.1 with h | h <;> rw [h.1] at g3 <;> exact absurd g3 (by decide)
      · rw [h.1] at g3; exact absurd g3 (by decide)
      · rw [h.1] at g3; exact absurd g3 (by decide)
      · rw [h.1] at g3; exact absurd g3 (by decide)
      · rw [h.1] at g3; exact absurd g3 (by decide)
      · rw [h.1] at g3; exact absurd g3 (by decide)
      · obtain ⟨-, -, ⟨j, j1, j2, j3⟩, -⟩ := h
        exact ⟨j, j1, j3, hd⟩
      · rw [h.1] at g3; exact absurd g3 (by decide)
    -- the turns of the guard's owners
    have hAb : AT f g u dp r (some b) := by
      have : ∀ (D c : Nat), dp c = D → rd c = r → g 19 c 3 = some b → AT f g u dp r (g 19 c 2) → AT f g u dp r (some b) := by
        intro D
        induction D using Nat.strongRecOn with
        | _ D ih =>
          intro c hc hr' hg hA
          rcases (T.loc hr hr').ow with ⟨-, -, x, -⟩ | ⟨b', x1, x2, x3, x4, x5, x6, -⟩
          · rw [x] at hg; cases hg
          · rw [x1] at hA
            rcases x6 with x6 | x6
            · exact ih (dp b') (by omega) b' rfl x2 (x6.symm.trans hg) (AT_own hA)
            · rw [x6] at hg
              cases hg
              exact hA
      exact this (dp a) a rfl A.rd g1 A.tn
    have hF : (m3 (m3 (m3 f 16 r 8 0) 16 r 10 0) 18 r 7 v) 19 = f 19 := rfl
    have hF3 : (m3 (ntC (m3 (m3 f 16 r 8 0) 16 r 10 0) l 1 (nI r) v) 18 r 7 v) 19 = f 19 := by
      rw [show (m3 (ntC (m3 (m3 f 16 r 8 0) 16 r 10 0) l 1 (nI r) v) 18 r 7 v) 19 = (ntC (m3 (m3 f 16 r 8 0) 16 r 10 0) l 1 (nI r) v) 19 from rfl]
      funext o i
      exact mk_at hmC 19 o i rfl
    have hU3 : ∀ R, (∀ i, nnU R i = true) → (∀ o i, m3 (m3 (m3 u 74 0 r 0) 76 0 r 0) 83 0 r v R o i = u R o i) → (m3 (ntU (m3 (m3 u 74 0 r 0) 76 0 r 0) l 1 (nI r) v) 83 0 r v) R = u R := by
      intro R hR h9
      funext o i
      rw [← ntU_83]
      exact (mk_at (ntU_mk (u := m3 (m3 (m3 u 74 0 r 0) 76 0 r 0) 83 0 r v)) R o i (hR i)).trans (h9 o i)
    have u59 := hU3 59 (fun _ => rfl) (fun _ _ => rfl)
    have u89 := hU3 89 (fun _ => rfl) (fun _ _ => rfl)
    have u62 := hU3 62 (fun _ => rfl) (fun _ _ => rfl)
    have M2 : Mid rd (ntC (m3 (m3 f 16 r 8 0) 16 r 10 0) l 1 (nI r) v) (m3 (ntC (m3 (m3 f 16 r 8 0) 16 r 10 0) l 1 (nI r) v) 18 r 7 v) (ntU (m3 (m3 u 74 0 r 0) 76 0 r 0) l 1 (nI r) v) (m3 (ntU (m3 (m3 u 74 0 r 0) 76 0 r 0) l 1 (nI r) v) 83 0 r v) r := by
      have Z := Mid.rf (r := r) T2 hr
      exact ⟨mk_m3 rfl, fun r' h => m3_row (Or.inr h), fun b _ => m3_r (by decide), mk_m3 rfl, fun r' h => EqU.s1 (by decide) h, (m3_i (by decide)).trans Z.s6, by rw [m3_eq, m3_eq], (m3_i (by decide)).trans Z.s8⟩
    have S3 : SS n s q rd ps en dp lp (m3 (m3 (m3 f 16 r 8 0) 16 r 10 0) 18 r 7 v) g (m3 (ntU (m3 (m3 u 74 0 r 0) 76 0 r 0) l 1 (nI r) v) 83 0 r v) := by
      refine ⟨hn, ?_⟩
      have e1 : mk stC (m3 (m3 (m3 f 16 r 8 0) 16 r 10 0) 18 r 7 v) = mk stC f := by rw [mk_m3 rfl, mk_m3 rfl, mk_m3 rfl]
      have e2 : mk stU (m3 (ntU (m3 (m3 u 74 0 r 0) 76 0 r 0) l 1 (nI r) v) 83 0 r v) = mk stU u := by rw [mk_m3 rfl, mk_sub st_nn2 hmU, mk_m3 rfl, mk_m3 rfl]
      rw [e1, e2]
      exact T.st
    have hB3 : BlkAt (m3 (m3 (m3 f 16 r 8 0) 16 r 10 0) 18 r 7 v) g (m3 (ntU (m3 (m3 u 74 0 r 0) 76 0 r 0) l 1 (nI r) v) 83 0 r v) rd ps en dp r b (g 19 b 9) j := by
      have h63 := hU3 63 (fun _ => rfl) (fun _ _ => rfl)
      unfold BlkAt EndAt
      rw [u59, u62, h63]
      exact k2
    have hA3 : AT (m3 (m3 (m3 f 16 r 8 0) 16 r 10 0) 18 r 7 v) g (m3 (ntU (m3 (m3 u 74 0 r 0) 76 0 r 0) l 1 (nI r) v) 83 0 r v) dp r (some b) := by
      intro j b hb hk
      obtain ⟨t, t1, t2, t3, t4⟩ := hAb j b hb hk
      exact ⟨t, t1, t2, by rw [u89]; exact t3, t4⟩
    have hst : (m3 (ntU (m3 (m3 u 74 0 r 0) 76 0 r 0) l 1 (nI r) v) 83 0 r v) 82 0 r = 0 := by
      rw [m3_r (by decide), mk_at hmU 82 0 r rfl]
      exact A.st
    obtain ⟨o, k, hin, hgo, htg⟩ := p_into (L := L) (xs := xs) S3 hr g2 (Or.inr (Or.inr (Or.inr g3))) k3 hB3 hA3
    have htg3 : Tgt (m3 (ntC (m3 (m3 f 16 r 8 0) 16 r 10 0) l 1 (nI r) v) 18 r 7 v) g (m3 (ntU (m3 (m3 u 74 0 r 0) 76 0 r 0) l 1 (nI r) v) 83 0 r v) rd ps dp r o k := Tgt_cg (hF3.trans hF.symm) rfl rfl htg
    obtain ⟨u4, q1, q2⟩ := p_go (L := L) (xs := xs) T2 (by omega) hr M2 hst htg3 hgo
    refine ⟨_, _, u4, fun d X => ?_, fun d Y => ?_, q2⟩
    · rw [key]
      simp only [onS_s, E_Ride_dropGoals, clV, hgsp, reduceCtorEq, if_false, g1]
      rw [K_Runner_stall_27]
      simp only [reduceCtorEq, if_false, onS_s]
      rw [hin]
      simp only [clR, E_Script_goOn, clV]
      rw [show (m3 (m3 (m3 (m3 f 16 r 8 0) 16 r 10 0) 18 r 7 v) 18 r 4 0) 16 r 0 = nI r from (show (m3 (m3 f 16 r 8 0) 16 r 10 0) 16 r 0 = nI r by rw [m3_i (by decide), m3_i (by decide)]; exact hix), c_note (f := m3 (m3 (m3 (m3 f 16 r 8 0) 16 r 10 0) 18 r 7 v) 18 r 4 0) (l := l) l2 l1, ntC_18, ntC_18]
      rfl
    · rw [keu]
      rw [r_note (u := m3 (m3 (m3 u 74 0 r 0) 76 0 r 0) 83 0 r v) (l := l) l3 l1, ntU_83]
      simp only [clV]
      rw [if_neg (nin hpb (by decide)), nI_clamp (show ps b < 2 ^ 31 by omega), u62, k1, q1]
      rfl
end Stall
