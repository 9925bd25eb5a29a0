/-! ===== stalls from outside: shed, wind; wear ===== -/
section Outs
variable {L : Nat} {xs : Nat → Int32} {d : Nat} {X : ML × (Nat → Nat) × Nat × Nat} {Y : MR × ML × (Nat → Nat) × Nat × Nat}
variable {B B' n s q : Nat} {rd ps en dp : Nat → Nat} {lp : Nat → Option Nat} {f f1 f2 f' : MI} {g : MR} {u u1 u2 u' : MI} {r a b : Nat}
/-- one value, whatever the rest of the heap -/
theorem b_uni {mc mr : Nat} {ac ar : List MV} {Pv : Int32 → Prop} (h : ∀ (d : Nat) (X : ML × (Nat → Nat) × Nat × Nat) (Y : MR × ML × (Nat → Nat) × Nat × Nat), ∃ v : Int32, Pv v ∧ EL (mP L xs) (d + 2) mc ac (f, g, X) = some (.inl (some (iv v)), (f, g, X)) ∧ EL (mP L xs) (d + 2) mr ar (u, Y) = some (.inl (some (iv v)), (u, Y))) :
    ∃ v : Int32, Pv v ∧ (∀ d X, EL (mP L xs) (d + 2) mc ac (f, g, X) = some (.inl (some (iv v)), (f, g, X))) ∧ (∀ d Y, EL (mP L xs) (d + 2) mr ar (u, Y) = some (.inl (some (iv v)), (u, Y))) := by
  have inj : ∀ {v v' : Int32} {h h' : MH}, (some (.inl (some (iv v)), h) : MX) = some (.inl (some (iv v')), h') → v = v' := fun e => by
    injection e with e
    injection e with e
    injection e with e
    injection e with e
    injection e
  obtain ⟨v, v0, v1, v2⟩ := h 0 (fun _ _ _ => 0, fun _ => 0, 0, 0) (fun _ _ _ => none, fun _ _ _ => 0, fun _ => 0, 0, 0)
  refine ⟨v, v0, fun d X => ?_, fun d Y => ?_⟩
  · obtain ⟨v', -, w1, w2⟩ := h d X (fun _ _ _ => none, fun _ _ _ => 0, fun _ => 0, 0, 0)
    have e := inj ((EL_mono (show 0 + 2 ≤ d + 2 by omega) v2).symm.trans w2)
    rw [w1, e]
  · obtain ⟨v', -, w1, w2⟩ := h d (fun _ _ _ => 0, fun _ => 0, 0, 0) Y
    have e := inj ((EL_mono (show 0 + 2 ≤ d + 2 by omega) v1).symm.trans w1)
    rw [w2, e]
/-- a script with no step -/
theorem p_stall0 (T : TT B n s q rd ps en dp lp f g u) (hB : B + 2 < 2 ^ 30) (hr : r < n) (hg : g 18 r 3 = none) {k : Nat} (k1 : k < 6100) (k2 : u 84 0 r = nI k) (k3 : u 64 0 k = -1) (v : Int32) :
    ∃ f2 u2, (∀ d X, EL (mP L xs) (d + 5) 186 [rv 17 (some 0), rv 16 (some r), iv v] (f, g, X) = some (.inl none, (f2, g, X))) ∧ (∀ d Y, EL (mP L xs) (d + 4) 218 [rv 22 (some 0), iv (nI r), iv v] (u, Y) = some (.inl none, (u2, Y))) ∧ TT (B + 2) n s q rd ps en dp lp f2 g u2 ∧ f2 18 r 6 ≠ 0 := by
  have hn := T.n12
  have T1 := goal0 T hr
  have key := fun d X => E_Runner_stall (L := L) (xs := xs) (d := d) (some r) v (f, g, X)
  have keu := fun d Y => E_Ref_stalls (L := L) (xs := xs) (d := d) (nI r) v (u, Y)
  have e84 : (m3 (m3 u 74 0 r 0) 76 0 r 0) 84 0 r = nI k := k2
  have e64 : (m3 (m3 u 74 0 r 0) 76 0 r 0) 64 0 k = -1 := k3
  simp only [if_neg (nin (show r < 12 by omega) (by decide)), nI_clamp (show r < 2 ^ 31 by omega), e84, if_neg (nin k1 (by decide)), nI_clamp (show k < 2 ^ 31 by omega), e64, if_true] at keu
  have M1 := Mid.rf (r := r) T1 hr
  have T2 := TT_mid (o := none) T1 hr ((M1.c6 (v := 2)).c4 (v := 0)) (Or.inr (Or.inl ⟨m3_eq, Or.inr m3_eq⟩))
  rw [m3_same hg] at T2
  obtain ⟨f3, u3, h1, h2, h3, h4, h5⟩ := fr_loop (L := L) (xs := xs) hr 6 0 _ _ rfl T2
  simp only [nI_0] at h1 h2
  obtain ⟨f4, u4, n1, n2, n3, n4, n5⟩ := p_note (L := L) (xs := xs) h3 (by omega) 2 (nI r) v
  have hix3 : f3 16 r 0 = nI r := by
    obtain ⟨kd3, M3⟩ := (h3.rr r hr).rm
    exact M3.ix
  have e4 : f4 18 r 6 = 2 := by
    have : f4 18 r 6 = f3 18 r 6 := mk_at n4 18 r 6 rfl
    rw [this, h4, m3_i (by decide), m3_eq]
  refine ⟨f4, u4, fun d X => ?_, fun d Y => ?_, n3.le (by omega), by rw [e4]; decide⟩
  · rw [key]
    simp only [onS_s, E_Ride_dropGoals, clV, hg, if_true]
    rw [K_Runner_stall_27]
    simp only [if_true, onS_s]
    rw [E_Script_end]
    simp only [E_Script_goOn, clV, E_Runner_freeAll]
    rw [m3_same hg, h1]
    simp only [clV]
    rw [hix3, n1]
    rfl
  · rw [keu, h2, n2]
    rfl
theorem p_out (T : TT B n s q rd ps en dp lp f g u) (hB : B + 2 < 2 ^ 30) (hr : r < n) (v : Int32) :
    ∃ f2 g2 u2, (∀ d X, EL (mP L xs) (d + 6) 201 [rv 17 (some 0), rv 16 (some r), iv v] (f, g, X) = some (.inl none, (f2, g2, X))) ∧
      ((u 82 0 r = 0 ∧ ∀ d Y, EL (mP L xs) (d + 4) 218 [rv 22 (some 0), iv (nI r), iv v] (u, Y) = some (.inl none, (u2, Y))) ∨ (u 82 0 r ≠ 0 ∧ u2 = u)) ∧ TT (B + 2) n s q rd ps en dp lp f2 g2 u2 := by
  have hs : f 18 r 6 = u 82 0 r := (T.rr r hr).ra.1
  rcases (T.rr r hr).po with ⟨a, A⟩ | ⟨h1, h2⟩ | ⟨h1, h2, k, k1, k2, k3, k4⟩
  · obtain ⟨f1, g1, u1, e1, e2, P⟩ := p_stall (L := L) (xs := xs) T hB hr A v
    obtain ⟨f2, g2, p1, p2, -⟩ := P.ex
    refine ⟨f2, g2, u1, fun d X => ?_, Or.inl ⟨A.st, e2⟩, p2⟩
    rw [E_Runner_stallFromOutside]
    simp only [onS_s, hs, A.st, if_true]
    rw [e1 d X]
    simp only [clV]
    rw [p1 (d + 2) X]
    rfl
  · have h82 : u 82 0 r ≠ 0 := by rcases h2 with h2 | h2 <;> rw [h2] <;> decide
    refine ⟨f, g, u, fun d X => ?_, Or.inr ⟨h82, rfl⟩, T.le (by omega)⟩
    rw [E_Runner_stallFromOutside]
    simp only [onS_s, hs, if_neg h82]
  · obtain ⟨f2, u2, e1, e2, T2, e3⟩ := p_stall0 (L := L) (xs := xs) T hB hr h1 k1 k2 k4 v
    refine ⟨f2, g, u2, fun d X => ?_, Or.inl ⟨h2, e2⟩, T2⟩
    rw [E_Runner_stallFromOutside]
    simp only [onS_s, hs, h2, if_true]
    rw [e1 d X]
    simp only [clV]
    rw [e_over0 (d := d + 4) (Or.inr e3)]
    rfl
/-- the wind -/
theorem p_blow (T : TT B n s q rd ps en dp lp f g u) (hB : B + 2 < 2 ^ 30) (hr : r < n) : ∃ f2 g2 u2, (∀ d X, EL (mP L xs) (d + 7) 204 [rv 17 (some 0), rv 16 (some r)] (f, g, X) = some (.inl none, (f2, g2, X))) ∧
    (∀ d Y z2, RL (mP L xs) (d + 4) 236 145 [some (rv 22 (some 0)), some (iv (nI r)), z2] [] (u, Y) = RL (mP L xs) (d + 4) 236 145 [some (rv 22 (some 0)), some (iv (nI (r + 1))), z2] [] (u2, Y)) ∧ TT (B + 2) n s q rd ps en dp lp f2 g2 u2 := by
  have hn := T.n12
  have nn : ¬ ino (nI r) 12 := nin (by omega) (by decide)
  have cl : (nI r).toNatClampNeg = r := nI_clamp (by omega)
  have hcn : u 22 0 20 = nI n := T.cn.2.2.2.1.2
  have hw : f 11 0 10 = u 22 0 80 := T.gb.2.1
  obtain ⟨⟨kd, M⟩, -⟩ := T.rr r hr
  have t2 := M.mo.2.1
  have t4 := M.mo.2.2.2.1
  have lim := fun d X Y => b_limit (L := L) (xs := xs) (d := d) M (hc := (f, g, X)) (hr := (u, Y)) rfl rfl
  have keyC := fun d X => E_Runner_blow (L := L) (xs := xs) (d := d + 6) (some r) (f, g, X)
  have keyU := fun d Y z2 => K_Ref_ticks_145 (L := L) (xs := xs) (d := d + 4) (z2 := z2) (nI r) (u, Y)
  simp only [onS_s, E_Ride_hasGoal, t2, t4, hw] at keyC
  simp only [hcn, if_pos (nI_lt hr (show n < 2 ^ 31 by omega)), nn, if_false, cl, nI_1] at keyU
  have hv : ∃ v : Int32, True ∧ (∀ d X, EL (mP L xs) (d + 2) 203 [rv 16 (some r)] (f, g, X) = some (.inl (some (iv v)), (f, g, X))) ∧ (∀ d Y, EL (mP L xs) (d + 2) 234 [rv 22 (some 0), iv (nI r)] (u, Y) = some (.inl (some (iv v)), (u, Y))) :=
    b_uni (fun d X Y => by
      obtain ⟨v, w1, w2⟩ := lim d X Y
      exact ⟨v, trivial, w1, w2⟩)
  obtain ⟨v, -, v1, v2⟩ := hv
  have keyC2 : ∀ d X, EL (mP L xs) (d + 7) 204 [rv 17 (some 0), rv 16 (some r)] (f, g, X) = _ := fun d X => (keyC d X).trans (by rw [v1 (d + 4) X, clI])
  have keyU2 : ∀ d Y z2, RL (mP L xs) (d + 4) 236 145 [some (rv 22 (some 0)), some (iv (nI r)), z2] [] (u, Y) = _ := fun d Y z2 => (keyU d Y z2).trans (by rw [v2 (d + 2) Y, clI])
  simp only [hw, t2, t4] at keyC2
  by_cases c1 : v < u 22 0 80
  · simp only [if_pos c1] at keyC2 keyU2
    have T1 := goal0 T hr
    have go : (∀ d X, EL (mP L xs) (d + 7) 204 [rv 17 (some 0), rv 16 (some r)] (f, g, X) = mclV (EL (mP L xs) (d + 6) 183 [rv 16 (some r)] (f, g, X)) (fun h8 => mclV (EL (mP L xs) (d + 6) 201 [rv 17 (some 0), rv 16 (some r), iv 4] h8) (fun h9 => some (.inl none, h9)) (fun e h => some (.inr e, h))) (fun e h => some (.inr e, h))) →
        (∀ d Y z2, RL (mP L xs) (d + 4) 236 145 [some (rv 22 (some 0)), some (iv (nI r)), z2] [] (u, Y) = RL (mP L xs) (d + 4) 236 186 [some (rv 22 (some 0)), some (iv (nI r)), z2] [] (u, Y)) →
        ∃ f2 g2 u2, (∀ d X, EL (mP L xs) (d + 7) 204 [rv 17 (some 0), rv 16 (some r)] (f, g, X) = some (.inl none, (f2, g2, X))) ∧
          (∀ d Y z2, RL (mP L xs) (d + 4) 236 145 [some (rv 22 (some 0)), some (iv (nI r)), z2] [] (u, Y) = RL (mP L xs) (d + 4) 236 145 [some (rv 22 (some 0)), some (iv (nI (r + 1))), z2] [] (u2, Y)) ∧ TT (B + 2) n s q rd ps en dp lp f2 g2 u2 := by
      intro hC hU
      obtain ⟨f2, g2, u2, o1, o2, o3⟩ := p_out (L := L) (xs := xs) T1 hB hr 4
      refine ⟨f2, g2, u2, fun d X => ?_, fun d Y z2 => ?_, o3⟩
      · rw [hC, E_Ride_dropGoals]
        simp only [clV]
        rw [o1 d X]
        rfl
      · rw [hU, K_Ref_ticks_186]
        simp only [nn, if_false, cl, nI_1]
        rcases o2 with ⟨o2, o4⟩ | ⟨o2, rfl⟩
        · rw [if_pos o2, o4 d Y]
          rfl
        · rw [if_neg o2]
    by_cases c2 : u 74 0 r = 0
    · by_cases c3 : u 76 0 r = 0
      · simp only [if_pos c2, if_pos c3, clI, if_true] at keyC2
        simp only [if_pos c2, if_pos c3] at keyU2
        exact ⟨f, g, u, keyC2, keyU2, T.le (by omega)⟩
      · simp only [if_pos c2, if_neg c3, clI, if_neg (show ¬ (1 : Int32) = 0 by decide)] at keyC2
        simp only [if_pos c2, if_neg c3] at keyU2
        exact go keyC2 keyU2
    · simp only [if_neg c2, clI, if_neg (show ¬ (1 : Int32) = 0 by decide)] at keyC2
      simp only [if_neg c2] at keyU2
      exact go keyC2 keyU2
  · simp only [if_neg c1] at keyC2 keyU2
    exact ⟨f, g, u, keyC2, keyU2, T.le (by omega)⟩
end Outs
