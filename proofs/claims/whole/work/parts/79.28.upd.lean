/-! ===== changes of a ride ===== -/
section Upd
variable {B B' n s q : Nat} {rd ps en dp : Nat → Nat} {lp : Nat → Option Nat} {f f1 : MI} {g g1 : MR} {u u1 : MI} {r kd : Nat} {v : Int32}
theorem Rng_73 (G : Rng u r kd) (h1 : ∃ s : Nat, s ≤ 100 ∧ Sz v s) (h2 : aTu kd = false → v = 0) : Rng (m3 u 73 0 r v) r kd := ⟨by rw [m3_eq]; exact h1, G.gl, G.he, G.li, G.ab, G.gw, G.vo, G.we, G.n0, G.n1, G.n2, G.n3, G.n5, fun z => ⟨m3_eq.trans (h2 z), (G.tu z).2⟩, G.tn, G.lf, G.la, G.so⟩
theorem Rng_74 (G : Rng u r kd) (h1 : ∃ s : Nat, s ≤ 100 ∧ Sz v s) (h2 : aTu kd = false → v = 0) : Rng (m3 u 74 0 r v) r kd := ⟨G.sp, by rw [m3_eq]; exact h1, G.he, G.li, G.ab, G.gw, G.vo, G.we, G.n0, G.n1, G.n2, G.n3, G.n5, fun z => ⟨(G.tu z).1, m3_eq.trans (h2 z), (G.tu z).2.2⟩, G.tn, G.lf, G.la, G.so⟩
theorem Rng_75 (G : Rng u r kd) (h1 : Upto v 1000) (h2 : aLi kd = false → v = 0) : Rng (m3 u 75 0 r v) r kd := ⟨G.sp, G.gl, by rw [m3_eq]; exact h1, G.li, G.ab, G.gw, G.vo, G.we, G.n0, G.n1, G.n2, G.n3, G.n5, G.tu, G.tn, fun z => ⟨m3_eq.trans (h2 z), (G.lf z).2⟩, G.la, G.so⟩
theorem Rng_76 (G : Rng u r kd) (h1 : Upto v 1000) (h2 : aLi kd = false → v = 0) : Rng (m3 u 76 0 r v) r kd := ⟨G.sp, G.gl, G.he, by rw [m3_eq]; exact h1, G.ab, G.gw, G.vo, G.we, G.n0, G.n1, G.n2, G.n3, G.n5, G.tu, G.tn, fun z => ⟨(G.lf z).1, m3_eq.trans (h2 z), (G.lf z).2.2⟩, G.la, G.so⟩
theorem Rng_77 (G : Rng u r kd) (h2 : aLi kd = false → v = 0) : Rng (m3 u 77 0 r v) r kd := ⟨G.sp, G.gl, G.he, G.li, G.ab, G.gw, G.vo, G.we, G.n0, G.n1, G.n2, G.n3, G.n5, G.tu, G.tn, fun z => ⟨(G.lf z).1, (G.lf z).2.1, m3_eq.trans (h2 z), (G.lf z).2.2.2⟩, G.la, G.so⟩
theorem Rng_78 (G : Rng u r kd) (h1 : ∃ a b : Nat, a ≤ b ∧ b ≤ 60 ∧ v = nI a ∧ u 55 0 r = nI b) : Rng (m3 u 78 0 r v) r kd := ⟨G.sp, G.gl, G.he, G.li, by rw [m3_eq]; exact h1, G.gw, G.vo, G.we, G.n0, G.n1, G.n2, G.n3, G.n5, G.tu, G.tn, G.lf, G.la, G.so⟩
theorem Rng_79 (G : Rng u r kd) (h1 : Upto v 100) (h2 : aLa kd = false → v = 0) : Rng (m3 u 79 0 r v) r kd := ⟨G.sp, G.gl, G.he, G.li, G.ab, by rw [m3_eq]; exact h1, G.vo, G.we, G.n0, G.n1, G.n2, G.n3, G.n5, G.tu, G.tn, G.lf, fun z => ⟨m3_eq.trans (h2 z), (G.la z).2⟩, G.so⟩
theorem Rng_80 (G : Rng u r kd) (h1 : Upto v 100) (h2 : aSo kd = false → v = 0) : Rng (m3 u 80 0 r v) r kd := ⟨G.sp, G.gl, G.he, G.li, G.ab, G.gw, by rw [m3_eq]; exact h1, G.we, G.n0, G.n1, G.n2, G.n3, G.n5, G.tu, G.tn, G.lf, G.la, fun z => m3_eq.trans (h2 z)⟩
theorem Rng_81 (G : Rng u r kd) (h1 : Upto v 9999) : Rng (m3 u 81 0 r v) r kd := ⟨G.sp, G.gl, G.he, G.li, G.ab, G.gw, G.vo, by rw [m3_eq]; exact h1, G.n0, G.n1, G.n2, G.n3, G.n5, G.tu, G.tn, G.lf, G.la, G.so⟩
theorem TT_m7 (T : TT B n s q rd ps en dp lp f g u) (hr : r < n) (hR : ∀ kd, RM f g u r kd → Rng (m3 u 73 0 r v) r kd) : TT B n s q rd ps en dp lp (m3 f 16 r 7 v) g (m3 u 73 0 r v) := by
  obtain ⟨⟨kd, M⟩, ⟨m, Q⟩, S, P⟩ := T.rr r hr
  obtain ⟨o1, o2, o3, o4, o5, o6, o7, o8, o9⟩ := M.mo
  exact TT_ride T hr (fun r' h => EqC.ob h) (fun r' h => EqU.s1 (by decide) h) (fun b _ => m3_r (by decide)) (fun r' _ => ⟨rfl, rfl⟩) (mk_m3 rfl) rfl (mk_m3 rfl) T.cn T.gb T.lg T.sf T.ss T.fl ⟨⟨kd, M.lt, M.kl, (m3_i (by decide)).trans M.kc, M.kr, (m3_i (by decide)).trans M.ac, (m3_i (by decide)).trans M.ix, M.ar, M.m0, M.m1, M.m2, M.m3, M.m4, M.m5, M.t8, M.tx, ⟨m3_eq.trans m3_eq.symm, (m3_i (by decide)).trans o2, (m3_i (by decide)).trans o3, (m3_i (by decide)).trans o4, (m3_i (by decide)).trans o5, (m3_i (by decide)).trans o6, (m3_i (by decide)).trans o7, (m3_i (by decide)).trans o8, (m3_i (by decide)).trans o9⟩, hR kd M⟩, ⟨m, Q⟩, S, P⟩
theorem TT_m8 (T : TT B n s q rd ps en dp lp f g u) (hr : r < n) (hR : ∀ kd, RM f g u r kd → Rng (m3 u 74 0 r v) r kd) : TT B n s q rd ps en dp lp (m3 f 16 r 8 v) g (m3 u 74 0 r v) := by
  obtain ⟨⟨kd, M⟩, ⟨m, Q⟩, S, P⟩ := T.rr r hr
  obtain ⟨o1, o2, o3, o4, o5, o6, o7, o8, o9⟩ := M.mo
  exact TT_ride T hr (fun r' h => EqC.ob h) (fun r' h => EqU.s1 (by decide) h) (fun b _ => m3_r (by decide)) (fun r' _ => ⟨rfl, rfl⟩) (mk_m3 rfl) rfl (mk_m3 rfl) T.cn T.gb T.lg T.sf T.ss T.fl ⟨⟨kd, M.lt, M.kl, (m3_i (by decide)).trans M.kc, M.kr, (m3_i (by decide)).trans M.ac, (m3_i (by decide)).trans M.ix, M.ar, M.m0, M.m1, M.m2, M.m3, M.m4, M.m5, M.t8, M.tx, ⟨(m3_i (by decide)).trans o1, m3_eq.trans m3_eq.symm, (m3_i (by decide)).trans o3, (m3_i (by decide)).trans o4, (m3_i (by decide)).trans o5, (m3_i (by decide)).trans o6, (m3_i (by decide)).trans o7, (m3_i (by decide)).trans o8, (m3_i (by decide)).trans o9⟩, hR kd M⟩, ⟨m, Q⟩, S, P⟩
theorem TT_m9 (T : TT B n s q rd ps en dp lp f g u) (hr : r < n) (hR : ∀ kd, RM f g u r kd → Rng (m3 u 75 0 r v) r kd) : TT B n s q rd ps en dp lp (m3 f 16 r 9 v) g (m3 u 75 0 r v) := by
  obtain ⟨⟨kd, M⟩, ⟨m, Q⟩, S, P⟩ := T.rr r hr
  obtain ⟨o1, o2, o3, o4, o5, o6, o7, o8, o9⟩ := M.mo
  exact TT_ride T hr (fun r' h => EqC.ob h) (fun r' h => EqU.s1 (by decide) h) (fun b _ => m3_r (by decide)) (fun r' _ => ⟨rfl, rfl⟩) (mk_m3 rfl) rfl (mk_m3 rfl) T.cn T.gb T.lg T.sf T.ss T.fl ⟨⟨kd, M.lt, M.kl, (m3_i (by decide)).trans M.kc, M.kr, (m3_i (by decide)).trans M.ac, (m3_i (by decide)).trans M.ix, M.ar, M.m0, M.m1, M.m2, M.m3, M.m4, M.m5, M.t8, M.tx, ⟨(m3_i (by decide)).trans o1, (m3_i (by decide)).trans o2, m3_eq.trans m3_eq.symm, (m3_i (by decide)).trans o4, (m3_i (by decide)).trans o5, (m3_i (by decide)).trans o6, (m3_i (by decide)).trans o7, (m3_i (by decide)).trans o8, (m3_i (by decide)).trans o9⟩, hR kd M⟩, ⟨m, Q⟩, S, P⟩
theorem TT_m10 (T : TT B n s q rd ps en dp lp f g u) (hr : r < n) (hR : ∀ kd, RM f g u r kd → Rng (m3 u 76 0 r v) r kd) : TT B n s q rd ps en dp lp (m3 f 16 r 10 v) g (m3 u 76 0 r v) := by
  obtain ⟨⟨kd, M⟩, ⟨m, Q⟩, S, P⟩ := T.rr r hr
  obtain ⟨o1, o2, o3, o4, o5, o6, o7, o8, o9⟩ := M.mo
  exact TT_ride T hr (fun r' h => EqC.ob h) (fun r' h => EqU.s1 (by decide) h) (fun b _ => m3_r (by decide)) (fun r' _ => ⟨rfl, rfl⟩) (mk_m3 rfl) rfl (mk_m3 rfl) T.cn T.gb T.lg T.sf T.ss T.fl ⟨⟨kd, M.lt, M.kl, (m3_i (by decide)).trans M.kc, M.kr, (m3_i (by decide)).trans M.ac, (m3_i (by decide)).trans M.ix, M.ar, M.m0, M.m1, M.m2, M.m3, M.m4, M.m5, M.t8, M.tx, ⟨(m3_i (by decide)).trans o1, (m3_i (by decide)).trans o2, (m3_i (by decide)).trans o3, m3_eq.trans m3_eq.symm, (m3_i (by decide)).trans o5, (m3_i (by decide)).trans o6, (m3_i (by decide)).trans o7, (m3_i (by decide)).trans o8, (m3_i (by decide)).trans o9⟩, hR kd M⟩, ⟨m, Q⟩, S, P⟩
theorem TT_m11 (T : TT B n s q rd ps en dp lp f g u) (hr : r < n) (hR : ∀ kd, RM f g u r kd → Rng (m3 u 77 0 r v) r kd) : TT B n s q rd ps en dp lp (m3 f 16 r 11 v) g (m3 u 77 0 r v) := by
  obtain ⟨⟨kd, M⟩, ⟨m, Q⟩, S, P⟩ := T.rr r hr
  obtain ⟨o1, o2, o3, o4, o5, o6, o7, o8, o9⟩ := M.mo
  exact TT_ride T hr (fun r' h => EqC.ob h) (fun r' h => EqU.s1 (by decide) h) (fun b _ => m3_r (by decide)) (fun r' _ => ⟨rfl, rfl⟩) (mk_m3 rfl) rfl (mk_m3 rfl) T.cn T.gb T.lg T.sf T.ss T.fl ⟨⟨kd, M.lt, M.kl, (m3_i (by decide)).trans M.kc, M.kr, (m3_i (by decide)).trans M.ac, (m3_i (by decide)).trans M.ix, M.ar, M.m0, M.m1, M.m2, M.m3, M.m4, M.m5, M.t8, M.tx, ⟨(m3_i (by decide)).trans o1, (m3_i (by decide)).trans o2, (m3_i (by decide)).trans o3, (m3_i (by decide)).trans o4, m3_eq.trans m3_eq.symm, (m3_i (by decide)).trans o6, (m3_i (by decide)).trans o7, (m3_i (by decide)).trans o8, (m3_i (by decide)).trans o9⟩, hR kd M⟩, ⟨m, Q⟩, S, P⟩
theorem TT_m12 (T : TT B n s q rd ps en dp lp f g u) (hr : r < n) (hR : ∀ kd, RM f g u r kd → Rng (m3 u 78 0 r v) r kd) : TT B n s q rd ps en dp lp (m3 f 16 r 12 v) g (m3 u 78 0 r v) := by
  obtain ⟨⟨kd, M⟩, ⟨m, Q⟩, S, P⟩ := T.rr r hr
  obtain ⟨o1, o2, o3, o4, o5, o6, o7, o8, o9⟩ := M.mo
  exact TT_ride T hr (fun r' h => EqC.ob h) (fun r' h => EqU.s1 (by decide) h) (fun b _ => m3_r (by decide)) (fun r' _ => ⟨rfl, rfl⟩) (mk_m3 rfl) rfl (mk_m3 rfl) T.cn T.gb T.lg T.sf T.ss T.fl ⟨⟨kd, M.lt, M.kl, (m3_i (by decide)).trans M.kc, M.kr, (m3_i (by decide)).trans M.ac, (m3_i (by decide)).trans M.ix, M.ar, M.m0, M.m1, M.m2, M.m3, M.m4, M.m5, M.t8, M.tx, ⟨(m3_i (by decide)).trans o1, (m3_i (by decide)).trans o2, (m3_i (by decide)).trans o3, (m3_i (by decide)).trans o4, (m3_i (by decide)).trans o5, m3_eq.trans m3_eq.symm, (m3_i (by decide)).trans o7, (m3_i (by decide)).trans o8, (m3_i (by decide)).trans o9⟩, hR kd M⟩, ⟨m, Q⟩, S, P⟩
theorem TT_m13 (T : TT B n s q rd ps en dp lp f g u) (hr : r < n) (hR : ∀ kd, RM f g u r kd → Rng (m3 u 79 0 r v) r kd) : TT B n s q rd ps en dp lp (m3 f 16 r 13 v) g (m3 u 79 0 r v) := by
  obtain ⟨⟨kd, M⟩, ⟨m, Q⟩, S, P⟩ := T.rr r hr
  obtain ⟨o1, o2, o3, o4, o5, o6, o7, o8, o9⟩ := M.mo
  exact TT_ride T hr (fun r' h => EqC.ob h) (fun r' h => EqU.s1 (by decide) h) (fun b _ => m3_r (by decide)) (fun r' _ => ⟨rfl, rfl⟩) (mk_m3 rfl) rfl (mk_m3 rfl) T.cn T.gb T.lg T.sf T.ss T.fl ⟨⟨kd, M.lt, M.kl, (m3_i (by decide)).trans M.kc, M.kr, (m3_i (by decide)).trans M.ac, (m3_i (by decide)).trans M.ix, M.ar, M.m0, M.m1, M.m2, M.m3, M.m4, M.m5, M.t8, M.tx, ⟨(m3_i (by decide)).trans o1, (m3_i (by decide)).trans o2, (m3_i (by decide)).trans o3, (m3_i (by decide)).trans o4, (m3_i (by decide)).trans o5, (m3_i (by decide)).trans o6, m3_eq.trans m3_eq.symm, (m3_i (by decide)).trans o8, (m3_i (by decide)).trans o9⟩, hR kd M⟩, ⟨m, Q⟩, S, P⟩
theorem TT_m14 (T : TT B n s q rd ps en dp lp f g u) (hr : r < n) (hR : ∀ kd, RM f g u r kd → Rng (m3 u 80 0 r v) r kd) : TT B n s q rd ps en dp lp (m3 f 16 r 14 v) g (m3 u 80 0 r v) := by
  obtain ⟨⟨kd, M⟩, ⟨m, Q⟩, S, P⟩ := T.rr r hr
  obtain ⟨o1, o2, o3, o4, o5, o6, o7, o8, o9⟩ := M.mo
  exact TT_ride T hr (fun r' h => EqC.ob h) (fun r' h => EqU.s1 (by decide) h) (fun b _ => m3_r (by decide)) (fun r' _ => ⟨rfl, rfl⟩) (mk_m3 rfl) rfl (mk_m3 rfl) T.cn T.gb T.lg T.sf T.ss T.fl ⟨⟨kd, M.lt, M.kl, (m3_i (by decide)).trans M.kc, M.kr, (m3_i (by decide)).trans M.ac, (m3_i (by decide)).trans M.ix, M.ar, M.m0, M.m1, M.m2, M.m3, M.m4, M.m5, M.t8, M.tx, ⟨(m3_i (by decide)).trans o1, (m3_i (by decide)).trans o2, (m3_i (by decide)).trans o3, (m3_i (by decide)).trans o4, (m3_i (by decide)).trans o5, (m3_i (by decide)).trans o6, (m3_i (by decide)).trans o7, m3_eq.trans m3_eq.symm, (m3_i (by decide)).trans o9⟩, hR kd M⟩, ⟨m, Q⟩, S, P⟩
theorem TT_m15 (T : TT B n s q rd ps en dp lp f g u) (hr : r < n) (hR : ∀ kd, RM f g u r kd → Rng (m3 u 81 0 r v) r kd) : TT B n s q rd ps en dp lp (m3 f 16 r 15 v) g (m3 u 81 0 r v) := by
  obtain ⟨⟨kd, M⟩, ⟨m, Q⟩, S, P⟩ := T.rr r hr
  obtain ⟨o1, o2, o3, o4, o5, o6, o7, o8, o9⟩ := M.mo
  exact TT_ride T hr (fun r' h => EqC.ob h) (fun r' h => EqU.s1 (by decide) h) (fun b _ => m3_r (by decide)) (fun r' _ => ⟨rfl, rfl⟩) (mk_m3 rfl) rfl (mk_m3 rfl) T.cn T.gb T.lg T.sf T.ss T.fl ⟨⟨kd, M.lt, M.kl, (m3_i (by decide)).trans M.kc, M.kr, (m3_i (by decide)).trans M.ac, (m3_i (by decide)).trans M.ix, M.ar, M.m0, M.m1, M.m2, M.m3, M.m4, M.m5, M.t8, M.tx, ⟨(m3_i (by decide)).trans o1, (m3_i (by decide)).trans o2, (m3_i (by decide)).trans o3, (m3_i (by decide)).trans o4, (m3_i (by decide)).trans o5, (m3_i (by decide)).trans o6, (m3_i (by decide)).trans o7, (m3_i (by decide)).trans o8, m3_eq.trans m3_eq.symm⟩, hR kd M⟩, ⟨m, Q⟩, S, P⟩
/-- all of a script's ints; the reference's -/
def ndC (R i : Nat) : Bool := !(Nat.beq R 18 || (Nat.beq R 19 && Nat.beq i 6))
def ndG (R i : Nat) : Bool := !(Nat.beq R 18 && Nat.beq i 3)
def ndU (R _i : Nat) : Bool := !(Nat.blt 81 R && Nat.blt R 90 && !Nat.beq R 88)
theorem stC_nd : ∀ R i, stC R i = true → ndC R i = true := by
  intro R i h
  unfold stC at h
  unfold ndC
  rw [Bool.or_eq_true, Bool.or_eq_true] at h
  rcases h with (h | h) | h
  · rw [Bool.and_eq_true] at h
    have := Nat.eq_of_beq_eq_true h.1
    subst this
    have h2 := h.2
    rw [Bool.not_eq_true'] at h2
    rw [h2]
    rfl
  · have := Nat.eq_of_beq_eq_true h
    subst this
    rfl
  · rw [Bool.and_eq_true] at h
    have h1 := Nat.eq_of_beq_eq_true h.1
    have h2 := Nat.eq_of_beq_eq_true h.2
    subst h1; subst h2
    rfl
theorem stU_nd : ∀ R i, stU R i = true → ndU R i = true := by
  intro R i h
  unfold stU at h
  have hb : R < 73 := by
    rw [Bool.or_eq_true] at h
    rcases h with h | h
    · rw [Bool.or_eq_true] at h
      rcases h with h | h
      · have := Nat.eq_of_beq_eq_true h
        omega
      · have := Nat.eq_of_beq_eq_true h
        omega
    · rw [Bool.and_eq_true] at h
      have : R + 1 ≤ 73 := Nat.le_of_ble_eq_true h.2
      omega
  unfold ndU
  have h1 : Nat.blt 81 R = false := by
    cases hz : Nat.blt 81 R with
    | false => rfl
    | true => have : 81 + 1 ≤ R := Nat.le_of_ble_eq_true hz; omega
  rw [h1]
  rfl
theorem mkG_sub {b c : Nat → Nat → Bool} {f f' : MR} (hb : ∀ R i, c R i = true → b R i = true) (e : mkG b f' = mkG b f) : mkG c f' = mkG c f := by
  funext R o i
  have h := congrFun (congrFun (congrFun e R) o) i
  unfold mkG at h ⊢
  cases hc : c R i with
  | false => rfl
  | true => rw [hb R i hc] at h; exact h
theorem stG_nd : ∀ R i, stG R i = true → ndG R i = true := by
  intro R i h
  unfold stG at h
  unfold ndG
  rw [Bool.or_eq_true] at h
  rcases h with h | h
  · have := Nat.eq_of_beq_eq_true h
    subst this
    rfl
  · rw [Bool.and_eq_true] at h
    have h1 := Nat.eq_of_beq_eq_true h.1
    have h2 := Nat.eq_of_beq_eq_true h.2
    subst h1; subst h2
    rfl
/-- a change of how ride r's script stands -/
theorem TT_scr (T : TT B n s q rd ps en dp lp f g u) (hr : r < n) (e1 : mk ndC f1 = mk ndC f) (hC : ∀ r', r' ≠ r → f1 18 r' = f 18 r') (h6 : ∀ b, rd b ≠ r → f1 19 b 6 = f 19 b 6)
    (eg : mkG ndG g1 = mkG ndG g) (hg : ∀ r', r' ≠ r → g1 18 r' 3 = g 18 r' 3) (e2 : mk ndU u1 = mk ndU u) (hU : ∀ r', r' ≠ r → EqU u u1 r')
    (h1 : f1 18 r 6 = u1 82 0 r) (h2 : f1 18 r 7 = u1 83 0 r) (h3 : f1 18 r 8 = u1 85 0 r) (hP : PosR f1 g1 u1 rd ps dp r) : TT B n s q rd ps en dp lp f1 g1 u1 := by
  obtain ⟨⟨kd, M⟩, ⟨m, Q⟩, S, P⟩ := T.rr r hr
  obtain ⟨t1, t2, t3, t4, t5, t6, t7, t8⟩ := T
  have a1 : R_cnt (mk ndC f) (mk ndU u) n s q := t1
  have a2 : R_glb (mk ndC f) (mk ndU u) := t2
  have a3 : ∃ l : Nat, l ≤ B ∧ (mk ndU u) 22 0 84 = nI l ∧ ∀ k, k < 1600 → k < 4 * l → (mk ndC f) 31 0 k = (mk ndU u) 96 0 k := t3
  have a4 : R_stf (mk ndC f) (mk ndU u) s := t4
  have a5 : Stf (mk ndU u) n s := t5
  have a6 : R_flg (mk ndC f) (mk ndU u) q := t6
  have a7 : RM (mk ndC f) (mkG ndG g) (mk ndU u) r kd := M
  have a8 : RQ (mk ndC f) (mk ndU u) r m := Q
  have a9 : (∀ k, k < 4 → (mk ndC f) 25 r k = (mk ndU u) 88 0 (4 * r + k)) ∧ (∀ k, k < 6 → (mk ndC f) 26 r k = (mk ndU u) 90 0 (6 * r + k)) := S.2.2.2
  rw [← e1, ← e2] at a1 a2 a3 a4 a6 a7 a8 a9
  rw [← e2] at a5
  rw [← eg] at a7
  refine TT_ride (B := B) (f := f) (g := g) (u := u) ⟨t1, t2, t3, t4, t5, t6, t7, t8⟩ hr (fun r' h => ?_) hU h6 (fun r' h => ⟨hg r' h, ?_⟩) (mk_sub stC_nd e1) (mkG_sub stG_nd eg) (mk_sub stU_nd e2) a1 a2 a3 a4 a5 a6 ⟨⟨kd, a7⟩, ⟨m, a8⟩, ⟨h1, h2, h3, a9⟩, hP⟩
  · have row : ∀ R, (∀ i, ndC R i = true) → f1 R r' = f R r' := fun R hR => by
      funext i
      exact mk_at e1 R r' i (hR i)
    exact ⟨row 15 (fun _ => rfl), row 16 (fun _ => rfl), hC r' h, row 23 (fun _ => rfl), row 24 (fun _ => rfl), row 25 (fun _ => rfl), row 26 (fun _ => rfl), row 27 (fun _ => rfl)⟩
  · exact congrFun (congrFun (congrFun eg 16) r') 6
/-- a register -/
theorem TT_reg (T : TT B n s q rd ps en dp lp f g u) (hr : r < n) {k : Nat} (hk : k < 4) : TT B n s q rd ps en dp lp (m3 f 25 r k v) g (m3 u 88 0 (4 * r + k) v) := by
  obtain ⟨⟨kd, M⟩, ⟨m, Q⟩, ⟨s1, s2, s3, s4, s5⟩, P⟩ := T.rr r hr
  refine TT_ride T hr (fun r' h => EqC.ob h) (fun r' h => EqU.s2 (Or.inl ⟨rfl, rfl, hk⟩) h) (fun b _ => m3_r (by decide)) (fun r' _ => ⟨rfl, rfl⟩) (mk_m3 rfl) rfl (mk_m3 rfl) T.cn T.gb T.lg T.sf T.ss T.fl ⟨⟨kd, M⟩, ⟨m, Q⟩, ⟨s1, s2, s3, fun j hj => ?_, s5⟩, P⟩
  by_cases e : j = k
  · rw [e, m3_eq, m3_eq]
  · rw [m3_i e, m3_i (by omega)]
    exact s4 j hj
end Upd
