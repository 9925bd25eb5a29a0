/-! ===== frames: what the other rides keep ===== -/
def EqC (f f' : MI) (r : Nat) : Prop := (f' 15 r = f 15 r) ∧ (f' 16 r = f 16 r) ∧ (f' 18 r = f 18 r) ∧ (f' 23 r = f 23 r) ∧ (f' 24 r = f 24 r) ∧ (f' 25 r = f 25 r) ∧ (f' 26 r = f 26 r) ∧ (f' 27 r = f 27 r)
theorem EqC.c15 {f f' : MI} {r : Nat} (x : EqC f f' r) : f' 15 r = f 15 r := x.1
theorem EqC.c16 {f f' : MI} {r : Nat} (x : EqC f f' r) : f' 16 r = f 16 r := x.2.1
theorem EqC.c18 {f f' : MI} {r : Nat} (x : EqC f f' r) : f' 18 r = f 18 r := x.2.2.1
theorem EqC.c23 {f f' : MI} {r : Nat} (x : EqC f f' r) : f' 23 r = f 23 r := x.2.2.2.1
theorem EqC.c24 {f f' : MI} {r : Nat} (x : EqC f f' r) : f' 24 r = f 24 r := x.2.2.2.2.1
theorem EqC.c25 {f f' : MI} {r : Nat} (x : EqC f f' r) : f' 25 r = f 25 r := x.2.2.2.2.2.1
theorem EqC.c26 {f f' : MI} {r : Nat} (x : EqC f f' r) : f' 26 r = f 26 r := x.2.2.2.2.2.2.1
theorem EqC.c27 {f f' : MI} {r : Nat} (x : EqC f f' r) : f' 27 r = f 27 r := x.2.2.2.2.2.2.2
def EqU (u u' : MI) (r : Nat) : Prop := (∀ R, (49 ≤ R ∧ R ≤ 56) ∨ (73 ≤ R ∧ R ≤ 87) ∨ R = 93 → u' R 0 r = u R 0 r) ∧ (∀ k, k < 4 → u' 88 0 (4 * r + k) = u 88 0 (4 * r + k)) ∧ (∀ k, k ≤ 10 → u' 89 0 (11 * r + k) = u 89 0 (11 * r + k)) ∧ (∀ k, k < 6 → u' 90 0 (6 * r + k) = u 90 0 (6 * r + k)) ∧ (∀ k, k < 30 → u' 94 0 (30 * r + k) = u 94 0 (30 * r + k)) ∧ (∀ k, k < 30 → u' 95 0 (30 * r + k) = u 95 0 (30 * r + k)) ∧ (u' 42 = u 42) ∧ (u' 59 = u 59) ∧ (u' 64 = u 64)
theorem EqU.sc {u u' : MI} {r : Nat} (x : EqU u u' r) : ∀ R, (49 ≤ R ∧ R ≤ 56) ∨ (73 ≤ R ∧ R ≤ 87) ∨ R = 93 → u' R 0 r = u R 0 r := x.1
theorem EqU.rg {u u' : MI} {r : Nat} (x : EqU u u' r) : ∀ k, k < 4 → u' 88 0 (4 * r + k) = u 88 0 (4 * r + k) := x.2.1
theorem EqU.tn {u u' : MI} {r : Nat} (x : EqU u u' r) : ∀ k, k ≤ 10 → u' 89 0 (11 * r + k) = u 89 0 (11 * r + k) := x.2.2.1
theorem EqU.ho {u u' : MI} {r : Nat} (x : EqU u u' r) : ∀ k, k < 6 → u' 90 0 (6 * r + k) = u 90 0 (6 * r + k) := x.2.2.2.1
theorem EqU.gs {u u' : MI} {r : Nat} (x : EqU u u' r) : ∀ k, k < 30 → u' 94 0 (30 * r + k) = u 94 0 (30 * r + k) := x.2.2.2.2.1
theorem EqU.gc {u u' : MI} {r : Nat} (x : EqU u u' r) : ∀ k, k < 30 → u' 95 0 (30 * r + k) = u 95 0 (30 * r + k) := x.2.2.2.2.2.1
theorem EqU.ab {u u' : MI} {r : Nat} (x : EqU u u' r) : u' 42 = u 42 := x.2.2.2.2.2.2.1
theorem EqU.op {u u' : MI} {r : Nat} (x : EqU u u' r) : u' 59 = u 59 := x.2.2.2.2.2.2.2.1
theorem EqU.og {u u' : MI} {r : Nat} (x : EqU u u' r) : u' 64 = u 64 := x.2.2.2.2.2.2.2.2
section Frm
variable {B B' n s q : Nat} {rd ps en dp : Nat → Nat} {lp : Nat → Option Nat} {f f' f2 : MI} {g g' : MR} {u u' u2 : MI} {r r' : Nat}
theorem EqC.rf : EqC f f r := ⟨rfl, rfl, rfl, rfl, rfl, rfl, rfl, rfl⟩
theorem EqC.tr (a : EqC f f' r) (b : EqC f' f2 r) : EqC f f2 r := ⟨b.c15.trans a.c15, b.c16.trans a.c16, b.c18.trans a.c18, b.c23.trans a.c23, b.c24.trans a.c24, b.c25.trans a.c25, b.c26.trans a.c26, b.c27.trans a.c27⟩
theorem m3_row {α : Type} {f : Nat → Nat → Nat → α} {R o i R' o' : Nat} {v : α} (h : R' ≠ R ∨ o' ≠ o) : m3 f R o i v R' o' = f R' o' := by
  funext i'
  rcases h with h | h
  · exact m3_r h
  · exact m3_o h
theorem EqC.ob {R i : Nat} {v : Int32} (h : r' ≠ r) : EqC f (m3 f R r i v) r' := ⟨m3_row (Or.inr h), m3_row (Or.inr h), m3_row (Or.inr h), m3_row (Or.inr h), m3_row (Or.inr h), m3_row (Or.inr h), m3_row (Or.inr h), m3_row (Or.inr h)⟩
def nrid (R : Nat) : Bool := !(Nat.beq R 15 || Nat.beq R 16 || Nat.beq R 18 || (Nat.blt 22 R && Nat.blt R 28))
theorem EqC.gl {R o i : Nat} {v : Int32} (h : nrid R = true) : EqC f (m3 f R o i v) r' := by
  have k : ∀ R', nrid R' = false → R' ≠ R := fun R' h' e => by
    subst e
    rw [h] at h'
    cases h'
  exact ⟨m3_row (Or.inl (k 15 rfl)), m3_row (Or.inl (k 16 rfl)), m3_row (Or.inl (k 18 rfl)), m3_row (Or.inl (k 23 rfl)), m3_row (Or.inl (k 24 rfl)), m3_row (Or.inl (k 25 rfl)), m3_row (Or.inl (k 26 rfl)), m3_row (Or.inl (k 27 rfl))⟩
theorem EqU.rf : EqU u u r := ⟨fun _ _ => rfl, fun _ _ => rfl, fun _ _ => rfl, fun _ _ => rfl, fun _ _ => rfl, fun _ _ => rfl, rfl, rfl, rfl⟩
theorem EqU.tr (a : EqU u u' r) (b : EqU u' u2 r) : EqU u u2 r := ⟨fun R h => (b.sc R h).trans (a.sc R h), fun k h => (b.rg k h).trans (a.rg k h), fun k h => (b.tn k h).trans (a.tn k h), fun k h => (b.ho k h).trans (a.ho k h), fun k h => (b.gs k h).trans (a.gs k h), fun k h => (b.gc k h).trans (a.gc k h), b.ab.trans a.ab, b.op.trans a.op, b.og.trans a.og⟩
/-- a row with a place a ride -/
theorem EqU.s1 {R : Nat} {v : Int32} (hR : (73 ≤ R ∧ R ≤ 87) ∨ R = 93) (h : r' ≠ r) : EqU u (m3 u R 0 r v) r' := by
  refine ⟨fun R' _ => m3_i h, fun k _ => m3_r (by omega), fun k _ => m3_r (by omega), fun k _ => m3_r (by omega), fun k _ => m3_r (by omega), fun k _ => m3_r (by omega), ?_, ?_, ?_⟩
  · funext o i; exact m3_r (by omega)
  · funext o i; exact m3_r (by omega)
  · funext o i; exact m3_r (by omega)
theorem EqU.s2 {R N k0 : Nat} {v : Int32} (hR : (R = 88 ∧ N = 4 ∧ k0 < 4) ∨ (R = 89 ∧ N = 11 ∧ k0 ≤ 10) ∨ (R = 90 ∧ N = 6 ∧ k0 < 6) ∨ (R = 94 ∧ N = 30 ∧ k0 < 30) ∨ (R = 95 ∧ N = 30 ∧ k0 < 30)) (h : r' ≠ r) : EqU u (m3 u R 0 (N * r + k0) v) r' := by
  rcases hR with ⟨rfl, rfl, hk⟩ | ⟨rfl, rfl, hk⟩ | ⟨rfl, rfl, hk⟩ | ⟨rfl, rfl, hk⟩ | ⟨rfl, rfl, hk⟩ <;> refine ⟨fun R' h' => m3_r (by omega), fun k hk' => ?_, fun k hk' => ?_, fun k hk' => ?_, fun k hk' => ?_, fun k hk' => ?_, by funext o i; exact m3_r (by decide), by funext o i; exact m3_r (by decide), by funext o i; exact m3_r (by decide)⟩ <;> first | exact m3_r (by decide) | exact m3_i (by omega)
def nrdU (R : Nat) : Bool := Nat.beq R 22 || Nat.beq R 91 || Nat.beq R 92 || Nat.blt 95 R || Nat.beq R 43
theorem EqU.gl {R o i : Nat} {v : Int32} (h : nrdU R = true) : EqU u (m3 u R o i v) r' := by
  have k : ∀ R', nrdU R' = false → R' ≠ R := fun R' h' e => by
    subst e
    rw [h] at h'
    cases h'
  have kk : ∀ R', (49 ≤ R' ∧ R' ≤ 56) ∨ (73 ≤ R' ∧ R' ≤ 87) ∨ R' = 93 → R' ≠ R := fun R' h' => by
    apply k
    have : R' = 49 ∨ R' = 50 ∨ R' = 51 ∨ R' = 52 ∨ R' = 53 ∨ R' = 54 ∨ R' = 55 ∨ R' = 56 ∨ R' = 73 ∨ R' = 74 ∨ R' = 75 ∨ R' = 76 ∨ R' = 77 ∨ R' = 78 ∨ R' = 79 ∨ R' = 80 ∨ R' = 81 ∨ R' = 82 ∨ R' = 83 ∨ R' = 84 ∨ R' = 85 ∨ R' = 86 ∨ R' = 87 ∨ R' = 93 := by omega
    rcases this with rfl | rfl | rfl | rfl | rfl | rfl | rfl | rfl | rfl | rfl | rfl | rfl | rfl | rfl | rfl | rfl | rfl | rfl | rfl | rfl | rfl | rfl | rfl | rfl <;> rfl
  exact ⟨fun R' h' => m3_r (kk R' h'), fun _ _ => m3_r (k 88 rfl), fun _ _ => m3_r (k 89 rfl), fun _ _ => m3_r (k 90 rfl), fun _ _ => m3_r (k 94 rfl), fun _ _ => m3_r (k 95 rfl), by funext o i; exact m3_r (k 42 rfl), by funext o i; exact m3_r (k 59 rfl), by funext o i; exact m3_r (k 64 rfl)⟩
theorem up_none : ∀ j, up g j none = none
  | 0 => rfl
  | j + 1 => up_none j
theorem up_g (h : g' 19 = g 19) : ∀ j o, up g' j o = up g j o
  | 0, _ => rfl
  | j + 1, o => by
    unfold up
    rw [up_g h j, h]
/-- the owners of a step are of its ride, and less deep -/
theorem up_rd (T : SS n s q rd ps en dp lp f g u) (hr : r < n) : ∀ (j a b : Nat), rd a = r → up g j (g 19 a 2) = some b → rd b = r ∧ dp b < dp a ∧ dp b ≤ 10
  | 0, a, b, ha, h => by
    rcases (T.loc hr ha).ow with ⟨h1, -⟩ | ⟨b', h1, h2, h3, h4, h5, -⟩
    · have h' : g 19 a 2 = some b := h
      rw [h1] at h'
      cases h'
    · have h' : g 19 a 2 = some b := h
      rw [h1] at h'
      cases h'
      exact ⟨h2, by omega, h5⟩
  | j + 1, a, b, ha, h => by
    have h' : up g j ((g 19 a 2).bind fun a => g 19 a 2) = some b := h
    rcases (T.loc hr ha).ow with ⟨h1, -⟩ | ⟨b', h1, h2, h3, h4, h5, -⟩
    · rw [h1, Option.bind_none, up_none] at h'
      cases h'
    · rw [h1, Option.bind_some] at h'
      obtain ⟨q1, q2, q3⟩ := up_rd T hr j b' b h2 h'
      exact ⟨q1, by omega, q3⟩
theorem RM_fr {kd : Nat} (C : EqC f f' r) (U : EqU u u' r) (hg : g' 16 r 6 = g 16 r 6) (M : RM f g u r kd) : RM f' g' u' r kd := by
  have e := fun R h => U.sc R h
  unfold RM R_mot Rng R_abl at M ⊢
  rw [C.c16, C.c27, hg, U.ab, e 49 (by decide), e 50 (by decide), e 51 (by decide), e 52 (by decide), e 53 (by decide), e 54 (by decide), e 55 (by decide), e 56 (by decide), e 73 (by decide), e 74 (by decide), e 75 (by decide), e 76 (by decide), e 77 (by decide), e 78 (by decide), e 79 (by decide), e 80 (by decide), e 81 (by decide)]
  exact M
theorem RQ_fr {m : Nat} (C : EqC f f' r) (U : EqU u u' r) (Q : RQ f u r m) : RQ f' u' r m := by
  have h30 := Q.ml
  refine ⟨Q.ml, by rw [C.c15]; exact Q.mc, by rw [U.sc 93 (by decide)]; exact Q.mr, fun k hk => ?_, by rw [C.c15, C.c23]; exact Q.sm, fun k hk => ?_⟩
  · rw [C.c23, C.c24, U.gs k (by omega), U.gc k (by omega)]
    exact Q.rw k hk
  · rw [U.gs k (by omega)]
    exact Q.rg k hk
theorem RS_fr (C : EqC f f' r) (U : EqU u u' r) (h : R_sta f u r) : R_sta f' u' r := by
  obtain ⟨a1, a2, a3, a4, a5⟩ := h
  refine ⟨?_, ?_, ?_, fun k hk => ?_, fun k hk => ?_⟩
  · rw [C.c18, U.sc 82 (by decide)]; exact a1
  · rw [C.c18, U.sc 83 (by decide)]; exact a2
  · rw [C.c18, U.sc 85 (by decide)]; exact a3
  · rw [C.c25, U.rg k hk]; exact a4 k hk
  · rw [C.c26, U.ho k hk]; exact a5 k hk
theorem AT_fr (T : SS n s q rd ps en dp lp f g u) (hr : r < n) {a : Nat} (ha : rd a = r) (h0 : ∀ b, f' 19 b 0 = f 19 b 0) (h6 : ∀ b, rd b = r → f' 19 b 6 = f 19 b 6) (hg : g' 19 = g 19) (hu : ∀ k, k ≤ 10 → u' 89 0 (11 * r + k) = u 89 0 (11 * r + k)) (A : AT f g u dp r (g 19 a 2)) : AT f' g' u' dp r (g' 19 a 2) := by
  intro j b hb hk
  rw [up_g hg, hg] at hb
  rw [h0] at hk
  obtain ⟨q1, q2, q3⟩ := up_rd T hr j a b ha hb
  obtain ⟨t, t1, t2, t3, t4⟩ := A j b hb hk
  exact ⟨t, t1, t2, (hu _ q3).trans t3, (h6 b q1).trans t4⟩
theorem PO_fr (T : SS n s q rd ps en dp lp f g u) (hr : r < n) (C : EqC f f' r) (U : EqU u u' r) (h0 : ∀ b, f' 19 b 0 = f 19 b 0) (h6 : ∀ b, rd b = r → f' 19 b 6 = f 19 b 6) (hg : g' 19 = g 19) (h3 : g' 18 r 3 = g 18 r 3) (h : PosR f g u rd ps dp r) : PosR f' g' u' rd ps dp r := by
  rcases h with ⟨a, A⟩ | ⟨h1, h2⟩ | ⟨h1, h2, k, h4, h5, h6⟩
  · refine Or.inl ⟨a, h3.trans A.sp, A.rd, (U.sc 84 (by decide)).trans A.nx, (U.sc 82 (by decide)).trans A.st, AT_fr T hr A.rd h0 h6 hg U.tn A.tn, ?_, ?_, ?_⟩
    · intro hk b hb hb3
      rw [h0] at hk hb3
      rw [hg] at hb
      obtain ⟨q1, -⟩ := up_rd T hr 0 a b A.rd hb
      rw [h6 b q1]
      exact A.ag hk b hb hb3
    · rw [C.c18, U.sc 87 (by decide)]; exact A.bg
    · rw [C.c18, U.sc 87 (by decide), U.sc 86 (by decide)]; exact A.lf
  · exact Or.inr (Or.inl ⟨h3.trans h1, by rw [U.sc 82 (by decide)]; exact h2⟩)
  · exact Or.inr (Or.inr ⟨h3.trans h1, by rw [U.sc 82 (by decide)]; exact h2, k, h4, by rw [U.sc 84 (by decide)]; exact h5, by rw [U.op, U.og]; exact h6⟩)
theorem RR_fr (T : TT B n s q rd ps en dp lp f g u) (hr : r < n) (C : EqC f f' r) (U : EqU u u' r) (h0 : ∀ b, f' 19 b 0 = f 19 b 0) (h6 : ∀ b, rd b = r → f' 19 b 6 = f 19 b 6) (hg : g' 19 = g 19) (h3 : g' 18 r 3 = g 18 r 3) (h4 : g' 16 r 6 = g 16 r 6) : RR f' g' u' rd ps dp r := by
  obtain ⟨⟨kd, M⟩, ⟨m, Q⟩, S, P⟩ := T.rr r hr
  exact ⟨⟨kd, RM_fr C U h4 M⟩, ⟨m, RQ_fr C U Q⟩, RS_fr C U S, PO_fr T.sS hr C U h0 h6 hg h3 P⟩
/-- a change of one ride's -/
theorem TT_ride (T : TT B n s q rd ps en dp lp f g u) (hr : r < n) (hC : ∀ r', r' ≠ r → EqC f f' r') (hU : ∀ r', r' ≠ r → EqU u u' r') (h6 : ∀ b, rd b ≠ r → f' 19 b 6 = f 19 b 6) (hg : ∀ r', r' ≠ r → g' 18 r' 3 = g 18 r' 3 ∧ g' 16 r' 6 = g 16 r' 6)
    (m1 : mk stC f' = mk stC f) (m2 : mkG stG g' = mkG stG g) (m3 : mk stU u' = mk stU u) (c1 : R_cnt f' u' n s q) (c2 : R_glb f' u') (c3 : ∃ l : Nat, l ≤ B' ∧ u' 22 0 84 = nI l ∧ ∀ k, k < 1600 → k < 4 * l → f' 31 0 k = u' 96 0 k) (c4 : R_stf f' u' s) (c5 : Stf u' n s) (c6 : R_flg f' u' q)
    (hR : RR f' g' u' rd ps dp r) : TT B' n s q rd ps en dp lp f' g' u' := by
  refine ⟨c1, c2, c3, c4, c5, c6, by rw [m1, m2, m3]; exact T.st, fun r' hr' => ?_⟩
  by_cases e : r' = r
  · rw [e]; exact hR
  · refine RR_fr T hr' (hC r' e) (hU r' e) (fun b => mk_at m1 19 b 0 rfl) (fun b hb => h6 b (by omega)) ?_ (hg r' e).1 (hg r' e).2
    funext o i
    have := congrFun (congrFun (congrFun m2 19) o) i
    exact this
theorem TT.le (T : TT B n s q rd ps en dp lp f g u) (h : B ≤ B') : TT B' n s q rd ps en dp lp f g u := by
  obtain ⟨l, l1, l2⟩ := T.lg
  exact ⟨T.cn, T.gb, ⟨l, by omega, l2⟩, T.sf, T.ss, T.fl, T.st, T.rr⟩
end Frm
