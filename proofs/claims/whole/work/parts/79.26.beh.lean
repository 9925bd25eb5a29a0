/-! ===== scripts: what is told, without masks ===== -/
section Unm
variable {f f' : MI} {g : MR} {u u' : MI} {n q : Nat}
theorem Sp_cg (h : ∀ c, f' 32 0 c = f 32 0 c) : ∀ {l : PL} {c : Nat}, Sp f c l → Sp f' c l
  | [], _, _ => trivial
  | x :: l, c, hs => ⟨(h c).trans hs.1, Sp_cg h hs.2⟩
theorem Rp_cg (h : ∀ R k, 65 ≤ R → R ≤ 72 → u' R 0 k = u R 0 k) : ∀ {l : PL} {k : Nat}, Rp u k l → Rp u' k l
  | [], _, _ => trivial
  | x :: l, k, hs => ⟨by
      unfold RC
      rw [h 65 k (by decide) (by decide), h 66 k (by decide) (by decide), h 67 k (by decide) (by decide)]
      exact hs.1, Rp_cg h hs.2⟩
theorem FE_cg (h1 : ∀ c, f' 32 0 c = f 32 0 c) (h2 : ∀ R k, 65 ≤ R → R ≤ 72 → u' R 0 k = u R 0 k) {c c' k : Nat} {lc lr : PL} (F : FE f u n c c' k lc lr) : FE f' u' n c c' k lc lr :=
  ⟨Sp_cg h1 F.sp, F.cc, Rp_cg h2 F.rp, (h2 65 _ (by decide) (by decide)).trans F.ed, F.kl, F.oc, F.ok, F.sm, F.hc, F.hr⟩
theorem FMx_cg (h1 : ∀ c, f' 32 0 c = f 32 0 c) (h0 : f' 10 0 3 = f 10 0 3) (h2 : ∀ R k, 65 ≤ R → R ≤ 72 → u' R 0 k = u R 0 k) {x y : Int32} (F : FMx f u n x y) : FMx f' u' n x y := by
  obtain ⟨c, k, e1, e2, c', cn, lc, lr, F, a1, a2, a3, a4⟩ := F
  exact ⟨c, k, e1, e2, c', cn, lc, lr, FE_cg h1 h2 F, (h1 _).trans a1, a2, a3, h0.trans a4⟩
theorem Qn_cg (h1 : ∀ c, f' 32 0 c = f 32 0 c) (h2 : ∀ R k, 65 ≤ R → R ≤ 72 → u' R 0 k = u R 0 k) {c c' k : Nat} (Q : Qn f u n q c c' k) : Qn f' u' n q c c' k := by
  obtain ⟨hk, nt, c2, q1, q2, q3, Q⟩ := Q
  refine ⟨hk, nt, c2, (h2 68 _ (by decide) (by decide)).trans q1, q2, fun z => (h1 _).trans (q3 z), ?_⟩
  rcases Q with ⟨j, j1, j2, j3, j4, j5⟩ | ⟨c1, ka, kb, w, lc1, lr1, lc2, lr2, w1, w2, s1, s2, s3, F1, F2, hw⟩
  · exact Or.inl ⟨j, j1, (h2 69 _ (by decide) (by decide)).trans j2, (h2 70 _ (by decide) (by decide)).trans j3, (h1 _).trans j4, j5⟩
  · exact Or.inr ⟨c1, ka, kb, w, lc1, lr1, lc2, lr2, w1, w2, (h2 69 _ (by decide) (by decide)).trans s1, (h2 70 _ (by decide) (by decide)).trans s2, (h2 71 _ (by decide) (by decide)).trans s3, FE_cg h1 h2 F1, FE_cg h1 h2 F2, (h1 _).trans hw⟩
theorem CM_cg (h1 : ∀ c, f' 32 0 c = f 32 0 c) (h2 : ∀ R k, 65 ≤ R → R ≤ 72 → u' R 0 k = u R 0 k) {e : Nat} : ∀ {m c k : Nat}, CM f u n q e m c k → CM f' u' n q e m c k
  | 0, c, k, h => by
    obtain ⟨c', a1, a2, a3, a4⟩ := h
    exact ⟨c', Qn_cg h1 h2 a1, (h2 72 _ (by decide) (by decide)).trans a2, (h1 _).trans a3, a4⟩
  | m + 1, c, k, h => by
    obtain ⟨c', jn, a1, a2, a3, a4, a5⟩ := h
    exact ⟨c', jn, Qn_cg h1 h2 a1, (h2 72 _ (by decide) (by decide)).trans a2, (h1 _).trans a3, a4, CM_cg h1 h2 a5⟩
theorem CDx_cg (h1 : ∀ c, f' 32 0 c = f 32 0 c) (h0 : f' 10 0 3 = f 10 0 3) (h2 : ∀ R k, 65 ≤ R → R ≤ 72 → u' R 0 k = u R 0 k) {x y : Int32} (F : CDx f u n q x y) : CDx f' u' n q x y := by
  obtain ⟨c, k, m, e, cn, e1, e2, hM, a1, a2, a3⟩ := F
  exact ⟨c, k, m, e, cn, e1, e2, CM_cg h1 h2 hM, a1, a2, h0.trans a3⟩
theorem unU : ∀ R k, 65 ≤ R → R ≤ 72 → u R 0 k = mk stU u R 0 k := by
  intro R k h1 h2
  have : R = 65 ∨ R = 66 ∨ R = 67 ∨ R = 68 ∨ R = 69 ∨ R = 70 ∨ R = 71 ∨ R = 72 := by omega
  rcases this with rfl | rfl | rfl | rfl | rfl | rfl | rfl | rfl <;> rfl
theorem FMx_un {x y : Int32} (F : FMx (mk stC f) (mk stU u) n x y) : FMx f u n x y := FMx_cg (f := mk stC f) (f' := f) (u := mk stU u) (u' := u) (fun _ => rfl) rfl unU F
theorem CDx_un {x y : Int32} (F : CDx (mk stC f) (mk stU u) n q x y) : CDx f u n q x y := CDx_cg (f := mk stC f) (f' := f) (u := mk stU u) (u' := u) (fun _ => rfl) rfl unU F
end Unm
section Beh
variable {L : Nat} {xs : Nat → Int32} {d : Nat} {X : ML × (Nat → Nat) × Nat × Nat} {Y : MR × ML × (Nat → Nat) × Nat × Nat}
variable {B n s q : Nat} {rd ps en dp : Nat → Nat} {lp : Nat → Option Nat} {f f' : MI} {g : MR} {u u' : MI} {r : Nat}
/-- what is told of all scripts -/
def SS (n s q : Nat) (rd ps en dp : Nat → Nat) (lp : Nat → Option Nat) (f : MI) (g : MR) (u : MI) : Prop := n ≤ 12 ∧ ST (mk stC f) (mkG stG g) (mk stU u) rd ps en dp lp n s q
theorem SS.n12 (T : SS n s q rd ps en dp lp f g u) : n ≤ 12 := T.1
theorem TT.sS (T : TT B n s q rd ps en dp lp f g u) : SS n s q rd ps en dp lp f g u := ⟨T.n12, T.st⟩
theorem SS.loc (T : SS n s q rd ps en dp lp f g u) {a : Nat} (hr : r < n) (ha : rd a = r) : Loc f g u rd ps en dp lp n s q r a := by
  obtain ⟨p1, p2, p3, p4, p5, p7, p8, p6⟩ := T.2.1 a (by omega)
  rw [ha] at p3 p4 p5 p6 p8
  refine ⟨p1, p2, p3, p4, p5, p7, p8, ?_⟩
  rcases p6 with ⟨h0, h | h | h | h | h | h | h | h | h⟩ | (h | h | h | h) | h
  · exact Or.inl ⟨h0, Or.inl ⟨h.1, FMx_un h.2⟩⟩
  · exact Or.inl ⟨h0, Or.inr (Or.inl ⟨h.1, FMx_un h.2⟩)⟩
  · exact Or.inl ⟨h0, Or.inr (Or.inr (Or.inl h))⟩
  · exact Or.inl ⟨h0, Or.inr (Or.inr (Or.inr (Or.inl h)))⟩
  · exact Or.inl ⟨h0, Or.inr (Or.inr (Or.inr (Or.inr (Or.inl ⟨h.1, h.2.1, CDx_un h.2.2⟩))))⟩
  · exact Or.inl ⟨h0, Or.inr (Or.inr (Or.inr (Or.inr (Or.inr (Or.inl h)))))⟩
  · exact Or.inl ⟨h0, Or.inr (Or.inr (Or.inr (Or.inr (Or.inr (Or.inr (Or.inl h))))))⟩
  · exact Or.inl ⟨h0, Or.inr (Or.inr (Or.inr (Or.inr (Or.inr (Or.inr (Or.inr (Or.inl ⟨h.1, h.2.1, FMx_un h.2.2.1, h.2.2.2⟩)))))))⟩
  · exact Or.inl ⟨h0, Or.inr (Or.inr (Or.inr (Or.inr (Or.inr (Or.inr (Or.inr (Or.inr h)))))))⟩
  · exact Or.inr (Or.inl (Or.inl ⟨h.1, h.2.1, FMx_un h.2.2.1, h.2.2.2⟩))
  · exact Or.inr (Or.inl (Or.inr (Or.inl h)))
  · exact Or.inr (Or.inl (Or.inr (Or.inr (Or.inl ⟨h.1, h.2.1, CDx_un h.2.2.1, h.2.2.2⟩))))
  · exact Or.inr (Or.inl (Or.inr (Or.inr (Or.inr h))))
  · exact Or.inr (Or.inr h)
theorem TT.loc (T : TT B n s q rd ps en dp lp f g u) {a : Nat} (hr : r < n) (ha : rd a = r) : Loc f g u rd ps en dp lp n s q r a := T.sS.loc hr ha
/-- op of a step that is no further turn: a real one -/
theorem Loc.op {a : Nat} (H : Loc f g u rd ps en dp lp n s q r a) (hk : f 19 a 0 ≠ 401) : u 59 0 (ps a) ≠ 51 ∧ u 59 0 (ps a) ≠ 52 ∧ u 59 0 (ps a) ≠ 54 := by
  rcases H.kd with ⟨h0, h | h | h | h | h | h | h | h | h⟩ | (h | h | h | h) | h
  · rcases h.1 with h | h | h | h <;> rw [h.2] <;> decide
  · rcases h.1 with h | h | h <;> rw [h.2] <;> decide
  · rw [h.2]; decide
  · rw [h.2]; decide
  · rw [h.2.1]; decide
  · rcases h.1 with h | h <;> rw [h.2] <;> decide
  · rcases h.1 with h | h <;> rw [h.2] <;> decide
  · rw [h.2.1]; decide
  · rw [h.2.1]; decide
  · rw [h.2.1]; decide
  · rw [h.2.1]; decide
  · rw [h.2.1]; decide
  · rw [h.2.1]; decide
  · exact absurd h.1 hk
theorem Loc.no {a : Nat} (H : Loc f g u rd ps en dp lp n s q r a) (hk : f 19 a 0 = 315 ∨ f 19 a 0 = 316) : g 19 a 10 = none := by
  rcases H.kd with ⟨h0, h | h | h | h | h | h | h | h | h⟩ | (h | h | h | h) | h
  · rcases h.1 with h | h | h | h <;> rw [h.1] at hk <;> exact absurd hk (by decide)
  · rcases h.1 with h | h | h <;> rw [h.1] at hk <;> exact absurd hk (by decide)
  · rw [h.1] at hk; exact absurd hk (by decide)
  · rw [h.1] at hk; exact absurd hk (by decide)
  · rw [h.1] at hk; exact absurd hk (by decide)
  · rcases h.1 with h | h <;> rw [h.1] at hk <;> exact absurd hk (by decide)
  · rcases h.1 with h | h <;> rw [h.1] at hk <;> exact absurd hk (by decide)
  · rw [h.1] at hk; exact absurd hk (by decide)
  · rw [h.1] at hk; exact absurd hk (by decide)
  · rw [h.1] at hk; exact absurd hk (by decide)
  · rw [h.1] at hk; exact absurd hk (by decide)
  · exact h.2.2.2.2
  · exact h.2.2.2
  · rw [h.1] at hk; exact absurd hk (by decide)
theorem blk_n {x : Int32} (h : blk x) : x ≠ 401 := by
  rcases h with h | h | h | h <;> rw [h] <;> decide
/-- the reference's way from place e to place k -/
def goR (L : Nat) (xs : Nat → Int32) (d : Nat) (Y : MR × ML × (Nat → Nat) × Nat × Nat) (u : MI) (r e k : Nat) : Prop := ∀ v2 : Int32, RL (mP L xs) d 217 5 [some (rv 22 (some 0)), some (iv (nI r)), some (iv v2), some (iv (nI e)), some (iv 1)] [] (u, Y) = RL (mP L xs) d 217 5 [some (rv 22 (some 0)), some (iv (nI r)), some (iv v2), some (iv (nI k)), some (iv 0)] [] (u, Y)
theorem go_stop {k : Nat} (hk : k < 6100) (h1 : u 59 0 k ≠ 51) (h2 : u 59 0 k ≠ 52) : goR L xs d Y u r k k := fun v2 => by
  rw [K_Ref_goTo_5]
  simp (decide := true) only [if_false, if_neg (nin hk (by decide)), nI_clamp (show k < 2 ^ 31 by omega), if_neg h1, if_neg h2]
theorem go_jump {e k K : Nat} (hk : k < 6100) (h1 : u 59 0 k = 51) (h2 : u 62 0 k = nI e) (h : goR L xs d Y u r e K) : goR L xs d Y u r k K := fun v2 => by
  rw [K_Ref_goTo_5]
  simp (decide := true) only [if_false, if_neg (nin hk (by decide)), nI_clamp (show k < 2 ^ 31 by omega), if_pos h1, h2]
  exact h v2
theorem go_again {k K t D : Nat} (hk : k < 6100) (h1 : u 59 0 k = 52) (h2 : u 63 0 k = nI D) (hr : r < 12) (hD : D ≤ 10) (ht : u 89 0 (11 * r + D) = nI t) (ht2 : t < 2) (h : goR L xs d Y u r (k + 1) K) : goR L xs d Y u r k K := fun v2 => by
  rw [K_Ref_goTo_5]
  simp (decide := true) only [if_false, if_true, if_neg (nin hk (by decide)), nI_clamp (show k < 2 ^ 31 by omega), h1, h2, show (11 : Int32) = nI 11 from rfl, nI_mul, nI_add, if_neg (nin (show 11 * r + D < 132 by omega) (by decide)), nI_clamp (show 11 * r + D < 2 ^ 31 by omega), ht, if_pos (show nI t < 2 from nI_lt (b := 2) ht2 (by decide)), nI_1]
  exact h v2
theorem go_stay {k t D : Nat} (hk : k < 6100) (h1 : u 59 0 k = 52) (h2 : u 63 0 k = nI D) (hr : r < 12) (hD : D ≤ 10) (ht : u 89 0 (11 * r + D) = nI t) (ht2 : 2 ≤ t) (ht3 : t < 2 ^ 31) : goR L xs d Y u r k k := fun v2 => by
  rw [K_Ref_goTo_5]
  simp (decide := true) only [if_false, if_true, if_neg (nin hk (by decide)), nI_clamp (show k < 2 ^ 31 by omega), h1, h2, show (11 : Int32) = nI 11 from rfl, nI_mul, nI_add, if_neg (nin (show 11 * r + D < 132 by omega) (by decide)), nI_clamp (show 11 * r + D < 2 ^ 31 by omega), ht, if_neg (show ¬ nI t < 2 from nI_nlt (b := 2) ht2 ht3)]
/-- where a script goes: the class's step o, the reference's place k -/
def Tgt (f : MI) (g : MR) (u : MI) (rd ps dp : Nat → Nat) (r : Nat) (o : Option Nat) (k : Nat) : Prop := k < 6100 ∧ ((o = none ∧ u 59 0 k = 54) ∨ ∃ c, o = some c ∧ rd c = r ∧ ps c = k ∧ AT f g u dp r (g 19 c 2) ∧ (f 19 c 0 = 401 → ∀ b, g 19 c 2 = some b → f 19 b 0 = 313 → 0 < f 19 b 6) ∧ u 59 0 k ≠ 54)
def tA (f : MI) (g : MR) (b : Nat) : Bool := (g 19 b 10).isSome && (decide (f 19 b 0 = 314) || decide (0 < f 19 b 6))
theorem c_turns {b : Nat} : EL (mP L xs) (d + 1) 167 [rv 19 (some b)] (f, g, X) = some (.inl (some (iv (bI (tA f g b)))), (f, g, X)) := by
  rw [E_Step_turnsAgain]
  unfold tA
  cases hg : g 19 b 10 with
  | none => simp [hg, bI]
  | some c =>
    simp only [hg, reduceCtorEq, if_false, Option.isSome_some, Bool.true_and]
    by_cases h1 : f 19 b 0 = 314
    · simp [h1, bI]
    · by_cases h2 : 0 < f 19 b 6 <;> simp [h1, h2, bI]
/-- at the end of a block -/
theorem end_go {b k : Nat} (hn : n ≤ 12) (hr : r < n) (hb : rd b = r) (H : Loc f g u rd ps en dp lp n s q r b) (hk : blk (f 19 b 0)) (hd : dp b ≤ 10) (E : EndAt f g u rd ps en dp r (some b) k) (hA : AT f g u dp r (some b)) :
    (tA f g b = true ∧ ∃ c, g 19 b 10 = some c ∧ Tgt f g u rd ps dp r (some c) k ∧ ∀ d Y, goR L xs d Y u r k k) ∨ (tA f g b = false ∧ ∀ K, (∀ d Y, goR L xs d Y u r (en b) K) → ∀ d Y, goR L xs d Y u r k K) := by
  obtain ⟨hk6, -, E⟩ := E
  obtain ⟨E1, E2, E3⟩ := E b rfl
  rcases hk with hk | hk | hk | hk
  · obtain ⟨a1, a2, a3, c, c1, c2, c3, c4, c5⟩ := E1 hk
    obtain ⟨t, t1, t2, t3, t4⟩ := hA 0 b rfl hk
    by_cases z : t < 2
    · right
      have e0 : t - 1 = 0 := by omega
      rw [e0] at t4
      refine ⟨by simp [tA, hk, t4, nI_0], fun K hK => ?_⟩
      rw [a3] at hK
      exact fun d Y => go_again hk6 a1 a2 (by omega) hd t3 z (hK d Y)
    · left
      have hp : 0 < f 19 b 6 := by rw [t4]; exact nI_lt (a := 0) (by omega) (by omega)
      refine ⟨by simp [tA, c1, hp], c, c1, ⟨hk6, Or.inr ⟨c, rfl, c2, c3, by rw [c5]; exact hA, fun _ b' hb' _ => ?_, by rw [a1]; decide⟩⟩, fun d Y => go_stay hk6 a1 a2 (by omega) hd t3 (by omega) t2⟩
      rw [c5] at hb'
      cases hb'
      exact hp
  · obtain ⟨a1, c, c1, c2, c3, c4, c5⟩ := E2 hk
    left
    refine ⟨by simp [tA, c1, hk], c, c1, ⟨hk6, Or.inr ⟨c, rfl, c2, c3, by rw [c5]; exact hA, fun _ b' hb' h3 => ?_, by rw [a1]; decide⟩⟩, fun d Y => go_stop hk6 (by rw [a1]; decide) (by rw [a1]; decide)⟩
    rw [c5] at hb'
    cases hb'
    rw [hk] at h3
    exact absurd h3 (by decide)
  · right
    have hno := H.no (Or.inl hk)
    refine ⟨by simp [tA, hno], fun K hK => ?_⟩
    rcases E3 (Or.inl hk) with ⟨a1, a2⟩ | rfl
    · exact fun d Y => go_jump hk6 a1 a2 (hK d Y)
    · exact hK
  · right
    have hno := H.no (Or.inr hk)
    refine ⟨by simp [tA, hno], fun K hK => ?_⟩
    rcases E3 (Or.inr hk) with ⟨a1, a2⟩ | rfl
    · exact fun d Y => go_jump hk6 a1 a2 (hK d Y)
    · exact hK
theorem AT_up {a b : Nat} (h : g 19 a 2 = some b) (hA : AT f g u dp r (some a)) : AT f g u dp r (some b) := fun j c hc => hA (j + 1) c (by
  show up g j ((some a).bind fun a => g 19 a 2) = some c
  rw [Option.bind_some, h]
  exact hc)
theorem AT_own {b : Nat} (hA : AT f g u dp r (some b)) : AT f g u dp r (g 19 b 2) := fun j c hc => hA (j + 1) c hc
theorem lt12 {j : Nat} (h : j < 12) : nI j < 12 := nI_lt (b := 12) h (by decide)
/-- what is behind a step -/
theorem bh_loop (T : SS n s q rd ps en dp lp f g u) (hr : r < n) : ∀ (D a j : Nat), dp a = D → j + D ≤ 11 → rd a = r → f 19 a 0 ≠ 401 → AT f g u dp r (g 19 a 2) →
    ∃ o k, (∀ d X i, RL (mP L xs) (d + 1) 168 4 [some (rv 19 (some i)), some (rv 19 (some a)), some (iv (nI j))] [] (f, g, X) = some (.inl (some (rv 19 o)), (f, g, X))) ∧ (∀ d Y, goR L xs d Y u r (en a) k) ∧ Tgt f g u rd ps dp r o k
  | D, a, j, hD, hj, ha, hk, hA => by
    have H := T.loc hr ha
    obtain ⟨n1, n2⟩ := H.nx hk
    have key := fun d X i => K2_Step_behind_4 (L := L) (xs := xs) (d := d + 1) i (some a) (nI j) (f, g, X)
    simp only [if_pos (lt12 (show j < 12 by omega)), onS_s] at key
    cases hx : g 19 a 7 with
    | some c =>
      obtain ⟨c1, c2, c3, c4⟩ := n1 c hx
      have Hc := T.loc hr c1
      have hop := Hc.op c3
      have hp := Hc.pl
      rw [c2] at hop hp
      refine ⟨some c, en a, fun d X i => ?_, fun d Y => go_stop hp hop.1 hop.2.1, hp, Or.inr ⟨c, rfl, c1, c2, by rw [c4]; exact hA, fun z => absurd z c3, hop.2.2⟩⟩
      rw [key d X i]
      simp [hx]
    | none =>
      have E := n2 hx
      rcases H.ow with ⟨o1, -⟩ | ⟨b, o1, o2, o3, o4, o5, -⟩
      · rw [o1] at E
        have e54 := E.2.1 rfl
        refine ⟨none, en a, fun d X i => ?_, fun d Y => go_stop E.1 (by rw [e54]; decide) (by rw [e54]; decide), E.1, Or.inl ⟨rfl, e54⟩⟩
        rw [key d X i]
        simp [hx, o1]
      · rw [o1] at E hA
        have Hb := T.loc hr o2
        rcases end_go (L := L) (xs := xs) T.n12 hr o2 Hb o3 o5 E hA with ⟨h1, c, c1, c2, c3⟩ | ⟨h1, h2⟩
        · refine ⟨some c, en a, fun d X i => ?_, c3, c2⟩
          rw [key d X i]
          simp (decide := true) [hx, o1, onS_s, c_turns, h1, clI, bI, c1]
        · have hDb : dp b < D := by omega
          obtain ⟨o, K, b1, b2, b3⟩ := bh_loop T hr (dp b) b (j + 1) rfl (by omega) o2 (blk_n o3) (AT_own hA)
          refine ⟨o, K, fun d X i => ?_, h2 K b2, b3⟩
          rw [key d X i]
          simp (decide := true) only [hx, o1, onS_s, c_turns, h1, clI, bI, cond_false, if_true, if_false, reduceCtorEq, nI_1]
          exact b1 d X i
  termination_by D => D
theorem p_beh (T : SS n s q rd ps en dp lp f g u) (hr : r < n) {a : Nat} (ha : rd a = r) (hd : dp a ≤ 10) (hk : f 19 a 0 ≠ 401) (hA : AT f g u dp r (g 19 a 2)) :
    ∃ o k, (∀ d X, EL (mP L xs) (d + 2) 168 [rv 19 (some a)] (f, g, X) = some (.inl (some (rv 19 o)), (f, g, X))) ∧ (∀ d Y, goR L xs d Y u r (en a) k) ∧ Tgt f g u rd ps dp r o k := by
  obtain ⟨o, k, h1, h2⟩ := bh_loop (L := L) (xs := xs) T hr (dp a) a 0 rfl (by omega) ha hk hA
  exact ⟨o, k, fun d X => by rw [E_Step_behind]; exact h1 d X a, h2⟩
/-- into a block -/
theorem p_into (T : SS n s q rd ps en dp lp f g u) (hr : r < n) {b k : Nat} {o : Option Nat} (hb : rd b = r) (hk : blk (f 19 b 0)) (hd : dp b ≤ 10) (K : BlkAt f g u rd ps en dp r b o k) (hA : AT f g u dp r (some b)) :
    ∃ o' k', (∀ d X, EL (mP L xs) (d + 3) 175 [rv 19 (some b), rv 19 o] (f, g, X) = some (.inl (some (rv 19 o')), (f, g, X))) ∧ (∀ d Y, goR L xs d Y u r k k') ∧ Tgt f g u rd ps dp r o' k' := by
  have Hb := T.loc hr hb
  have key := fun d X => E_Step_into (L := L) (xs := xs) (d := d + 2) b o (f, g, X)
  cases o with
  | some c =>
    obtain ⟨c1, c2, c3, c4⟩ := K.1 c rfl
    have Hc := T.loc hr c1
    have hop := Hc.op c3
    have hp := Hc.pl
    rw [c2] at hop hp
    exact ⟨some c, k, fun d X => by rw [key d X]; simp, fun d Y => go_stop hp hop.1 hop.2.1, hp, Or.inr ⟨c, rfl, c1, c2, by rw [c4]; exact hA, fun z => absurd z c3, hop.2.2⟩⟩
  | none =>
    rcases end_go (L := L) (xs := xs) T.n12 hr hb Hb hk hd (K.2 rfl) hA with ⟨h1, c, c1, c2, c3⟩ | ⟨h1, h2⟩
    · refine ⟨some c, k, fun d X => ?_, c3, c2⟩
      rw [key d X]
      simp (decide := true) [c_turns, h1, clI, bI, c1]
    · obtain ⟨o, K', b1, b2, b3⟩ := p_beh (L := L) (xs := xs) T hr hb hd (blk_n hk) (AT_own hA)
      refine ⟨o, K', fun d X => ?_, h2 K' b2, b3⟩
      rw [key d X]
      simp (decide := true) only [c_turns, h1, clI, bI, cond_false, if_true, if_false, b1, clR]
end Beh
