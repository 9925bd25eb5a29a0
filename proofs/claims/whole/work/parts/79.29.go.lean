/-! ===== the log; where a script goes ===== -/
def nnC (R i : Nat) : Bool := !(Nat.beq R 31 || (Nat.beq R 11 && Nat.beq i 14))
def nnU (R i : Nat) : Bool := !(Nat.beq R 96 || (Nat.beq R 22 && Nat.beq i 84))
theorem st_nn1 : ∀ R i, stC R i = true → nnC R i = true := by
  intro R i h
  unfold stC at h
  unfold nnC
  rw [Bool.or_eq_true, Bool.or_eq_true] at h
  rcases h with (h | h) | h
  · rw [Bool.and_eq_true] at h
    have := Nat.eq_of_beq_eq_true h.1
    subst this
    rfl
  · have := Nat.eq_of_beq_eq_true h
    subst this
    rfl
  · rw [Bool.and_eq_true] at h
    have h1 := Nat.eq_of_beq_eq_true h.1
    subst h1
    rfl
theorem st_nn2 : ∀ R i, stU R i = true → nnU R i = true := by
  intro R i h
  unfold stU at h
  have hb : R < 73 := by
    rw [Bool.or_eq_true] at h
    rcases h with h | h
    · rw [Bool.or_eq_true] at h
      rcases h with h | h
      · have := Nat.eq_of_beq_eq_true h
        omega
      · have := Nat.eq_of_beq_eq_true h
        omega
    · rw [Bool.and_eq_true] at h
      have : R + 1 ≤ 73 := Nat.le_of_ble_eq_true h.2
      omega
  have hc : R ≠ 22 := by
    rintro rfl
    cases h
  unfold nnU
  have h1 : Nat.beq R 22 = false := by
    cases hz : Nat.beq R 22 with
    | false => rfl
    | true => exact absurd (Nat.eq_of_beq_eq_true hz) hc
  have h2 : Nat.beq R 96 = false := by
    cases hz : Nat.beq R 96 with
    | false => rfl
    | true => have := Nat.eq_of_beq_eq_true hz; omega
  rw [h1, h2]
  rfl
section Go
variable {L : Nat} {xs : Nat → Int32} {d : Nat} {X : ML × (Nat → Nat) × Nat × Nat} {Y : MR × ML × (Nat → Nat) × Nat × Nat}
variable {B n s q : Nat} {rd ps en dp : Nat → Nat} {lp : Nat → Option Nat} {f f1 : MI} {g : MR} {u u1 : MI} {r : Nat}
def ntC (f : MI) (l : Nat) (a b c : Int32) : MI := if l < 400 then m3 (m3 (m3 (m3 (m3 f 31 0 (4 * l) a) 31 0 (4 * l + 1) b) 31 0 (4 * l + 2) c) 31 0 (4 * l + 3) (f 11 0 9)) 11 0 14 (nI (l + 1)) else m3 f 11 0 14 (nI (l + 1))
def ntU (u : MI) (l : Nat) (a b c : Int32) : MI := if l < 400 then m3 (m3 (m3 (m3 (m3 u 96 0 (4 * l) a) 96 0 (4 * l + 1) b) 96 0 (4 * l + 2) c) 96 0 (4 * l + 3) (u 22 0 79)) 22 0 84 (nI (l + 1)) else m3 u 22 0 84 (nI (l + 1))
theorem c_note {l : Nat} (hl : f 11 0 14 = nI l) (h : l < 2 ^ 30) (a b c : Int32) : EL (mP L xs) (d + 1) 156 [rv 11 (some 0), iv a, iv b, iv c] (f, g, X) = some (.inl none, (ntC f l a b c, g, X)) := by
  rw [E_Fair_note]
  unfold ntC
  have e4 : nI l * 4 = nI (4 * l) := by rw [show (4 : Int32) = nI 4 from rfl, nI_mul, Nat.mul_comm]
  have e1 : nI (4 * l) + 1 = nI (4 * l + 1) := nI_1 _
  have e2 : nI (4 * l) + 2 = nI (4 * l + 2) := nI_add _ 2
  have e3 : nI (4 * l) + 3 = nI (4 * l + 3) := nI_add _ 3
  by_cases z : l < 400
  · rw [if_pos z]
    simp only [hl, e4, e1, e2, e3, if_pos (show nI l < 400 from nI_lt (b := 400) z (by decide)), if_neg (nin (show 4 * l < 1600 by omega) (by decide)), if_neg (nin (show 4 * l + 1 < 1600 by omega) (by decide)), if_neg (nin (show 4 * l + 2 < 1600 by omega) (by decide)), if_neg (nin (show 4 * l + 3 < 1600 by omega) (by decide)), nI_clamp (show 4 * l < 2 ^ 31 by omega), nI_clamp (show 4 * l + 1 < 2 ^ 31 by omega), nI_clamp (show 4 * l + 2 < 2 ^ 31 by omega), nI_clamp (show 4 * l + 3 < 2 ^ 31 by omega), m3_r (show 11 ≠ 31 by decide), nI_1]
  · rw [if_neg z]
    simp only [hl, if_neg (show ¬ nI l < 400 from nI_nlt (b := 400) (by omega) (by omega)), nI_1]
theorem r_note {l : Nat} (hl : u 22 0 84 = nI l) (h : l < 2 ^ 30) (a b c : Int32) : EL (mP L xs) (d + 1) 211 [rv 22 (some 0), iv a, iv b, iv c] (u, Y) = some (.inl none, (ntU u l a b c, Y)) := by
  rw [E_Ref_note]
  unfold ntU
  have e4 : 4 * nI l = nI (4 * l) := by rw [show (4 : Int32) = nI 4 from rfl, nI_mul]
  have e1 : nI (4 * l) + 1 = nI (4 * l + 1) := nI_1 _
  have e2 : nI (4 * l) + 2 = nI (4 * l + 2) := nI_add _ 2
  have e3 : nI (4 * l) + 3 = nI (4 * l + 3) := nI_add _ 3
  by_cases z : l < 400
  · rw [if_pos z]
    simp only [m3_r (show 22 ≠ 96 by decide), hl, e4, e1, e2, e3, if_pos (show nI l < 400 from nI_lt (b := 400) z (by decide)), if_neg (nin (show 4 * l < 1600 by omega) (by decide)), if_neg (nin (show 4 * l + 1 < 1600 by omega) (by decide)), if_neg (nin (show 4 * l + 2 < 1600 by omega) (by decide)), if_neg (nin (show 4 * l + 3 < 1600 by omega) (by decide)), nI_clamp (show 4 * l < 2 ^ 31 by omega), nI_clamp (show 4 * l + 1 < 2 ^ 31 by omega), nI_clamp (show 4 * l + 2 < 2 ^ 31 by omega), nI_clamp (show 4 * l + 3 < 2 ^ 31 by omega), nI_1]
  · rw [if_neg z]
    simp only [hl, if_neg (show ¬ nI l < 400 from nI_nlt (b := 400) (by omega) (by omega)), nI_1]
theorem ntC_mk {l : Nat} {a b c : Int32} : mk nnC (ntC f l a b c) = mk nnC f := by
  unfold ntC
  split
  · rw [mk_m3 rfl, mk_m3 rfl, mk_m3 rfl, mk_m3 rfl, mk_m3 rfl]
  · exact mk_m3 rfl
theorem ntU_mk {l : Nat} {a b c : Int32} : mk nnU (ntU u l a b c) = mk nnU u := by
  unfold ntU
  split
  · rw [mk_m3 rfl, mk_m3 rfl, mk_m3 rfl, mk_m3 rfl, mk_m3 rfl]
  · exact mk_m3 rfl
theorem nt_row {R S A : Nat} {h : MI} {l k : Nat} {a b c e x : Int32} (hS : R ≠ S) (hk : k < 4 * (l + 1)) : m3 (m3 (m3 (m3 (m3 h R 0 (4 * l) a) R 0 (4 * l + 1) b) R 0 (4 * l + 2) c) R 0 (4 * l + 3) e) S 0 A x R 0 k = if k < 4 * l then h R 0 k else if k = 4 * l then a else if k = 4 * l + 1 then b else if k = 4 * l + 2 then c else e := by
  rw [m3_r hS]
  by_cases h3 : k = 4 * l + 3
  · subst h3
    rw [m3_eq, if_neg (by omega), if_neg (by omega), if_neg (by omega), if_neg (by omega)]
  rw [m3_i h3]
  by_cases h2 : k = 4 * l + 2
  · subst h2
    rw [m3_eq, if_neg (by omega), if_neg (by omega), if_neg (by omega), if_pos rfl]
  rw [m3_i h2]
  by_cases h1 : k = 4 * l + 1
  · subst h1
    rw [m3_eq, if_neg (by omega), if_neg (by omega), if_pos rfl]
  rw [m3_i h1]
  by_cases h0 : k = 4 * l
  · subst h0
    rw [m3_eq, if_neg (by omega), if_pos rfl]
  rw [m3_i h0, if_pos (by omega)]
theorem TT_nt (T : TT B n s q rd ps en dp lp f g u) {l : Nat} (l0 : l < 2 ^ 30) (hB : B < 2 ^ 30) (hl2 : u 22 0 84 = nI l) (a b c : Int32) : TT (B + 1) n s q rd ps en dp lp (ntC f l a b c) g (ntU u l a b c) := by
  obtain ⟨l9, l1, l2, l3⟩ := T.lg
  have hll : l9 = l := (nI_eq (by omega) (by omega)).mp (l2.symm.trans hl2)
  subst hll
  have hg := T.gb
  have e1 := ntC_mk (f := f) (l := l9) (a := a) (b := b) (c := c)
  have e2 := ntU_mk (u := u) (l := l9) (a := a) (b := b) (c := c)
  have g1 : ntC f l9 a b c 11 0 14 = nI (l9 + 1) := by
    unfold ntC
    split <;> exact m3_eq
  have g2 : ntU u l9 a b c 22 0 84 = nI (l9 + 1) := by
    unfold ntU
    split <;> exact m3_eq
  have g3 : ∀ k, k < 1600 → k < 4 * (l9 + 1) → ntC f l9 a b c 31 0 k = ntU u l9 a b c 96 0 k := by
    intro k h1 h2
    unfold ntC ntU
    by_cases z : l9 < 400
    · rw [if_pos z, if_pos z, nt_row (by decide) h2, nt_row (by decide) h2, hg.1]
      by_cases h3 : k < 4 * l9
      · rw [if_pos h3, if_pos h3]
        exact l3 k h1 h3
      · rw [if_neg h3, if_neg h3]
    · rw [if_neg z, if_neg z, m3_r (by decide), m3_r (by decide)]
      exact l3 k h1 (by omega)
  obtain ⟨t1, t2, t3, t4, t5, t6, t7, t8⟩ := T
  have a1 : R_cnt (mk nnC f) (mk nnU u) n s q := t1
  have a2 : (mk nnC f) 11 0 9 = (mk nnU u) 22 0 79 ∧ (mk nnC f) 11 0 10 = (mk nnU u) 22 0 80 ∧ (mk nnC f) 11 0 11 = (mk nnU u) 22 0 81 ∧ (mk nnC f) 11 0 12 = (mk nnU u) 22 0 82 ∧ (mk nnC f) 11 0 13 = (mk nnU u) 22 0 83 := ⟨t2.1, t2.2.1, t2.2.2.1, t2.2.2.2.1, t2.2.2.2.2.1⟩
  have a4 : R_stf (mk nnC f) (mk nnU u) s := t4
  have a5 : Stf (mk nnU u) n s := t5
  have a6 : R_flg (mk nnC f) (mk nnU u) q := t6
  rw [← e1, ← e2] at a1 a2 a4 a6
  rw [← e2] at a5
  refine ⟨a1, ⟨a2.1, a2.2.1, a2.2.2.1, a2.2.2.2.1, a2.2.2.2.2, g1.trans g2.symm⟩, ⟨l9 + 1, by omega, g2, g3⟩, a4, a5, a6, by rw [mk_sub st_nn1 e1, mk_sub st_nn2 e2]; exact t7, fun r hr => ?_⟩
  have a8 : RR (mk nnC f) g (mk nnU u) rd ps dp r := t8 r hr
  rw [← e1, ← e2] at a8
  exact a8
theorem TT.lgx (T : TT B n s q rd ps en dp lp f g u) (hB : B < 2 ^ 30) : ∃ l : Nat, l < 2 ^ 30 ∧ f 11 0 14 = nI l ∧ u 22 0 84 = nI l := by
  obtain ⟨l, l1, l2, -⟩ := T.lg
  exact ⟨l, by omega, T.gb.2.2.2.2.2.trans l2, l2⟩
theorem p_note (T : TT B n s q rd ps en dp lp f g u) (hB : B < 2 ^ 30) (a b c : Int32) : ∃ f1 u1 : MI, (∀ d X, EL (mP L xs) (d + 1) 156 [rv 11 (some 0), iv a, iv b, iv c] (f, g, X) = some (.inl none, (f1, g, X))) ∧ (∀ d Y, EL (mP L xs) (d + 1) 211 [rv 22 (some 0), iv a, iv b, iv c] (u, Y) = some (.inl none, (u1, Y))) ∧ TT (B + 1) n s q rd ps en dp lp f1 g u1 ∧ mk nnC f1 = mk nnC f ∧ mk nnU u1 = mk nnU u := by
  obtain ⟨l, l1, l2, l3⟩ := T.lgx hB
  exact ⟨ntC f l a b c, ntU u l a b c, fun d X => c_note l2 (by omega) a b c, fun d Y => r_note l3 (by omega) a b c, TT_nt T l1 hB l3 a b c, ntC_mk, ntU_mk⟩
/-- behind a step: what endIfOver makes of it fits the reference -/
def PG (L : Nat) (xs : Nat → Int32) (B n s q : Nat) (rd ps en dp : Nat → Nat) (lp : Nat → Option Nat) (r : Nat) (f : MI) (g : MR) (u : MI) : Prop := (∃ (f2 : MI) (g2 : MR), (∀ d X, EL (mP L xs) (d + 3) 187 [rv 17 (some 0), rv 16 (some r)] (f, g, X) = some (.inl none, (f2, g2, X))) ∧ TT B n s q rd ps en dp lp f2 g2 u ∧ (g 18 r 3 ≠ none → f2 = f ∧ g2 = g)) ∧ (g 18 r 3 ≠ none → u 82 0 r = 0) ∧ (g 18 r 3 = none → u 82 0 r ≠ 0)
theorem PG.ex {L : Nat} {xs : Nat → Int32} {B n s q : Nat} {rd ps en dp : Nat → Nat} {lp : Nat → Option Nat} {r : Nat} {f : MI} {g : MR} {u : MI} (x : PG L xs B n s q rd ps en dp lp r f g u) : ∃ (f2 : MI) (g2 : MR), (∀ d X, EL (mP L xs) (d + 3) 187 [rv 17 (some 0), rv 16 (some r)] (f, g, X) = some (.inl none, (f2, g2, X))) ∧ TT B n s q rd ps en dp lp f2 g2 u ∧ (g 18 r 3 ≠ none → f2 = f ∧ g2 = g) := x.1
theorem PG.lv {L : Nat} {xs : Nat → Int32} {B n s q : Nat} {rd ps en dp : Nat → Nat} {lp : Nat → Option Nat} {r : Nat} {f : MI} {g : MR} {u : MI} (x : PG L xs B n s q rd ps en dp lp r f g u) : g 18 r 3 ≠ none → u 82 0 r = 0 := x.2.1
theorem PG.dd {L : Nat} {xs : Nat → Int32} {B n s q : Nat} {rd ps en dp : Nat → Nat} {lp : Nat → Option Nat} {r : Nat} {f : MI} {g : MR} {u : MI} (x : PG L xs B n s q rd ps en dp lp r f g u) : g 18 r 3 = none → u 82 0 r ≠ 0 := x.2.2
theorem e_over0 (h : g 18 r 3 ≠ none ∨ f 18 r 6 ≠ 0) : EL (mP L xs) (d + 1) 187 [rv 17 (some 0), rv 16 (some r)] (f, g, X) = some (.inl none, (f, g, X)) := by
  rw [E_Runner_endIfOver]
  simp only [onS_s]
  by_cases h1 : g 18 r 3 = none
  · rw [if_pos h1, if_neg (h.resolve_left (fun z => z h1))]
  · rw [if_neg h1]
theorem PG_live (T : TT B n s q rd ps en dp lp f g u) (h1 : g 18 r 3 ≠ none) (h2 : u 82 0 r = 0) : PG L xs B n s q rd ps en dp lp r f g u := ⟨⟨f, g, fun d X => e_over0 (d := d + 2) (Or.inl h1), T, fun _ => ⟨rfl, rfl⟩⟩, fun _ => h2, fun z => absurd z h1⟩
/-- between: the script's ints may have changed -/
def Mid (rd : Nat → Nat) (f f1 u u1 : MI) (r : Nat) : Prop := (mk ndC f1 = mk ndC f) ∧ (∀ r', r' ≠ r → f1 18 r' = f 18 r') ∧ (∀ b, rd b ≠ r → f1 19 b 6 = f 19 b 6) ∧ (mk ndU u1 = mk ndU u) ∧ (∀ r', r' ≠ r → EqU u u1 r') ∧ (f1 18 r 6 = u1 82 0 r) ∧ (f1 18 r 7 = u1 83 0 r) ∧ (f1 18 r 8 = u1 85 0 r)
theorem Mid.e1 {rd : Nat → Nat} {f f1 u u1 : MI} {r : Nat} (x : Mid rd f f1 u u1 r) : mk ndC f1 = mk ndC f := x.1
theorem Mid.hC {rd : Nat → Nat} {f f1 u u1 : MI} {r : Nat} (x : Mid rd f f1 u u1 r) : ∀ r', r' ≠ r → f1 18 r' = f 18 r' := x.2.1
theorem Mid.h6 {rd : Nat → Nat} {f f1 u u1 : MI} {r : Nat} (x : Mid rd f f1 u u1 r) : ∀ b, rd b ≠ r → f1 19 b 6 = f 19 b 6 := x.2.2.1
theorem Mid.e2 {rd : Nat → Nat} {f f1 u u1 : MI} {r : Nat} (x : Mid rd f f1 u u1 r) : mk ndU u1 = mk ndU u := x.2.2.2.1
theorem Mid.hU {rd : Nat → Nat} {f f1 u u1 : MI} {r : Nat} (x : Mid rd f f1 u u1 r) : ∀ r', r' ≠ r → EqU u u1 r' := x.2.2.2.2.1
theorem Mid.s6 {rd : Nat → Nat} {f f1 u u1 : MI} {r : Nat} (x : Mid rd f f1 u u1 r) : f1 18 r 6 = u1 82 0 r := x.2.2.2.2.2.1
theorem Mid.s7 {rd : Nat → Nat} {f f1 u u1 : MI} {r : Nat} (x : Mid rd f f1 u u1 r) : f1 18 r 7 = u1 83 0 r := x.2.2.2.2.2.2.1
theorem Mid.s8 {rd : Nat → Nat} {f f1 u u1 : MI} {r : Nat} (x : Mid rd f f1 u u1 r) : f1 18 r 8 = u1 85 0 r := x.2.2.2.2.2.2.2
theorem Mid.rf (T : TT B n s q rd ps en dp lp f g u) (hr : r < n) : Mid rd f f u u r := by
  obtain ⟨-, -, S, -⟩ := T.rr r hr
  exact ⟨rfl, fun _ _ => rfl, fun _ _ => rfl, rfl, fun _ _ => EqU.rf, S.1, S.2.1, S.2.2.1⟩
theorem TT_mid (T : TT B n s q rd ps en dp lp f g u) (hr : r < n) (M : Mid rd f f1 u u1 r) {o : Option Nat} (hP : PosR f1 (m3 g 18 r 3 o) u1 rd ps dp r) : TT B n s q rd ps en dp lp f1 (m3 g 18 r 3 o) u1 :=
  TT_scr T hr M.e1 M.hC M.h6 (mkG_m3 rfl) (fun r' h => m3_o h) M.e2 M.hU M.s6 M.s7 M.s8 hP
theorem Mid.c4 (M : Mid rd f f1 u u1 r) {v : Int32} : Mid rd f (m3 f1 18 r 4 v) u u1 r := ⟨(mk_m3 rfl).trans M.e1, fun r' h => (m3_row (Or.inr h)).trans (M.hC r' h), fun b h => (m3_r (by decide)).trans (M.h6 b h), M.e2, M.hU, (m3_i (by decide)).trans M.s6, (m3_i (by decide)).trans M.s7, (m3_i (by decide)).trans M.s8⟩
theorem Mid.c6 (M : Mid rd f f1 u u1 r) {v : Int32} : Mid rd f (m3 f1 18 r 6 v) u (m3 u1 82 0 r v) r := ⟨(mk_m3 rfl).trans M.e1, fun r' h => (m3_row (Or.inr h)).trans (M.hC r' h), fun b h => (m3_r (by decide)).trans (M.h6 b h), (mk_m3 rfl).trans M.e2, fun r' h => (M.hU r' h).tr (EqU.s1 (by decide) h), by rw [m3_eq, m3_eq], (m3_i (by decide)).trans M.s7, (m3_i (by decide)).trans M.s8⟩
theorem Mid.u84 (M : Mid rd f f1 u u1 r) {v : Int32} : Mid rd f f1 u (m3 u1 84 0 r v) r := ⟨M.e1, M.hC, M.h6, (mk_m3 rfl).trans M.e2, fun r' h => (M.hU r' h).tr (EqU.s1 (by decide) h), M.s6, M.s7, M.s8⟩
theorem Mid.u87 (M : Mid rd f f1 u u1 r) {v : Int32} : Mid rd f f1 u (m3 u1 87 0 r v) r := ⟨M.e1, M.hC, M.h6, (mk_m3 rfl).trans M.e2, fun r' h => (M.hU r' h).tr (EqU.s1 (by decide) h), M.s6, M.s7, M.s8⟩
/-- over: the reference says so at once, the class at the end of its run -/
theorem p_ovr (T : TT B n s q rd ps en dp lp f g u) (hB : B < 2 ^ 30) (hr : r < n) (M : Mid rd f f1 u u1 r) (h0 : u1 82 0 r = 0) :
    ∃ u2, (∀ d Y, EL (mP L xs) (d + 2) 212 [rv 22 (some 0), iv (nI r)] (u1, Y) = some (.inl none, (u2, Y))) ∧ PG L xs (B + 1) n s q rd ps en dp lp r (m3 f1 18 r 4 0) (m3 g 18 r 3 none) u2 := by
  have hn := T.n12
  obtain ⟨⟨kd, hRM⟩, -⟩ := T.rr r hr
  have M2 : Mid rd f (m3 (m3 (m3 f1 18 r 4 0) 18 r 6 1) 18 r 4 0) u (m3 u1 82 0 r 1) r := (M.c4.c6).c4
  have T2 := TT_mid (o := none) T hr M2 (Or.inr (Or.inl ⟨m3_eq, Or.inl m3_eq⟩))
  have hcl : (m3 (m3 (m3 f1 18 r 4 0) 18 r 6 1) 18 r 4 0) 11 0 9 = (m3 u1 82 0 r 1) 22 0 79 := T2.gb.1
  have hix : (m3 (m3 (m3 f1 18 r 4 0) 18 r 6 1) 18 r 4 0) 16 r 0 = nI r := (mk_at M2.e1 16 r 0 rfl).trans hRM.ix
  obtain ⟨f3, u3, n1, n2, n3, n4, n5⟩ := p_note (L := L) (xs := xs) T2 hB 6 (nI r) ((m3 u1 82 0 r 1) 22 0 79)
  refine ⟨u3, fun d Y => ?_, ⟨f3, m3 (m3 g 18 r 3 none) 18 r 3 none, fun d X => ?_, ?_, fun z => absurd m3_eq z⟩, fun z => absurd m3_eq z, fun _ => ?_⟩
  · rw [E_Ref_isOver, if_neg (nin (show r < 12 by omega) (by decide)), nI_clamp (show r < 2 ^ 31 by omega)]
    rw [n2]
    rfl
  · have hs : (m3 f1 18 r 4 0) 18 r 6 = 0 := by rw [m3_i (by decide), M.s6, h0]
    have hgg : m3 (m3 g 18 r 3 none) 18 r 3 none = m3 g 18 r 3 none := by
      funext a b c
      unfold m3
      by_cases h1 : a = 18 <;> by_cases h2 : b = r <;> by_cases h3 : c = 3 <;> simp [h1, h2, h3]
    rw [E_Runner_endIfOver]
    simp only [onS_s, m3_eq, if_true, hs]
    rw [E_Script_end]
    simp only [E_Script_goOn, clV]
    rw [hix, hcl, hgg, n1 (d + 1) X]
    rfl
  · have hgg : m3 (m3 g 18 r 3 none) 18 r 3 none = m3 g 18 r 3 none := by
      funext a b c
      unfold m3
      by_cases h1 : a = 18 <;> by_cases h2 : b = r <;> by_cases h3 : c = 3 <;> simp [h1, h2, h3]
    rw [hgg]
    exact n3
  · have : u3 82 0 r = 1 := (mk_at n5 82 0 r rfl).trans m3_eq
    rw [this]
    decide
/-- the script goes on -/
theorem p_go (T : TT B n s q rd ps en dp lp f g u) (hB : B < 2 ^ 30) (hr : r < n) (M : Mid rd f f1 u u1 r) (h0 : u1 82 0 r = 0) {o : Option Nat} {e k : Nat} (hT : Tgt f1 g u1 rd ps dp r o k) (hG : ∀ d Y, goR L xs d Y u1 r e k) :
    ∃ u2, (∀ d Y, EL (mP L xs) (d + 3) 217 [rv 22 (some 0), iv (nI r), iv (nI e)] (u1, Y) = some (.inl none, (u2, Y))) ∧ PG L xs (B + 1) n s q rd ps en dp lp r (m3 f1 18 r 4 0) (m3 g 18 r 3 o) u2 := by
  have hn := T.n12
  obtain ⟨hk, hT⟩ := hT
  have hop : (m3 (m3 u1 84 0 r (nI k)) 87 0 r 0) 59 0 k = u1 59 0 k := rfl
  have key := fun d Y => (E_Ref_goTo (L := L) (xs := xs) (d := d + 2) (nI r) (nI e) (u1, Y)).trans ((hG (d + 2) Y (nI e)).trans (K_Ref_goTo_5 (L := L) (xs := xs) (d := d + 2) (nI r) (nI e) (nI k) 0 (u1, Y)))
  simp only [if_true, if_neg (nin (show r < 12 by omega) (by decide)), if_neg (nin hk (by decide)), nI_clamp (show r < 2 ^ 31 by omega), nI_clamp (show k < 2 ^ 31 by omega), hop] at key
  rcases hT with ⟨rfl, h54⟩ | ⟨c, rfl, c1, c2, c3, c4, c5⟩
  · obtain ⟨u2, h1, h2⟩ := p_ovr (L := L) (xs := xs) (u1 := m3 (m3 u1 84 0 r (nI k)) 87 0 r 0) T hB hr (M.u84.u87) h0
    refine ⟨u2, fun d Y => ?_, h2⟩
    rw [key, if_pos h54, h1 d Y]
    rfl
  · refine ⟨_, fun d Y => (key d Y).trans (if_neg c5), ?_⟩
    have M2 : Mid rd f (m3 f1 18 r 4 0) u (m3 (m3 u1 84 0 r (nI k)) 87 0 r 0) r := (M.u84.u87).c4
    have T2 : TT B n s q rd ps en dp lp (m3 f1 18 r 4 0) (m3 g 18 r 3 (some c)) (m3 (m3 u1 84 0 r (nI k)) 87 0 r 0) := by
      refine TT_mid T hr M2 (Or.inl ⟨c, m3_eq, c1, by rw [m3_r (by decide), m3_eq, c2], h0, ?_, ?_, by rw [m3_eq, m3_eq], Or.inl m3_eq⟩)
      · have hgg : (m3 g 18 r 3 (some c)) 19 = g 19 := rfl
        intro j b hb hk
        rw [up_g hgg, hgg] at hb
        exact c3 j b hb hk
      · exact c4
    exact PG_live (T2.le (Nat.le_succ B)) (by rw [m3_eq]; exact fun z => nomatch z) h0
end Go
