/-! ===== queues ===== -/
section Que
variable {L : Nat} {xs : Nat → Int32} {d : Nat} {X : ML × (Nat → Nat) × Nat × Nat} {Y : MR × ML × (Nat → Nat) × Nat × Nat}
variable {B B' n s q : Nat} {rd ps en dp : Nat → Nat} {lp : Nat → Option Nat} {f f1 f2 f' : MI} {g : MR} {u u1 u2 u' : MI} {r a b : Nat}
/-- what a queue's change leaves -/
def FqC (r : Nat) (f f' : MI) : Prop := ∀ R o i, ¬ (o = r ∧ (R = 23 ∨ R = 24 ∨ R = 15)) → ¬ (R = 11 ∧ i = 13) → f' R o i = f R o i
def FqU (r : Nat) (u u' : MI) : Prop := ∀ R o i, ¬ (R = 93 ∧ i = r) → ¬ ((R = 94 ∨ R = 95) ∧ 30 * r ≤ i ∧ i < 30 * r + 30) → ¬ (R = 22 ∧ i = 83) → u' R o i = u R o i
theorem FqC.tr (h1 : FqC r f f1) (h2 : FqC r f1 f2) : FqC r f f2 := fun R o i a b => (h2 R o i a b).trans (h1 R o i a b)
theorem FqU.tr (h1 : FqU r u u1) (h2 : FqU r u1 u2) : FqU r u u2 := fun R o i a b c => (h2 R o i a b c).trans (h1 R o i a b c)
def qC (R i : Nat) : Bool := !(Nat.beq R 23 || Nat.beq R 24 || Nat.beq R 15 || (Nat.beq R 11 && Nat.beq i 13))
def qU (R i : Nat) : Bool := !(Nat.beq R 93 || Nat.beq R 94 || Nat.beq R 95 || (Nat.beq R 22 && Nat.beq i 83))
theorem FqC.mq (h : FqC r f f') : mk qC f' = mk qC f := by
  funext R o i
  unfold mk
  cases hq : qC R i with
  | false => rfl
  | true =>
    refine h R o i (fun z => ?_) (fun z => ?_)
    · obtain ⟨-, rfl | rfl | rfl⟩ := z <;> cases hq
    · obtain ⟨rfl, rfl⟩ := z; cases hq
theorem FqU.mq (h : FqU r u u') : mk qU u' = mk qU u := by
  funext R o i
  unfold mk
  cases hq : qU R i with
  | false => rfl
  | true =>
    refine h R o i (fun z => ?_) (fun z => ?_) (fun z => ?_)
    · obtain ⟨rfl, -⟩ := z; cases hq
    · obtain ⟨rfl | rfl, -⟩ := z <;> cases hq
    · obtain ⟨rfl, rfl⟩ := z; cases hq
theorem TT_que (T : TT B n s q rd ps en dp lp f g u) (hr : r < n) (hC : FqC r f f') (hU : FqU r u u') {m : Nat} (hQ : RQ f' u' r m) (hw : f' 11 0 13 = u' 22 0 83) : TT B n s q rd ps en dp lp f' g u' := by
  have e1 := hC.mq
  have e2 := hU.mq
  obtain ⟨⟨kd, M⟩, -, S, P⟩ := T.rr r hr
  have a1 : R_cnt (mk qC f) (mk qU u) n s q := T.cn
  have a2 : (mk qC f) 11 0 9 = (mk qU u) 22 0 79 ∧ (mk qC f) 11 0 10 = (mk qU u) 22 0 80 ∧ (mk qC f) 11 0 11 = (mk qU u) 22 0 81 ∧ (mk qC f) 11 0 12 = (mk qU u) 22 0 82 ∧ (mk qC f) 11 0 14 = (mk qU u) 22 0 84 := ⟨T.gb.1, T.gb.2.1, T.gb.2.2.1, T.gb.2.2.2.1, T.gb.2.2.2.2.2⟩
  have a3 : ∃ l : Nat, l ≤ B ∧ (mk qU u) 22 0 84 = nI l ∧ ∀ k, k < 1600 → k < 4 * l → (mk qC f) 31 0 k = (mk qU u) 96 0 k := T.lg
  have a4 : R_stf (mk qC f) (mk qU u) s := T.sf
  have a5 : Stf (mk qU u) n s := T.ss
  have a6 : R_flg (mk qC f) (mk qU u) q := T.fl
  have a7 : RM (mk qC f) g (mk qU u) r kd := M
  have a8 : R_sta (mk qC f) (mk qU u) r := S
  have a9 : PosR (mk qC f) g (mk qU u) rd ps dp r := P
  rw [← e1, ← e2] at a1 a2 a3 a4 a6 a7 a8 a9
  rw [← e2] at a5
  refine TT_ride T hr (fun r' h => ?_) (fun r' h => ?_) (fun b _ => hC 19 b 6 (by omega) (by omega)) (fun _ _ => ⟨rfl, rfl⟩) ?_ rfl ?_ a1 ⟨a2.1, a2.2.1, a2.2.2.1, a2.2.2.2.1, hw, a2.2.2.2.2⟩ a3 a4 a5 a6 ⟨⟨kd, a7⟩, ⟨m, hQ⟩, a8, a9⟩
  · have row : ∀ R, R ≠ 11 → f' R r' = f R r' := fun R hR => by
      funext i
      exact hC R r' i (fun z => h z.1) (fun z => hR z.1)
    exact ⟨row 15 (by decide), row 16 (by decide), row 18 (by decide), row 23 (by decide), row 24 (by decide), row 25 (by decide), row 26 (by decide), row 27 (by decide)⟩
  · refine ⟨fun R hR => hU R 0 r' (by omega) (by omega) (by omega), fun k hk => hU 88 0 _ (by omega) (by omega) (by omega), fun k hk => hU 89 0 _ (by omega) (by omega) (by omega), fun k hk => hU 90 0 _ (by omega) (by omega) (by omega), fun k hk => hU 94 0 _ (by omega) (by omega) (by omega), fun k hk => hU 95 0 _ (by omega) (by omega) (by omega), ?_, ?_, ?_⟩
    · funext o i
      exact hU 42 o i (by omega) (by omega) (by omega)
    · funext o i
      exact hU 59 o i (by omega) (by omega) (by omega)
    · funext o i
      exact hU 64 o i (by omega) (by omega) (by omega)
  · refine mk_sub (b := qC) (fun R i h => ?_) e1
    unfold stC at h
    rw [Bool.or_eq_true, Bool.or_eq_true] at h
    rcases h with (h | h) | h
    · rw [Bool.and_eq_true] at h
      have := Nat.eq_of_beq_eq_true h.1
      subst this
      rfl
    · have := Nat.eq_of_beq_eq_true h
      subst this
      rfl
    · rw [Bool.and_eq_true] at h
      have h1 := Nat.eq_of_beq_eq_true h.1
      subst h1
      rfl
  · funext R o i
    unfold mk
    cases hq : stU R i with
    | false => rfl
    | true =>
      have hb : R < 73 := by
        unfold stU at hq
        rw [Bool.or_eq_true] at hq
        rcases hq with h | h
        · rw [Bool.or_eq_true] at h
          rcases h with h | h
          · have := Nat.eq_of_beq_eq_true h
            omega
          · have := Nat.eq_of_beq_eq_true h
            omega
        · rw [Bool.and_eq_true] at h
          have : R + 1 ≤ 73 := Nat.le_of_ble_eq_true h.2
          omega
      refine hU R o i (by omega) (by omega) (fun z => ?_)
      obtain ⟨rfl, -⟩ := z
      cases hq
/-- the class drops the first groups -/
theorem c_drop {m c : Nat} (hm : m ≤ 30) (h2 : f 15 r 2 = nI m) (hc : c ≤ m) : ∃ f', (∀ d X, EL (mP L xs) (d + 1) 154 [rv 15 (some r), iv (nI c)] (f, g, X) = some (.inl none, (f', g, X))) ∧ f' 15 r 2 = nI (m - c) ∧ (∀ i, i < m - c → f' 23 r i = f 23 r (c + i) ∧ f' 24 r i = f 24 r (c + i)) ∧ FqC r f f' ∧ f' 15 r 3 = f 15 r 3 ∧ f' 15 r 4 = f 15 r 4 ∧ f' 11 0 13 = f 11 0 13 := by
  by_cases h0 : c = 0
  · subst h0
    refine ⟨f, fun d X => ?_, by rw [h2]; rfl, fun i hi => by rw [Nat.zero_add]; exact ⟨rfl, rfl⟩, fun R o i _ _ => rfl, rfl, rfl, rfl⟩
    rw [E_Queue_dropFirst, nI_0, if_neg (by decide)]
  · have hp : 0 < nI c := nI_lt (a := 0) (by omega) (by omega)
    have e1 : nI m - nI c = nI (m - c) := nI_sub hc
    have e3 : ¬ (30 < nI m) := nI_nlt (a := 30) (by omega) (by decide)
    refine ⟨m3 (mcp (mcp f 23 r (f 23 r) c 0 (m - c)) 24 r (f 24 r) c 0 (m - c)) 15 r 2 (nI (m - c)), fun d X => ?_, m3_eq, fun i hi => ?_, fun R o i h1 h3 => ?_, ?_, ?_, ?_⟩
    · rw [E_Queue_dropFirst, if_pos hp]
      simp only [h2, e1, if_neg (nI_pos (show m - c < 2 ^ 31 by omega)), if_neg e3, if_neg (nI_pos (show c < 2 ^ 31 by omega)), if_neg (show ¬ (0 : Int32) < 0 by decide), nI_clamp (show m - c < 2 ^ 31 by omega), nI_clamp (show c < 2 ^ 31 by omega), if_neg (show ¬ 30 < c + (m - c) by omega), if_neg (show ¬ 30 < 0 + (m - c) by omega)]
      have r1 : rdI (mP L xs) f 23 r = f 23 r := rfl
      have r2 : rdI (mP L xs) (mcp f 23 r (f 23 r) c 0 (m - c)) 24 r = f 24 r := rfl
      rw [r1, r2]
    · rw [m3_r (by decide), m3_r (by decide)]
      unfold mcp
      constructor
      · rw [if_neg (by decide), if_pos rfl, if_pos rfl, if_pos (by omega), Nat.sub_zero]
      · rw [if_pos rfl, if_pos rfl, if_pos (by omega), Nat.sub_zero]
    · by_cases hR : R = 15
      · subst hR
        rw [m3_o (by omega)]
        rfl
      · rw [m3_r hR]
        unfold mcp
        by_cases ho : o = r
        · rw [if_neg (by omega), if_neg (by omega)]
        · by_cases h24 : R = 24
          · rw [if_pos h24, if_neg ho]
            by_cases h23 : R = 23
            · omega
            · rw [if_neg h23]
          · rw [if_neg h24]
            by_cases h23 : R = 23
            · rw [if_pos h23, if_neg ho]
            · rw [if_neg h23]
    · exact m3_i (by decide)
    · exact m3_i (by decide)
    · rfl
/-- the reference moves the groups up -/
def shU (u : MI) (r c : Nat) : MI := fun R o i => if (R = 94 ∨ R = 95) ∧ o = 0 ∧ 30 * r ≤ i ∧ i < 30 * r + c then u R o (i + 1) else u R o i
theorem shU_ne {c R o i : Nat} (h : ¬ ((R = 94 ∨ R = 95) ∧ o = 0 ∧ 30 * r ≤ i ∧ i < 30 * r + c)) : shU u r c R o i = u R o i := if_neg h
theorem shU_in {c R k : Nat} (h : R = 94 ∨ R = 95) (hk : k < c) : shU u r c R 0 (30 * r + k) = u R 0 (30 * r + k + 1) := if_pos ⟨h, rfl, by omega, by omega⟩
theorem shU_0 : shU u r 0 = u := by
  funext R o i
  exact shU_ne (by omega)
theorem shU_s {c : Nat} : m3 (m3 (shU u r c) 94 0 (30 * r + c) (shU u r c 94 0 (30 * r + c + 1))) 95 0 (30 * r + c) (shU u r c 95 0 (30 * r + c + 1)) = shU u r (c + 1) := by
  funext R o i
  by_cases h : (R = 94 ∨ R = 95) ∧ o = 0 ∧ i = 30 * r + c
  · obtain ⟨hR, rfl, rfl⟩ := h
    rw [shU_in (c := c + 1) hR (by omega)]
    rcases hR with rfl | rfl
    · rw [m3_r (by decide), m3_eq]
      exact shU_ne (by omega)
    · rw [m3_eq]
      exact shU_ne (by omega)
  · have e : m3 (m3 (shU u r c) 94 0 (30 * r + c) (shU u r c 94 0 (30 * r + c + 1))) 95 0 (30 * r + c) (shU u r c 95 0 (30 * r + c + 1)) R o i = shU u r c R o i := by
      unfold m3
      by_cases h1 : R = 95
      · by_cases h2 : o = 0
        · have h3 : i ≠ 30 * r + c := by omega
          rw [if_pos h1, if_pos h2, if_neg h3, if_neg (by omega)]
        · rw [if_pos h1, if_neg h2, if_neg (by omega)]
      · rw [if_neg h1]
        by_cases h1 : R = 94
        · by_cases h2 : o = 0
          · have h3 : i ≠ 30 * r + c := by omega
            rw [if_pos h1, if_pos h2, if_neg h3]
          · rw [if_pos h1, if_neg h2]
        · rw [if_neg h1]
    rw [e]
    unfold shU
    by_cases h1 : (R = 94 ∨ R = 95) ∧ o = 0 ∧ 30 * r ≤ i ∧ i < 30 * r + c
    · rw [if_pos h1, if_pos (by omega)]
    · rw [if_neg h1, if_neg (by omega)]
theorem lv_loop (hr : r < 12) {m : Nat} (hm : m < 30) (h9 : u 93 0 r = nI m) : ∀ (j c : Nat), c + j = m → RL (mP L xs) d 210 15 [some (rv 22 (some 0)), some (iv (nI r)), some (iv (nI (30 * r + c)))] [] (shU u r c, Y) = some (.inl none, (shU u r m, Y))
  | 0, c, h => by
    have e : c = m := by omega
    subst e
    have e0 : (30 : Int32) * nI r + nI c = nI (30 * r + c) := by rw [show (30 : Int32) = nI 30 from rfl, nI_mul, nI_add]
    have h9' : shU u r c 93 0 r = nI c := (shU_ne (by omega)).trans h9
    rw [K_Ref_leaves_15, if_neg (nin hr (by decide))]
    simp only [nI_clamp (show r < 2 ^ 31 by omega), h9', e0]
    rw [if_neg (nI_nlt (Nat.le_refl _) (by omega))]
  | j + 1, c, h => by
    have e0 : (30 : Int32) * nI r + nI m = nI (30 * r + m) := by rw [show (30 : Int32) = nI 30 from rfl, nI_mul, nI_add]
    have h9' : shU u r c 93 0 r = nI m := (shU_ne (by omega)).trans h9
    rw [K_Ref_leaves_15, if_neg (nin hr (by decide))]
    simp only [nI_clamp (show r < 2 ^ 31 by omega), h9', e0]
    rw [if_pos (nI_lt (show 30 * r + c < 30 * r + m by omega) (by omega))]
    simp only [nI_1, if_neg (nin (show 30 * r + c + 1 < 360 by omega) (by decide)), if_neg (nin (show 30 * r + c < 360 by omega) (by decide)), nI_clamp (show 30 * r + c < 2 ^ 31 by omega), nI_clamp (show 30 * r + c + 1 < 2 ^ 31 by omega), m3_r (show 95 ≠ 94 by decide), shU_s]
    exact lv_loop hr hm h9 j (c + 1) (by omega)
theorem r_leaves (hr : r < 12) {m : Nat} (hm : m < 30) (h9 : u 93 0 r = nI (m + 1)) : EL (mP L xs) (d + 1) 210 [rv 22 (some 0), iv (nI r)] (u, Y) = some (.inl none, (shU (m3 u 93 0 r (nI m)) r m, Y)) := by
  have e1 : nI (m + 1) - 1 = nI m := by rw [← nI_1]; exact Int32.add_sub_cancel _ _
  have e0 : (30 : Int32) * nI r = nI (30 * r + 0) := by rw [show (30 : Int32) = nI 30 from rfl, nI_mul]; rfl
  rw [E_Ref_leaves]
  simp only [if_neg (nin hr (show 12 < 2 ^ 31 by decide)), nI_clamp (show r < 2 ^ 31 by omega), h9, e1, e0]
  have := lv_loop (L := L) (xs := xs) (d := d) (Y := Y) (u := m3 u 93 0 r (nI m)) hr hm m3_eq m 0 (by omega)
  rw [shU_0] at this
  exact this
end Que
