/-! ===== read: the bytes, and where tokens end (the class) ===== -/
def cb (c : Nat) : Int32 := (nI c).toInt8.toInt32
def isL (c : Nat) : Bool := Nat.ble 97 c && Nat.ble c 122
def isD (c : Nat) : Bool := Nat.ble 48 c && Nat.ble c 57
def bt (b : Nat → Nat) (N i : Nat) : Nat := if i < N then b i else 0
theorem cb_L : ∀ c, c < 256 → (if cb c < 97 then (0 : Int32) else if 122 < cb c then 0 else 1) = bI (isL c) := by decide +kernel
theorem cb_D : ∀ c, c < 256 → (if cb c < 48 then (0 : Int32) else if 57 < cb c then 0 else 1) = bI (isD c) := by decide +kernel
theorem nI_L : ∀ c, c < 256 → (if nI c < 97 then (0 : Int32) else if 122 < nI c then 0 else 1) = bI (isL c) := by decide +kernel
theorem nI_D : ∀ c, c < 256 → (if nI c < 48 then (0 : Int32) else if 57 < nI c then 0 else 1) = bI (isD c) := by decide +kernel
theorem cb_v : ∀ c, c < 256 → (c < 128 ∧ cb c = nI c) ∨ (128 ≤ c ∧ cb c < 0) := by decide +kernel
theorem cb_is {c x : Nat} (hc : c < 256) (hx : x < 128) : (cb c = nI x) = (c = x) := by
  refine propext ⟨fun h => ?_, fun h => ?_⟩
  · rcases cb_v c hc with ⟨h1, h2⟩ | ⟨h1, h2⟩
    · rw [h2] at h
      exact (nI_eq (by omega) (by omega)).mp h
    · rw [h] at h2
      exact absurd h2 (nI_pos (by omega))
  · subst h
    rcases cb_v c hc with ⟨h1, h2⟩ | ⟨h1, h2⟩
    · exact h2
    · omega
theorem nI_is {c x : Nat} (hc : c < 2 ^ 31) (hx : x < 2 ^ 31) : (nI c = nI x) = (c = x) := propext (nI_eq hc hx)
theorem cb_inj {c c' : Nat} (hc : c < 256) (hc' : c' < 256) : (cb c = cb c') = (c = c') := by
  refine propext ⟨fun h => ?_, fun h => by rw [h]⟩
  have key : ∀ c, c < 256 → (cb c).toUInt32.toNat % 256 = c := by decide +kernel
  rw [← key c hc, ← key c' hc', h]
theorem isL_ne {c : Nat} (h : isL c = true) : 97 ≤ c ∧ c ≤ 122 := by
  unfold isL at h
  rw [Bool.and_eq_true] at h
  exact ⟨Nat.le_of_ble_eq_true h.1, Nat.le_of_ble_eq_true h.2⟩
theorem isD_ne {c : Nat} (h : isD c = true) : 48 ≤ c ∧ c ≤ 57 := by
  unfold isD at h
  rw [Bool.and_eq_true] at h
  exact ⟨Nat.le_of_ble_eq_true h.1, Nat.le_of_ble_eq_true h.2⟩
theorem bI0 {x : Bool} : (bI x = 0) = (x = false) := by cases x <;> simp [bI]
/-- the class's text -/
def TC (f : MI) (N : Nat) (b : Nat → Nat) : Prop := (N ≤ 4000) ∧ (f 20 0 4 = nI N) ∧ (∀ i, i < N → f 40 0 i = cb (b i)) ∧ (∀ i, b i < 256)
theorem TC.nl {f : MI} {N : Nat} {b : Nat → Nat} (x : TC f N b) : N ≤ 4000 := x.1
theorem TC.fl {f : MI} {N : Nat} {b : Nat → Nat} (x : TC f N b) : f 20 0 4 = nI N := x.2.1
theorem TC.fb {f : MI} {N : Nat} {b : Nat → Nat} (x : TC f N b) : ∀ i, i < N → f 40 0 i = cb (b i) := x.2.2.1
theorem TC.bb {f : MI} {N : Nat} {b : Nat → Nat} (x : TC f N b) : ∀ i, b i < 256 := x.2.2.2
def skj (b : Nat → Nat) : Nat → Nat → Nat
  | 0, p => p
  | j + 1, p => if b p = 32 ∨ b p = 10 then skj b j (p + 1) else p
def wj (b : Nat → Nat) : Nat → Nat → Nat
  | 0, p => p
  | j + 1, p => bif isD (b p) || isL (b p) then wj b j (p + 1) else p
def dj (b : Nat → Nat) : Nat → Nat → Nat
  | 0, p => p
  | j + 1, p => bif isD (b p) then dj b j (p + 1) else p
def skip (b : Nat → Nat) (N p : Nat) : Nat := skj b (N - p) p
def jn (c : Nat) : Prop := c = 60 ∨ c = 62 ∨ c = 61 ∨ c = 33
noncomputable def tend (b : Nat → Nat) (N p : Nat) : Nat := bif isL (b p) then wj b (N - (p + 1)) (p + 1) else bif isD (b p) then dj b (N - (p + 1)) (p + 1) else @ite Nat (jn (b p) ∧ bt b N (p + 1) = 61) (Classical.propDecidable _) (p + 2) (p + 1)
theorem skj_b {b : Nat → Nat} : ∀ (j p : Nat), p ≤ skj b j p ∧ skj b j p ≤ p + j
  | 0, p => ⟨Nat.le_refl p, Nat.le_refl p⟩
  | j + 1, p => by
    unfold skj
    have := skj_b (b := b) j (p + 1)
    split <;> omega
theorem wj_b {b : Nat → Nat} : ∀ (j p : Nat), p ≤ wj b j p ∧ wj b j p ≤ p + j
  | 0, p => ⟨Nat.le_refl p, Nat.le_refl p⟩
  | j + 1, p => by
    unfold wj
    have := wj_b (b := b) j (p + 1)
    cases isD (b p) || isL (b p) <;> simp only [cond_true, cond_false] <;> omega
theorem dj_b {b : Nat → Nat} : ∀ (j p : Nat), p ≤ dj b j p ∧ dj b j p ≤ p + j
  | 0, p => ⟨Nat.le_refl p, Nat.le_refl p⟩
  | j + 1, p => by
    unfold dj
    have := dj_b (b := b) j (p + 1)
    cases isD (b p) <;> simp only [cond_true, cond_false] <;> omega
theorem skip_b {b : Nat → Nat} {N p : Nat} (h : p ≤ N) : p ≤ skip b N p ∧ skip b N p ≤ N := by
  have := skj_b (b := b) (N - p) p
  unfold skip
  omega
theorem tend_b {b : Nat → Nat} {N p : Nat} (h : p < N) : p < tend b N p ∧ tend b N p ≤ N := by
  unfold tend
  have h1 := wj_b (b := b) (N - (p + 1)) (p + 1)
  have h2 := dj_b (b := b) (N - (p + 1)) (p + 1)
  cases isL (b p) with
  | true => simp only [cond_true]; omega
  | false =>
    cases isD (b p) with
    | true => simp only [cond_true, cond_false]; omega
    | false =>
      simp only [cond_false]
      by_cases z : jn (b p) ∧ bt b N (p + 1) = 61
      · rw [if_pos z]
        have h3 := z.2
        unfold bt at h3
        by_cases y : p + 1 < N
        · omega
        · rw [if_neg y] at h3
          cases h3
      · rw [if_neg z]
        omega
section Lex
variable {L : Nat} {xs : Nat → Int32} {d : Nat} {N : Nat} {b : Nat → Nat} {h : MH}
theorem bt_lt (T : TC h.1 N b) (i : Nat) : bt b N i < 256 := by
  unfold bt
  split
  · exact T.bb i
  · decide
theorem c_bt (T : TC h.1 N b) {i : Nat} (hi : i < 2 ^ 31) : EL (mP L xs) (d + 1) 15 [rv 20 (some 0), iv (nI i)] h = some (.inl (some (iv (cb (bt b N i)))), h) := by
  have hN := T.nl
  rw [E_Text_byteAt, if_neg (nI_pos hi), T.fl]
  unfold bt
  by_cases z : i < N
  · rw [if_pos (nI_lt z (by omega)), if_pos (show nI i < 4000 from nI_lt (b := 4000) (by omega) (by decide)), if_neg (nin (show i < 4000 by omega) (by decide)), nI_clamp hi, T.fb i z, if_pos z]
  · rw [if_neg (nI_nlt (by omega) hi), if_neg z]
    rfl
theorem c_isL {c : Nat} (hc : c < 256) (h : MH) : EL (mP L xs) (d + 1) 17 [iv (cb c)] h = some (.inl (some (iv (bI (isL c)))), h) := by
  rw [E_Text_isLetter, ite_val, ite_val, cb_L c hc]
theorem c_isD {c : Nat} (hc : c < 256) (h : MH) : EL (mP L xs) (d + 1) 18 [iv (cb c)] h = some (.inl (some (iv (bI (isD c)))), h) := by
  rw [E_Text_isDigit, ite_val, ite_val, cb_D c hc]
theorem bt_in {i : Nat} (h : i < N) : bt b N i = b i := if_pos h
theorem bb_loop (T : TC h.1 N b) (v1 : Int32) : ∀ (j p : Nat), p + j = N → RL (mP L xs) (d + 1) 16 2 [some (rv 20 (some 0)), some (iv v1), some (iv (nI p))] [] h = some (.inl (some (iv (nI (skj b j p)))), h)
  | 0, p, hp => by
    have hN := T.nl
    have e : p = N := by omega
    subst e
    rw [K_Text_behindBlanks_2, T.fl, if_neg (nI_nlt (Nat.le_refl p) (by omega))]
    rfl
  | j + 1, p, hp => by
    have hN := T.nl
    have hc := T.bb p
    have e32 : (cb (b p) = 32) = (b p = 32) := cb_is hc (x := 32) (by decide)
    have e10 : (cb (b p) = 10) = (b p = 10) := cb_is hc (x := 10) (by decide)
    rw [K_Text_behindBlanks_2, T.fl, if_pos (nI_lt (show p < N by omega) (by omega)), c_bt T (by omega), bt_in (by omega)]
    simp only [clI, c_bt T (show p < 2 ^ 31 by omega), bt_in (show p < N by omega), e32, e10, nI_1]
    unfold skj
    by_cases z1 : b p = 32
    · rw [if_pos z1, if_pos (Or.inl z1)]
      exact bb_loop T v1 j (p + 1) (by omega)
    · rw [if_neg z1]
      by_cases z2 : b p = 10
      · rw [if_pos z2, if_pos (Or.inr z2)]
        exact bb_loop T v1 j (p + 1) (by omega)
      · rw [if_neg z2, if_neg (by omega)]
theorem c_blk (T : TC h.1 N b) {p : Nat} (hp : p ≤ N) : EL (mP L xs) (d + 2) 16 [rv 20 (some 0), iv (nI p)] h = some (.inl (some (iv (nI (skip b N p)))), h) := by
  rw [E_Text_behindBlanks]
  exact bb_loop T _ (N - p) p (by omega)
theorem tk_w (T : TC h.1 N b) (v1 v2 : Int32) {z5 : Option MV} : ∀ (j p : Nat), p + j = N → RL (mP L xs) (d + 1) 19 27 [some (rv 20 (some 0)), some (iv v1), some (iv v2), some (iv 1), some (iv (nI p)), z5] [] h = some (.inl (some (iv (nI (wj b j p)))), h)
  | 0, p, hp => by
    have hN := T.nl
    have e : p = N := by omega
    subst e
    rw [K_Text_behindToken_27, T.fl, if_neg (nI_nlt (Nat.le_refl p) (by omega))]
    rfl
  | j + 1, p, hp => by
    have hN := T.nl
    have hc := T.bb p
    rw [K_Text_behindToken_27, T.fl, if_pos (nI_lt (show p < N by omega) (by omega))]
    simp only [c_bt T (show p < 2 ^ 31 by omega), bt_in (show p < N by omega), clI, c_isD hc, c_isL hc, nI_1, if_neg (show ¬ (1 : Int32) = 0 by decide)]
    have ih := tk_w T v1 v2 (z5 := z5) j (p + 1) (by omega)
    unfold wj
    cases h1 : isD (b p) with
    | true => simp (decide := true) only [bI, cond_true, if_false, Bool.true_or]; exact ih
    | false =>
      cases h2 : isL (b p) with
      | true => simp (decide := true) only [bI, cond_true, cond_false, if_true, if_false, Bool.or_true]; exact ih
      | false => simp (decide := true) only [bI, cond_false, if_true, Bool.or_false]
theorem tk_d (T : TC h.1 N b) (v1 v2 : Int32) {z5 : Option MV} : ∀ (j p : Nat), p + j = N → RL (mP L xs) (d + 1) 19 27 [some (rv 20 (some 0)), some (iv v1), some (iv v2), some (iv 0), some (iv (nI p)), z5] [] h = some (.inl (some (iv (nI (dj b j p)))), h)
  | 0, p, hp => by
    have hN := T.nl
    have e : p = N := by omega
    subst e
    rw [K_Text_behindToken_27, T.fl, if_neg (nI_nlt (Nat.le_refl p) (by omega))]
    rfl
  | j + 1, p, hp => by
    have hN := T.nl
    have hc := T.bb p
    rw [K_Text_behindToken_27, T.fl, if_pos (nI_lt (show p < N by omega) (by omega))]
    simp only [c_bt T (show p < 2 ^ 31 by omega), bt_in (show p < N by omega), clI, c_isD hc, nI_1, if_true]
    have ih := tk_d T v1 v2 (z5 := z5) j (p + 1) (by omega)
    unfold dj
    cases h1 : isD (b p) with
    | true => simp (decide := true) only [bI, cond_true, if_false]; exact ih
    | false => simp (decide := true) only [bI, cond_false, if_true]
theorem c_tok (T : TC h.1 N b) {p : Nat} (hp : p < N) : EL (mP L xs) (d + 2) 19 [rv 20 (some 0), iv (nI p)] h = some (.inl (some (iv (nI (tend b N p)))), h) := by
  have hN := T.nl
  have hc := T.bb p
  have e60 : (cb (b p) = 60) = (b p = 60) := cb_is hc (x := 60) (by decide)
  have e62 : (cb (b p) = 62) = (b p = 62) := cb_is hc (x := 62) (by decide)
  have e61 : (cb (b p) = 61) = (b p = 61) := cb_is hc (x := 61) (by decide)
  have e33 : (cb (b p) = 33) = (b p = 33) := cb_is hc (x := 33) (by decide)
  have e1 : (cb (bt b N (p + 1)) = 61) = (bt b N (p + 1) = 61) := cb_is (bt_lt T _) (x := 61) (by decide)
  rw [E_Text_behindToken]
  simp only [c_bt T (show p < 2 ^ 31 by omega), bt_in hp, clI, c_isL hc, c_isD hc, nI_1, K_Text_behindToken_97, c_bt T (show p + 1 < 2 ^ 31 by omega), ite_val, e60, e62, e61, e33, e1]
  unfold tend
  cases h1 : isL (b p) with
  | true =>
    simp (decide := true) only [bI, cond_true, if_false]
    exact tk_w T _ _ (N - (p + 1)) (p + 1) (by omega)
  | false =>
    cases h2 : isD (b p) with
    | true =>
      simp (decide := true) only [bI, cond_true, cond_false, if_true, if_false]
      exact tk_d T _ _ (N - (p + 1)) (p + 1) (by omega)
    | false =>
      simp (decide := true) only [bI, cond_false, if_true]
      by_cases z : jn (b p)
      · have hz : ∀ (v w : Int32), (if b p = 60 then v else if b p = 62 then v else if b p = 61 then v else if b p = 33 then v else w) = v := fun v w => by
          rcases z with z | z | z | z <;> simp [z]
        rw [hz]
        by_cases y : bt b N (p + 1) = 61
        · rw [if_pos y, if_pos ⟨z, y⟩]
        · rw [if_neg y, if_neg (fun w => y w.2)]
      · have z1 : ¬ b p = 60 := fun w => z (Or.inl w)
        have z2 : ¬ b p = 62 := fun w => z (Or.inr (Or.inl w))
        have z3 : ¬ b p = 61 := fun w => z (Or.inr (Or.inr (Or.inl w)))
        have z4 : ¬ b p = 33 := fun w => z (Or.inr (Or.inr (Or.inr w)))
        rw [if_neg z1, if_neg z2, if_neg z3, if_neg z4, if_neg (fun w => z w.1)]
end Lex
