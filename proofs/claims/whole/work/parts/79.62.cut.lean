/-! ===== read: the reference cuts a token ===== -/
def TU (u : MI) (N : Nat) (b : Nat → Nat) : Prop := (N ≤ 4000) ∧ (u 22 0 5 = nI N) ∧ (∀ i, i < N → u 44 0 i = nI (b i)) ∧ (∀ i, b i < 256)
theorem TU.nl {u : MI} {N : Nat} {b : Nat → Nat} (x : TU u N b) : N ≤ 4000 := x.1
theorem TU.ul {u : MI} {N : Nat} {b : Nat → Nat} (x : TU u N b) : u 22 0 5 = nI N := x.2.1
theorem TU.ub {u : MI} {N : Nat} {b : Nat → Nat} (x : TU u N b) : ∀ i, i < N → u 44 0 i = nI (b i) := x.2.2.1
theorem TU.bb {u : MI} {N : Nat} {b : Nat → Nat} (x : TU u N b) : ∀ i, b i < 256 := x.2.2.2
def Fr6 (u u2 : MI) : Prop := ∀ R o i, ¬ (R = 22 ∧ 6 ≤ i ∧ i ≤ 11) → u2 R o i = u R o i
theorem m3_tw {α : Type} {f : Nat → Nat → Nat → α} {R o i : Nat} {v w : α} : m3 (m3 f R o i v) R o i w = m3 f R o i w := by
  funext a c e
  unfold m3
  by_cases h1 : a = R <;> by_cases h2 : c = o <;> by_cases h3 : e = i <;> simp_all
theorem skj_s {b : Nat → Nat} {j p : Nat} : skj b (j + 1) p = if b p = 32 ∨ b p = 10 then skj b j (p + 1) else p := rfl
theorem wj_s {b : Nat → Nat} {j p : Nat} : wj b (j + 1) p = bif isD (b p) || isL (b p) then wj b j (p + 1) else p := rfl
section Cut
variable {L : Nat} {xs : Nat → Int32} {d : Nat} {Y : MR × ML × (Nat → Nat) × Nat × Nat} {N : Nat} {b : Nat → Nat} {u u2 : MI}
theorem Fr6.rf : Fr6 u u := fun _ _ _ _ => rfl
theorem Fr6.tr {u3 : MI} (h1 : Fr6 u u2) (h2 : Fr6 u2 u3) : Fr6 u u3 := fun R o i h => (h2 R o i h).trans (h1 R o i h)
theorem Fr6.m {i : Nat} {v : Int32} (h : Fr6 u u2) (hi : 6 ≤ i ∧ i ≤ 11) : Fr6 u (m3 u2 22 0 i v) := fun R o j z => (m3_no (by omega)).trans (h R o j z)
theorem TU.fr (T : TU u N b) (h : Fr6 u u2) : TU u2 N b := ⟨T.nl, (h 22 0 5 (by omega)).trans T.ul, fun i hi => (h 44 0 i (by omega)).trans (T.ub i hi), T.bb⟩
theorem ubt_lt (T : TU u N b) (i : Nat) : bt b N i < 256 := by
  unfold bt
  split
  · exact T.bb i
  · decide
theorem r_bt (T : TU u N b) {i : Nat} (hi : i < 2 ^ 31) : EL (mP L xs) (d + 1) 96 [rv 22 (some 0), iv (nI i)] (u, Y) = some (.inl (some (iv (nI (bt b N i)))), (u, Y)) := by
  have hN := T.nl
  rw [E_Ref_byteAt]
  simp only [T.ul]
  unfold bt
  by_cases z : i < N
  · rw [if_pos (nI_lt z (by omega)), if_neg (nin (show i < 4000 by omega) (by decide)), nI_clamp hi, T.ub i z, if_pos z]
  · rw [if_neg (nI_nlt (by omega) hi), if_neg z]
    rfl
theorem r_isL {c : Nat} (hc : c < 256) (h : MH) : EL (mP L xs) (d + 1) 95 [iv (nI c)] h = some (.inl (some (iv (bI (isL c)))), h) := by
  rw [E_Ref_isLetter, ite_val, ite_val, nI_L c hc]
theorem r_isD {c : Nat} (hc : c < 256) (h : MH) : EL (mP L xs) (d + 1) 97 [iv (nI c)] h = some (.inl (some (iv (bI (isD c)))), h) := by
  rw [E_Ref_isDigit, ite_val, ite_val, nI_D c hc]
theorem sk_loop : ∀ (j p : Nat) (u : MI), TU u N b → p + j = N → u 22 0 6 = nI p → EL (mP L xs) (d + 1) 101 [rv 22 (some 0)] (u, Y) = RL (mP L xs) d 101 52 [some (rv 22 (some 0)), none] [] (m3 u 22 0 6 (nI (skj b j p)), Y)
  | 0, p, u, T, hp, h6 => by
    have hN := T.nl
    have e : p = N := by omega
    subst e
    rw [E_Ref_cut]
    simp only [h6, T.ul, if_neg (nI_nlt (Nat.le_refl p) (show p < 2 ^ 31 by omega))]
    unfold skj
    rw [m3_same h6]
  | j + 1, p, u, T, hp, h6 => by
    have hN := T.nl
    have hc := T.bb p
    have e32 : (nI (b p) = 32) = (b p = 32) := nI_is (x := 32) (by omega) (by decide)
    have e10 : (nI (b p) = 10) = (b p = 10) := nI_is (x := 10) (by omega) (by decide)
    have next : RL (mP L xs) d 101 0 [some (rv 22 (some 0)), none] [] (m3 u 22 0 6 (nI (p + 1)), Y) = RL (mP L xs) d 101 52 [some (rv 22 (some 0)), none] [] (m3 u 22 0 6 (nI (skj b j (p + 1))), Y) := by
      have h1 := sk_loop j (p + 1) (m3 u 22 0 6 (nI (p + 1))) (T.fr (Fr6.rf.m (by omega))) (by omega) m3_eq
      rw [m3_tw] at h1
      rw [← h1]
      exact (EL_eq (P := mP L xs) (d := d) (m := 101) (args := [rv 22 (some 0)])).symm
    rw [E_Ref_cut]
    simp only [h6, T.ul, if_pos (nI_lt (show p < N by omega) (show N < 2 ^ 31 by omega)), if_neg (nin (show p < 4000 by omega) (show 4000 < 2 ^ 31 by decide)), nI_clamp (show p < 2 ^ 31 by omega), T.ub p (by omega), e32, e10, nI_1, next]
    rw [skj_s]
    by_cases z2 : b p = 10
    · rw [if_pos z2, if_pos (Or.inr z2)]
    · rw [if_neg z2]
      by_cases z1 : b p = 32
      · rw [if_pos z1, if_pos (Or.inl z1)]
      · rw [if_neg z1, if_neg (by omega), m3_same h6]
theorem rw_loop (p0 : Nat) : ∀ (j p : Nat) (u : MI), TU u N b → p + j = N → p0 ≤ p → u 22 0 6 = nI p → u 22 0 8 = nI p0 → EL (mP L xs) (d + 2) 98 [rv 22 (some 0)] (u, Y) = RL (mP L xs) (d + 1) 98 66 [some (rv 22 (some 0)), some (iv 0), none, none] [] (m3 (m3 u 22 0 6 (nI (wj b j p))) 22 0 7 (if 8 < wj b j p - p0 then 4 else 1), Y)
  | 0, p, u, T, hp, h0, h6, h8 => by
    have hN := T.nl
    have e : p = N := by omega
    subst e
    have hb : bt b p p = 0 := if_neg (Nat.lt_irrefl p)
    have hsz : nI p - nI p0 = nI (p - p0) := nI_sub h0
    rw [E_Ref_readWord]
    simp only [h6, r_bt T (show p < 2 ^ 31 by omega), hb, clI, r_isL (show 0 < 256 by decide), r_isD (show 0 < 256 by decide), h8, hsz]
    simp (decide := true) only [show isL 0 = false from rfl, show isD 0 = false from rfl, bI, cond_false, if_true]
    unfold wj
    rw [m3_same h6]
    by_cases z : 8 < p - p0
    · rw [if_pos z, if_pos (show 8 < nI (p - p0) from nI_lt (a := 8) z (by omega))]
    · rw [if_neg z, if_neg (show ¬ 8 < nI (p - p0) from nI_nlt (a := 8) (b := p - p0) (by omega) (by decide))]
  | j + 1, p, u, T, hp, h0, h6, h8 => by
    have hN := T.nl
    have hc := T.bb p
    have hsz : nI p - nI p0 = nI (p - p0) := nI_sub h0
    have next : RL (mP L xs) (d + 1) 98 0 [some (rv 22 (some 0)), none, none, none] [] (m3 u 22 0 6 (nI (p + 1)), Y) = RL (mP L xs) (d + 1) 98 66 [some (rv 22 (some 0)), some (iv 0), none, none] [] (m3 (m3 u 22 0 6 (nI (wj b j (p + 1)))) 22 0 7 (if 8 < wj b j (p + 1) - p0 then 4 else 1), Y) := by
      have h1 := rw_loop p0 j (p + 1) (m3 u 22 0 6 (nI (p + 1))) (T.fr (Fr6.rf.m (by omega))) (by omega) (by omega) m3_eq ((m3_i (by decide)).trans h8)
      rw [m3_tw] at h1
      rw [← h1]
      exact (EL_eq (P := mP L xs) (d := d + 1) (m := 98) (args := [rv 22 (some 0)])).symm
    rw [E_Ref_readWord]
    simp only [h6, r_bt T (show p < 2 ^ 31 by omega), bt_in (show p < N by omega), clI, r_isL hc, r_isD hc, h8, hsz, nI_1, next]
    rw [wj_s]
    cases h1 : isL (b p) with
    | true => simp (decide := true) only [bI, cond_true, if_false, Bool.or_true]
    | false =>
      cases h2 : isD (b p) with
      | true => simp (decide := true) only [bI, cond_true, cond_false, if_true, if_false, Bool.or_false]
      | false =>
        simp (decide := true) only [bI, cond_false, if_true, Bool.or_false]
        rw [m3_same h6]
        by_cases z : 8 < p - p0
        · rw [if_pos z, if_pos (show 8 < nI (p - p0) from nI_lt (a := 8) z (by omega))]
        · rw [if_neg z, if_neg (show ¬ 8 < nI (p - p0) from nI_nlt (a := 8) (b := p - p0) (by omega) (by decide))]
theorem kw_cmp (T : TU u N b) {p m k : Nat} (hk : k < 51) (hm : m = strL k) (hp : p + m ≤ N) (h6 : u 22 0 6 = nI (p + m)) (h8 : u 22 0 8 = nI p) : ∀ (q i : Nat) (is : Bool), i + q = m → ∃ fl : Bool,
    RL (mP L xs) (d + 4) 98 108 [some (rv 22 (some 0)), some (iv (nI k)), some (iv (bI is)), some (iv (nI i))] [] (u, Y) = RL (mP L xs) (d + 4) 98 108 [some (rv 22 (some 0)), some (iv (nI k)), some (iv (bI fl)), some (iv (nI m))] [] (u, Y) ∧ (fl = true ↔ is = true ∧ ∀ j, i ≤ j → j < m → b (p + j) = sB k j)
  | 0, i, is, hi => by
    have e : i = m := by omega
    rw [e]
    exact ⟨is, rfl, ⟨fun h => ⟨h, fun j h1 h2 => absurd h2 (by omega)⟩, fun h => h.1⟩⟩
  | q + 1, i, is, hi => by
    have hN := T.nl
    have hsz : nI (p + m) - nI p = nI m := by rw [nI_sub (by omega), show p + m - p = m by omega]
    have hc := T.bb (p + i)
    have s2 := (st_ok k (by omega) i (by omega)).2
    have key := K_Ref_readWord_108 (L := L) (xs := xs) (d := d + 4) (nI k) (bI is) (nI i) (u, Y)
    simp only [h6, h8, hsz, if_pos (nI_lt (show i < m by omega) (show m < 2 ^ 31 by omega)), if_neg (nin hk (show 51 < 2 ^ 31 by decide)), nI_clamp (show k < 2 ^ 31 by omega), c_char (d := d) (show k < 57 by omega) (show i < strL k by omega), clI, nI_add, if_neg (nin (show p + i < 4000 by omega) (show 4000 < 2 ^ 31 by decide)), nI_clamp (show p + i < 2 ^ 31 by omega), T.ub (p + i) (by omega), nI_1, nI_is (show sB k i < 2 ^ 31 by omega) (show b (p + i) < 2 ^ 31 by omega)] at key
    cases is with
    | false =>
      obtain ⟨fl, a1, a2⟩ := kw_cmp T hk hm hp h6 h8 q (i + 1) false (by omega)
      refine ⟨fl, ?_, ⟨fun h => absurd (a2.mp h).1 (by decide), fun h => absurd h.1 (by decide)⟩⟩
      rw [key, if_pos (show bI false = 0 from rfl)]
      exact a1
    | true =>
      rw [if_neg (show ¬ bI true = 0 by decide)] at key
      by_cases z : sB k i = b (p + i)
      · obtain ⟨fl, a1, a2⟩ := kw_cmp T hk hm hp h6 h8 q (i + 1) true (by omega)
        refine ⟨fl, ?_, ?_⟩
        · rw [key, if_pos z]
          exact a1
        · rw [a2]
          refine ⟨fun h => ⟨rfl, fun j h1 h2 => ?_⟩, fun h => ⟨rfl, fun j h1 h2 => h.2 j (by omega) h2⟩⟩
          by_cases y : j = i
          · rw [y]; exact z.symm
          · exact h.2 j (by omega) h2
      · obtain ⟨fl, a1, a2⟩ := kw_cmp T hk hm hp h6 h8 q (i + 1) false (by omega)
        refine ⟨fl, ?_, ⟨fun h => absurd (a2.mp h).1 (by decide), fun h => absurd (h.2 i (Nat.le_refl i) (by omega)).symm z⟩⟩
        rw [key, if_neg z]
        exact a1
theorem kw_loop {p m : Nat} (hp : p + m ≤ N) : ∀ (q k : Nat) (u : MI) (z2 z3 : Option MV), TU u N b → k + q = 51 → u 22 0 6 = nI (p + m) → u 22 0 8 = nI p → u 22 0 7 = 1 → ∃ w : Int32,
    RL (mP L xs) (d + 4) 98 66 [some (rv 22 (some 0)), some (iv (nI k)), z2, z3] [] (u, Y) = some (.inl none, (m3 u 22 0 11 w, Y)) ∧ ((w = u 22 0 11 ∧ ∀ k', k ≤ k' → k' < 51 → ¬ mr b p m k') ∨ ∃ k', k' < 51 ∧ w = nI k' ∧ mr b p m k')
  | 0, k, u, z2, z3, T, hk, h6, h8, h7 => by
    have e : k = 51 := by omega
    subst e
    refine ⟨u 22 0 11, ?_, Or.inl ⟨rfl, fun k' h1 h2 => absurd h2 (by omega)⟩⟩
    rw [K_Ref_readWord_66, if_neg (by decide), m3_same rfl]
  | q + 1, k, u, z2, z3, T, hk, h6, h8, h7 => by
    have hN := T.nl
    have hk51 : k < 51 := by omega
    have hsz : nI (p + m) - nI p = nI m := by rw [nI_sub (by omega), show p + m - p = m by omega]
    have hl := (st_len k (by omega)).1
    have key := K_Ref_readWord_66 (L := L) (xs := xs) (d := d + 4) (z2 := z2) (z3 := z3) (nI k) (u, Y)
    simp only [if_pos (show nI k < 51 from nI_lt (b := 51) hk51 (by decide)), h7, if_true, if_neg (nin hk51 (show 51 < 2 ^ 31 by decide)), nI_clamp (show k < 2 ^ 31 by omega), c_len (d := d + 2) (show k < 57 by omega), clI, h6, h8, hsz, nI_is (show strL k < 2 ^ 31 by omega) (show m < 2 ^ 31 by omega), nI_1] at key
    have next : ∀ (u1 : MI) (z2 z3 : Option MV), TU u1 N b → u1 22 0 6 = nI (p + m) → u1 22 0 8 = nI p → u1 22 0 7 = 1 → m3 u1 22 0 11 0 = m3 u 22 0 11 0 → ((u1 22 0 11 = u 22 0 11 ∧ ¬ mr b p m k) ∨ (u1 22 0 11 = nI k ∧ mr b p m k)) → RL (mP L xs) (d + 4) 98 66 [some (rv 22 (some 0)), some (iv (nI k)), z2, z3] [] (u, Y) = RL (mP L xs) (d + 4) 98 66 [some (rv 22 (some 0)), some (iv (nI k)), z2, z3] [] (u, Y) → ∃ w : Int32,
        RL (mP L xs) (d + 4) 98 66 [some (rv 22 (some 0)), some (iv (nI (k + 1))), z2, z3] [] (u1, Y) = some (.inl none, (m3 u 22 0 11 w, Y)) ∧ ((w = u 22 0 11 ∧ ∀ k', k ≤ k' → k' < 51 → ¬ mr b p m k') ∨ ∃ k', k' < 51 ∧ w = nI k' ∧ mr b p m k') := by
      intro u1 z2 z3 T1 g6 g8 g7 g11 g _
      obtain ⟨w, w1, w2⟩ := kw_loop hp q (k + 1) u1 z2 z3 T1 (by omega) g6 g8 g7
      refine ⟨w, ?_, ?_⟩
      · rw [w1]
        have e : m3 u1 22 0 11 w = m3 u 22 0 11 w := by
          have := congrArg (fun f => m3 f 22 0 11 w) g11
          simp only [m3_tw] at this
          exact this
        rw [e]
      · rcases w2 with ⟨w2, w3⟩ | w2
        · rcases g with ⟨g1, g2⟩ | ⟨g1, g2⟩
          · refine Or.inl ⟨w2.trans g1, fun k' h1 h2 => ?_⟩
            by_cases y : k' = k
            · rw [y]; exact g2
            · exact w3 k' (by omega) h2
          · exact Or.inr ⟨k, hk51, w2.trans g1, g2⟩
        · exact Or.inr w2
    by_cases z : strL k = m
    · rw [if_pos z] at key
      obtain ⟨fl, a1, a2⟩ := kw_cmp (L := L) (xs := xs) (d := d) (Y := Y) T hk51 z.symm hp h6 h8 m 0 true (by omega)
      have hmr : fl = true ↔ mr b p m k := ⟨fun h => ⟨z.symm, fun i hi => (a2.mp h).2 i (Nat.zero_le i) hi⟩, fun h => a2.mpr ⟨rfl, fun j _ hj => h.2 j hj⟩⟩
      have key2 := K_Ref_readWord_108 (L := L) (xs := xs) (d := d + 4) (nI k) (bI fl) (nI m) (u, Y)
      simp only [h6, h8, hsz, if_neg (nI_nlt (Nat.le_refl m) (show m < 2 ^ 31 by omega)), nI_1, m3_same (show u 22 0 11 = u 22 0 11 from rfl)] at key2
      have a1' : RL (mP L xs) (d + 4) 98 108 [some (rv 22 (some 0)), some (iv (nI k)), some (iv 1), some (iv 0)] [] (u, Y) = _ := a1
      rw [key, a1', key2]
      cases fl with
      | false =>
        rw [if_pos (show bI false = 0 from rfl)]
        exact next u _ _ T h6 h8 h7 rfl (Or.inl ⟨rfl, fun h => absurd (hmr.mpr h) (by decide)⟩) rfl
      | true =>
        rw [if_neg (show ¬ bI true = 0 by decide)]
        exact next (m3 u 22 0 11 (nI k)) _ _ (T.fr (Fr6.rf.m (by omega))) ((m3_i (by decide)).trans h6) ((m3_i (by decide)).trans h8) ((m3_i (by decide)).trans h7) m3_tw (Or.inr ⟨m3_eq, hmr.mp rfl⟩) rfl
    · rw [if_neg z] at key
      rw [key]
      exact next u _ _ T h6 h8 h7 rfl (Or.inl ⟨rfl, fun h => z h.1.symm⟩) rfl
/-- the value of so many digits -/
def nv (b : Nat → Nat) (p : Nat) : Nat → Nat
  | 0 => 0
  | m + 1 => 10 * nv b p m + b (p + m) - 48
theorem nv_lt {b : Nat → Nat} {p : Nat} : ∀ (m : Nat), (∀ i, i < m → isD (b (p + i)) = true) → nv b p m < 10 ^ m
  | 0, _ => show 0 < 1 from Nat.zero_lt_one
  | m + 1, h => by
    have h1 := nv_lt (b := b) (p := p) m (fun i hi => h i (by omega))
    have h2 := isD_ne (h m (by omega))
    show 10 * nv b p m + b (p + m) - 48 < 10 ^ (m + 1)
    rw [Nat.pow_succ]
    omega
theorem rn_loop (p0 : Nat) : ∀ (j p : Nat) (u : MI), TU u N b → p + j = N → p0 ≤ p → (∀ i, i < p - p0 → isD (b (p0 + i)) = true) → u 22 0 6 = nI p → u 22 0 8 = nI p0 → u 22 0 10 = nI (nv b p0 (min (p - p0) 4)) →
    ∃ u2, RL (mP L xs) (d + 1) 99 5 [some (rv 22 (some 0))] [] (u, Y) = some (.inl none, (u2, Y)) ∧ Fr6 u u2 ∧ u2 22 0 6 = nI (dj b j p) ∧ u2 22 0 8 = nI p0 ∧ u2 22 0 10 = nI (nv b p0 (min (dj b j p - p0) 4)) ∧ u2 22 0 7 = (if 4 < dj b j p - p0 then 4 else 2) ∧ u2 22 0 11 = u 22 0 11
  | 0, p, u, T, hp, h0, hd, h6, h8, h10 => by
    have hN := T.nl
    have e : p = N := by omega
    subst e
    have hb : bt b p p = 0 := if_neg (Nat.lt_irrefl p)
    have hsz : nI p - nI p0 = nI (p - p0) := nI_sub h0
    refine ⟨m3 u 22 0 7 (if 4 < p - p0 then 4 else 2), ?_, Fr6.rf.m (by omega), (m3_i (by decide)).trans h6, (m3_i (by decide)).trans h8, (m3_i (by decide)).trans h10, m3_eq, m3_i (by decide)⟩
    rw [K_Ref_readNumber_5]
    simp only [h6, r_bt T (show p < 2 ^ 31 by omega), hb, clI, r_isD (show 0 < 256 by decide), h8, hsz]
    simp (decide := true) only [show isD 0 = false from rfl, bI, cond_false, if_true]
    by_cases z : 4 < p - p0
    · rw [if_pos z, if_pos (show 4 < nI (p - p0) from nI_lt (a := 4) z (by omega))]
    · rw [if_neg z, if_neg (show ¬ 4 < nI (p - p0) from nI_nlt (a := 4) (b := p - p0) (by omega) (by decide))]
  | j + 1, p, u, T, hp, h0, hd, h6, h8, h10 => by
    have hN := T.nl
    have hc := T.bb p
    have hsz : nI p - nI p0 = nI (p - p0) := nI_sub h0
    have key := K_Ref_readNumber_5 (L := L) (xs := xs) (d := d + 1) (u, Y)
    simp only [h6, r_bt T (show p < 2 ^ 31 by omega), bt_in (show p < N by omega), clI, r_isD hc, h8, hsz, if_neg (nin (show p < 4000 by omega) (show 4000 < 2 ^ 31 by decide)), nI_clamp (show p < 2 ^ 31 by omega), T.ub p (by omega), h10] at key
    cases h1 : isD (b p) with
    | false =>
      rw [h1] at key
      simp (decide := true) only [bI, cond_false, if_true] at key
      have ed : dj b (j + 1) p = p := by
        unfold dj
        rw [h1]
        rfl
      rw [ed]
      refine ⟨m3 u 22 0 7 (if 4 < p - p0 then 4 else 2), ?_, Fr6.rf.m (by omega), (m3_i (by decide)).trans h6, (m3_i (by decide)).trans h8, (m3_i (by decide)).trans h10, m3_eq, m3_i (by decide)⟩
      rw [key]
      by_cases z : 4 < p - p0
      · rw [if_pos z, if_pos (show 4 < nI (p - p0) from nI_lt (a := 4) z (by omega))]
      · rw [if_neg z, if_neg (show ¬ 4 < nI (p - p0) from nI_nlt (a := 4) (b := p - p0) (by omega) (by decide))]
    | true =>
      rw [h1] at key
      simp (decide := true) only [bI, cond_true, if_false] at key
      have ed : dj b (j + 1) p = dj b j (p + 1) := by
        show (bif isD (b p) then dj b j (p + 1) else p) = _
        rw [h1]
        rfl
      rw [ed]
      have hd2 : ∀ i, i < p + 1 - p0 → isD (b (p0 + i)) = true := fun i hi => by
        by_cases y : i = p - p0
        · rw [y, show p0 + (p - p0) = p by omega]; exact h1
        · exact hd i (by omega)
      have hnv : nv b p0 (min (p + 1 - p0) 4) < 10 ^ 4 := by
        have h2 := nv_lt (b := b) (p := p0) (min (p + 1 - p0) 4) (fun i hi => hd2 i (by omega))
        exact Nat.lt_of_lt_of_le h2 (Nat.pow_le_pow_right (by decide) (by omega))
      have fin : ∀ (u1 : MI) (w : Int32), RL (mP L xs) (d + 1) 99 5 [some (rv 22 (some 0))] [] (u, Y) = RL (mP L xs) (d + 1) 99 5 [some (rv 22 (some 0))] [] (u1, Y) → u1 = m3 (m3 u 22 0 10 w) 22 0 6 (nI (p + 1)) → w = nI (nv b p0 (min (p + 1 - p0) 4)) →
          ∃ u2, RL (mP L xs) (d + 1) 99 5 [some (rv 22 (some 0))] [] (u, Y) = some (.inl none, (u2, Y)) ∧ Fr6 u u2 ∧ u2 22 0 6 = nI (dj b j (p + 1)) ∧ u2 22 0 8 = nI p0 ∧ u2 22 0 10 = nI (nv b p0 (min (dj b j (p + 1) - p0) 4)) ∧ u2 22 0 7 = (if 4 < dj b j (p + 1) - p0 then 4 else 2) ∧ u2 22 0 11 = u 22 0 11 := by
        intro u1 w hk hu hw
        have hF : Fr6 u u1 := by rw [hu]; exact (Fr6.rf.m (by omega)).m (by omega)
        have g6 : u1 22 0 6 = nI (p + 1) := by rw [hu, m3_eq]
        have g8 : u1 22 0 8 = nI p0 := by rw [hu, m3_i (by decide), m3_i (by decide)]; exact h8
        have g10 : u1 22 0 10 = nI (nv b p0 (min (p + 1 - p0) 4)) := by rw [hu, m3_i (by decide), m3_eq, hw]
        have g11 : u1 22 0 11 = u 22 0 11 := by rw [hu, m3_i (by decide), m3_i (by decide)]
        obtain ⟨u2, c1, c2, c3, c4, c5, c6, c7⟩ := rn_loop p0 j (p + 1) u1 (T.fr hF) (by omega) (by omega) hd2 g6 g8 g10
        exact ⟨u2, hk.trans c1, hF.tr c2, c3, c4, c5, c6, c7.trans g11⟩
      have hd9 := isD_ne h1
      by_cases z : p - p0 < 4
      · rw [if_pos (show nI (p - p0) < 4 from nI_lt (b := 4) z (by decide))] at key
        have e1 : min (p + 1 - p0) 4 = (p - p0) + 1 := by omega
        have e2 : min (p - p0) 4 = p - p0 := by omega
        rw [e2] at key
        have hw : (10 : Int32) * nI (nv b p0 (p - p0)) + nI (b p) - 48 = nI (nv b p0 (min (p + 1 - p0) 4)) := by
          rw [e1]
          show _ = nI (10 * nv b p0 (p - p0) + b (p0 + (p - p0)) - 48)
          rw [show p0 + (p - p0) = p by omega, show (10 : Int32) * nI (nv b p0 (p - p0)) = nI (10 * nv b p0 (p - p0)) from nI_mul 10 _, nI_add]
          exact nI_sub (a := 10 * nv b p0 (p - p0) + b p) (b := 48) (by omega)
        refine fin _ _ key ?_ hw
        rw [show ∀ w : Int32, (m3 u 22 0 10 w) 22 0 6 = nI p from fun w => (m3_i (by decide)).trans h6, nI_1]
      · rw [if_neg (show ¬ nI (p - p0) < 4 from nI_nlt (a := p - p0) (b := 4) (by omega) (by omega))] at key
        refine fin _ _ key ?_ (by rw [show min (p + 1 - p0) 4 = min (p - p0) 4 by omega])
        rw [show ∀ w : Int32, (m3 u 22 0 10 w) 22 0 6 = nI p from fun w => (m3_i (by decide)).trans h6, nI_1]
/-- what the reference says of the token from p to e -/
def TRT (b : Nat → Nat) (p e : Nat) (tk w nm : Int32) : Prop :=
  (isL (b p) = true ∧ 8 < e - p ∧ tk = 4) ∨ (isL (b p) = true ∧ e - p ≤ 8 ∧ tk = 1 ∧ ((∃ k, k < 51 ∧ w = nI k ∧ mr b p (e - p) k) ∨ (w = -1 ∧ ∀ k, k < 51 → ¬ mr b p (e - p) k))) ∨
  (isL (b p) = false ∧ isD (b p) = true ∧ 4 < e - p ∧ tk = 4) ∨ (isL (b p) = false ∧ isD (b p) = true ∧ e - p ≤ 4 ∧ tk = 2 ∧ nm = nI (nv b p (e - p))) ∨
  (isL (b p) = false ∧ isD (b p) = false ∧ e = p + 2 ∧ jn (b p) ∧ tk = 3 ∧ nm = nI (256 + b p)) ∨ (isL (b p) = false ∧ isD (b p) = false ∧ e = p + 1 ∧ sgn (b p) ∧ tk = 3 ∧ nm = nI (b p)) ∨ (isL (b p) = false ∧ isD (b p) = false ∧ e = p + 1 ∧ ¬ sgn (b p) ∧ tk = 4)
/-- the token that begins at s: to e -/
def CUT (b : Nat → Nat) (N s : Nat) (u : MI) : Prop := u 22 0 8 = nI s ∧ ((s = N ∧ u 22 0 9 = nI N ∧ u 22 0 6 = nI N ∧ u 22 0 7 = 0 ∧ u 22 0 11 = -1) ∨ (s < N ∧ u 22 0 9 = nI (tend b N s) ∧ u 22 0 6 = nI (tend b N s) ∧ TRT b s (tend b N s) (u 22 0 7) (u 22 0 11) (u 22 0 10)))
theorem r_sign (T : TU u N b) {p : Nat} (hp : p < N) (h6 : u 22 0 6 = nI p) (h8 : u 22 0 8 = nI p) (h1 : isL (b p) = false) (h2 : isD (b p) = false) : ∃ u2, EL (mP L xs) (d + 2) 100 [rv 22 (some 0), iv (nI (b p))] (u, Y) = some (.inl none, (u2, Y)) ∧ Fr6 u u2 ∧ u2 22 0 6 = nI (tend b N p) ∧ u2 22 0 8 = nI p ∧ u2 22 0 11 = u 22 0 11 ∧ TRT b p (tend b N p) (u2 22 0 7) (u2 22 0 11) (u2 22 0 10) := by
  have hN := T.nl
  have hc := T.bb p
  have e60 : (nI (b p) = 60) = (b p = 60) := nI_is (x := 60) (by omega) (by decide)
  have e62 : (nI (b p) = 62) = (b p = 62) := nI_is (x := 62) (by omega) (by decide)
  have e61 : (nI (b p) = 61) = (b p = 61) := nI_is (x := 61) (by omega) (by decide)
  have e33 : (nI (b p) = 33) = (b p = 33) := nI_is (x := 33) (by omega) (by decide)
  have x1 : (nI (b p) = 123) = (b p = 123) := nI_is (x := 123) (by omega) (by decide)
  have x2 : (nI (b p) = 125) = (b p = 125) := nI_is (x := 125) (by omega) (by decide)
  have x3 : (nI (b p) = 40) = (b p = 40) := nI_is (x := 40) (by omega) (by decide)
  have x4 : (nI (b p) = 41) = (b p = 41) := nI_is (x := 41) (by omega) (by decide)
  have x5 : (nI (b p) = 59) = (b p = 59) := nI_is (x := 59) (by omega) (by decide)
  have x6 : (nI (b p) = 46) = (b p = 46) := nI_is (x := 46) (by omega) (by decide)
  have x7 : (nI (b p) = 43) = (b p = 43) := nI_is (x := 43) (by omega) (by decide)
  have x8 : (nI (b p) = 45) = (b p = 45) := nI_is (x := 45) (by omega) (by decide)
  have x9 : (nI (b p) = 42) = (b p = 42) := nI_is (x := 42) (by omega) (by decide)
  have x10 : (nI (b p) = 47) = (b p = 47) := nI_is (x := 47) (by omega) (by decide)
  have k67 : ∀ (v2 : Int32) (U : MI) (z3 : Option MV), RL (mP L xs) (d + 1) 100 67 [some (rv 22 (some 0)), some (iv (nI (b p))), some (iv v2), z3] [] (U, Y) = @ite MX (sgn (b p)) (Classical.propDecidable _) (RL (mP L xs) (d + 1) 100 150 [some (rv 22 (some 0)), some (iv (nI (b p))), some (iv v2), z3] [iv 1] (U, Y)) (RL (mP L xs) (d + 1) 100 150 [some (rv 22 (some 0)), some (iv (nI (b p))), some (iv v2), z3] [iv 0] (U, Y)) := fun v2 U z3 => by
    rw [K_Ref_readSign_67]
    simp only [e60, e62, e61, x1, x2, x3, x4, x5, x6, x7, x8, x9, x10]
    by_cases z : sgn (b p)
    · rw [if_pos z]
      rcases z with z | z | z | z | z | z | z | z | z | z | z | z | z <;> simp [z]
    · rw [if_neg z]
      unfold sgn at z
      rw [if_neg (by omega), if_neg (by omega), if_neg (by omega), if_neg (by omega), if_neg (by omega), if_neg (by omega), if_neg (by omega), if_neg (by omega), if_neg (by omega), if_neg (by omega), if_neg (by omega), if_neg (by omega), if_neg (by omega)]
  have fin : ∀ (U : MI) (v2 tk nm : Int32), Fr6 u U → U 22 0 6 = nI (tend b N p) → U 22 0 8 = nI p → U 22 0 11 = u 22 0 11 → EL (mP L xs) (d + 2) 100 [rv 22 (some 0), iv (nI (b p))] (u, Y) = some (.inl none, (m3 (m3 U 22 0 7 tk) 22 0 10 nm, Y)) → TRT b p (tend b N p) tk (u 22 0 11) nm →
      ∃ u2, EL (mP L xs) (d + 2) 100 [rv 22 (some 0), iv (nI (b p))] (u, Y) = some (.inl none, (u2, Y)) ∧ Fr6 u u2 ∧ u2 22 0 6 = nI (tend b N p) ∧ u2 22 0 8 = nI p ∧ u2 22 0 11 = u 22 0 11 ∧ TRT b p (tend b N p) (u2 22 0 7) (u2 22 0 11) (u2 22 0 10) := by
    intro U v2 tk nm hF g6 g8 g11 hE hT
    refine ⟨_, hE, (hF.m (by omega)).m (by omega), ?_, ?_, ?_, ?_⟩
    · rw [m3_i (by decide), m3_i (by decide)]; exact g6
    · rw [m3_i (by decide), m3_i (by decide)]; exact g8
    · rw [m3_i (by decide), m3_i (by decide)]; exact g11
    · rw [m3_eq, m3_i (by decide), m3_eq, m3_i (by decide), m3_i (by decide), g11]
      exact hT
  have F1 : Fr6 u (m3 u 22 0 6 (nI (p + 1))) := Fr6.rf.m (by omega)
  have hT1 := T.fr F1
  have e1 : (nI (bt b N (p + 1)) = 61) = (bt b N (p + 1) = 61) := nI_is (x := 61) (by have := ubt_lt T (p + 1); omega) (by decide)
  have key := E_Ref_readSign (L := L) (xs := xs) (d := d + 1) (nI (b p)) (u, Y)
  simp only [h6, nI_1, e60, e62, e61, e33] at key
  by_cases z : jn (b p)
  · have hz : ∀ (v w : MX), (if b p = 60 then v else if b p = 62 then v else if b p = 61 then v else if b p = 33 then v else w) = v := fun v w => by
      rcases z with z | z | z | z <;> simp [z]
    rw [hz, K_Ref_readSign_34] at key
    simp only [show (m3 u 22 0 6 (nI (p + 1))) 22 0 6 = nI (p + 1) from m3_eq, r_bt hT1 (show p + 1 < 2 ^ 31 by omega), clI, e1, nI_1, m3_tw] at key
    by_cases y : bt b N (p + 1) = 61
    · have ht : tend b N p = p + 2 := by
        unfold tend
        rw [h1, h2, cond_false, cond_false, if_pos ⟨z, y⟩]
      rw [if_pos y, k67] at key
      have k150 : ∀ w0 : Int32, RL (mP L xs) (d + 1) 100 150 [some (rv 22 (some 0)), some (iv (nI (b p))), some (iv 1), none] [iv w0] (m3 u 22 0 6 (nI (p + 1 + 1)), Y) = some (.inl none, (m3 (m3 (m3 u 22 0 6 (nI (p + 1 + 1))) 22 0 7 3) 22 0 10 (nI (256 + b p)), Y)) := fun w0 => by
        rw [K_Ref_readSign_150]
        simp (decide := true) only [if_false, show (256 : Int32) + nI (b p) = nI (256 + b p) from nI_add 256 (b p), ite_self]
      rw [k150, k150, ite_self] at key
      refine fin _ 1 _ _ (Fr6.rf.m (by omega)) (by rw [m3_eq, ht]) ((m3_i (by decide)).trans h8) (m3_i (by decide)) key ?_
      rw [ht]
      exact Or.inr (Or.inr (Or.inr (Or.inr (Or.inl ⟨h1, h2, rfl, z, rfl, rfl⟩))))
    · have ht : tend b N p = p + 1 := by
        unfold tend
        rw [h1, h2, cond_false, cond_false, if_neg (fun w => y w.2)]
      rw [if_neg y, k67] at key
      by_cases x : sgn (b p)
      · rw [if_pos x, K_Ref_readSign_150] at key
        simp (decide := true) only [if_false, if_true] at key
        refine fin _ 0 _ _ F1 (by rw [m3_eq, ht]) ((m3_i (by decide)).trans h8) (m3_i (by decide)) key ?_
        rw [ht]
        exact Or.inr (Or.inr (Or.inr (Or.inr (Or.inr (Or.inl ⟨h1, h2, rfl, x, rfl, rfl⟩)))))
      · rw [if_neg x, K_Ref_readSign_150] at key
        simp (decide := true) only [if_true] at key
        refine fin _ 0 _ _ F1 (by rw [m3_eq, ht]) ((m3_i (by decide)).trans h8) (m3_i (by decide)) key ?_
        rw [ht]
        exact Or.inr (Or.inr (Or.inr (Or.inr (Or.inr (Or.inr ⟨h1, h2, rfl, x, rfl⟩)))))
  · have z1 : ¬ b p = 60 := fun w => z (Or.inl w)
    have z2 : ¬ b p = 62 := fun w => z (Or.inr (Or.inl w))
    have z3 : ¬ b p = 61 := fun w => z (Or.inr (Or.inr (Or.inl w)))
    have z4 : ¬ b p = 33 := fun w => z (Or.inr (Or.inr (Or.inr w)))
    have ht : tend b N p = p + 1 := by
      unfold tend
      rw [h1, h2, cond_false, cond_false, if_neg (fun w => z w.1)]
    rw [if_neg z1, if_neg z2, if_neg z3, if_neg z4, k67] at key
    by_cases x : sgn (b p)
    · rw [if_pos x, K_Ref_readSign_150] at key
      simp (decide := true) only [if_false, if_true] at key
      refine fin _ 0 _ _ F1 (by rw [m3_eq, ht]) ((m3_i (by decide)).trans h8) (m3_i (by decide)) key ?_
      rw [ht]
      exact Or.inr (Or.inr (Or.inr (Or.inr (Or.inr (Or.inl ⟨h1, h2, rfl, x, rfl, rfl⟩)))))
    · rw [if_neg x, K_Ref_readSign_150] at key
      simp (decide := true) only [if_true] at key
      refine fin _ 0 _ _ F1 (by rw [m3_eq, ht]) ((m3_i (by decide)).trans h8) (m3_i (by decide)) key ?_
      rw [ht]
      exact Or.inr (Or.inr (Or.inr (Or.inr (Or.inr (Or.inr ⟨h1, h2, rfl, x, rfl⟩)))))
theorem r_cut (T : TU u N b) {p : Nat} (hp : p ≤ N) (h6 : u 22 0 6 = nI p) : ∃ u2, EL (mP L xs) (d + 7) 101 [rv 22 (some 0)] (u, Y) = some (.inl none, (u2, Y)) ∧ Fr6 u u2 ∧ CUT b N (skip b N p) u2 := by
  have hN := T.nl
  have key := sk_loop (L := L) (xs := xs) (d := d + 6) (Y := Y) (N - p) p u T (by omega) h6
  obtain ⟨b1, b2⟩ := skip_b (b := b) hp
  generalize hs : skip b N p = s at b1 b2 ⊢
  have hs' : skj b (N - p) p = s := hs
  rw [hs', K_Ref_cut_52] at key
  generalize hV : m3 (m3 (m3 u 22 0 6 (nI s)) 22 0 8 (nI s)) 22 0 11 (-1) = V
  have V6 : V 22 0 6 = nI s := by rw [← hV, m3_i (by decide), m3_i (by decide), m3_eq]
  have V8 : V 22 0 8 = nI s := by rw [← hV, m3_i (by decide), m3_eq]
  have V11 : V 22 0 11 = -1 := by rw [← hV, m3_eq]
  have FV : Fr6 u V := by rw [← hV]; exact ((Fr6.rf.m (by omega)).m (by omega)).m (by omega)
  have TV := T.fr FV
  simp only [show (m3 u 22 0 6 (nI s)) 22 0 6 = nI s from m3_eq, hV, V6, TV.ul] at key
  by_cases z : s = N
  · rw [if_pos (by rw [z])] at key
    refine ⟨_, key, (FV.m (by omega)).m (by omega), ?_, Or.inl ⟨z, ?_, ?_, ?_, ?_⟩⟩
    · rw [m3_i (by decide), m3_i (by decide)]; exact V8
    · rw [m3_eq, m3_i (by decide), V6, z]
    · rw [m3_i (by decide), m3_i (by decide), V6, z]
    · rw [m3_i (by decide), m3_eq]
    · rw [m3_i (by decide), m3_i (by decide)]; exact V11
  · have hsN : s < N := by omega
    have hc := T.bb s
    rw [if_neg (fun e => z ((nI_eq (by omega) (by omega)).mp e))] at key
    simp only [if_neg (nin (show s < 4000 by omega) (show 4000 < 2 ^ 31 by decide)), nI_clamp (show s < 2 ^ 31 by omega), TV.ub s hsN, r_isL hc, r_isD hc, clI] at key
    have fin : ∀ U : MI, Fr6 u U → U 22 0 6 = nI (tend b N s) → U 22 0 8 = nI s → TRT b s (tend b N s) (U 22 0 7) (U 22 0 11) (U 22 0 10) → EL (mP L xs) (d + 7) 101 [rv 22 (some 0)] (u, Y) = some (.inl none, (m3 U 22 0 9 (U 22 0 6), Y)) → ∃ u2, EL (mP L xs) (d + 7) 101 [rv 22 (some 0)] (u, Y) = some (.inl none, (u2, Y)) ∧ Fr6 u u2 ∧ CUT b N s u2 := by
      intro U hF g6 g8 hT hE
      refine ⟨_, hE, hF.m (by omega), (m3_i (by decide)).trans g8, Or.inr ⟨hsN, m3_eq.trans g6, (m3_i (by decide)).trans g6, ?_⟩⟩
      rw [m3_i (by decide), m3_i (by decide), m3_i (by decide)]
      exact hT
    cases h1 : isL (b s) with
    | true =>
      rw [h1] at key
      simp (decide := true) only [bI, cond_true, if_false] at key
      have hw : tend b N s = wj b (N - s) s := by
        unfold tend
        rw [h1, cond_true, show N - s = N - (s + 1) + 1 by omega]
        show _ = (bif isD (b s) || isL (b s) then wj b (N - (s + 1)) (s + 1) else s)
        rw [h1, Bool.or_true, cond_true]
      have hb9 := tend_b (b := b) hsN
      have k2 := rw_loop (L := L) (xs := xs) (d := d + 4) (Y := Y) s (N - s) s V TV (by omega) (Nat.le_refl s) V6 V8
      rw [← hw] at k2
      by_cases y : 8 < tend b N s - s
      · rw [if_pos y, K_Ref_readWord_66, if_pos (by decide)] at k2
        simp only [show (m3 (m3 V 22 0 6 (nI (tend b N s))) 22 0 7 4) 22 0 7 = 4 from m3_eq, if_neg (show ¬ (4 : Int32) = 1 by decide)] at k2
        have k2' : EL (mP L xs) (d + 6) 98 [rv 22 (some 0)] (V, Y) = some (.inl none, (m3 (m3 V 22 0 6 (nI (tend b N s))) 22 0 7 4, Y)) := k2
        rw [k2', clV] at key
        refine fin _ ((FV.m (by omega)).m (by omega)) ((m3_i (by decide)).trans m3_eq) ((m3_i (by decide)).trans ((m3_i (by decide)).trans V8)) ?_ key
        rw [m3_eq]
        exact Or.inl ⟨h1, y, rfl⟩
      · rw [if_neg y] at k2
        have F2 : Fr6 u (m3 (m3 V 22 0 6 (nI (tend b N s))) 22 0 7 1) := (FV.m (by omega)).m (by omega)
        have g6 : (m3 (m3 V 22 0 6 (nI (tend b N s))) 22 0 7 1) 22 0 6 = nI (s + (tend b N s - s)) := by rw [m3_i (by decide), m3_eq, show s + (tend b N s - s) = tend b N s by omega]
        have g8 : (m3 (m3 V 22 0 6 (nI (tend b N s))) 22 0 7 1) 22 0 8 = nI s := (m3_i (by decide)).trans ((m3_i (by decide)).trans V8)
        have g11 : (m3 (m3 V 22 0 6 (nI (tend b N s))) 22 0 7 1) 22 0 11 = -1 := (m3_i (by decide)).trans ((m3_i (by decide)).trans V11)
        obtain ⟨w, w1, w2⟩ := kw_loop (L := L) (xs := xs) (d := d + 1) (Y := Y) (b := b) (N := N) (p := s) (m := tend b N s - s) (by omega) 51 0 _ none none (T.fr F2) rfl g6 g8 m3_eq
        have k2' : EL (mP L xs) (d + 6) 98 [rv 22 (some 0)] (V, Y) = some (.inl none, (m3 (m3 (m3 V 22 0 6 (nI (tend b N s))) 22 0 7 1) 22 0 11 w, Y)) := k2.trans w1
        rw [k2', clV] at key
        refine fin _ (F2.m (by omega)) ?_ ((m3_i (by decide)).trans g8) ?_ key
        · rw [m3_i (by decide), g6, show s + (tend b N s - s) = tend b N s by omega]
        · rw [m3_i (by decide), m3_eq, m3_eq]
          refine Or.inr (Or.inl ⟨h1, by omega, rfl, ?_⟩)
          rcases w2 with ⟨w2, w3⟩ | w2
          · exact Or.inr ⟨w2.trans g11, fun k hk => w3 k (Nat.zero_le k) hk⟩
          · exact Or.inl w2
    | false =>
      rw [h1] at key
      simp (decide := true) only [bI, cond_false, if_true] at key
      cases h2 : isD (b s) with
      | true =>
        rw [h2] at key
        simp (decide := true) only [cond_true, if_false] at key
        have hw : tend b N s = dj b (N - s) s := by
          unfold tend
          rw [h1, cond_false, h2, cond_true, show N - s = N - (s + 1) + 1 by omega]
          show _ = (bif isD (b s) then dj b (N - (s + 1)) (s + 1) else s)
          rw [h2, cond_true]
        obtain ⟨u2, c1, c2, c3, c4, c5, c6, c7⟩ := rn_loop (L := L) (xs := xs) (d := d + 4) (Y := Y) s (N - s) s (m3 V 22 0 10 0) (TV.fr (Fr6.rf.m (by omega))) (by omega) (Nat.le_refl s) (fun i hi => absurd hi (by omega)) ((m3_i (by decide)).trans V6) ((m3_i (by decide)).trans V8) (by rw [m3_eq, Nat.sub_self, Nat.zero_min]; rfl)
        have k2' : EL (mP L xs) (d + 6) 99 [rv 22 (some 0)] (V, Y) = some (.inl none, (u2, Y)) := (E_Ref_readNumber (L := L) (xs := xs) (d := d + 5) (V, Y)).trans c1
        rw [k2', clV] at key
        rw [← hw] at c3 c5 c6
        refine fin u2 ((FV.m (by omega)).tr c2) c3 c4 ?_ key
        by_cases y : 4 < tend b N s - s
        · rw [if_pos y] at c6
          exact Or.inr (Or.inr (Or.inl ⟨h1, h2, y, c6⟩))
        · rw [if_neg y] at c6
          rw [show min (tend b N s - s) 4 = tend b N s - s by omega] at c5
          exact Or.inr (Or.inr (Or.inr (Or.inl ⟨h1, h2, by omega, c6, c5⟩)))
      | false =>
        rw [h2] at key
        simp (decide := true) only [cond_false, if_true] at key
        obtain ⟨u2, c1, c2, c3, c4, c5, c6⟩ := r_sign (L := L) (xs := xs) (d := d + 4) (Y := Y) TV hsN V6 V8 h1 h2
        have k2' : EL (mP L xs) (d + 6) 100 [rv 22 (some 0), iv (nI (b s))] (V, Y) = some (.inl none, (u2, Y)) := c1
        rw [k2', clV] at key
        exact fin u2 (FV.tr c2) c3 c4 c6 key
end Cut
