section LoopC
variable {L : Nat} {xs : Nat → Int32} {d i : Nat} {h : MH} {I I' : MH → Prop} {Q : MO → Prop}
theorem lp_0 (hL : L ≤ 3072) (hd : 1 ≤ d) (hi : i + 6 ≤ L) (hc : xs i &&& 15 = 0) (hp : prF (mP L xs) d I I' [iv (xs (i + 1)), iv (xs (i + 2)), iv (xs (i + 3)), iv (xs (i + 4)), iv (xs (i + 5))]) (hI : I h) (next : ∀ h2, I' h2 → ∃ x, RL (mP L xs) d mLaw 23 (lsI (i + 6)) [] h2 = some x ∧ Q x) : ∃ x, RL (mP L xs) d mLaw 23 (lsI i) [] h = some x ∧ Q x := by
  obtain ⟨k, h1, h2, q1, q2, hI'⟩ := hp h hI
  obtain ⟨x, hx1, hx2⟩ := next h2 hI'
  have hL4 : Nat.beq L 4000 = false := beq_ne (by omega)
  have hc0 : ¬ (Int32.ofNat L - 6 < Int32.ofNat i) := by rw [i_sub6 (by omega)]; exact nI_nlt (a := L - 6) (b := i) (by omega) (by omega)
  have t0 : (Int32.ofNat i).toNatClampNeg = i := nI_clamp (n := i) (by omega)
  have n0 : ¬ ino (Int32.ofNat i) L := i_nin (by omega) hL
  have a1 : Int32.ofNat i + 1 = Int32.ofNat (i + 1) := nI_add i 1
  have t1 : (Int32.ofNat (i + 1)).toNatClampNeg = i + 1 := nI_clamp (n := i + 1) (by omega)
  have n1 : ¬ ino (Int32.ofNat (i + 1)) L := i_nin (by omega) hL
  have a2 : Int32.ofNat i + 2 = Int32.ofNat (i + 2) := nI_add i 2
  have t2 : (Int32.ofNat (i + 2)).toNatClampNeg = i + 2 := nI_clamp (n := i + 2) (by omega)
  have n2 : ¬ ino (Int32.ofNat (i + 2)) L := i_nin (by omega) hL
  have a3 : Int32.ofNat i + 3 = Int32.ofNat (i + 3) := nI_add i 3
  have t3 : (Int32.ofNat (i + 3)).toNatClampNeg = i + 3 := nI_clamp (n := i + 3) (by omega)
  have n3 : ¬ ino (Int32.ofNat (i + 3)) L := i_nin (by omega) hL
  have a4 : Int32.ofNat i + 4 = Int32.ofNat (i + 4) := nI_add i 4
  have t4 : (Int32.ofNat (i + 4)).toNatClampNeg = i + 4 := nI_clamp (n := i + 4) (by omega)
  have n4 : ¬ ino (Int32.ofNat (i + 4)) L := i_nin (by omega) hL
  have a5 : Int32.ofNat i + 5 = Int32.ofNat (i + 5) := nI_add i 5
  have t5 : (Int32.ofNat (i + 5)).toNatClampNeg = i + 5 := nI_clamp (n := i + 5) (by omega)
  have n5 : ¬ ino (Int32.ofNat (i + 5)) L := i_nin (by omega) hL
  have a6 : Int32.ofNat i + 6 = Int32.ofNat (i + 6) := nI_add i 6
  have hth := fun h => e_thrown' (L := L) (xs := xs) hd h
  refine ⟨x, RL_cut (j := 69) (cut := [23, 909, 936]) ?_, hx2⟩
  unfold lsI
  rw [show mLaw = 269 from rfl, q_Law_law_23]
  simp only [hL4, chk_ff, if_neg hc0, t0, if_neg n0, if_pos hc, a1, t1, if_neg n1, a2, t2, if_neg n2, a3, t3, if_neg n3, a4, t4, if_neg n4, a5, t5, if_neg n5, a6, onS]
  rw [q1]
  simp only [mclI]
  rw [q2]
  simp only [if_true]
  exact RL_fgt lll_I hx1
theorem lp_1 (hL : L ≤ 3072) (hd : 1 ≤ d) (hi : i + 6 ≤ L) (hc : xs i &&& 15 = 1) (hp : prI (mP L xs) d I I' 94 130 [iv (xs (i + 1))]) (hI : I h) (next : ∀ h2, I' h2 → ∃ x, RL (mP L xs) d mLaw 23 (lsI (i + 6)) [] h2 = some x ∧ Q x) : ∃ x, RL (mP L xs) d mLaw 23 (lsI i) [] h = some x ∧ Q x := by
  obtain ⟨k, b, h1, h2, q1, q2, q3, q4, hI'⟩ := hp h hI
  simp only [List.cons_append, List.nil_append] at q1
  obtain ⟨x, hx1, hx2⟩ := next h2 hI'
  have hL4 : Nat.beq L 4000 = false := beq_ne (by omega)
  have hc0 : ¬ (Int32.ofNat L - 6 < Int32.ofNat i) := by rw [i_sub6 (by omega)]; exact nI_nlt (a := L - 6) (b := i) (by omega) (by omega)
  have t0 : (Int32.ofNat i).toNatClampNeg = i := nI_clamp (n := i) (by omega)
  have n0 : ¬ ino (Int32.ofNat i) L := i_nin (by omega) hL
  have a1 : Int32.ofNat i + 1 = Int32.ofNat (i + 1) := nI_add i 1
  have t1 : (Int32.ofNat (i + 1)).toNatClampNeg = i + 1 := nI_clamp (n := i + 1) (by omega)
  have n1 : ¬ ino (Int32.ofNat (i + 1)) L := i_nin (by omega) hL
  have a2 : Int32.ofNat i + 2 = Int32.ofNat (i + 2) := nI_add i 2
  have t2 : (Int32.ofNat (i + 2)).toNatClampNeg = i + 2 := nI_clamp (n := i + 2) (by omega)
  have n2 : ¬ ino (Int32.ofNat (i + 2)) L := i_nin (by omega) hL
  have a3 : Int32.ofNat i + 3 = Int32.ofNat (i + 3) := nI_add i 3
  have t3 : (Int32.ofNat (i + 3)).toNatClampNeg = i + 3 := nI_clamp (n := i + 3) (by omega)
  have n3 : ¬ ino (Int32.ofNat (i + 3)) L := i_nin (by omega) hL
  have a4 : Int32.ofNat i + 4 = Int32.ofNat (i + 4) := nI_add i 4
  have t4 : (Int32.ofNat (i + 4)).toNatClampNeg = i + 4 := nI_clamp (n := i + 4) (by omega)
  have n4 : ¬ ino (Int32.ofNat (i + 4)) L := i_nin (by omega) hL
  have a5 : Int32.ofNat i + 5 = Int32.ofNat (i + 5) := nI_add i 5
  have t5 : (Int32.ofNat (i + 5)).toNatClampNeg = i + 5 := nI_clamp (n := i + 5) (by omega)
  have n5 : ¬ ino (Int32.ofNat (i + 5)) L := i_nin (by omega) hL
  have a6 : Int32.ofNat i + 6 = Int32.ofNat (i + 6) := nI_add i 6
  have c0 : ¬ xs i &&& 15 = 0 := by rw [hc]; decide
  have hth := fun h => e_thrown' (L := L) (xs := xs) hd h
  refine ⟨x, RL_cut (j := 69) (cut := [23, 909, 936]) ?_, hx2⟩
  unfold lsI
  rw [show mLaw = 269 from rfl, q_Law_law_23]
  simp only [hL4, chk_ff, if_neg hc0, t0, if_neg n0, if_neg c0, if_pos hc, a1, t1, if_neg n1, a2, t2, if_neg n2, a3, t3, if_neg n3, a4, t4, if_neg n4, a5, t5, if_neg n5, a6, onS]
  rw [q1]
  simp only [mclI]
  rw [q2]
  simp only [hth, q3, if_true]
  by_cases hk : k = 0
  · rw [if_pos hk, j_cmp (q4 hk)]
    exact RL_fgt lll_I hx1
  · rw [if_neg hk]
    exact RL_fgt lll_I hx1
theorem lp_2 (hL : L ≤ 3072) (hd : 1 ≤ d) (hi : i + 6 ≤ L) (hc : xs i &&& 15 = 2) (hp : prI (mP L xs) d I I' 133 134 [iv (xs (i + 1))]) (hI : I h) (next : ∀ h2, I' h2 → ∃ x, RL (mP L xs) d mLaw 23 (lsI (i + 6)) [] h2 = some x ∧ Q x) : ∃ x, RL (mP L xs) d mLaw 23 (lsI i) [] h = some x ∧ Q x := by
  obtain ⟨k, b, h1, h2, q1, q2, q3, q4, hI'⟩ := hp h hI
  simp only [List.cons_append, List.nil_append] at q1
  obtain ⟨x, hx1, hx2⟩ := next h2 hI'
  have hL4 : Nat.beq L 4000 = false := beq_ne (by omega)
  have hc0 : ¬ (Int32.ofNat L - 6 < Int32.ofNat i) := by rw [i_sub6 (by omega)]; exact nI_nlt (a := L - 6) (b := i) (by omega) (by omega)
  have t0 : (Int32.ofNat i).toNatClampNeg = i := nI_clamp (n := i) (by omega)
  have n0 : ¬ ino (Int32.ofNat i) L := i_nin (by omega) hL
  have a1 : Int32.ofNat i + 1 = Int32.ofNat (i + 1) := nI_add i 1
  have t1 : (Int32.ofNat (i + 1)).toNatClampNeg = i + 1 := nI_clamp (n := i + 1) (by omega)
  have n1 : ¬ ino (Int32.ofNat (i + 1)) L := i_nin (by omega) hL
  have a2 : Int32.ofNat i + 2 = Int32.ofNat (i + 2) := nI_add i 2
  have t2 : (Int32.ofNat (i + 2)).toNatClampNeg = i + 2 := nI_clamp (n := i + 2) (by omega)
  have n2 : ¬ ino (Int32.ofNat (i + 2)) L := i_nin (by omega) hL
  have a3 : Int32.ofNat i + 3 = Int32.ofNat (i + 3) := nI_add i 3
  have t3 : (Int32.ofNat (i + 3)).toNatClampNeg = i + 3 := nI_clamp (n := i + 3) (by omega)
  have n3 : ¬ ino (Int32.ofNat (i + 3)) L := i_nin (by omega) hL
  have a4 : Int32.ofNat i + 4 = Int32.ofNat (i + 4) := nI_add i 4
  have t4 : (Int32.ofNat (i + 4)).toNatClampNeg = i + 4 := nI_clamp (n := i + 4) (by omega)
  have n4 : ¬ ino (Int32.ofNat (i + 4)) L := i_nin (by omega) hL
  have a5 : Int32.ofNat i + 5 = Int32.ofNat (i + 5) := nI_add i 5
  have t5 : (Int32.ofNat (i + 5)).toNatClampNeg = i + 5 := nI_clamp (n := i + 5) (by omega)
  have n5 : ¬ ino (Int32.ofNat (i + 5)) L := i_nin (by omega) hL
  have a6 : Int32.ofNat i + 6 = Int32.ofNat (i + 6) := nI_add i 6
  have c0 : ¬ xs i &&& 15 = 0 := by rw [hc]; decide
  have c1 : ¬ xs i &&& 15 = 1 := by rw [hc]; decide
  have hth := fun h => e_thrown' (L := L) (xs := xs) hd h
  refine ⟨x, RL_cut (j := 69) (cut := [23, 909, 936]) ?_, hx2⟩
  unfold lsI
  rw [show mLaw = 269 from rfl, q_Law_law_23]
  simp only [hL4, chk_ff, if_neg hc0, t0, if_neg n0, if_neg c0, if_neg c1, if_pos hc, a1, t1, if_neg n1, a2, t2, if_neg n2, a3, t3, if_neg n3, a4, t4, if_neg n4, a5, t5, if_neg n5, a6, onS]
  rw [q1]
  simp only [mclI]
  rw [q2]
  simp only [hth, q3, if_true]
  by_cases hk : k = 0
  · rw [if_pos hk, j_cmp (q4 hk)]
    exact RL_fgt lll_I hx1
  · rw [if_neg hk]
    exact RL_fgt lll_I hx1
theorem lp_3 (hL : L ≤ 3072) (hd : 1 ≤ d) (hi : i + 6 ≤ L) (hc : xs i &&& 15 = 3) (hp : prI (mP L xs) d I I' 136 137 [iv (xs (i + 1))]) (hI : I h) (next : ∀ h2, I' h2 → ∃ x, RL (mP L xs) d mLaw 23 (lsI (i + 6)) [] h2 = some x ∧ Q x) : ∃ x, RL (mP L xs) d mLaw 23 (lsI i) [] h = some x ∧ Q x := by
  obtain ⟨k, b, h1, h2, q1, q2, q3, q4, hI'⟩ := hp h hI
  simp only [List.cons_append, List.nil_append] at q1
  obtain ⟨x, hx1, hx2⟩ := next h2 hI'
  have hL4 : Nat.beq L 4000 = false := beq_ne (by omega)
  have hc0 : ¬ (Int32.ofNat L - 6 < Int32.ofNat i) := by rw [i_sub6 (by omega)]; exact nI_nlt (a := L - 6) (b := i) (by omega) (by omega)
  have t0 : (Int32.ofNat i).toNatClampNeg = i := nI_clamp (n := i) (by omega)
  have n0 : ¬ ino (Int32.ofNat i) L := i_nin (by omega) hL
  have a1 : Int32.ofNat i + 1 = Int32.ofNat (i + 1) := nI_add i 1
  have t1 : (Int32.ofNat (i + 1)).toNatClampNeg = i + 1 := nI_clamp (n := i + 1) (by omega)
  have n1 : ¬ ino (Int32.ofNat (i + 1)) L := i_nin (by omega) hL
  have a2 : Int32.ofNat i + 2 = Int32.ofNat (i + 2) := nI_add i 2
  have t2 : (Int32.ofNat (i + 2)).toNatClampNeg = i + 2 := nI_clamp (n := i + 2) (by omega)
  have n2 : ¬ ino (Int32.ofNat (i + 2)) L := i_nin (by omega) hL
  have a3 : Int32.ofNat i + 3 = Int32.ofNat (i + 3) := nI_add i 3
  have t3 : (Int32.ofNat (i + 3)).toNatClampNeg = i + 3 := nI_clamp (n := i + 3) (by omega)
  have n3 : ¬ ino (Int32.ofNat (i + 3)) L := i_nin (by omega) hL
  have a4 : Int32.ofNat i + 4 = Int32.ofNat (i + 4) := nI_add i 4
  have t4 : (Int32.ofNat (i + 4)).toNatClampNeg = i + 4 := nI_clamp (n := i + 4) (by omega)
  have n4 : ¬ ino (Int32.ofNat (i + 4)) L := i_nin (by omega) hL
  have a5 : Int32.ofNat i + 5 = Int32.ofNat (i + 5) := nI_add i 5
  have t5 : (Int32.ofNat (i + 5)).toNatClampNeg = i + 5 := nI_clamp (n := i + 5) (by omega)
  have n5 : ¬ ino (Int32.ofNat (i + 5)) L := i_nin (by omega) hL
  have a6 : Int32.ofNat i + 6 = Int32.ofNat (i + 6) := nI_add i 6
  have c0 : ¬ xs i &&& 15 = 0 := by rw [hc]; decide
  have c1 : ¬ xs i &&& 15 = 1 := by rw [hc]; decide
  have c2 : ¬ xs i &&& 15 = 2 := by rw [hc]; decide
  have hth := fun h => e_thrown' (L := L) (xs := xs) hd h
  refine ⟨x, RL_cut (j := 69) (cut := [23, 909, 936]) ?_, hx2⟩
  unfold lsI
  rw [show mLaw = 269 from rfl, q_Law_law_23]
  simp only [hL4, chk_ff, if_neg hc0, t0, if_neg n0, if_neg c0, if_neg c1, if_neg c2, if_pos hc, a1, t1, if_neg n1, a2, t2, if_neg n2, a3, t3, if_neg n3, a4, t4, if_neg n4, a5, t5, if_neg n5, a6, onS]
  rw [q1]
  simp only [mclI]
  rw [q2]
  simp only [hth, q3, if_true]
  by_cases hk : k = 0
  · rw [if_pos hk, j_cmp (q4 hk)]
    exact RL_fgt lll_I hx1
  · rw [if_neg hk]
    exact RL_fgt lll_I hx1
theorem lp_4 (hL : L ≤ 3072) (hd : 1 ≤ d) (hi : i + 6 ≤ L) (hc : xs i &&& 15 = 4) (hp : prO (mP L xs) d I I') (hI : I h) (next : ∀ h2, I' h2 → ∃ x, RL (mP L xs) d mLaw 23 (lsI (i + 6)) [] h2 = some x ∧ Q x) : ∃ x, RL (mP L xs) d mLaw 23 (lsI i) [] h = some x ∧ Q x := by
  obtain ⟨k, h1, h2, q1, q2, q3, hI'⟩ := hp h hI
  obtain ⟨x, hx1, hx2⟩ := next h2 hI'
  have hL4 : Nat.beq L 4000 = false := beq_ne (by omega)
  have hc0 : ¬ (Int32.ofNat L - 6 < Int32.ofNat i) := by rw [i_sub6 (by omega)]; exact nI_nlt (a := L - 6) (b := i) (by omega) (by omega)
  have t0 : (Int32.ofNat i).toNatClampNeg = i := nI_clamp (n := i) (by omega)
  have n0 : ¬ ino (Int32.ofNat i) L := i_nin (by omega) hL
  have a1 : Int32.ofNat i + 1 = Int32.ofNat (i + 1) := nI_add i 1
  have t1 : (Int32.ofNat (i + 1)).toNatClampNeg = i + 1 := nI_clamp (n := i + 1) (by omega)
  have n1 : ¬ ino (Int32.ofNat (i + 1)) L := i_nin (by omega) hL
  have a2 : Int32.ofNat i + 2 = Int32.ofNat (i + 2) := nI_add i 2
  have t2 : (Int32.ofNat (i + 2)).toNatClampNeg = i + 2 := nI_clamp (n := i + 2) (by omega)
  have n2 : ¬ ino (Int32.ofNat (i + 2)) L := i_nin (by omega) hL
  have a3 : Int32.ofNat i + 3 = Int32.ofNat (i + 3) := nI_add i 3
  have t3 : (Int32.ofNat (i + 3)).toNatClampNeg = i + 3 := nI_clamp (n := i + 3) (by omega)
  have n3 : ¬ ino (Int32.ofNat (i + 3)) L := i_nin (by omega) hL
  have a4 : Int32.ofNat i + 4 = Int32.ofNat (i + 4) := nI_add i 4
  have t4 : (Int32.ofNat (i + 4)).toNatClampNeg = i + 4 := nI_clamp (n := i + 4) (by omega)
  have n4 : ¬ ino (Int32.ofNat (i + 4)) L := i_nin (by omega) hL
  have a5 : Int32.ofNat i + 5 = Int32.ofNat (i + 5) := nI_add i 5
  have t5 : (Int32.ofNat (i + 5)).toNatClampNeg = i + 5 := nI_clamp (n := i + 5) (by omega)
  have n5 : ¬ ino (Int32.ofNat (i + 5)) L := i_nin (by omega) hL
  have a6 : Int32.ofNat i + 6 = Int32.ofNat (i + 6) := nI_add i 6
  have c0 : ¬ xs i &&& 15 = 0 := by rw [hc]; decide
  have c1 : ¬ xs i &&& 15 = 1 := by rw [hc]; decide
  have c2 : ¬ xs i &&& 15 = 2 := by rw [hc]; decide
  have c3 : ¬ xs i &&& 15 = 3 := by rw [hc]; decide
  have hth := fun h => e_thrown' (L := L) (xs := xs) hd h
  refine ⟨x, RL_cut (j := 69) (cut := [23, 909, 936]) ?_, hx2⟩
  unfold lsI
  rw [show mLaw = 269 from rfl, q_Law_law_23]
  simp only [hL4, chk_ff, if_neg hc0, t0, if_neg n0, if_neg c0, if_neg c1, if_neg c2, if_neg c3, if_pos hc, a1, t1, if_neg n1, a2, t2, if_neg n2, a3, t3, if_neg n3, a4, t4, if_neg n4, a5, t5, if_neg n5, a6, onS]
  rw [q1]
  simp only [mclI]
  rw [q2]
  simp only [mclV, hth, q3, if_true]
  exact RL_fgt lll_I hx1
theorem lp_5 (hL : L ≤ 3072) (hd : 1 ≤ d) (hi : i + 6 ≤ L) (hc : xs i &&& 15 = 5) (hp : prI (mP L xs) d I I' 145 150 [iv (xs (i + 1)), iv (xs (i + 2))]) (hI : I h) (next : ∀ h2, I' h2 → ∃ x, RL (mP L xs) d mLaw 23 (lsI (i + 6)) [] h2 = some x ∧ Q x) : ∃ x, RL (mP L xs) d mLaw 23 (lsI i) [] h = some x ∧ Q x := by
  obtain ⟨k, b, h1, h2, q1, q2, q3, q4, hI'⟩ := hp h hI
  simp only [List.cons_append, List.nil_append] at q1
  obtain ⟨x, hx1, hx2⟩ := next h2 hI'
  have hL4 : Nat.beq L 4000 = false := beq_ne (by omega)
  have hc0 : ¬ (Int32.ofNat L - 6 < Int32.ofNat i) := by rw [i_sub6 (by omega)]; exact nI_nlt (a := L - 6) (b := i) (by omega) (by omega)
  have t0 : (Int32.ofNat i).toNatClampNeg = i := nI_clamp (n := i) (by omega)
  have n0 : ¬ ino (Int32.ofNat i) L := i_nin (by omega) hL
  have a1 : Int32.ofNat i + 1 = Int32.ofNat (i + 1) := nI_add i 1
  have t1 : (Int32.ofNat (i + 1)).toNatClampNeg = i + 1 := nI_clamp (n := i + 1) (by omega)
  have n1 : ¬ ino (Int32.ofNat (i + 1)) L := i_nin (by omega) hL
  have a2 : Int32.ofNat i + 2 = Int32.ofNat (i + 2) := nI_add i 2
  have t2 : (Int32.ofNat (i + 2)).toNatClampNeg = i + 2 := nI_clamp (n := i + 2) (by omega)
  have n2 : ¬ ino (Int32.ofNat (i + 2)) L := i_nin (by omega) hL
  have a3 : Int32.ofNat i + 3 = Int32.ofNat (i + 3) := nI_add i 3
  have t3 : (Int32.ofNat (i + 3)).toNatClampNeg = i + 3 := nI_clamp (n := i + 3) (by omega)
  have n3 : ¬ ino (Int32.ofNat (i + 3)) L := i_nin (by omega) hL
  have a4 : Int32.ofNat i + 4 = Int32.ofNat (i + 4) := nI_add i 4
  have t4 : (Int32.ofNat (i + 4)).toNatClampNeg = i + 4 := nI_clamp (n := i + 4) (by omega)
  have n4 : ¬ ino (Int32.ofNat (i + 4)) L := i_nin (by omega) hL
  have a5 : Int32.ofNat i + 5 = Int32.ofNat (i + 5) := nI_add i 5
  have t5 : (Int32.ofNat (i + 5)).toNatClampNeg = i + 5 := nI_clamp (n := i + 5) (by omega)
  have n5 : ¬ ino (Int32.ofNat (i + 5)) L := i_nin (by omega) hL
  have a6 : Int32.ofNat i + 6 = Int32.ofNat (i + 6) := nI_add i 6
  have c0 : ¬ xs i &&& 15 = 0 := by rw [hc]; decide
  have c1 : ¬ xs i &&& 15 = 1 := by rw [hc]; decide
  have c2 : ¬ xs i &&& 15 = 2 := by rw [hc]; decide
  have c3 : ¬ xs i &&& 15 = 3 := by rw [hc]; decide
  have c4 : ¬ xs i &&& 15 = 4 := by rw [hc]; decide
  have hth := fun h => e_thrown' (L := L) (xs := xs) hd h
  refine ⟨x, RL_cut (j := 69) (cut := [23, 909, 936]) ?_, hx2⟩
  unfold lsI
  rw [show mLaw = 269 from rfl, q_Law_law_23]
  simp only [hL4, chk_ff, if_neg hc0, t0, if_neg n0, if_neg c0, if_neg c1, if_neg c2, if_neg c3, if_neg c4, if_pos hc, a1, t1, if_neg n1, a2, t2, if_neg n2, a3, t3, if_neg n3, a4, t4, if_neg n4, a5, t5, if_neg n5, a6, onS]
  rw [q1]
  simp only [mclI]
  rw [q2]
  simp only [hth, q3, if_true]
  by_cases hk : k = 0
  · rw [if_pos hk, j_cmp (q4 hk)]
    exact RL_fgt lll_I hx1
  · rw [if_neg hk]
    exact RL_fgt lll_I hx1
theorem lp_6 (hL : L ≤ 3072) (hd : 1 ≤ d) (hi : i + 6 ≤ L) (hc : xs i &&& 15 = 6) (hp : prI (mP L xs) d I I' 152 153 [iv (xs (i + 1))]) (hI : I h) (next : ∀ h2, I' h2 → ∃ x, RL (mP L xs) d mLaw 23 (lsI (i + 6)) [] h2 = some x ∧ Q x) : ∃ x, RL (mP L xs) d mLaw 23 (lsI i) [] h = some x ∧ Q x := by
  obtain ⟨k, b, h1, h2, q1, q2, q3, q4, hI'⟩ := hp h hI
  simp only [List.cons_append, List.nil_append] at q1
  obtain ⟨x, hx1, hx2⟩ := next h2 hI'
  have hL4 : Nat.beq L 4000 = false := beq_ne (by omega)
  have hc0 : ¬ (Int32.ofNat L - 6 < Int32.ofNat i) := by rw [i_sub6 (by omega)]; exact nI_nlt (a := L - 6) (b := i) (by omega) (by omega)
  have t0 : (Int32.ofNat i).toNatClampNeg = i := nI_clamp (n := i) (by omega)
  have n0 : ¬ ino (Int32.ofNat i) L := i_nin (by omega) hL
  have a1 : Int32.ofNat i + 1 = Int32.ofNat (i + 1) := nI_add i 1
  have t1 : (Int32.ofNat (i + 1)).toNatClampNeg = i + 1 := nI_clamp (n := i + 1) (by omega)
  have n1 : ¬ ino (Int32.ofNat (i + 1)) L := i_nin (by omega) hL
  have a2 : Int32.ofNat i + 2 = Int32.ofNat (i + 2) := nI_add i 2
  have t2 : (Int32.ofNat (i + 2)).toNatClampNeg = i + 2 := nI_clamp (n := i + 2) (by omega)
  have n2 : ¬ ino (Int32.ofNat (i + 2)) L := i_nin (by omega) hL
  have a3 : Int32.ofNat i + 3 = Int32.ofNat (i + 3) := nI_add i 3
  have t3 : (Int32.ofNat (i + 3)).toNatClampNeg = i + 3 := nI_clamp (n := i + 3) (by omega)
  have n3 : ¬ ino (Int32.ofNat (i + 3)) L := i_nin (by omega) hL
  have a4 : Int32.ofNat i + 4 = Int32.ofNat (i + 4) := nI_add i 4
  have t4 : (Int32.ofNat (i + 4)).toNatClampNeg = i + 4 := nI_clamp (n := i + 4) (by omega)
  have n4 : ¬ ino (Int32.ofNat (i + 4)) L := i_nin (by omega) hL
  have a5 : Int32.ofNat i + 5 = Int32.ofNat (i + 5) := nI_add i 5
  have t5 : (Int32.ofNat (i + 5)).toNatClampNeg = i + 5 := nI_clamp (n := i + 5) (by omega)
  have n5 : ¬ ino (Int32.ofNat (i + 5)) L := i_nin (by omega) hL
  have a6 : Int32.ofNat i + 6 = Int32.ofNat (i + 6) := nI_add i 6
  have c0 : ¬ xs i &&& 15 = 0 := by rw [hc]; decide
  have c1 : ¬ xs i &&& 15 = 1 := by rw [hc]; decide
  have c2 : ¬ xs i &&& 15 = 2 := by rw [hc]; decide
  have c3 : ¬ xs i &&& 15 = 3 := by rw [hc]; decide
  have c4 : ¬ xs i &&& 15 = 4 := by rw [hc]; decide
  have c5 : ¬ xs i &&& 15 = 5 := by rw [hc]; decide
  have hth := fun h => e_thrown' (L := L) (xs := xs) hd h
  refine ⟨x, RL_cut (j := 69) (cut := [23, 909, 936]) ?_, hx2⟩
  unfold lsI
  rw [show mLaw = 269 from rfl, q_Law_law_23]
  simp only [hL4, chk_ff, if_neg hc0, t0, if_neg n0, if_neg c0, if_neg c1, if_neg c2, if_neg c3, if_neg c4, if_neg c5, if_pos hc, a1, t1, if_neg n1, a2, t2, if_neg n2, a3, t3, if_neg n3, a4, t4, if_neg n4, a5, t5, if_neg n5, a6, onS]
  rw [q1]
  simp only [mclI]
  rw [q2]
  simp only [hth, q3, if_true]
  by_cases hk : k = 0
  · rw [if_pos hk, j_cmp (q4 hk)]
    exact RL_fgt lll_I hx1
  · rw [if_neg hk]
    exact RL_fgt lll_I hx1
theorem lp_7 (hL : L ≤ 3072) (hd : 1 ≤ d) (hi : i + 6 ≤ L) (hc : xs i &&& 15 = 7) (hp : prI (mP L xs) d I I' 209 237 [iv (xs (i + 1))]) (hI : I h) (next : ∀ h2, I' h2 → ∃ x, RL (mP L xs) d mLaw 23 (lsI (i + 6)) [] h2 = some x ∧ Q x) : ∃ x, RL (mP L xs) d mLaw 23 (lsI i) [] h = some x ∧ Q x := by
  obtain ⟨k, b, h1, h2, q1, q2, q3, q4, hI'⟩ := hp h hI
  simp only [List.cons_append, List.nil_append] at q1
  obtain ⟨x, hx1, hx2⟩ := next h2 hI'
  have hL4 : Nat.beq L 4000 = false := beq_ne (by omega)
  have hc0 : ¬ (Int32.ofNat L - 6 < Int32.ofNat i) := by rw [i_sub6 (by omega)]; exact nI_nlt (a := L - 6) (b := i) (by omega) (by omega)
  have t0 : (Int32.ofNat i).toNatClampNeg = i := nI_clamp (n := i) (by omega)
  have n0 : ¬ ino (Int32.ofNat i) L := i_nin (by omega) hL
  have a1 : Int32.ofNat i + 1 = Int32.ofNat (i + 1) := nI_add i 1
  have t1 : (Int32.ofNat (i + 1)).toNatClampNeg = i + 1 := nI_clamp (n := i + 1) (by omega)
  have n1 : ¬ ino (Int32.ofNat (i + 1)) L := i_nin (by omega) hL
  have a2 : Int32.ofNat i + 2 = Int32.ofNat (i + 2) := nI_add i 2
  have t2 : (Int32.ofNat (i + 2)).toNatClampNeg = i + 2 := nI_clamp (n := i + 2) (by omega)
  have n2 : ¬ ino (Int32.ofNat (i + 2)) L := i_nin (by omega) hL
  have a3 : Int32.ofNat i + 3 = Int32.ofNat (i + 3) := nI_add i 3
  have t3 : (Int32.ofNat (i + 3)).toNatClampNeg = i + 3 := nI_clamp (n := i + 3) (by omega)
  have n3 : ¬ ino (Int32.ofNat (i + 3)) L := i_nin (by omega) hL
  have a4 : Int32.ofNat i + 4 = Int32.ofNat (i + 4) := nI_add i 4
  have t4 : (Int32.ofNat (i + 4)).toNatClampNeg = i + 4 := nI_clamp (n := i + 4) (by omega)
  have n4 : ¬ ino (Int32.ofNat (i + 4)) L := i_nin (by omega) hL
  have a5 : Int32.ofNat i + 5 = Int32.ofNat (i + 5) := nI_add i 5
  have t5 : (Int32.ofNat (i + 5)).toNatClampNeg = i + 5 := nI_clamp (n := i + 5) (by omega)
  have n5 : ¬ ino (Int32.ofNat (i + 5)) L := i_nin (by omega) hL
  have a6 : Int32.ofNat i + 6 = Int32.ofNat (i + 6) := nI_add i 6
  have c0 : ¬ xs i &&& 15 = 0 := by rw [hc]; decide
  have c1 : ¬ xs i &&& 15 = 1 := by rw [hc]; decide
  have c2 : ¬ xs i &&& 15 = 2 := by rw [hc]; decide
  have c3 : ¬ xs i &&& 15 = 3 := by rw [hc]; decide
  have c4 : ¬ xs i &&& 15 = 4 := by rw [hc]; decide
  have c5 : ¬ xs i &&& 15 = 5 := by rw [hc]; decide
  have c6 : ¬ xs i &&& 15 = 6 := by rw [hc]; decide
  have hth := fun h => e_thrown' (L := L) (xs := xs) hd h
  refine ⟨x, RL_cut (j := 69) (cut := [23, 909, 936]) ?_, hx2⟩
  unfold lsI
  rw [show mLaw = 269 from rfl, q_Law_law_23]
  simp only [hL4, chk_ff, if_neg hc0, t0, if_neg n0, if_neg c0, if_neg c1, if_neg c2, if_neg c3, if_neg c4, if_neg c5, if_neg c6, if_pos hc, a1, t1, if_neg n1, a2, t2, if_neg n2, a3, t3, if_neg n3, a4, t4, if_neg n4, a5, t5, if_neg n5, a6, onS]
  rw [q1]
  simp only [mclI]
  rw [q2]
  simp only [hth, q3, if_true]
  by_cases hk : k = 0
  · rw [if_pos hk, j_cmp (q4 hk)]
    exact RL_fgt lll_I hx1
  · rw [if_neg hk]
    exact RL_fgt lll_I hx1
theorem lp_8 (hL : L ≤ 3072) (hd : 1 ≤ d) (hi : i + 6 ≤ L) (hc : xs i &&& 15 = 8) (hp : prI (mP L xs) d I I' 240 241 [iv (xs (i + 1)), iv (xs (i + 2))]) (hI : I h) (next : ∀ h2, I' h2 → ∃ x, RL (mP L xs) d mLaw 23 (lsI (i + 6)) [] h2 = some x ∧ Q x) : ∃ x, RL (mP L xs) d mLaw 23 (lsI i) [] h = some x ∧ Q x := by
  obtain ⟨k, b, h1, h2, q1, q2, q3, q4, hI'⟩ := hp h hI
  simp only [List.cons_append, List.nil_append] at q1
  obtain ⟨x, hx1, hx2⟩ := next h2 hI'
  have hL4 : Nat.beq L 4000 = false := beq_ne (by omega)
  have hc0 : ¬ (Int32.ofNat L - 6 < Int32.ofNat i) := by rw [i_sub6 (by omega)]; exact nI_nlt (a := L - 6) (b := i) (by omega) (by omega)
  have t0 : (Int32.ofNat i).toNatClampNeg = i := nI_clamp (n := i) (by omega)
  have n0 : ¬ ino (Int32.ofNat i) L := i_nin (by omega) hL
  have a1 : Int32.ofNat i + 1 = Int32.ofNat (i + 1) := nI_add i 1
  have t1 : (Int32.ofNat (i + 1)).toNatClampNeg = i + 1 := nI_clamp (n := i + 1) (by omega)
  have n1 : ¬ ino (Int32.ofNat (i + 1)) L := i_nin (by omega) hL
  have a2 : Int32.ofNat i + 2 = Int32.ofNat (i + 2) := nI_add i 2
  have t2 : (Int32.ofNat (i + 2)).toNatClampNeg = i + 2 := nI_clamp (n := i + 2) (by omega)
  have n2 : ¬ ino (Int32.ofNat (i + 2)) L := i_nin (by omega) hL
  have a3 : Int32.ofNat i + 3 = Int32.ofNat (i + 3) := nI_add i 3
  have t3 : (Int32.ofNat (i + 3)).toNatClampNeg = i + 3 := nI_clamp (n := i + 3) (by omega)
  have n3 : ¬ ino (Int32.ofNat (i + 3)) L := i_nin (by omega) hL
  have a4 : Int32.ofNat i + 4 = Int32.ofNat (i + 4) := nI_add i 4
  have t4 : (Int32.ofNat (i + 4)).toNatClampNeg = i + 4 := nI_clamp (n := i + 4) (by omega)
  have n4 : ¬ ino (Int32.ofNat (i + 4)) L := i_nin (by omega) hL
  have a5 : Int32.ofNat i + 5 = Int32.ofNat (i + 5) := nI_add i 5
  have t5 : (Int32.ofNat (i + 5)).toNatClampNeg = i + 5 := nI_clamp (n := i + 5) (by omega)
  have n5 : ¬ ino (Int32.ofNat (i + 5)) L := i_nin (by omega) hL
  have a6 : Int32.ofNat i + 6 = Int32.ofNat (i + 6) := nI_add i 6
  have c0 : ¬ xs i &&& 15 = 0 := by rw [hc]; decide
  have c1 : ¬ xs i &&& 15 = 1 := by rw [hc]; decide
  have c2 : ¬ xs i &&& 15 = 2 := by rw [hc]; decide
  have c3 : ¬ xs i &&& 15 = 3 := by rw [hc]; decide
  have c4 : ¬ xs i &&& 15 = 4 := by rw [hc]; decide
  have c5 : ¬ xs i &&& 15 = 5 := by rw [hc]; decide
  have c6 : ¬ xs i &&& 15 = 6 := by rw [hc]; decide
  have c7 : ¬ xs i &&& 15 = 7 := by rw [hc]; decide
  have hth := fun h => e_thrown' (L := L) (xs := xs) hd h
  refine ⟨x, RL_cut (j := 69) (cut := [23, 909, 936]) ?_, hx2⟩
  unfold lsI
  rw [show mLaw = 269 from rfl, q_Law_law_23]
  simp only [hL4, chk_ff, if_neg hc0, t0, if_neg n0, if_neg c0, if_neg c1, if_neg c2, if_neg c3, if_neg c4, if_neg c5, if_neg c6, if_neg c7, if_pos hc, a1, t1, if_neg n1, a2, t2, if_neg n2, a3, t3, if_neg n3, a4, t4, if_neg n4, a5, t5, if_neg n5, a6, onS]
  rw [q1]
  simp only [mclI]
  rw [q2]
  simp only [hth, q3, if_true]
  by_cases hk : k = 0
  · rw [if_pos hk, j_cmp (q4 hk)]
    exact RL_fgt lll_I hx1
  · rw [if_neg hk]
    exact RL_fgt lll_I hx1
theorem lp_9 (hL : L ≤ 3072) (hd : 1 ≤ d) (hi : i + 6 ≤ L) (hc : xs i &&& 15 = 9) (hp : prI (mP L xs) d I I' 244 246 [iv (xs (i + 1)), iv (xs (i + 2))]) (hI : I h) (next : ∀ h2, I' h2 → ∃ x, RL (mP L xs) d mLaw 23 (lsI (i + 6)) [] h2 = some x ∧ Q x) : ∃ x, RL (mP L xs) d mLaw 23 (lsI i) [] h = some x ∧ Q x := by
  obtain ⟨k, b, h1, h2, q1, q2, q3, q4, hI'⟩ := hp h hI
  simp only [List.cons_append, List.nil_append] at q1
  obtain ⟨x, hx1, hx2⟩ := next h2 hI'
  have hL4 : Nat.beq L 4000 = false := beq_ne (by omega)
  have hc0 : ¬ (Int32.ofNat L - 6 < Int32.ofNat i) := by rw [i_sub6 (by omega)]; exact nI_nlt (a := L - 6) (b := i) (by omega) (by omega)
  have t0 : (Int32.ofNat i).toNatClampNeg = i := nI_clamp (n := i) (by omega)
  have n0 : ¬ ino (Int32.ofNat i) L := i_nin (by omega) hL
  have a1 : Int32.ofNat i + 1 = Int32.ofNat (i + 1) := nI_add i 1
  have t1 : (Int32.ofNat (i + 1)).toNatClampNeg = i + 1 := nI_clamp (n := i + 1) (by omega)
  have n1 : ¬ ino (Int32.ofNat (i + 1)) L := i_nin (by omega) hL
  have a2 : Int32.ofNat i + 2 = Int32.ofNat (i + 2) := nI_add i 2
  have t2 : (Int32.ofNat (i + 2)).toNatClampNeg = i + 2 := nI_clamp (n := i + 2) (by omega)
  have n2 : ¬ ino (Int32.ofNat (i + 2)) L := i_nin (by omega) hL
  have a3 : Int32.ofNat i + 3 = Int32.ofNat (i + 3) := nI_add i 3
  have t3 : (Int32.ofNat (i + 3)).toNatClampNeg = i + 3 := nI_clamp (n := i + 3) (by omega)
  have n3 : ¬ ino (Int32.ofNat (i + 3)) L := i_nin (by omega) hL
  have a4 : Int32.ofNat i + 4 = Int32.ofNat (i + 4) := nI_add i 4
  have t4 : (Int32.ofNat (i + 4)).toNatClampNeg = i + 4 := nI_clamp (n := i + 4) (by omega)
  have n4 : ¬ ino (Int32.ofNat (i + 4)) L := i_nin (by omega) hL
  have a5 : Int32.ofNat i + 5 = Int32.ofNat (i + 5) := nI_add i 5
  have t5 : (Int32.ofNat (i + 5)).toNatClampNeg = i + 5 := nI_clamp (n := i + 5) (by omega)
  have n5 : ¬ ino (Int32.ofNat (i + 5)) L := i_nin (by omega) hL
  have a6 : Int32.ofNat i + 6 = Int32.ofNat (i + 6) := nI_add i 6
  have c0 : ¬ xs i &&& 15 = 0 := by rw [hc]; decide
  have c1 : ¬ xs i &&& 15 = 1 := by rw [hc]; decide
  have c2 : ¬ xs i &&& 15 = 2 := by rw [hc]; decide
  have c3 : ¬ xs i &&& 15 = 3 := by rw [hc]; decide
  have c4 : ¬ xs i &&& 15 = 4 := by rw [hc]; decide
  have c5 : ¬ xs i &&& 15 = 5 := by rw [hc]; decide
  have c6 : ¬ xs i &&& 15 = 6 := by rw [hc]; decide
  have c7 : ¬ xs i &&& 15 = 7 := by rw [hc]; decide
  have c8 : ¬ xs i &&& 15 = 8 := by rw [hc]; decide
  have hth := fun h => e_thrown' (L := L) (xs := xs) hd h
  refine ⟨x, RL_cut (j := 69) (cut := [23, 909, 936]) ?_, hx2⟩
  unfold lsI
  rw [show mLaw = 269 from rfl, q_Law_law_23]
  simp only [hL4, chk_ff, if_neg hc0, t0, if_neg n0, if_neg c0, if_neg c1, if_neg c2, if_neg c3, if_neg c4, if_neg c5, if_neg c6, if_neg c7, if_neg c8, if_pos hc, a1, t1, if_neg n1, a2, t2, if_neg n2, a3, t3, if_neg n3, a4, t4, if_neg n4, a5, t5, if_neg n5, a6, onS]
  rw [q1]
  simp only [mclI]
  rw [q2]
  simp only [hth, q3, if_true]
  by_cases hk : k = 0
  · rw [if_pos hk, j_cmp (q4 hk)]
    exact RL_fgt lll_I hx1
  · rw [if_neg hk]
    exact RL_fgt lll_I hx1
theorem lp_10 (hL : L ≤ 3072) (hd : 1 ≤ d) (hi : i + 6 ≤ L) (hc : xs i &&& 15 = 10) (hp : prI (mP L xs) d I I' 249 250 [iv (xs (i + 1)), iv (xs (i + 2))]) (hI : I h) (next : ∀ h2, I' h2 → ∃ x, RL (mP L xs) d mLaw 23 (lsI (i + 6)) [] h2 = some x ∧ Q x) : ∃ x, RL (mP L xs) d mLaw 23 (lsI i) [] h = some x ∧ Q x := by
  obtain ⟨k, b, h1, h2, q1, q2, q3, q4, hI'⟩ := hp h hI
  simp only [List.cons_append, List.nil_append] at q1
  obtain ⟨x, hx1, hx2⟩ := next h2 hI'
  have hL4 : Nat.beq L 4000 = false := beq_ne (by omega)
  have hc0 : ¬ (Int32.ofNat L - 6 < Int32.ofNat i) := by rw [i_sub6 (by omega)]; exact nI_nlt (a := L - 6) (b := i) (by omega) (by omega)
  have t0 : (Int32.ofNat i).toNatClampNeg = i := nI_clamp (n := i) (by omega)
  have n0 : ¬ ino (Int32.ofNat i) L := i_nin (by omega) hL
  have a1 : Int32.ofNat i + 1 = Int32.ofNat (i + 1) := nI_add i 1
  have t1 : (Int32.ofNat (i + 1)).toNatClampNeg = i + 1 := nI_clamp (n := i + 1) (by omega)
  have n1 : ¬ ino (Int32.ofNat (i + 1)) L := i_nin (by omega) hL
  have a2 : Int32.ofNat i + 2 = Int32.ofNat (i + 2) := nI_add i 2
  have t2 : (Int32.ofNat (i + 2)).toNatClampNeg = i + 2 := nI_clamp (n := i + 2) (by omega)
  have n2 : ¬ ino (Int32.ofNat (i + 2)) L := i_nin (by omega) hL
  have a3 : Int32.ofNat i + 3 = Int32.ofNat (i + 3) := nI_add i 3
  have t3 : (Int32.ofNat (i + 3)).toNatClampNeg = i + 3 := nI_clamp (n := i + 3) (by omega)
  have n3 : ¬ ino (Int32.ofNat (i + 3)) L := i_nin (by omega) hL
  have a4 : Int32.ofNat i + 4 = Int32.ofNat (i + 4) := nI_add i 4
  have t4 : (Int32.ofNat (i + 4)).toNatClampNeg = i + 4 := nI_clamp (n := i + 4) (by omega)
  have n4 : ¬ ino (Int32.ofNat (i + 4)) L := i_nin (by omega) hL
  have a5 : Int32.ofNat i + 5 = Int32.ofNat (i + 5) := nI_add i 5
  have t5 : (Int32.ofNat (i + 5)).toNatClampNeg = i + 5 := nI_clamp (n := i + 5) (by omega)
  have n5 : ¬ ino (Int32.ofNat (i + 5)) L := i_nin (by omega) hL
  have a6 : Int32.ofNat i + 6 = Int32.ofNat (i + 6) := nI_add i 6
  have c0 : ¬ xs i &&& 15 = 0 := by rw [hc]; decide
  have c1 : ¬ xs i &&& 15 = 1 := by rw [hc]; decide
  have c2 : ¬ xs i &&& 15 = 2 := by rw [hc]; decide
  have c3 : ¬ xs i &&& 15 = 3 := by rw [hc]; decide
  have c4 : ¬ xs i &&& 15 = 4 := by rw [hc]; decide
  have c5 : ¬ xs i &&& 15 = 5 := by rw [hc]; decide
  have c6 : ¬ xs i &&& 15 = 6 := by rw [hc]; decide
  have c7 : ¬ xs i &&& 15 = 7 := by rw [hc]; decide
  have c8 : ¬ xs i &&& 15 = 8 := by rw [hc]; decide
  have c9 : ¬ xs i &&& 15 = 9 := by rw [hc]; decide
  have hth := fun h => e_thrown' (L := L) (xs := xs) hd h
  refine ⟨x, RL_cut (j := 69) (cut := [23, 909, 936]) ?_, hx2⟩
  unfold lsI
  rw [show mLaw = 269 from rfl, q_Law_law_23]
  simp only [hL4, chk_ff, if_neg hc0, t0, if_neg n0, if_neg c0, if_neg c1, if_neg c2, if_neg c3, if_neg c4, if_neg c5, if_neg c6, if_neg c7, if_neg c8, if_neg c9, if_pos hc, a1, t1, if_neg n1, a2, t2, if_neg n2, a3, t3, if_neg n3, a4, t4, if_neg n4, a5, t5, if_neg n5, a6, onS]
  rw [q1]
  simp only [mclI]
  rw [q2]
  simp only [hth, q3, if_true]
  by_cases hk : k = 0
  · rw [if_pos hk, j_cmp (q4 hk)]
    exact RL_fgt lll_I hx1
  · rw [if_neg hk]
    exact RL_fgt lll_I hx1
theorem lp_11 (hL : L ≤ 3072) (hd : 1 ≤ d) (hi : i + 6 ≤ L) (hc : xs i &&& 15 = 11) (hp : prI (mP L xs) d I I' 252 253 [iv (xs (i + 1))]) (hI : I h) (next : ∀ h2, I' h2 → ∃ x, RL (mP L xs) d mLaw 23 (lsI (i + 6)) [] h2 = some x ∧ Q x) : ∃ x, RL (mP L xs) d mLaw 23 (lsI i) [] h = some x ∧ Q x := by
  obtain ⟨k, b, h1, h2, q1, q2, q3, q4, hI'⟩ := hp h hI
  simp only [List.cons_append, List.nil_append] at q1
  obtain ⟨x, hx1, hx2⟩ := next h2 hI'
  have hL4 : Nat.beq L 4000 = false := beq_ne (by omega)
  have hc0 : ¬ (Int32.ofNat L - 6 < Int32.ofNat i) := by rw [i_sub6 (by omega)]; exact nI_nlt (a := L - 6) (b := i) (by omega) (by omega)
  have t0 : (Int32.ofNat i).toNatClampNeg = i := nI_clamp (n := i) (by omega)
  have n0 : ¬ ino (Int32.ofNat i) L := i_nin (by omega) hL
  have a1 : Int32.ofNat i + 1 = Int32.ofNat (i + 1) := nI_add i 1
  have t1 : (Int32.ofNat (i + 1)).toNatClampNeg = i + 1 := nI_clamp (n := i + 1) (by omega)
  have n1 : ¬ ino (Int32.ofNat (i + 1)) L := i_nin (by omega) hL
  have a2 : Int32.ofNat i + 2 = Int32.ofNat (i + 2) := nI_add i 2
  have t2 : (Int32.ofNat (i + 2)).toNatClampNeg = i + 2 := nI_clamp (n := i + 2) (by omega)
  have n2 : ¬ ino (Int32.ofNat (i + 2)) L := i_nin (by omega) hL
  have a3 : Int32.ofNat i + 3 = Int32.ofNat (i + 3) := nI_add i 3
  have t3 : (Int32.ofNat (i + 3)).toNatClampNeg = i + 3 := nI_clamp (n := i + 3) (by omega)
  have n3 : ¬ ino (Int32.ofNat (i + 3)) L := i_nin (by omega) hL
  have a4 : Int32.ofNat i + 4 = Int32.ofNat (i + 4) := nI_add i 4
  have t4 : (Int32.ofNat (i + 4)).toNatClampNeg = i + 4 := nI_clamp (n := i + 4) (by omega)
  have n4 : ¬ ino (Int32.ofNat (i + 4)) L := i_nin (by omega) hL
  have a5 : Int32.ofNat i + 5 = Int32.ofNat (i + 5) := nI_add i 5
  have t5 : (Int32.ofNat (i + 5)).toNatClampNeg = i + 5 := nI_clamp (n := i + 5) (by omega)
  have n5 : ¬ ino (Int32.ofNat (i + 5)) L := i_nin (by omega) hL
  have a6 : Int32.ofNat i + 6 = Int32.ofNat (i + 6) := nI_add i 6
  have c0 : ¬ xs i &&& 15 = 0 := by rw [hc]; decide
  have c1 : ¬ xs i &&& 15 = 1 := by rw [hc]; decide
  have c2 : ¬ xs i &&& 15 = 2 := by rw [hc]; decide
  have c3 : ¬ xs i &&& 15 = 3 := by rw [hc]; decide
  have c4 : ¬ xs i &&& 15 = 4 := by rw [hc]; decide
  have c5 : ¬ xs i &&& 15 = 5 := by rw [hc]; decide
  have c6 : ¬ xs i &&& 15 = 6 := by rw [hc]; decide
  have c7 : ¬ xs i &&& 15 = 7 := by rw [hc]; decide
  have c8 : ¬ xs i &&& 15 = 8 := by rw [hc]; decide
  have c9 : ¬ xs i &&& 15 = 9 := by rw [hc]; decide
  have c10 : ¬ xs i &&& 15 = 10 := by rw [hc]; decide
  have hth := fun h => e_thrown' (L := L) (xs := xs) hd h
  refine ⟨x, RL_cut (j := 69) (cut := [23, 909, 936]) ?_, hx2⟩
  unfold lsI
  rw [show mLaw = 269 from rfl, q_Law_law_23]
  simp only [hL4, chk_ff, if_neg hc0, t0, if_neg n0, if_neg c0, if_neg c1, if_neg c2, if_neg c3, if_neg c4, if_neg c5, if_neg c6, if_neg c7, if_neg c8, if_neg c9, if_neg c10, if_pos hc, a1, t1, if_neg n1, a2, t2, if_neg n2, a3, t3, if_neg n3, a4, t4, if_neg n4, a5, t5, if_neg n5, a6, onS]
  rw [q1]
  simp only [mclI]
  rw [q2]
  simp only [hth, q3, if_true]
  by_cases hk : k = 0
  · rw [if_pos hk, j_cmp (q4 hk)]
    exact RL_fgt lll_I hx1
  · rw [if_neg hk]
    exact RL_fgt lll_I hx1
theorem lp_12 (hL : L ≤ 3072) (hd : 1 ≤ d) (hi : i + 6 ≤ L) (hc : xs i &&& 15 = 12) (hp : prB (mP L xs) d I I' 256 257 [iv (xs (i + 1))]) (hI : I h) (next : ∀ h2, I' h2 → ∃ x, RL (mP L xs) d mLaw 23 (lsI (i + 6)) [] h2 = some x ∧ Q x) : ∃ x, RL (mP L xs) d mLaw 23 (lsI i) [] h = some x ∧ Q x := by
  obtain ⟨k, b, h1, h2, q1, q2, q3, q4, hI'⟩ := hp h hI
  simp only [List.cons_append, List.nil_append] at q1
  obtain ⟨x, hx1, hx2⟩ := next h2 hI'
  have hL4 : Nat.beq L 4000 = false := beq_ne (by omega)
  have hc0 : ¬ (Int32.ofNat L - 6 < Int32.ofNat i) := by rw [i_sub6 (by omega)]; exact nI_nlt (a := L - 6) (b := i) (by omega) (by omega)
  have t0 : (Int32.ofNat i).toNatClampNeg = i := nI_clamp (n := i) (by omega)
  have n0 : ¬ ino (Int32.ofNat i) L := i_nin (by omega) hL
  have a1 : Int32.ofNat i + 1 = Int32.ofNat (i + 1) := nI_add i 1
  have t1 : (Int32.ofNat (i + 1)).toNatClampNeg = i + 1 := nI_clamp (n := i + 1) (by omega)
  have n1 : ¬ ino (Int32.ofNat (i + 1)) L := i_nin (by omega) hL
  have a2 : Int32.ofNat i + 2 = Int32.ofNat (i + 2) := nI_add i 2
  have t2 : (Int32.ofNat (i + 2)).toNatClampNeg = i + 2 := nI_clamp (n := i + 2) (by omega)
  have n2 : ¬ ino (Int32.ofNat (i + 2)) L := i_nin (by omega) hL
  have a3 : Int32.ofNat i + 3 = Int32.ofNat (i + 3) := nI_add i 3
  have t3 : (Int32.ofNat (i + 3)).toNatClampNeg = i + 3 := nI_clamp (n := i + 3) (by omega)
  have n3 : ¬ ino (Int32.ofNat (i + 3)) L := i_nin (by omega) hL
  have a4 : Int32.ofNat i + 4 = Int32.ofNat (i + 4) := nI_add i 4
  have t4 : (Int32.ofNat (i + 4)).toNatClampNeg = i + 4 := nI_clamp (n := i + 4) (by omega)
  have n4 : ¬ ino (Int32.ofNat (i + 4)) L := i_nin (by omega) hL
  have a5 : Int32.ofNat i + 5 = Int32.ofNat (i + 5) := nI_add i 5
  have t5 : (Int32.ofNat (i + 5)).toNatClampNeg = i + 5 := nI_clamp (n := i + 5) (by omega)
  have n5 : ¬ ino (Int32.ofNat (i + 5)) L := i_nin (by omega) hL
  have a6 : Int32.ofNat i + 6 = Int32.ofNat (i + 6) := nI_add i 6
  have c0 : ¬ xs i &&& 15 = 0 := by rw [hc]; decide
  have c1 : ¬ xs i &&& 15 = 1 := by rw [hc]; decide
  have c2 : ¬ xs i &&& 15 = 2 := by rw [hc]; decide
  have c3 : ¬ xs i &&& 15 = 3 := by rw [hc]; decide
  have c4 : ¬ xs i &&& 15 = 4 := by rw [hc]; decide
  have c5 : ¬ xs i &&& 15 = 5 := by rw [hc]; decide
  have c6 : ¬ xs i &&& 15 = 6 := by rw [hc]; decide
  have c7 : ¬ xs i &&& 15 = 7 := by rw [hc]; decide
  have c8 : ¬ xs i &&& 15 = 8 := by rw [hc]; decide
  have c9 : ¬ xs i &&& 15 = 9 := by rw [hc]; decide
  have c10 : ¬ xs i &&& 15 = 10 := by rw [hc]; decide
  have c11 : ¬ xs i &&& 15 = 11 := by rw [hc]; decide
  have hth := fun h => e_thrown' (L := L) (xs := xs) hd h
  refine ⟨x, RL_cut (j := 69) (cut := [23, 909, 936]) ?_, hx2⟩
  unfold lsI
  rw [show mLaw = 269 from rfl, q_Law_law_23]
  simp only [hL4, chk_ff, if_neg hc0, t0, if_neg n0, if_neg c0, if_neg c1, if_neg c2, if_neg c3, if_neg c4, if_neg c5, if_neg c6, if_neg c7, if_neg c8, if_neg c9, if_neg c10, if_neg c11, if_pos hc, a1, t1, if_neg n1, a2, t2, if_neg n2, a3, t3, if_neg n3, a4, t4, if_neg n4, a5, t5, if_neg n5, a6, onS]
  rw [q1]
  simp only [mclI]
  rw [q2]
  simp only [hth, q3, if_true]
  by_cases hk : k = 0
  · rw [if_pos hk]
    have q5 := q4 hk
    by_cases hb : b = 0
    · rw [if_pos hb] at q5 ⊢
      rw [j_cmp q5]
      exact RL_fgt lll_I hx1
    · rw [if_neg hb] at q5 ⊢
      rw [j_cmp q5]
      exact RL_fgt lll_I hx1
  · rw [if_neg hk]
    exact RL_fgt lll_I hx1
theorem lp_13 (hL : L ≤ 3072) (hd : 1 ≤ d) (hi : i + 6 ≤ L) (hc : xs i &&& 15 = 13) (hp : prB (mP L xs) d I I' 259 260 [iv (xs (i + 1)), iv (if xs (i + 2) = 0 then 0 else 1)]) (hI : I h) (next : ∀ h2, I' h2 → ∃ x, RL (mP L xs) d mLaw 23 (lsI (i + 6)) [] h2 = some x ∧ Q x) : ∃ x, RL (mP L xs) d mLaw 23 (lsI i) [] h = some x ∧ Q x := by
  obtain ⟨k, b, h1, h2, q1, q2, q3, q4, hI'⟩ := hp h hI
  simp only [List.cons_append, List.nil_append] at q1
  obtain ⟨x, hx1, hx2⟩ := next h2 hI'
  have hL4 : Nat.beq L 4000 = false := beq_ne (by omega)
  have hc0 : ¬ (Int32.ofNat L - 6 < Int32.ofNat i) := by rw [i_sub6 (by omega)]; exact nI_nlt (a := L - 6) (b := i) (by omega) (by omega)
  have t0 : (Int32.ofNat i).toNatClampNeg = i := nI_clamp (n := i) (by omega)
  have n0 : ¬ ino (Int32.ofNat i) L := i_nin (by omega) hL
  have a1 : Int32.ofNat i + 1 = Int32.ofNat (i + 1) := nI_add i 1
  have t1 : (Int32.ofNat (i + 1)).toNatClampNeg = i + 1 := nI_clamp (n := i + 1) (by omega)
  have n1 : ¬ ino (Int32.ofNat (i + 1)) L := i_nin (by omega) hL
  have a2 : Int32.ofNat i + 2 = Int32.ofNat (i + 2) := nI_add i 2
  have t2 : (Int32.ofNat (i + 2)).toNatClampNeg = i + 2 := nI_clamp (n := i + 2) (by omega)
  have n2 : ¬ ino (Int32.ofNat (i + 2)) L := i_nin (by omega) hL
  have a3 : Int32.ofNat i + 3 = Int32.ofNat (i + 3) := nI_add i 3
  have t3 : (Int32.ofNat (i + 3)).toNatClampNeg = i + 3 := nI_clamp (n := i + 3) (by omega)
  have n3 : ¬ ino (Int32.ofNat (i + 3)) L := i_nin (by omega) hL
  have a4 : Int32.ofNat i + 4 = Int32.ofNat (i + 4) := nI_add i 4
  have t4 : (Int32.ofNat (i + 4)).toNatClampNeg = i + 4 := nI_clamp (n := i + 4) (by omega)
  have n4 : ¬ ino (Int32.ofNat (i + 4)) L := i_nin (by omega) hL
  have a5 : Int32.ofNat i + 5 = Int32.ofNat (i + 5) := nI_add i 5
  have t5 : (Int32.ofNat (i + 5)).toNatClampNeg = i + 5 := nI_clamp (n := i + 5) (by omega)
  have n5 : ¬ ino (Int32.ofNat (i + 5)) L := i_nin (by omega) hL
  have a6 : Int32.ofNat i + 6 = Int32.ofNat (i + 6) := nI_add i 6
  have c0 : ¬ xs i &&& 15 = 0 := by rw [hc]; decide
  have c1 : ¬ xs i &&& 15 = 1 := by rw [hc]; decide
  have c2 : ¬ xs i &&& 15 = 2 := by rw [hc]; decide
  have c3 : ¬ xs i &&& 15 = 3 := by rw [hc]; decide
  have c4 : ¬ xs i &&& 15 = 4 := by rw [hc]; decide
  have c5 : ¬ xs i &&& 15 = 5 := by rw [hc]; decide
  have c6 : ¬ xs i &&& 15 = 6 := by rw [hc]; decide
  have c7 : ¬ xs i &&& 15 = 7 := by rw [hc]; decide
  have c8 : ¬ xs i &&& 15 = 8 := by rw [hc]; decide
  have c9 : ¬ xs i &&& 15 = 9 := by rw [hc]; decide
  have c10 : ¬ xs i &&& 15 = 10 := by rw [hc]; decide
  have c11 : ¬ xs i &&& 15 = 11 := by rw [hc]; decide
  have c12 : ¬ xs i &&& 15 = 12 := by rw [hc]; decide
  have hth := fun h => e_thrown' (L := L) (xs := xs) hd h
  have key : ∀ u : Int32, (if xs (i + 2) = 0 then 0 else 1) = u → RL (mP L xs) d mLaw 909 (lsI i) [iv u, iv (xs (i + 1)), rv 21 (some 0)] h = some x := by
    intro u hu
    rw [hu] at q1 q2
    refine RL_cut (j := 17) (cut := [23, 909, 936]) ?_
    unfold lsI
    rw [show mLaw = 269 from rfl, q_Law_law_909]
    rw [q1]
    simp only [mclI, hL4, chk_ff, a1, t1, if_neg n1, a2, t2, if_neg n2]
    have k2 : RL (mP L xs) d 269 936 [some (rv 1 (some 0)), some (rv 21 (some 0)), some (rv 22 (some 0)), some (rv 99 (some 0)), some (iv (Int32.ofNat i)), some (iv k), none] [iv u, iv (xs (i + 1)), rv 22 (some 0)] h1 = some x := by
      refine RL_cut (j := 20) (cut := [23, 909, 936]) ?_
      rw [q_Law_law_936]
      simp only [onS]
      rw [q2]
      simp only [mclI, hth, q3, if_true, a6]
      by_cases hk : k = 0
      · rw [if_pos hk]
        have q5 := q4 hk
        by_cases hb : b = 0
        · rw [if_pos hb] at q5 ⊢
          rw [j_cmp q5]
          exact RL_fgt lll_I hx1
        · rw [if_neg hb] at q5 ⊢
          rw [j_cmp q5]
          exact RL_fgt lll_I hx1
      · rw [if_neg hk]
        exact RL_fgt lll_I hx1
    by_cases h0 : xs (i + 2) = 0
    · rw [if_pos h0] at hu ⊢
      subst hu
      exact k2
    · rw [if_neg h0] at hu ⊢
      subst hu
      exact k2
  refine ⟨x, RL_cut (j := 69) (cut := [23, 909, 936]) ?_, hx2⟩
  unfold lsI
  rw [show mLaw = 269 from rfl, q_Law_law_23]
  simp only [hL4, chk_ff, if_neg hc0, t0, if_neg n0, if_neg c0, if_neg c1, if_neg c2, if_neg c3, if_neg c4, if_neg c5, if_neg c6, if_neg c7, if_neg c8, if_neg c9, if_neg c10, if_neg c11, if_neg c12, if_pos hc, a1, t1, if_neg n1, a2, t2, if_neg n2, a6, onS]
  by_cases h0 : xs (i + 2) = 0
  · rw [if_pos h0]
    exact key 0 (by rw [if_pos h0])
  · rw [if_neg h0]
    exact key 1 (by rw [if_neg h0])
theorem lp_14 (hL : L ≤ 3072) (hd : 1 ≤ d) (hi : i + 6 ≤ L) (hc : xs i &&& 15 = 14) (hp : prI (mP L xs) d I I' 263 264 [iv (xs (i + 1))]) (hI : I h) (next : ∀ h2, I' h2 → ∃ x, RL (mP L xs) d mLaw 23 (lsI (i + 6)) [] h2 = some x ∧ Q x) : ∃ x, RL (mP L xs) d mLaw 23 (lsI i) [] h = some x ∧ Q x := by
  obtain ⟨k, b, h1, h2, q1, q2, q3, q4, hI'⟩ := hp h hI
  simp only [List.cons_append, List.nil_append] at q1
  obtain ⟨x, hx1, hx2⟩ := next h2 hI'
  have hL4 : Nat.beq L 4000 = false := beq_ne (by omega)
  have hc0 : ¬ (Int32.ofNat L - 6 < Int32.ofNat i) := by rw [i_sub6 (by omega)]; exact nI_nlt (a := L - 6) (b := i) (by omega) (by omega)
  have t0 : (Int32.ofNat i).toNatClampNeg = i := nI_clamp (n := i) (by omega)
  have n0 : ¬ ino (Int32.ofNat i) L := i_nin (by omega) hL
  have a1 : Int32.ofNat i + 1 = Int32.ofNat (i + 1) := nI_add i 1
  have t1 : (Int32.ofNat (i + 1)).toNatClampNeg = i + 1 := nI_clamp (n := i + 1) (by omega)
  have n1 : ¬ ino (Int32.ofNat (i + 1)) L := i_nin (by omega) hL
  have a2 : Int32.ofNat i + 2 = Int32.ofNat (i + 2) := nI_add i 2
  have t2 : (Int32.ofNat (i + 2)).toNatClampNeg = i + 2 := nI_clamp (n := i + 2) (by omega)
  have n2 : ¬ ino (Int32.ofNat (i + 2)) L := i_nin (by omega) hL
  have a3 : Int32.ofNat i + 3 = Int32.ofNat (i + 3) := nI_add i 3
  have t3 : (Int32.ofNat (i + 3)).toNatClampNeg = i + 3 := nI_clamp (n := i + 3) (by omega)
  have n3 : ¬ ino (Int32.ofNat (i + 3)) L := i_nin (by omega) hL
  have a4 : Int32.ofNat i + 4 = Int32.ofNat (i + 4) := nI_add i 4
  have t4 : (Int32.ofNat (i + 4)).toNatClampNeg = i + 4 := nI_clamp (n := i + 4) (by omega)
  have n4 : ¬ ino (Int32.ofNat (i + 4)) L := i_nin (by omega) hL
  have a5 : Int32.ofNat i + 5 = Int32.ofNat (i + 5) := nI_add i 5
  have t5 : (Int32.ofNat (i + 5)).toNatClampNeg = i + 5 := nI_clamp (n := i + 5) (by omega)
  have n5 : ¬ ino (Int32.ofNat (i + 5)) L := i_nin (by omega) hL
  have a6 : Int32.ofNat i + 6 = Int32.ofNat (i + 6) := nI_add i 6
  have c0 : ¬ xs i &&& 15 = 0 := by rw [hc]; decide
  have c1 : ¬ xs i &&& 15 = 1 := by rw [hc]; decide
  have c2 : ¬ xs i &&& 15 = 2 := by rw [hc]; decide
  have c3 : ¬ xs i &&& 15 = 3 := by rw [hc]; decide
  have c4 : ¬ xs i &&& 15 = 4 := by rw [hc]; decide
  have c5 : ¬ xs i &&& 15 = 5 := by rw [hc]; decide
  have c6 : ¬ xs i &&& 15 = 6 := by rw [hc]; decide
  have c7 : ¬ xs i &&& 15 = 7 := by rw [hc]; decide
  have c8 : ¬ xs i &&& 15 = 8 := by rw [hc]; decide
  have c9 : ¬ xs i &&& 15 = 9 := by rw [hc]; decide
  have c10 : ¬ xs i &&& 15 = 10 := by rw [hc]; decide
  have c11 : ¬ xs i &&& 15 = 11 := by rw [hc]; decide
  have c12 : ¬ xs i &&& 15 = 12 := by rw [hc]; decide
  have c13 : ¬ xs i &&& 15 = 13 := by rw [hc]; decide
  have hth := fun h => e_thrown' (L := L) (xs := xs) hd h
  refine ⟨x, RL_cut (j := 69) (cut := [23, 909, 936]) ?_, hx2⟩
  unfold lsI
  rw [show mLaw = 269 from rfl, q_Law_law_23]
  simp only [hL4, chk_ff, if_neg hc0, t0, if_neg n0, if_neg c0, if_neg c1, if_neg c2, if_neg c3, if_neg c4, if_neg c5, if_neg c6, if_neg c7, if_neg c8, if_neg c9, if_neg c10, if_neg c11, if_neg c12, if_neg c13, if_pos hc, a1, t1, if_neg n1, a2, t2, if_neg n2, a3, t3, if_neg n3, a4, t4, if_neg n4, a5, t5, if_neg n5, a6, onS]
  rw [q1]
  simp only [mclI]
  rw [q2]
  simp only [hth, q3, if_true]
  by_cases hk : k = 0
  · rw [if_pos hk, j_cmp (q4 hk)]
    exact RL_fgt lll_I hx1
  · rw [if_neg hk]
    exact RL_fgt lll_I hx1
theorem lp_15 (hL : L ≤ 3072) (hd : 1 ≤ d) (hi : i + 6 ≤ L) (hc : xs i &&& 15 = 15) (hp : prI (mP L xs) d I I' 267 268 [iv (xs (i + 1)), iv (xs (i + 2))]) (hI : I h) (next : ∀ h2, I' h2 → ∃ x, RL (mP L xs) d mLaw 23 (lsI (i + 6)) [] h2 = some x ∧ Q x) : ∃ x, RL (mP L xs) d mLaw 23 (lsI i) [] h = some x ∧ Q x := by
  obtain ⟨k, b, h1, h2, q1, q2, q3, q4, hI'⟩ := hp h hI
  simp only [List.cons_append, List.nil_append] at q1
  obtain ⟨x, hx1, hx2⟩ := next h2 hI'
  have hL4 : Nat.beq L 4000 = false := beq_ne (by omega)
  have hc0 : ¬ (Int32.ofNat L - 6 < Int32.ofNat i) := by rw [i_sub6 (by omega)]; exact nI_nlt (a := L - 6) (b := i) (by omega) (by omega)
  have t0 : (Int32.ofNat i).toNatClampNeg = i := nI_clamp (n := i) (by omega)
  have n0 : ¬ ino (Int32.ofNat i) L := i_nin (by omega) hL
  have a1 : Int32.ofNat i + 1 = Int32.ofNat (i + 1) := nI_add i 1
  have t1 : (Int32.ofNat (i + 1)).toNatClampNeg = i + 1 := nI_clamp (n := i + 1) (by omega)
  have n1 : ¬ ino (Int32.ofNat (i + 1)) L := i_nin (by omega) hL
  have a2 : Int32.ofNat i + 2 = Int32.ofNat (i + 2) := nI_add i 2
  have t2 : (Int32.ofNat (i + 2)).toNatClampNeg = i + 2 := nI_clamp (n := i + 2) (by omega)
  have n2 : ¬ ino (Int32.ofNat (i + 2)) L := i_nin (by omega) hL
  have a3 : Int32.ofNat i + 3 = Int32.ofNat (i + 3) := nI_add i 3
  have t3 : (Int32.ofNat (i + 3)).toNatClampNeg = i + 3 := nI_clamp (n := i + 3) (by omega)
  have n3 : ¬ ino (Int32.ofNat (i + 3)) L := i_nin (by omega) hL
  have a4 : Int32.ofNat i + 4 = Int32.ofNat (i + 4) := nI_add i 4
  have t4 : (Int32.ofNat (i + 4)).toNatClampNeg = i + 4 := nI_clamp (n := i + 4) (by omega)
  have n4 : ¬ ino (Int32.ofNat (i + 4)) L := i_nin (by omega) hL
  have a5 : Int32.ofNat i + 5 = Int32.ofNat (i + 5) := nI_add i 5
  have t5 : (Int32.ofNat (i + 5)).toNatClampNeg = i + 5 := nI_clamp (n := i + 5) (by omega)
  have n5 : ¬ ino (Int32.ofNat (i + 5)) L := i_nin (by omega) hL
  have a6 : Int32.ofNat i + 6 = Int32.ofNat (i + 6) := nI_add i 6
  have c0 : ¬ xs i &&& 15 = 0 := by rw [hc]; decide
  have c1 : ¬ xs i &&& 15 = 1 := by rw [hc]; decide
  have c2 : ¬ xs i &&& 15 = 2 := by rw [hc]; decide
  have c3 : ¬ xs i &&& 15 = 3 := by rw [hc]; decide
  have c4 : ¬ xs i &&& 15 = 4 := by rw [hc]; decide
  have c5 : ¬ xs i &&& 15 = 5 := by rw [hc]; decide
  have c6 : ¬ xs i &&& 15 = 6 := by rw [hc]; decide
  have c7 : ¬ xs i &&& 15 = 7 := by rw [hc]; decide
  have c8 : ¬ xs i &&& 15 = 8 := by rw [hc]; decide
  have c9 : ¬ xs i &&& 15 = 9 := by rw [hc]; decide
  have c10 : ¬ xs i &&& 15 = 10 := by rw [hc]; decide
  have c11 : ¬ xs i &&& 15 = 11 := by rw [hc]; decide
  have c12 : ¬ xs i &&& 15 = 12 := by rw [hc]; decide
  have c13 : ¬ xs i &&& 15 = 13 := by rw [hc]; decide
  have c14 : ¬ xs i &&& 15 = 14 := by rw [hc]; decide
  have hth := fun h => e_thrown' (L := L) (xs := xs) hd h
  refine ⟨x, RL_cut (j := 69) (cut := [23, 909, 936]) ?_, hx2⟩
  unfold lsI
  rw [show mLaw = 269 from rfl, q_Law_law_23]
  simp only [hL4, chk_ff, if_neg hc0, t0, if_neg n0, if_neg c0, if_neg c1, if_neg c2, if_neg c3, if_neg c4, if_neg c5, if_neg c6, if_neg c7, if_neg c8, if_neg c9, if_neg c10, if_neg c11, if_neg c12, if_neg c13, if_neg c14, if_pos hc, a1, t1, if_neg n1, a2, t2, if_neg n2, a3, t3, if_neg n3, a4, t4, if_neg n4, a5, t5, if_neg n5, a6, onS]
  rw [q1]
  simp only [mclI]
  rw [q2]
  simp only [hth, q3, if_true]
  by_cases hk : k = 0
  · rw [if_pos hk, j_cmp (q4 hk)]
    exact RL_fgt lll_I hx1
  · rw [if_neg hk]
    exact RL_fgt lll_I hx1
end LoopC
/-- what the sixteen pairs of calls must do, at place i of the script -/
def Pub (L : Nat) (xs : Nat → Int32) (d i : Nat) (I I' : MH → Prop) : Prop :=
  (xs i &&& 15 = 0 → prF (mP L xs) d I I' [iv (xs (i + 1)), iv (xs (i + 2)), iv (xs (i + 3)), iv (xs (i + 4)), iv (xs (i + 5))]) ∧
  (xs i &&& 15 = 1 → prI (mP L xs) d I I' 94 130 [iv (xs (i + 1))]) ∧
  (xs i &&& 15 = 2 → prI (mP L xs) d I I' 133 134 [iv (xs (i + 1))]) ∧
  (xs i &&& 15 = 3 → prI (mP L xs) d I I' 136 137 [iv (xs (i + 1))]) ∧
  (xs i &&& 15 = 4 → prO (mP L xs) d I I') ∧
  (xs i &&& 15 = 5 → prI (mP L xs) d I I' 145 150 [iv (xs (i + 1)), iv (xs (i + 2))]) ∧
  (xs i &&& 15 = 6 → prI (mP L xs) d I I' 152 153 [iv (xs (i + 1))]) ∧
  (xs i &&& 15 = 7 → prI (mP L xs) d I I' 209 237 [iv (xs (i + 1))]) ∧
  (xs i &&& 15 = 8 → prI (mP L xs) d I I' 240 241 [iv (xs (i + 1)), iv (xs (i + 2))]) ∧
  (xs i &&& 15 = 9 → prI (mP L xs) d I I' 244 246 [iv (xs (i + 1)), iv (xs (i + 2))]) ∧
  (xs i &&& 15 = 10 → prI (mP L xs) d I I' 249 250 [iv (xs (i + 1)), iv (xs (i + 2))]) ∧
  (xs i &&& 15 = 11 → prI (mP L xs) d I I' 252 253 [iv (xs (i + 1))]) ∧
  (xs i &&& 15 = 12 → prB (mP L xs) d I I' 256 257 [iv (xs (i + 1))]) ∧
  (xs i &&& 15 = 13 → prB (mP L xs) d I I' 259 260 [iv (xs (i + 1)), iv (if xs (i + 2) = 0 then 0 else 1)]) ∧
  (xs i &&& 15 = 14 → prI (mP L xs) d I I' 263 264 [iv (xs (i + 1))]) ∧
  (xs i &&& 15 = 15 → prI (mP L xs) d I I' 267 268 [iv (xs (i + 1)), iv (xs (i + 2))])
theorem loop_any {L : Nat} {xs : Nat → Int32} {d i : Nat} {h : MH} {I I' : MH → Prop} {Q : MO → Prop} (hL : L ≤ 3072) (hd : 1 ≤ d) (hi : i + 6 ≤ L) (hp : Pub L xs d i I I') (hI : I h) (next : ∀ h2, I' h2 → ∃ x, RL (mP L xs) d mLaw 23 (lsI (i + 6)) [] h2 = some x ∧ Q x) : ∃ x, RL (mP L xs) d mLaw 23 (lsI i) [] h = some x ∧ Q x := by
  obtain ⟨p0, p1, p2, p3, p4, p5, p6, p7, p8, p9, p10, p11, p12, p13, p14, p15⟩ := hp
  obtain ⟨j, hj, e⟩ := pk_andE (xs i) (m := 15) 4 (by decide)
  have hj16 : j < 16 := hj
  match j, hj16, e with
  | 0, _, e => exact lp_0 hL hd hi e (p0 e) hI next
  | 1, _, e => exact lp_1 hL hd hi e (p1 e) hI next
  | 2, _, e => exact lp_2 hL hd hi e (p2 e) hI next
  | 3, _, e => exact lp_3 hL hd hi e (p3 e) hI next
  | 4, _, e => exact lp_4 hL hd hi e (p4 e) hI next
  | 5, _, e => exact lp_5 hL hd hi e (p5 e) hI next
  | 6, _, e => exact lp_6 hL hd hi e (p6 e) hI next
  | 7, _, e => exact lp_7 hL hd hi e (p7 e) hI next
  | 8, _, e => exact lp_8 hL hd hi e (p8 e) hI next
  | 9, _, e => exact lp_9 hL hd hi e (p9 e) hI next
  | 10, _, e => exact lp_10 hL hd hi e (p10 e) hI next
  | 11, _, e => exact lp_11 hL hd hi e (p11 e) hI next
  | 12, _, e => exact lp_12 hL hd hi e (p12 e) hI next
  | 13, _, e => exact lp_13 hL hd hi e (p13 e) hI next
  | 14, _, e => exact lp_14 hL hd hi e (p14 e) hI next
  | 15, _, e => exact lp_15 hL hd hi e (p15 e) hI next
  | n + 16, z, _ => omega
theorem loop_end {L : Nat} {xs : Nat → Int32} {d i : Nat} {h : MH} (hL : L ≤ 3072) (hi : L < i + 6) (hi2 : i ≤ 3072) : RL (mP L xs) d mLaw 23 (lsI i) [] h = some (.inl (some (iv 1)), h) := by
  have hL4 : Nat.beq L 4000 = false := beq_ne (by omega)
  have hc0 : Int32.ofNat L - 6 < Int32.ofNat i := by
    by_cases h6 : 6 ≤ L
    · rw [i_sub6 h6]
      exact nI_lt (a := L - 6) (b := i) (by omega) (by omega)
    · have h0 : (0 : Int32) ≤ Int32.ofNat i := nI_pos' (n := i) (by omega)
      have h1 : Int32.ofNat L - 6 < 0 := by
        have h5 : L < 6 := by omega
        match L, h5 with
        | 0, _ => decide
        | 1, _ => decide
        | 2, _ => decide
        | 3, _ => decide
        | 4, _ => decide
        | 5, _ => decide
      have z1 := Int32.lt_iff_toInt_lt.mp h1
      have z2 := Int32.le_iff_toInt_le.mp h0
      exact Int32.lt_iff_toInt_lt.mpr (by omega)
  refine RL_cut (j := 69) (cut := [23, 909, 936]) ?_
  unfold lsI
  rw [show mLaw = 269 from rfl, q_Law_law_23]
  simp only [hL4, chk_ff, if_pos hc0]
theorem loop_all {L : Nat} {xs : Nat → Int32} {d : Nat} {I : Nat → MH → Prop} (hL : L ≤ 3072) (hd : 1 ≤ d) (hp : ∀ i, i + 6 ≤ L → Pub L xs d i (I i) (I (i + 6))) : ∀ (n i : Nat) (h : MH), i ≤ 3072 → L < i + 6 * n + 6 → I i h → ∃ x, RL (mP L xs) d mLaw 23 (lsI i) [] h = some x ∧ x.1 = .inl (some (iv 1)) ∧ ∃ j, j ≤ 3072 ∧ I j x.2
  | 0, i, h, hi, hn, hI => ⟨_, loop_end hL (by omega) hi, rfl, i, hi, hI⟩
  | n + 1, i, h, hi, hn, hI => by
    by_cases h6 : i + 6 ≤ L
    · obtain ⟨x, x1, x2, j, x3, x5⟩ := loop_any (Q := fun x => x.1 = .inl (some (iv 1)) ∧ ∃ j, j ≤ 3072 ∧ I j x.2) hL hd h6 (hp i h6) hI (fun h2 hI2 => loop_all hL hd hp n (i + 6) h2 (by omega) (by omega) hI2)
      exact ⟨x, x1, x2, j, x3, x5⟩
    · exact ⟨_, loop_end hL (by omega) hi, rfl, i, hi, hI⟩

theorem goal_of {L : Nat} {xs : Nat → Int32} {d : Nat} {I : Nat → MH → Prop} (hL : L ≤ 3072) (hd : 1 ≤ d) (hd2 : d ≤ 2000) (hp : ∀ i, i + 6 ≤ L → Pub L xs d i (I i) (I (i + 6))) (h0 : I 0 hS0) (hb : ∀ j h, j ≤ 3072 → I j h → h.2.2.2.2.1 ≤ 601024 ∧ h.2.2.2.2.2 ≤ 7293034) : mGoal L xs := by
  obtain ⟨x, x1, x2, j, x3, x4⟩ := loop_all hL hd hp 512 0 hS0 (by omega) (by omega) h0
  obtain ⟨n0, hn⟩ := mlim_spec x1
  exact ⟨d, n0, n0, x, hd2, hn n0 n0 (Nat.le_refl _) (Nat.le_refl _), x2, hb j x.2 x3 x4⟩
