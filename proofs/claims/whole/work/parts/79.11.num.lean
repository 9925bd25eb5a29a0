/-! ===== ints that are small numbers ===== -/
theorem bm {x : Int} (h1 : -2147483648 ≤ x) (h2 : x < 2147483648) : x.bmod (2 ^ 32) = x := by
  rw [Int.bmod_def]
  omega
theorem i_eq {a b : Int32} (h : a.toInt = b.toInt) : a = b := Int32.toInt_inj.mp h
theorem i_lt {a b : Int32} : (a < b) = (a.toInt < b.toInt) := propext Int32.lt_iff_toInt_lt
theorem i_le {a b : Int32} : (a ≤ b) = (a.toInt ≤ b.toInt) := propext Int32.le_iff_toInt_le
theorem ng_toInt {n : Nat} (h : n < 2 ^ 31) : (-(nI n)).toInt = -(n : Int) := by
  rw [Int32.toInt_neg, nI_toInt h]
  exact bm (by omega) (by omega)
theorem nI_div {a b : Nat} (ha : a < 2 ^ 31) (hb : 0 < b) (hb2 : b < 2 ^ 31) : nI a / nI b = nI (a / b) := by
  apply i_eq
  have h1 : a / b ≤ a := Nat.div_le_self a b
  have h2 : (a : Int).tdiv b = ((a / b : Nat) : Int) := by
    rw [Int.tdiv_eq_ediv_of_nonneg (by omega)]
    rfl
  rw [Int32.toInt_div, nI_toInt ha, nI_toInt hb2, nI_toInt (by omega), h2]
  clear h2
  generalize a / b = q at h1 ⊢
  exact bm (by omega) (by omega)
theorem nI_sub {a b : Nat} (h : b ≤ a) : nI a - nI b = nI (a - b) := by
  have e : nI a = nI (a - b) + nI b := by rw [nI_add]; congr 1; omega
  rw [e, Int32.add_sub_cancel]
theorem nI_min {a b : Nat} (ha : a < 2 ^ 31) (hb : b < 2 ^ 31) : (if nI a < nI b then nI b else nI a) = nI (max a b) := by
  by_cases h : a < b
  · rw [if_pos (nI_lt h hb), Nat.max_eq_right (by omega)]
  · rw [if_neg (nI_nlt (by omega) ha), Nat.max_eq_left (by omega)]
/-- a number of that size, or its opposite -/
def Sz (x : Int32) (s : Nat) : Prop := x = nI s ∨ x = -(nI s)
theorem sz_abs {x : Int32} {s : Nat} (h : Sz x s) (hs : s < 2 ^ 31) : (if 0 ≤ x then x else 0 - x) = nI s := by
  rcases h with h | h
  · rw [h, if_pos (nI_pos' hs)]
  · by_cases z : s = 0
    · subst z; rw [h]; decide
    · have h1 : ¬ 0 ≤ x := by
        rw [h, i_le, ng_toInt hs]
        show ¬ (0 : Int) ≤ _
        omega
      rw [if_neg h1, h]
      apply i_eq
      rw [Int32.toInt_sub, ng_toInt hs, nI_toInt hs]
      show ((0 : Int) - -(s : Int)).bmod (2 ^ 32) = s
      rw [bm (by omega) (by omega)]
      omega
theorem sz_size {x : Int32} {s : Nat} (h : Sz x s) (hs : s < 2 ^ 31) : (if x < 0 then -x else x) = nI s := by
  rcases h with h | h
  · rw [h, if_neg (nI_pos hs)]
  · by_cases z : s = 0
    · subst z; rw [h]; decide
    · have h1 : x < 0 := by
        rw [h, i_lt, ng_toInt hs]
        show _ < (0 : Int)
        omega
      rw [if_pos h1, h, Int32.neg_neg]
theorem sz_mul {x : Int32} {s m : Nat} (h : Sz x s) : Sz (x * nI m) (s * m) := by
  rcases h with h | h
  · left; rw [h, nI_mul]
  · right; rw [h, Int32.neg_mul, nI_mul]
theorem sz_0 {x : Int32} {s : Nat} (h : Sz x s) (hs : s < 2 ^ 31) : (x = 0) = (s = 0) := by
  rcases h with h | h
  · rw [h]
    exact propext ((nI_eq (a := s) (b := 0) hs (by decide)))
  · refine propext ⟨fun z => ?_, fun z => by subst z; rw [h]; decide⟩
    have : (-(nI s)).toInt = 0 := by rw [← h, z]; rfl
    rw [ng_toInt hs] at this
    omega
