/-! ===== promise 2: feed ===== -/
theorem i8_id (x : Int8) : x.toInt32.toInt8 = x := by simp
def bC (a s : Int32) : Int32 := (a >>> (s &&& 31)).toInt8.toInt32
section Feed
variable {L : Nat} {xs : Nat → Int32} {d : Nat}
theorem pf_it {a s : Int32} {h : MH} {n : Nat} (hs : ¬ s < 0) (hn : h.1 21 0 4 = nI n) (h4 : n < 4000) {x : MO}
    (hq : RL (mP L xs) d 12 3 [some (rv 21 (some 0)), some (iv a), some (iv (s + (-8)))] [] (m3 (m3 h.1 40 0 n (bC a s)) 21 0 4 (nI (n + 1)), h.2) = some x) : RL (mP L xs) d 12 3 [some (rv 21 (some 0)), some (iv a), some (iv s)] [] h = some x := by
  refine RL_cut (j := 25) (cut := [3]) ?_
  have e1 : (nI n).toNatClampNeg = n := nI_clamp (by omega)
  have e2 : ¬ ino (nI n) 4000 := nI_in (by omega) (by decide)
  have e3 : nI n < 4000 := nI_lt (a := n) (b := 4000) (by omega) (by decide)
  rw [q_House_putFour_3, if_neg hs, hn, if_pos e3, if_neg e2, e1]
  have e4 : ((a >>> (s &&& 31)).toInt8.toInt32).toInt8.toInt32 = bC a s := by
    rw [i8_id]
    rfl
  rw [e4]
  have e5 : m3 h.1 40 0 n (bC a s) 21 0 4 = nI n := hn
  rw [e5, nI_1]
  exact hq
theorem pf_end {a s : Int32} {h : MH} (hs : s < 0) : RL (mP L xs) d 12 3 [some (rv 21 (some 0)), some (iv a), some (iv s)] [] h = some (.inl none, h) := by
  refine RL_cut (j := 25) (cut := [3]) ?_
  rw [q_House_putFour_3, if_pos hs]
/-- four bytes more -/
theorem e_putFour (a : Int32) (h : MH) {n : Nat} (hn : h.1 21 0 4 = nI n) (h4 : n + 4 ≤ 4000) : ∃ h' : MH, EL (mP L xs) (d + 1) 12 [rv 21 (some 0), iv a] h = some (.inl none, h') ∧ h'.1 21 0 4 = nI (n + 4) ∧ h'.1 40 0 n = bC a 24 ∧ h'.1 40 0 (n + 1) = bC a 16 ∧ h'.1 40 0 (n + 2) = bC a 8 ∧ h'.1 40 0 (n + 3) = bC a 0 ∧ (∀ k, k < n → h'.1 40 0 k = h.1 40 0 k) ∧ h'.2 = h.2 := by
  refine ⟨(m3 (m3 (m3 (m3 (m3 (m3 (m3 (m3 h.1 40 0 n (bC a 24)) 21 0 4 (nI (n + 1))) 40 0 (n + 1) (bC a 16)) 21 0 4 (nI (n + 2))) 40 0 (n + 2) (bC a 8)) 21 0 4 (nI (n + 3))) 40 0 (n + 3) (bC a 0)) 21 0 4 (nI (n + 4)), h.2), ?_, rfl, ?_, ?_, ?_, ?_, ?_, rfl⟩
  · refine EL_by (j := 2) (cut := [3]) ?_
    rw [show minit 12 [rv 21 (some 0), iv a] = [some (rv 21 (some 0)), some (iv a), none] from rfl, q_House_putFour_0]
    refine pf_it (n := n) (by decide) hn (by omega) ?_
    refine pf_it (s := 16) (n := n + 1) (by decide) rfl (by omega) ?_
    refine pf_it (s := 8) (n := n + 2) (by decide) rfl (by omega) ?_
    refine pf_it (s := 0) (n := n + 3) (by decide) rfl (by omega) ?_
    exact pf_end (by decide)
  · simp [m3]
  · simp [m3]
  · simp [m3]
  · simp [m3]
  · intro k hk
    have a0 : k ≠ n := by omega
    have a1 : k ≠ n + 1 := by omega
    have a2 : k ≠ n + 2 := by omega
    have a3 : k ≠ n + 3 := by omega
    simp [m3, a0, a1, a2, a3]
end Feed
