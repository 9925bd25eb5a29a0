/-! ===== what stays true between the calls ===== -/
/-- the tapes -/
def R_tape (f u : MI) : Prop := ∃ n : Nat, n ≤ 4000 ∧ f 21 0 4 = nI n ∧ u 22 0 3 = nI n ∧ ∀ k, k < n → (∃ b : Nat, b < 256 ∧ u 43 0 k = nI b) ∧ f 40 0 k = (u 43 0 k).toInt8.toInt32
/-- the latest fault; whether a fair stands -/
def R_flt (f u : MI) : Prop := f 21 0 6 = u 22 0 12 ∧ f 21 0 7 = u 22 0 13 ∧ f 21 0 5 = u 22 0 19 ∧ (f 21 0 5 = 0 ∨ f 21 0 5 = 1)
def RelF (RF : MI → MR → MI → Prop) (f : MI) (g : MR) (u : MI) : Prop := R_tape f u ∧ R_flt f u ∧ (f 21 0 5 = 1 → RF f g u)
/-- cells and slots: 7 cells and 77 slots for an int of the script; what is on the tape is paid ahead -/
def Res (i : Nat) (h : MH) : Prop := ∃ t : Nat, h.1 22 0 3 = nI t ∧ t ≤ 4000 ∧ h.2.2.2.2.1 + 2 * t ≤ 177 + 7 * i ∧ h.2.2.2.2.2 + 22 * t ≤ 108421 + 77 * i
def Iv (RF : MI → MR → MI → Prop) (i : Nat) (h : MH) : Prop := RelF RF (cN h.1) (gN h.2.1) (rN h.1) ∧ Res i h
theorem Iv_bnd {RF : MI → MR → MI → Prop} {i : Nat} {h : MH} (hi : i ≤ 3072) (hI : Iv RF i h) : h.2.2.2.2.1 ≤ 601024 ∧ h.2.2.2.2.2 ≤ 7293034 := by
  obtain ⟨-, t, -, -, h1, h2⟩ := hI
  exact ⟨by omega, by omega⟩
theorem rN_thr (f : MI) (v : Int32) : rN (m3 f 22 0 90 v) = rN f := by
  funext r o i
  unfold rN
  cases hr : rs r && pl r i with
  | false => rfl
  | true =>
    cases hb : Nat.beq r 22 && Nat.beq i 90 with
    | true => rfl
    | false =>
      show m3 f 22 0 90 v r o i = f r o i
      unfold m3
      by_cases e1 : r = 22
      · by_cases e2 : i = 90
        · subst e1; subst e2
          cases hb
        · by_cases e3 : o = 0
          · rw [if_pos e1, if_pos e3, if_neg e2]
          · rw [if_pos e1, if_neg e3]
      · rw [if_neg e1]
theorem cN_thr (f : MI) (v : Int32) : cN (m3 f 22 0 90 v) = cN f := by
  funext r o i
  unfold cN
  cases hr : cs r && pl r i with
  | false => rfl
  | true =>
    show m3 f 22 0 90 v r o i = f r o i
    unfold m3
    by_cases e1 : r = 22
    · subst e1
      cases hr
    · rw [if_neg e1]
theorem Res_step {i : Nat} {h h' : MH} (hr : Res i h) (h1 : h'.1 22 0 3 = h.1 22 0 3) (h2 : h'.2.2.2.2.1 ≤ h.2.2.2.2.1 + 1) (h3 : h'.2.2.2.2.2 ≤ h.2.2.2.2.2 + 6) : Res (i + 6) h' := by
  obtain ⟨t, a1, a2, a3, a4⟩ := hr
  exact ⟨t, h1.trans a1, a2, by omega, by omega⟩
/-- a pair of calls that changes nothing but what was thrown -/
theorem Iv_ro {RF : MI → MR → MI → Prop} {i : Nat} {h h2 : MH} {v : Int32} (hI : Iv RF i h) (h1 : h2.1 = m3 h.1 22 0 90 v) (hg : h2.2.1 = h.2.1) (hc : h2.2.2.2.2.1 ≤ h.2.2.2.2.1 + 1) (hs : h2.2.2.2.2.2 ≤ h.2.2.2.2.2 + 6) : Iv RF (i + 6) h2 := by
  refine ⟨?_, Res_step hI.2 (by rw [h1]; rfl) hc hs⟩
  rw [h1, hg, rN_thr, cN_thr]
  exact hI.1
section Fault
variable {L : Nat} {xs : Nat → Int32} {d i : Nat} {RF : MI → MR → MI → Prop}
/-! ===== promise 4: fault ===== -/
theorem p_fault (a : Int32) : prI (mP L xs) (d + 2) (Iv RF i) (Iv RF (i + 6)) 133 134 [iv a] := by
  intro h hI
  obtain ⟨f1, f2, -, -⟩ := hI.1.2.1
  have f1' : h.1 21 0 6 = h.1 22 0 12 := f1
  have f2' : h.1 21 0 7 = h.1 22 0 13 := f2
  by_cases h0 : a = 0
  · subst h0
    refine ⟨0, h.1 22 0 12, (h.1, h.2.1, m3 h.2.2.1 99 0 0 (h.1 22 0 12).toInt64, h.2.2.2), (m3 h.1 22 0 90 0, h.2.1, m3 h.2.2.1 99 0 0 (h.1 22 0 12).toInt64, h.2.2.2), ?_, ?_, rfl, fun _ => rfl, Iv_ro hI rfl rfl (Nat.le_succ _) (Nat.le_add_right _ _)⟩
    · have hc : EL (mP L xs) (d + 1) 132 [rv 21 (some 0), iv 0] h = some (.inl (some (iv (h.1 21 0 6))), h) := EL_by ((q_House_fault_0 L xs _ _ 0 h).trans (if_pos rfl))
      refine EL_by (j := 10) (cut := []) ?_
      rw [show minit 133 (rv 21 (some 0) :: ([iv 0] ++ [rv 99 (some 0)])) = [some (rv 21 (some 0)), some (iv 0), some (rv 99 (some 0)), none] from rfl, q_Law_fault_0, hc, f1']
      rfl
    · refine EL_mono (Nat.le_succ (d + 1)) (EL_by (j := 17) (cut := [10]) ?_)
      rw [show minit 134 [rv 22 (some 0), iv 0] = [some (rv 22 (some 0)), some (iv 0)] from rfl, q_Ref_fault_0, if_pos rfl]
      exact RL_cut (j := 12) (cut := [10]) (q_Ref_fault_10 L xs _ _ 0 _)
  · by_cases h1 : a = 1
    · subst h1
      refine ⟨0, h.1 22 0 13, (h.1, h.2.1, m3 h.2.2.1 99 0 0 (h.1 22 0 13).toInt64, h.2.2.2), (m3 h.1 22 0 90 0, h.2.1, m3 h.2.2.1 99 0 0 (h.1 22 0 13).toInt64, h.2.2.2), ?_, ?_, rfl, fun _ => rfl, Iv_ro hI rfl rfl (Nat.le_succ _) (Nat.le_add_right _ _)⟩
      · have hc : EL (mP L xs) (d + 1) 132 [rv 21 (some 0), iv 1] h = some (.inl (some (iv (h.1 21 0 7))), h) := EL_by ((q_House_fault_0 L xs _ _ 1 h).trans ((if_neg h0).trans (if_pos rfl)))
        refine EL_by (j := 10) (cut := []) ?_
        rw [show minit 133 (rv 21 (some 0) :: ([iv 1] ++ [rv 99 (some 0)])) = [some (rv 21 (some 0)), some (iv 1), some (rv 99 (some 0)), none] from rfl, q_Law_fault_0, hc, f2']
        rfl
      · refine EL_mono (Nat.le_succ (d + 1)) (EL_by (j := 17) (cut := [10]) ?_)
        rw [show minit 134 [rv 22 (some 0), iv 1] = [some (rv 22 (some 0)), some (iv 1)] from rfl, q_Ref_fault_0, if_neg h0, if_pos rfl]
        exact RL_cut (j := 12) (cut := [10]) (q_Ref_fault_10 L xs _ _ 1 _)
    · refine ⟨1, 0, (h.1, h.2.1, h.2.2.1, m1 h.2.2.2.1 0 (h.2.2.2.1 0 + 1), h.2.2.2.2.1 + 1, h.2.2.2.2.2 + 6), (m3 h.1 22 0 90 1, h.2.1, h.2.2.1, m1 h.2.2.2.1 0 (h.2.2.2.1 0 + 1), h.2.2.2.2.1 + 1, h.2.2.2.2.2 + 6), ?_, ?_, rfl, fun z => absurd z (by decide), Iv_ro hI rfl rfl (Nat.le_refl _) (Nat.le_refl _)⟩
      · have hc : EL (mP L xs) (d + 1) 132 [rv 21 (some 0), iv a] h = some (.inr 3, (h.1, h.2.1, h.2.2.1, h.2.2.2.1, h.2.2.2.2.1 + 1, h.2.2.2.2.2 + 6)) := EL_by ((q_House_fault_0 L xs _ _ a h).trans ((if_neg h0).trans (if_neg h1)))
        refine EL_by (j := 10) (cut := []) ?_
        rw [show minit 133 (rv 21 (some 0) :: ([iv a] ++ [rv 99 (some 0)])) = [some (rv 21 (some 0)), some (iv a), some (rv 99 (some 0)), none] from rfl, q_Law_fault_0, hc]
        rfl
      · refine EL_mono (Nat.le_succ (d + 1)) (EL_by (j := 17) (cut := [10]) ?_)
        rw [show minit 134 [rv 22 (some 0), iv a] = [some (rv 22 (some 0)), some (iv a)] from rfl, q_Ref_fault_0, if_neg h0, if_neg h1]
        rfl
end Fault
