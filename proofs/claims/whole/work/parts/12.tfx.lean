/-! ===== facts of the tables, each by the kernel ===== -/
theorem rg_obj : ∀ r, r < rNo → rCls r < 13 → 10 ≤ r ∧ rTag r = 0 ∧ (vwCl[rCls r]?).map (fun q => q.2.2) = some (regL r) := by decide +kernel
theorem rg_arr : ∀ r, r < rNo → 10 ≤ r → rTag r ≠ 0 → rTag r ≤ 5 := by decide +kernel
theorem rg_lt {r : Nat} (h : rCls r ≠ 97 ∨ rTag r ≠ 0) : r < rNo := by
  rcases Nat.lt_or_ge r rNo with q | q
  · exact q
  · exfalso
    have hb : Nat.blt r 100 = false := by
      cases hb : Nat.blt r 100 with
      | false => rfl
      | true =>
        have h1 : r + 1 ≤ 100 := Nat.le_of_ble_eq_true hb
        have h2 : rNo = 100 := rfl
        omega
    rcases h with h | h
    · apply h; unfold rCls; rw [hb]; rfl
    · apply h; unfold rTag; rw [hb]; rfl
def ftOK (q : Nat × Nat × Nat × Nat × Nat) : Bool := match vwCl[q.2.2.1]? with
  | some r => decide (q.2.2.2.1 < r.2.2) && decide (lw_tbl[q.2.2.2.2]? = some (Cond.fieldLink (clsN q.1) q.2.1 (r.2.1 q.2.2.2.1).1 (r.2.1 q.2.2.2.1).2.1 (r.2.1 q.2.2.2.1).2.2.1))
  | none => decide (q.2.2.1 = 14) && (bif Nat.beq q.2.2.2.1 0 then decide (lw_tbl[q.2.2.2.2]? = some (Cond.fieldLink (clsN q.1) q.2.1 "java/lang/String" "value" "[B")) else decide (q.2.2.2.1 = 1 ∧ lw_tbl[q.2.2.2.2]? = some (Cond.fieldLink (clsN q.1) q.2.1 "java/lang/String" "coder" "B")))
theorem fTab_ok : fTab.all ftOK = true := by decide +kernel
def ulOK (ci : Nat) : Bool := match vwCl[ci]? with
  | some r => (List.range r.2.2).all fun k => decide (lw_tbl[(uPos.getD ci []).getD k 0]? = some (u_lay r.1 r.2.1 k)) && (match parseFieldDescriptor (r.2.1 k).2.2.1 with | some .int => decide (fKd ci k = 0) | some .boolean => decide (fKd ci k = 1) | some (.object _) => decide (fKd ci k = 2) | some (.array _) => decide (fKd ci k = 2) | _ => false)
  | none => false
theorem ul_ok : ∀ ci, ci < 13 → ulOK ci = true := by decide +kernel
def cOK (q : Nat × Nat × Nat × Nat) : Bool := decide (q.2.2.1 < mNo) && decide (lw_tbl[q.2.2.2]? = some (Cond.methodLink (clsN q.1) q.2.1 (mNm q.2.2.1)))
theorem cTab_ok : cTab.all cOK = true := by decide +kernel
def nOK (q : Nat × Nat × Nat × Nat) : Bool := decide (q.2.2.1 < 13) && decide (lw_tbl[q.2.2.2]? = some (Cond.classLink (clsN q.1) q.2.1 (clsN q.2.2.1)))
theorem nTab_ok : nTab.all nOK = true := by decide +kernel
def iOK (ci : Nat) : Bool := match vwCl[ci]?, iPos[ci]? with
  | some r, some q => decide (lw_tbl[q.1]? = some (Cond.instantiable r.1 r.2.2)) && decide (lw_tbl[q.2]? = some (Cond.initialized r.1)) && decide (r.1 = clsN ci) && decide (rCls (ci + 10) = ci)
  | _, _ => false
theorem i_ok : ∀ ci, ci < 13 → iOK ci = true := by decide +kernel
theorem nm_all : ∀ (ci : Nat) (q : vw_C), vwCl[ci]? = some q → ∀ a, a < q.2.2 → ∀ b, b < q.2.2 → a ≠ b → (q.2.1 a).2.1 ≠ (q.2.1 b).2.1
  | 0, q, h => by cases h; exact nmX0
  | 1, q, h => by cases h; exact nmX1
  | 2, q, h => by cases h; exact nmX2
  | 3, q, h => by cases h; exact nmX3
  | 4, q, h => by cases h; exact nmX4
  | 5, q, h => by cases h; exact nmX5
  | 6, q, h => by cases h; exact nmX6
  | 7, q, h => by cases h; exact nmX7
  | 8, q, h => by cases h; exact nmX8
  | 9, q, h => by cases h; exact nmX9
  | 10, q, h => by cases h; exact nmX10
  | 11, q, h => by cases h; exact nmX11
  | 12, q, h => by cases h; exact nmX12
  | n + 13, q, h => by simp [vwCl] at h
