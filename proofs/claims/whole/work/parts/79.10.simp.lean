/-! ===== rows for simp: calls, reads through writes ===== -/
theorem clI {v : Int32} {h : MH} {f : Int32 → MH → MX} {g : Nat → MH → MX} : mclI (some (.inl (some (.inl v)), h)) f g = f v h := rfl
theorem clIx {e : Nat} {h : MH} {f : Int32 → MH → MX} {g : Nat → MH → MX} : mclI (some (.inr e, h)) f g = g e h := rfl
theorem clV {h : MH} {f : MH → MX} {g : Nat → MH → MX} : mclV (some (.inl none, h)) f g = f h := rfl
theorem clVx {e : Nat} {h : MH} {f : MH → MX} {g : Nat → MH → MX} : mclV (some (.inr e, h)) f g = g e h := rfl
theorem clR {r : Nat} {o : Option Nat} {h : MH} {f : Option Nat → MH → MX} {g : Nat → MH → MX} : mclR (some (.inl (some (.inr (.inl (r, o)))), h)) r f g = f o h := if_pos rfl
theorem clRx {r e : Nat} {h : MH} {f : Option Nat → MH → MX} {g : Nat → MH → MX} : mclR (some (.inr e, h)) r f g = g e h := rfl
theorem clI_ite {c : Prop} [Decidable c] {A B : MX} {f : Int32 → MH → MX} {g : Nat → MH → MX} : mclI (if c then A else B) f g = if c then mclI A f g else mclI B f g := by split <;> rfl
theorem clV_ite {c : Prop} [Decidable c] {A B : MX} {f : MH → MX} {g : Nat → MH → MX} : mclV (if c then A else B) f g = if c then mclV A f g else mclV B f g := by split <;> rfl
theorem clR_ite {c : Prop} [Decidable c] {r : Nat} {A B : MX} {f : Option Nat → MH → MX} {g : Nat → MH → MX} : mclR (if c then A else B) r f g = if c then mclR A r f g else mclR B r f g := by split <;> rfl
theorem onS_s {j : Nat} {f : Nat → MX} : onS (some j) f = f j := rfl
/-- both ways give a value -/
theorem ite_val {c : Prop} [Decidable c] {a b : Int32} {h : MH} : (if c then (some (.inl (some (iv a)), h) : MX) else some (.inl (some (iv b)), h)) = some (.inl (some (iv (if c then a else b))), h) := by split <;> rfl
theorem ite_hp {c : Prop} [Decidable c] {a b : MI} {h : MR × ML × (Nat → Nat) × Nat × Nat} : (if c then (some (.inl none, (a, h)) : MX) else some (.inl none, (b, h))) = some (.inl none, (if c then a else b, h)) := by split <;> rfl
/-- a read beside a write -/
theorem m3_eq {α : Type} {f : Nat → Nat → Nat → α} {r o i : Nat} {v : α} : m3 f r o i v r o i = v := by unfold m3; rw [if_pos rfl, if_pos rfl, if_pos rfl]
theorem m3_r {α : Type} {f : Nat → Nat → Nat → α} {r o i r' o' i' : Nat} {v : α} (h : r' ≠ r) : m3 f r o i v r' o' i' = f r' o' i' := by unfold m3; rw [if_neg h]
theorem m3_o {α : Type} {f : Nat → Nat → Nat → α} {r o i r' o' i' : Nat} {v : α} (h : o' ≠ o) : m3 f r o i v r' o' i' = f r' o' i' := by
  unfold m3
  by_cases e : r' = r
  · rw [if_pos e, if_neg h]
  · rw [if_neg e]
theorem m3_i {α : Type} {f : Nat → Nat → Nat → α} {r o i r' o' i' : Nat} {v : α} (h : i' ≠ i) : m3 f r o i v r' o' i' = f r' o' i' := by
  unfold m3
  by_cases e : r' = r
  · by_cases e2 : o' = o
    · rw [if_pos e, if_pos e2, if_neg h]
    · rw [if_pos e, if_neg e2]
  · rw [if_neg e]
theorem nin {n N : Nat} (h : n < N) (hN : N < 2 ^ 31) : ¬ ino (nI n) N := nI_in h hN
/-- the order of places of the writes -/
theorem m3_comm {α : Type} {f : Nat → Nat → Nat → α} {r o i r' o' i' : Nat} {v w : α} (h : r ≠ r' ∨ o ≠ o' ∨ i ≠ i') : m3 (m3 f r o i v) r' o' i' w = m3 (m3 f r' o' i' w) r o i v := by
  funext a b c
  unfold m3
  by_cases h1 : a = r <;> by_cases h2 : b = o <;> by_cases h3 : c = i <;> by_cases h4 : a = r' <;> by_cases h5 : b = o' <;> by_cases h6 : c = i' <;> simp_all
