/-! ===== the mini machine's heap beside the JVM's ===== -/
def xCn (r : Nat) : Nat := match r with
  | 1 => 1
  | 2 => strs.length
  | 3 => strs.length
  | 4 => 1
  | 5 => 1
  | 6 => 1
  | 7 => 1
  | _ => 0
/-- how many objects a region has, those ahead of the law's start among them -/
def cn (C : Nat → Nat) (r : Nat) : Nat := bif Nat.blt 9 r || Nat.beq r 0 then C r else xCn r
/-- a reference: region 7 is a static whose object nobody asks -/
def mrf (ρ : Nat → Nat → Nat) (fv : Value) (r : Nat) (o : Option Nat) : Value := match o with
  | none => .null
  | some j => bif Nat.beq r 7 then fv else .ref (ρ r j)
def mval (ρ : Nat → Nat → Nat) (fv : Value) (v : MV) : Value := match v with
  | .inl x => .int x
  | .inr (.inl q) => mrf ρ fv q.1 q.2
  | .inr (.inr x) => .long x
def okr (C : Nat → Nat) (r : Nat) (o : Option Nat) : Prop := ∀ j, o = some j → j < cn C r
def okv (C : Nat → Nat) (v : MV) : Prop := match v with
  | .inr (.inl q) => okr C q.1 q.2
  | _ => True
def tagT (r : Nat) : FieldType := match rTag r with
  | 1 => .int
  | 2 => .byte
  | 3 => .boolean
  | 4 => .long
  | _ => .object (clsN (rCls (rTgt r 0)))
/-- what field k of object o of region r holds -/
def mfv (ρ : Nat → Nat → Nat) (fv : Value) (P : MP) (h : MH) (r o k : Nat) : Value := bif Nat.beq (fKd (rCls r) k) 2 then mrf ρ fv (rTgt r k) (rdR P h.2.1 r o k) else .int (h.1 r o k)
/-- what place k of array o of region r holds -/
def mav (ρ : Nat → Nat → Nat) (fv : Value) (P : MP) (h : MH) (r o k : Nat) : Value := match rTag r with
  | 4 => .long (h.2.2.1 r o k)
  | 5 => mrf ρ fv (rTgt r k) (rdR P h.2.1 r o k)
  | _ => .int (h.1 r o k)
def mcell (D : va_G) (fv : Value) (P : MP) (ρ : Nat → Nat → Nat) (h : MH) (s : State) (H : Heap) (r o : Nat) : Prop := match rTag r with
  | 0 => t_OB (ρ r o) (D.1 (rCls r)) (regL r) (D.2 (rCls r)) H (mfv ρ fv P h r o)
  | _ => ∃ cA : ClassId, ArrOfT s cA (tagT r) ∧ va_RA s cA (tagT r) ∧ H[ρ r o]? = some (arrV cA (regL r) (mav ρ fv P h r o))
def mDyn (D : va_G) (B : Nat) (fv : Value) (P : MP) (ρ : Nat → Nat → Nat) (h : MH) (s : State) (H : Heap) : Prop :=
  (∀ r o, 10 ≤ r → o < h.2.2.2.1 r → mcell D fv P ρ h s H r o ∧ B ≤ ρ r o) ∧
  (∀ r o r' o', 10 ≤ r → o < h.2.2.2.1 r → 10 ≤ r' → o' < h.2.2.2.1 r' → ρ r o = ρ r' o' → r = r' ∧ o = o') ∧
  (∀ r o f, 10 ≤ r → o < h.2.2.2.1 r → f < regL r → okr h.2.2.2.1 (rTgt r f) (rdR P h.2.1 r o f)) ∧
  B ≤ H.size
/-- a row of whole numbers that the law finds there -/
def xArr (s : State) (H : Heap) (a : Nat) (ty : FieldType) (n : Nat) (f : Nat → Int32) : Prop := ∃ scr : Cell, H[a]? = some scr ∧ s.isArrayOf scr ty ∧ scr.vm ≠ .unknown ∧ (n ≤ scr.slots.size ∧ scr.slots.size.toInt32 = Int32.ofNat n) ∧ ∀ j : Nat, j < n → scr.slots[j]? = some (.int (f j))
def nTs : List Cond := lw_tbl.filter (fun w => match w with | .declares _ => true | .castable _ _ => true | .arrayOver (.object _) => true | _ => false)
def stN (r : Nat) : String := match r with
  | 4 => "ABILITIES_OF"
  | 5 => "NUMBER_OWNER"
  | _ => "NUMBER_MOST"
/-- what stands since before the law began -/
def mExt (D : va_G) (B : Nat) (fv : Value) (P : MP) (ρ : Nat → Nat → Nat) (s : State) (H : Heap) : Prop :=
  (∀ (ci : Nat) (q : vw_C), vwCl[ci]? = some q → u_Kn s q.1 q.2.1 q.2.2 (D.1 ci) (D.2 ci)) ∧
  (P.2.1 ≠ 4000 → xArr s H (ρ 1 0) .int P.2.1 P.2.2 ∧ ρ 1 0 < B) ∧
  (∀ r, 4 ≤ r → r ≤ 6 → va_Z "FairHouse$Ride" (stN r) "[I" (.ref (ρ r 0)) (fun q => B ≤ q) s H ∧ xArr s H (ρ r 0) .int (regL r) (tabB r) ∧ ρ r 0 < B) ∧
  (∀ j, j < strs.length → va_OF "java/lang/String" "value" "[B" (.ref (ρ 3 j)) (ρ 2 j) (fun q => B ≤ q) s H ∧ va_OF "java/lang/String" "coder" "B" (.int 0) (ρ 2 j) (fun q => B ≤ q) s H ∧ xArr s H (ρ 3 j) .byte (strL j) (strB j) ∧ ρ 3 j < B ∧
    ∃ cell : Cell, H[ρ 2 j]? = some cell ∧ cell.vm.isStatics = false ∧ s.vm.findClass "java/lang/String" = some cell.cls) ∧
  (∀ q ∈ sTab, ∃ tx : String, vk_R (clsN q.1) q.2.1 tx (ρ 2 q.2.2) s) ∧
  va_Z "java/lang/String" "COMPACT_STRINGS" "Z" (.int 1) (fun q => B ≤ q) s H ∧
  (va_Z "jdk/internal/util/Preconditions" "SIOOBE_FORMATTER" "Ljava/util/function/BiFunction;" fv (fun q => B ≤ q) s H ∧ (fv = .null ∨ ∃ a, fv = .ref a)) ∧
  vx_Zq Jvm.Bundle.tN "UNASSIGNED_STACK" Jvm.Bundle.steD (fun q => B ≤ q) s H ∧ vx_Zq Jvm.Bundle.tN "SUPPRESSED_SENTINEL" Jvm.Bundle.listD (fun q => B ≤ q) s H ∧
  (∀ w ∈ nTs, w.before #[] s = true) ∧
  (∀ a b, 1 ≤ a → a ≤ 3 → 1 ≤ b → b ≤ 3 → a ≠ b → va_Nc (excN a) (excN b) s)
/-- the locals: what is known of them -/
def lrel (ρ : Nat → Nat → Nat) (fv : Value) (nL : Nat) (ls : List (Option MV)) (lr : Array Slot) : Prop := lv_has lr nL [] ∧ ls.length = nL ∧ ∀ (i : Nat) (v : MV), ls[i]? = some (some v) → notJ v = true ∧ lr[i]? = some (Slot.val (mval ρ fv v))
theorem mval_cat {ρ : Nat → Nat → Nat} {fv : Value} (hf : fv = .null ∨ ∃ a, fv = .ref a) {v : MV} (h : notJ v = true) : (mval ρ fv v).category = 1 := by
  match v, h with
  | .inl _, _ => rfl
  | .inr (.inl (r, none)), _ => rfl
  | .inr (.inl (r, some j)), _ =>
    show (bif Nat.beq r 7 then fv else Value.ref (ρ r j)).category = 1
    cases Nat.beq r 7
    · rfl
    · rcases hf with rfl | ⟨a, rfl⟩ <;> rfl
theorem lget_at {ls : List (Option MV)} {i : Nat} {v : MV} (h : lget ls i = some v) : ls[i]? = some (some v) := by
  unfold lget at h
  match hx : ls[i]?, h with
  | some w, h => exact congrArg some h
  | none, h => nomatch h
/-- the pairs that the kit's rows speak of -/
def lprs (ρ : Nat → Nat → Nat) (fv : Value) (ls : List (Option MV)) : List (Nat × Value) := (List.range ls.length).filterMap (fun i => (lget ls i).map (fun v => (i, mval ρ fv v)))
theorem lprs_has {ρ : Nat → Nat → Nat} {fv : Value} {nL : Nat} {ls : List (Option MV)} {lr : Array Slot} (h : lrel ρ fv nL ls lr) : lv_has lr nL (lprs ρ fv ls) := by
  refine ⟨h.1.1, h.1.2.1, fun q hq => ?_⟩
  obtain ⟨i, -, hi⟩ := List.mem_filterMap.mp hq
  cases hg : lget ls i with
  | none => rw [hg] at hi; cases hi
  | some v => rw [hg] at hi; cases hi; exact (h.2.2 i v (lget_at hg)).2
theorem lprs_mem {ρ : Nat → Nat → Nat} {fv : Value} {ls : List (Option MV)} {i : Nat} {v : MV} (h : ls[i]? = some (some v)) : (i, mval ρ fv v) ∈ lprs ρ fv ls := by
  refine List.mem_filterMap.mpr ⟨i, List.mem_range.mpr (List.getElem?_eq_some_iff.mp h).1, ?_⟩
  simp [lget, h]
/-- behind a store -/
theorem lrel_set {ρ : Nat → Nat → Nat} {fv : Value} (hf : fv = .null ∨ ∃ a, fv = .ref a) {nL : Nat} {ls : List (Option MV)} {lr lr' : Array Slot} {i : Nat} {v : MV} (hv : notJ v = true) (h : lrel ρ fv nL ls lr)
    (h' : lv_has lr' nL ((i, mval ρ fv v) :: (lprs ρ fv ls).filter (fun q => !(q.1 == i) && !(q.1 + 1 == i && q.2.category == 2)))) : lrel ρ fv nL (ls.set i (some v)) lr' := by
  refine ⟨⟨h'.1, h'.2.1, fun q hq => by cases hq⟩, by rw [List.length_set]; exact h.2.1, fun j w hj => ?_⟩
  by_cases hji : j = i
  · subst hji
    have hl : j < ls.length := by
      have := (List.getElem?_eq_some_iff.mp hj).1
      rwa [List.length_set] at this
    rw [List.getElem?_set_self hl] at hj
    cases hj
    exact ⟨hv, h'.2.2 _ List.mem_cons_self⟩
  · rw [List.getElem?_set_ne (fun q => hji q.symm)] at hj
    obtain ⟨hw, hr⟩ := h.2.2 j w hj
    refine ⟨hw, h'.2.2 (j, mval ρ fv w) (List.mem_cons_of_mem _ (List.mem_filter.mpr ⟨lprs_mem hj, ?_⟩))⟩
    have hc : (mval ρ fv w).category = 1 := mval_cat hf hw
    simp [hji, hc]
