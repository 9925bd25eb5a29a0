/-! ===== what holds at the law's start ===== -/
def nFl : List Cond := flatC (Jvm.Cond.and given_1 narrow_1)
def strT (own idx : Nat) : Term := Term.string (clsN own) idx
/-- what the Statement says of a text -/
def strC (q : Nat × Nat × Nat) : List Cond := [Cond.exactly (strT q.1 q.2.1) "java/lang/String", Cond.eq (.field (strT q.1 q.2.1) "java/lang/String" "coder" "B") (.int 0), Cond.arrayOf (.field (strT q.1 q.2.1) "java/lang/String" "value" "[B") .byte, Cond.eq (.length (.field (strT q.1 q.2.1) "java/lang/String" "value" "[B")) (.int (Int32.ofNat (strL q.2.2)))] ++
  (List.range (strL q.2.2)).map (fun i => Cond.eq (.elem (.field (strT q.1 q.2.1) "java/lang/String" "value" "[B") (.int (Int32.ofNat i))) (.int (strB q.2.2 i)))
theorem str_seg : (nFl.drop sLo).take sNn = sOrd.flatMap strC := by decide +kernel
theorem str_ord : ∀ q ∈ sTab, q ∈ sOrd := by decide +kernel
theorem str_said {q : Nat × Nat × Nat} (hq : q ∈ sTab) {w : Cond} (hw : w ∈ strC q) : w ∈ nFl := List.mem_of_mem_drop (List.mem_of_mem_take (by rw [str_seg]; exact List.mem_flatMap.mpr ⟨q, str_ord q hq, hw⟩))
theorem str_ref : sTab.all (fun q => lw_tbl.any (fun w => match w with | .stringRef o k _ => decide (o = clsN q.1) && Nat.beq k q.2.1 | _ => false)) = true := by decide +kernel
theorem str_one : ∀ j, j < strs.length → ∃ q ∈ sTab, q.2.2 = j := by decide +kernel
theorem str_un : ∀ q ∈ sTab, ∀ z ∈ sTab, q.2.2 = z.2.2 → q = z := by decide +kernel
theorem str_len : ∀ j, j < strs.length → strL j < 2 ^ 31 := by decide +kernel
def rowC (r : Nat) : List Cond := [Cond.arrayOf (.static "FairHouse$Ride" (stN r) "[I") .int, Cond.eq (.length (.static "FairHouse$Ride" (stN r) "[I")) (.int (Int32.ofNat (regL r)))] ++ (List.range (regL r)).map (fun i => Cond.eq (.elem (.static "FairHouse$Ride" (stN r) "[I") (.int (Int32.ofNat i))) (.int (tabB r i)))
theorem row_said : ∀ r, 4 ≤ r → r ≤ 6 → (rowC r).all (fun w => nFl.elem w) = true ∧ lw_tbl.elem (Cond.laysStatic "FairHouse$Ride" (stN r) "[I") = true := by
  intro r h1 h2
  match r, h1, h2 with
  | 4, _, _ => exact ⟨by decide +kernel, by decide +kernel⟩
  | 5, _, _ => exact ⟨by decide +kernel, by decide +kernel⟩
  | 6, _, _ => exact ⟨by decide +kernel, by decide +kernel⟩
theorem stat_said : lw_tbl.elem (Cond.initialized "FairHouse$Ride") = true ∧ (lw_tbl.elem (Cond.laysStatic "java/lang/String" "COMPACT_STRINGS" "Z") = true ∧ lw_tbl.elem (Cond.initialized "java/lang/String") = true ∧ nFl.elem (Cond.eq (.static "java/lang/String" "COMPACT_STRINGS" "Z") (.int 1)) = true) ∧
    (lw_tbl.elem (Cond.laysStatic "jdk/internal/util/Preconditions" "SIOOBE_FORMATTER" "Ljava/util/function/BiFunction;") = true ∧ lw_tbl.elem (Cond.initialized "jdk/internal/util/Preconditions") = true ∧ nFl.elem (Cond.isRef (.static "jdk/internal/util/Preconditions" "SIOOBE_FORMATTER" "Ljava/util/function/BiFunction;")) = true) ∧
    (lw_tbl.elem (Cond.initialized Jvm.Bundle.tN) = true ∧ (lw_tbl.elem (Cond.laysStatic Jvm.Bundle.tN "UNASSIGNED_STACK" Jvm.Bundle.steD) = true ∧ nFl.elem (Cond.isRef (.static Jvm.Bundle.tN "UNASSIGNED_STACK" Jvm.Bundle.steD)) = true) ∧ (lw_tbl.elem (Cond.laysStatic Jvm.Bundle.tN "SUPPRESSED_SENTINEL" Jvm.Bundle.listD) = true ∧ nFl.elem (Cond.isRef (.static Jvm.Bundle.tN "SUPPRESSED_SENTINEL" Jvm.Bundle.listD)) = true)) := by
  refine ⟨by decide +kernel, ⟨by decide +kernel, by decide +kernel, by decide +kernel⟩, ⟨by decide +kernel, by decide +kernel, by decide +kernel⟩, by decide +kernel, ⟨by decide +kernel, by decide +kernel⟩, by decide +kernel, by decide +kernel⟩
theorem nc_said : ∀ a, a < 4 → ∀ b, b < 4 → 1 ≤ a → 1 ≤ b → a ≠ b → nFl.elem (Cond.not (.castable (excN a) (excN b))) = true := by decide +kernel
theorem strC_in {q : Nat × Nat × Nat} : Cond.exactly (strT q.1 q.2.1) "java/lang/String" ∈ strC q ∧ Cond.eq (.field (strT q.1 q.2.1) "java/lang/String" "coder" "B") (.int 0) ∈ strC q ∧ Cond.arrayOf (.field (strT q.1 q.2.1) "java/lang/String" "value" "[B") .byte ∈ strC q ∧ Cond.eq (.length (.field (strT q.1 q.2.1) "java/lang/String" "value" "[B")) (.int (Int32.ofNat (strL q.2.2))) ∈ strC q ∧
    ∀ i, i < strL q.2.2 → Cond.eq (.elem (.field (strT q.1 q.2.1) "java/lang/String" "value" "[B") (.int (Int32.ofNat i))) (.int (strB q.2.2 i)) ∈ strC q := by
  unfold strC
  refine ⟨List.mem_append_left _ (by simp), List.mem_append_left _ (by simp), List.mem_append_left _ (by simp), List.mem_append_left _ (by simp), fun i hi => List.mem_append_right _ (List.mem_map.mpr ⟨i, List.mem_range.mpr hi, rfl⟩)⟩
section St
variable {s : State} {args : Array Value}
theorem xArr_of {t n : Nat} {ty : FieldType} {f : Nat → Int32} {A : Nat → Prop} (h : va_T ty t n (fun j => .int (f j)) A s s.heap) : xArr s s.heap t ty n f ∧ t < s.heap.size := by
  obtain ⟨cell, a1, a2, a3, a4, a5, a6, -⟩ := h
  exact ⟨⟨cell, a1, a2, a3, ⟨a4, a5⟩, a6⟩, (Array.getElem?_eq_some_iff.mp a1).1⟩
theorem str_at (hn : ∀ w ∈ nFl, w.before args s = true) (ht : ∀ w ∈ lw_tbl, w.before args s = true) {q : Nat × Nat × Nat} (hq : q ∈ sTab) (hj : q.2.2 < strs.length) : ∃ aK aV : Nat, va_OF "java/lang/String" "value" "[B" (.ref aV) aK (fun q => s.heap.size ≤ q) s s.heap ∧ va_OF "java/lang/String" "coder" "B" (.int 0) aK (fun q => s.heap.size ≤ q) s s.heap ∧ xArr s s.heap aV .byte (strL q.2.2) (strB q.2.2) ∧ aV < s.heap.size ∧
    (∃ cell : Cell, s.heap[aK]? = some cell ∧ cell.vm.isStatics = false ∧ s.vm.findClass "java/lang/String" = some cell.cls) ∧ ∃ tx : String, vk_R (clsN q.1) q.2.1 tx aK s := by
  obtain ⟨c1, c2, c3, c4, c5⟩ := strC_in (q := q)
  obtain ⟨adK, adV, ⟨hS, -⟩, hev⟩ := vk_Sof (args := args) (s := s) (N := 1) (tm := fun _ => strT q.1 q.2.1) (len := [strL q.2.2]) (byt := [strs.getD q.2.2 []]) (A := fun q => s.heap.size ≤ q)
    (fun i hi => by have : i = 0 := by omega
                    subst this; exact str_len _ hj)
    (fun i _ => hn _ (str_said hq c1)) (fun i _ => hn _ (str_said hq c2)) (fun i _ => hn _ (str_said hq c3))
    (fun i hi => by have : i = 0 := by omega
                    subst this; exact hn _ (str_said hq c4))
    (fun i hi j hj2 => by have : i = 0 := by omega
                          subst this; exact hn _ (str_said hq (c5 j hj2)))
    (fun i j h1 h2 h3 => by omega) (fun a ha => Nat.not_le.mpr ha)
  obtain ⟨o1, o2, o3, o4⟩ := hS 0 (by omega)
  have h0 := hev 0 (by omega)
  obtain ⟨cell, k1, k2, k3, -⟩ := o1
  obtain ⟨x1, x2⟩ := xArr_of (f := strB q.2.2) o4
  refine ⟨adK 0, adV 0, o3, o2, x1, x2, ⟨cell, k1, k2, k3⟩, ?_⟩
  have hr := List.all_eq_true.mp str_ref q hq
  obtain ⟨w, hw, hw2⟩ := List.any_eq_true.mp hr
  match w, hw, hw2 with
  | .stringRef o k tx, hw, hw2 =>
    rw [Bool.and_eq_true] at hw2
    have e1 : o = clsN q.1 := of_decide_eq_true hw2.1
    have e2 := Nat.eq_of_beq_eq_true hw2.2
    subst e1; subst e2
    exact ⟨tx, vk_R.of (ht _ hw) h0⟩
theorem row_st (hn : ∀ w ∈ nFl, w.before args s = true) (ht : ∀ w ∈ lw_tbl, w.before args s = true) {r : Nat} (h4 : 4 ≤ r) (h6 : r ≤ 6) : ∃ a, va_Z "FairHouse$Ride" (stN r) "[I" (.ref a) (fun q => s.heap.size ≤ q) s s.heap ∧ xArr s s.heap a .int (regL r) (tabB r) ∧ a < s.heap.size := by
  obtain ⟨r1, r2⟩ := row_said r h4 h6
  have hin : ∀ w ∈ rowC r, w.before args s = true := fun w hw => hn w (List.mem_of_elem_eq_true (List.all_eq_true.mp r1 w hw))
  obtain ⟨a, ha, hT⟩ := va_Tof (args := args) (s := s) (tm := .static "FairHouse$Ride" (stN r) "[I") (ty := .int) (N := regL r) (f := fun j => .int (tabB r j)) (A := fun q => s.heap.size ≤ q) (by have := regL_small r; omega) (hin _ (by unfold rowC; exact List.mem_append_left _ (by simp))) (va_eqt (hin _ (by unfold rowC; exact List.mem_append_left _ (by simp)))) (fun j hj => va_eqt (hin _ (by unfold rowC; exact List.mem_append_right _ (List.mem_map.mpr ⟨j, List.mem_range.mpr hj, rfl⟩)))) (fun a ha => Nat.not_le.mpr ha)
  obtain ⟨x1, x2⟩ := xArr_of hT
  exact ⟨a, va_Zof (ht _ (List.mem_of_elem_eq_true r2)) (ht _ (List.mem_of_elem_eq_true stat_said.1)) ha (fun a ha => Nat.not_le.mpr ha), x1, x2⟩
theorem ext_start {b L : Nat} {xs : Nat → Int32} (hn : ∀ w ∈ nFl, w.before args s = true) (ht : ∀ w ∈ lw_tbl, w.before args s = true) (hx : va_X b L xs s s.heap) : ∃ (D : va_G) (fv : Value) (ρ : Nat → Nat → Nat), ρ 1 0 = b ∧ ∀ P : MP, P.2 = (L, xs) ∨ P.2.1 = 4000 → mExt D s.heap.size fv P ρ s s.heap := by
  have hg : ∀ w ∈ gTs, w.before args s = true := fun w hw => ht w (List.mem_filter.mp hw).1
  have hD : ∀ ci : Nat, ∃ z : ClassId × (Nat → Nat), ∀ q : vw_C, vwCl[ci]? = some q → u_Kn s q.1 q.2.1 q.2.2 z.1 z.2 := by
    intro ci
    cases hv : vwCl[ci]? with
    | none => exact ⟨(0, fun _ => 0), fun q hq => by cases hq⟩
    | some q =>
      obtain ⟨q', hq', hinst, -⟩ := iOK_at (List.getElem?_eq_some_iff.mp hv).1
      cases Option.some.inj (hv.symm.trans hq')
      obtain ⟨cC, iS, hk⟩ := u_known hg (ul_in hv) (hg _ hinst)
      exact ⟨(cC, iS), fun q2 hq2 => by cases Option.some.inj hq2; exact hk⟩
  obtain ⟨fD, hfD⟩ := Classical.skolem.mp hD
  have hR : ∀ r : Nat, ∃ a : Nat, 4 ≤ r → r ≤ 6 → va_Z "FairHouse$Ride" (stN r) "[I" (.ref a) (fun q => s.heap.size ≤ q) s s.heap ∧ xArr s s.heap a .int (regL r) (tabB r) ∧ a < s.heap.size := by
    intro r
    by_cases h4 : 4 ≤ r
    · by_cases h6 : r ≤ 6
      · obtain ⟨a, ha⟩ := row_st hn ht h4 h6
        exact ⟨a, fun _ _ => ha⟩
      · exact ⟨0, fun _ z => absurd z h6⟩
    · exact ⟨0, fun z => absurd z h4⟩
  obtain ⟨fR, hfR⟩ := Classical.skolem.mp hR
  have hT : ∀ j : Nat, ∃ z : Nat × Nat, j < strs.length → ∀ q ∈ sTab, q.2.2 = j → va_OF "java/lang/String" "value" "[B" (.ref z.2) z.1 (fun q => s.heap.size ≤ q) s s.heap ∧ va_OF "java/lang/String" "coder" "B" (.int 0) z.1 (fun q => s.heap.size ≤ q) s s.heap ∧ xArr s s.heap z.2 .byte (strL j) (strB j) ∧ z.2 < s.heap.size ∧
      (∃ cell : Cell, s.heap[z.1]? = some cell ∧ cell.vm.isStatics = false ∧ s.vm.findClass "java/lang/String" = some cell.cls) ∧ ∃ tx : String, vk_R (clsN q.1) q.2.1 tx z.1 s := by
    intro j
    by_cases hj : j < strs.length
    · obtain ⟨q, hq, rfl⟩ := str_one j hj
      obtain ⟨aK, aV, hh⟩ := str_at hn ht hq hj
      exact ⟨(aK, aV), fun _ q2 hq2 he => by cases str_un q2 hq2 q hq he; exact hh⟩
    · exact ⟨(0, 0), fun z => absurd z hj⟩
  obtain ⟨fT, hfT⟩ := Classical.skolem.mp hT
  obtain ⟨s1, ⟨s2, s3, s4⟩, ⟨s5, s6, s7⟩, s8, ⟨s9, s10⟩, s11, s12⟩ := stat_said
  have hA : ∀ a : Nat, a < s.heap.size → ¬ s.heap.size ≤ a := fun a ha => Nat.not_le.mpr ha
  obtain ⟨fv, hfv, hz⟩ : ∃ fv : Value, (fv = .null ∨ ∃ a, fv = .ref a) ∧ va_Z "jdk/internal/util/Preconditions" "SIOOBE_FORMATTER" "Ljava/util/function/BiFunction;" fv (fun q => s.heap.size ≤ q) s s.heap := by
    rcases va_Zqof (ht _ (List.mem_of_elem_eq_true s5)) (ht _ (List.mem_of_elem_eq_true s6)) (hn _ (List.mem_of_elem_eq_true s7)) hA with z | ⟨t, z⟩
    · exact ⟨.null, Or.inl rfl, z⟩
    · exact ⟨.ref t, Or.inr ⟨t, rfl⟩, z⟩
  refine ⟨(fun ci => (fD ci).1, fun ci => (fD ci).2), fv, fun r o => if r = 1 then b else if r = 2 then (fT o).1 else if r = 3 then (fT o).2 else fR r, rfl, fun P hP => ?_⟩
  obtain ⟨scr, z1, z2, z3, z4, z5⟩ := hx
  refine ⟨fun ci q hq => hfD ci q hq, fun h4 => ?_, fun r h4 h6 => ?_, fun j hj => ?_, fun q hq => ?_, va_Zof (ht _ (List.mem_of_elem_eq_true s2)) (ht _ (List.mem_of_elem_eq_true s3)) (va_eqt (hn _ (List.mem_of_elem_eq_true s4))) hA, ⟨hz, hfv⟩,
    vx_Zqof (ht _ (List.mem_of_elem_eq_true s9)) (ht _ (List.mem_of_elem_eq_true s8)) (hn _ (List.mem_of_elem_eq_true s10)) hA, vx_Zqof (ht _ (List.mem_of_elem_eq_true s11)) (ht _ (List.mem_of_elem_eq_true s8)) (hn _ (List.mem_of_elem_eq_true s12)) hA, fun w hw => ?_, fun a b h1 h2 h3 h4 h5 => va_Nc.of (hn _ (List.mem_of_elem_eq_true (nc_said a (by omega) b (by omega) h1 h3 h5)))⟩
  · have hP2 : P.2 = (L, xs) := hP.resolve_right h4
    rw [hP2]
    exact ⟨⟨scr, z1, z2, z3, ⟨Nat.le_of_eq z4.symm, by rw [z4]⟩, z5⟩, (Array.getElem?_eq_some_iff.mp z1).1⟩
  · have e : (if r = 1 then b else if r = 2 then (fT 0).1 else if r = 3 then (fT 0).2 else fR r) = fR r := by rw [if_neg (by omega), if_neg (by omega), if_neg (by omega)]
    simp only [e]
    exact hfR r h4 h6
  · obtain ⟨q, hq, rfl⟩ := str_one j hj
    obtain ⟨y1, y2, y3, y4, y5, -⟩ := hfT q.2.2 hj q hq rfl
    exact ⟨y1, y2, y3, y4, y5⟩
  · obtain ⟨-, -, -, -, -, y6⟩ := hfT q.2.2 (sTab_lt q hq) q hq rfl
    exact y6
  · have hm := (List.mem_filter.mp hw)
    have h9 := ht w hm.1
    match w, hm.2, h9 with
    | .declares x, _, h9 => exact va_any rfl h9
    | .castable C T, _, h9 => exact va_any rfl h9
    | .arrayOver (.object C), _, h9 => exact h9
end St
