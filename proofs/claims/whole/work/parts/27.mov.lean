/-! ===== soundness: what holds of the state, moved along a call ===== -/
theorem xArr_mov {u U : State} {H H1 : Heap} {a n : Nat} {ty : FieldType} {f : Nat → Int32} (hvm : u.vm.Alike U.vm) (hq : a < H.size → H1[a]? = H[a]?) (h : xArr u H a ty n f) : xArr U H1 a ty n f := by
  obtain ⟨scr, z1, z2, z3, z4, z5⟩ := h
  exact ⟨scr, (hq (Array.getElem?_eq_some_iff.mp z1).1).trans z1, State.isArrayOf_alike hvm z2, z3, z4, z5⟩
section Mov
variable {D : va_G} {B : Nat} {fv : Value} {P : MP} {ρ ρ' : Nat → Nat → Nat} {h : MH} {s U : State} {H H1 : Heap}
theorem mcell_vm {r o : Nat} (hvm : s.vm.Alike U.vm) (hc : mcell D fv P ρ h s H r o) : mcell D fv P ρ h U H r o := by
  unfold mcell at hc ⊢
  split
  · rename_i ht
    rw [ht] at hc
    exact hc
  · rename_i ht
    split at hc
    · exact absurd ‹rTag r = 0› ht
    · obtain ⟨cA, a1, a2, a3⟩ := hc
      exact ⟨cA, arrOfT_moved hvm a1, a2.moved hvm, a3⟩
theorem mDyn_vm (hvm : s.vm.Alike U.vm) (hD : mDyn D B fv P ρ h s H) : mDyn D B fv P ρ h U H := ⟨fun r o h1 h2 => ⟨mcell_vm hvm (hD.1 r o h1 h2).1, (hD.1 r o h1 h2).2⟩, hD.2⟩
theorem nTs_warm {w : Cond} (hW : s.WarmedH U.vm) (hw : w ∈ nTs) (h : w.before #[] s = true) : w.before #[] U = true := by
  have hf := (List.mem_filter.mp hw).2
  match w, hf, h with
  | .declares x, _, h => exact va_Nw.warmD hW h
  | .castable C T, _, h => exact va_Nw.warmC hW h
  | .arrayOver (.object C), _, h => exact va_AO.moved (C := C) hW.alike h
theorem mExt_mov (hW : s.WarmedH U.vm) (hk : ∀ q, q < H.size → q < B → H1[q]? = H[q]?) (hX : mExt D B fv P ρ s H) : mExt D B fv P ρ U H1 := by
  have hvm := hW.alike
  have hk' : ∀ q : Nat, q < H.size → ¬ (B ≤ q) → H1[q]? = H[q]? := fun q h1 h2 => hk q h1 (Nat.not_le.mp h2)
  obtain ⟨x1, x2, x3, x4, x5, x6, ⟨x7, x7'⟩, x8, x9, x10, x11⟩ := hX
  refine ⟨fun ci q hq => u_Kn_moved hvm (x1 ci q hq), fun h4 => ⟨xArr_mov hvm (fun h => hk _ h (x2 h4).2) (x2 h4).1, (x2 h4).2⟩, fun r h1 h2 => ?_, fun j hj => ?_, fun q hq => ?_, (x6.kept hk').moved hvm, ⟨(x7.kept hk').moved hvm, x7'⟩, (x8.kept hk').moved hvm, (x9.kept hk').moved hvm, fun w hw => nTs_warm hW hw (x10 w hw), fun a b h1 h2 h3 h4 h5 => (x11 a b h1 h2 h3 h4 h5).moved hvm⟩
  · obtain ⟨a1, a2, a3⟩ := x3 r h1 h2
    exact ⟨(a1.kept hk').moved hvm, xArr_mov hvm (fun h => hk _ h a3) a2, a3⟩
  · obtain ⟨a1, a2, a3, a4, cell, c1, c2, c3⟩ := x4 j hj
    have hB : ¬ (B ≤ ρ 2 j) := by
      obtain ⟨cf, k, fi, f, cell2, -, -, -, -, -, hn⟩ := a1
      exact hn
    refine ⟨(a1.kept hk').moved hvm, (a2.kept hk').moved hvm, xArr_mov hvm (fun h => hk _ h a4) a3, a4, cell, (hk' _ (Array.getElem?_eq_some_iff.mp c1).1 hB).trans c1, c2, ?_⟩
    rw [hvm.findClass]
    exact c3
  · obtain ⟨tx, ht⟩ := x5 q hq
    exact ⟨tx, ht.warm hW⟩
theorem mExt_ext {C : Nat → Nat} (he : rext C ρ ρ') (hX : mExt D B fv P ρ s H) : mExt D B fv P ρ' s H := by
  have h2 := he.2
  obtain ⟨x1, x2, x3, x4, x5, x6⟩ := hX
  refine ⟨x1, by rw [h2 1 0 (by omega) (by omega)]; exact x2, fun r a b => by rw [h2 r 0 (by omega) (by omega)]; exact x3 r a b, fun j hj => by rw [h2 2 j (by omega) (by omega), h2 3 j (by omega) (by omega)]; exact x4 j hj, fun q hq => by rw [h2 2 q.2.2 (by omega) (by omega)]; exact x5 q hq, x6⟩
theorem rext_trans {C C' : Nat → Nat} {ρ'' : Nat → Nat → Nat} (hC : ∀ r, C r ≤ C' r) (h1 : rext C ρ ρ') (h2 : rext C' ρ' ρ'') : rext C ρ ρ'' :=
  ⟨fun r o ho => (h2.1 r o (Nat.lt_of_lt_of_le ho (cn_le hC r))).trans (h1.1 r o ho), fun r o a b => (h2.2 r o a b).trans (h1.2 r o a b)⟩
end Mov
/-! ===== the search of a table for who takes a throw ===== -/
/-- rows of a table in their order: t is where the first row that takes a thrown object of class 'th' goes -/
def hdOK (pl : Platform) (s₀ : State) (d : ClassId) (pc : Nat) (th : ClassId) (t : Nat) : List ExceptionTableEntry → Prop
  | [] => False
  | y :: r => (covers y pc = false ∧ hdOK pl s₀ d pc th t r) ∨ (covers y pc = true ∧ y.catchType ≠ 0 ∧ ∃ c, s₀.vm.ClassLinks pl d y.catchType c ∧ ((s₀.vm.assignable th c = true ∧ t = y.handlerPc) ∨ (s₀.vm.assignable th c = false ∧ hdOK pl s₀ d pc th t r)))
theorem hd_go {e : Env} {s₀ : State} {f : JFrame} {a : Addr} {cell : Cell} {t : Nat} (hobj : ∀ k, cell.vm ≠ .statics k) {k0 : Class} (hk0 : s₀.vm.classes[cell.cls]? = some k0) :
    ∀ (L : List ExceptionTableEntry) (S : State), s₀.WarmedH S.vm → S.heap[a]? = some cell → hdOK e.platform s₀ f.method.cls f.pc cell.cls t L →
      ∃ vm', s₀.WarmedH vm' ∧ ∀ (Q : Handler → Pre) (E : CtlPost) (b : Bool) (acts : List Action), wp (findHandler.go f a L) Q E e b acts S ↔ Q (.found t) b acts (S.setVm vm')
  | [], _, _, _, h => h.elim
  | y :: r, S, hW, hc, h => by
    rcases h with ⟨h1, h2⟩ | ⟨h1, h0, c, hl, h2⟩
    · obtain ⟨vm', w1, w2⟩ := hd_go hobj hk0 r S hW hc h2
      exact ⟨vm', w1, fun Q E b acts => (W.findHandler_go_skip h1).trans (w2 Q E b acts)⟩
    · obtain ⟨dk, _, _, kt, hd, _, _, _, _, hkt, _, hop⟩ := hl.here
      have hW2 : s₀.WarmedH (S.vm.noted f.method.cls y.catchType (.cls c)) := hW.noted hd hop (State.rightAt_cls hl)
      obtain ⟨ha, ht⟩ := (resolveClass_links e.toSetting (hW.classLinks hl)).op (op := VmOp.resolveClass f.method.cls y.catchType) rfl
      obtain ⟨k1, hk1, -⟩ := hW2.alike.2.2 _ _ hk0
      obtain ⟨k2, hk2, -⟩ := hW2.alike.2.2 _ _ hkt
      have hcov := h1
      simp only [covers] at hcov
      rcases h2 with ⟨g1, rfl⟩ | ⟨g1, g2⟩
      · have g : (S.vm.noted f.method.cls y.catchType (.cls c)).assignable cell.cls c = true := by rw [hW2.alike.assignable]; exact g1
        refine ⟨_, hW2, fun Q E b acts => ?_⟩
        simp [findHandler.go, hcov, h0, ha, ht, hc, hobj, hk1, hk2, g, VmOp.dirties, VmOp.acts]
      · have g : (S.vm.noted f.method.cls y.catchType (.cls c)).assignable cell.cls c = false := by rw [hW2.alike.assignable]; exact g1
        obtain ⟨vm', w1, w2⟩ := hd_go hobj hk0 r (S.setVm (S.vm.noted f.method.cls y.catchType (.cls c))) hW2 hc g2
        refine ⟨vm', w1, fun Q E b acts => ?_⟩
        have w3 := w2 Q E b acts
        simp [findHandler.go, hcov, h0, ha, ht, hc, hobj, hk1, hk2, g, VmOp.dirties, VmOp.acts]
        exact w3
