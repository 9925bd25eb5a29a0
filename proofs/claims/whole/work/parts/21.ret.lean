/-! ===== soundness: Math, the ends of a method ===== -/
theorem xLk_ok {own idx w : Nat} (h : xLk own idx = some w) : (w = 0 ∧ Cond.methodLink (clsN own) idx Lib.Math.max.name ∈ gTs) ∨ (w = 1 ∧ Cond.methodLink (clsN own) idx Lib.Math.min.name ∈ gTs) ∨ (w = 2 ∧ Cond.methodLink (clsN own) idx Lib.Math.abs.name ∈ gTs) := by
  have hall : xTab.all (fun q => match q.2.2.1 with
    | 0 => decide (lw_tbl[q.2.2.2]? = some (Cond.methodLink (clsN q.1) q.2.1 Lib.Math.max.name))
    | 1 => decide (lw_tbl[q.2.2.2]? = some (Cond.methodLink (clsN q.1) q.2.1 Lib.Math.min.name))
    | 2 => decide (lw_tbl[q.2.2.2]? = some (Cond.methodLink (clsN q.1) q.2.1 Lib.Math.abs.name))
    | _ => false) = true := by decide +kernel
  unfold xLk at h
  cases hf : xTab.find? (fun q => Nat.beq q.1 own && Nat.beq q.2.1 idx) with
  | none => rw [hf] at h; cases h
  | some q =>
    rw [hf] at h
    obtain ⟨hm, hb⟩ := find_mem hf
    obtain ⟨e1, e2⟩ := beq2 hb
    obtain ⟨o, i, w', ps⟩ := q
    simp only [Option.map_some, Option.some.injEq] at h
    subst h
    have hk := List.all_eq_true.mp hall _ hm
    simp only at e1 e2 hk
    subst e1; subst e2
    match w', hk with
    | 0, hk => exact Or.inl ⟨rfl, gTs_in (of_decide_eq_true hk) rfl⟩
    | 1, hk => exact Or.inr (Or.inl ⟨rfl, gTs_in (of_decide_eq_true hk) rfl⟩)
    | 2, hk => exact Or.inr (Or.inr ⟨rfl, gTs_in (of_decide_eq_true hk) rfl⟩)
    | n + 3, hk => cases hk
theorem mathW : (Cond.static Lib.Math.max.name ∈ gTs ∧ Cond.code Lib.Math.max.name Lib.Math.max.code 2 (some .int) ∈ gTs) ∧ (Cond.static Lib.Math.min.name ∈ gTs ∧ Cond.code Lib.Math.min.name Lib.Math.min.code 2 (some .int) ∈ gTs) ∧ (Cond.static Lib.Math.abs.name ∈ gTs ∧ Cond.code Lib.Math.abs.name Lib.Math.abs.code 1 (some .int) ∈ gTs) ∧ Cond.initialized "java/lang/Math" ∈ gTs :=
  ⟨⟨List.mem_filter.mpr ⟨by decide +kernel, rfl⟩, List.mem_filter.mpr ⟨by decide +kernel, rfl⟩⟩, ⟨List.mem_filter.mpr ⟨by decide +kernel, rfl⟩, List.mem_filter.mpr ⟨by decide +kernel, rfl⟩⟩, ⟨List.mem_filter.mpr ⟨by decide +kernel, rfl⟩, List.mem_filter.mpr ⟨by decide +kernel, rfl⟩⟩, List.mem_filter.mpr ⟨by decide +kernel, rfl⟩⟩
section Snd
variable {p : Program} {l : Launch} {e : Env} {R : Room} {s : State} {mi : MethodId} {args : Array Value} {below : List Frame} {meth : Method} {c : Code} {Q : State → Prop} {D : va_G} {B : Nat} {fv : Value} {P : MP} {m n1 n2 : Nat} {ρ : Nat → Nat → Nat} {pc : Nat} {ls : List (Option MV)} {st : List MV} {h : MH}
theorem sw_max (C : mCx p l s mi args meth c m) (hf : fv = .null ∨ ∃ a, fv = .ref a) {idx w : Nat} {x y : Int32} (hl : xLk (mOw m) idx = some w) (hw : w = 0 ∨ w = 1) (hcat : mcat st ≤ 8) (hRf : 1 ≤ R.frames) (hRl : 21 ≤ R.locals) (hRc : h.2.2.2.2.1 ≤ n1 + R.cells) (hRs : h.2.2.2.2.2 ≤ n2 + R.slots) (hdg : decode (mBy m) pc = .ok (.invokestatic idx, 3))
    (K : SW p l e R s mi args below meth c Q D B fv P m n1 n2 ρ (pc + 3) ls (iv (if w = 0 then (if x < y then y else x) else (if y < x then y else x)) :: st) h) : SW p l e R s mi args below meth c Q D B fv P m n1 n2 ρ pc ls (iv y :: iv x :: st) h := by
  intro H locs lr hD hS hL hs hl' h1 h2
  have hs' := (List.forall_mem_cons.mp (List.forall_mem_cons.mp hs).2).2
  have kk := K H locs lr hD hS hL (List.forall_mem_cons.mpr ⟨trivial, hs'⟩) hl' h1 h2
  have hc8 := mcat_map (ρ := ρ) hf st
  rcases xLk_ok hl with ⟨rfl, hk⟩ | ⟨rfl, hk⟩ | ⟨rfl, hk⟩
  · exact va_mmax C.1 C.2.1 (C.2.2.1.trans hL.1.1.symm) C.2.2.2.1 (C.2.2.2.2.1 _ hk) (C.2.2.2.2.1 _ mathW.1.1) (C.2.2.2.2.1 _ mathW.2.2.2) (C.2.2.2.2.1 _ mathW.1.2) hRf (by rw [hc8]; omega) (by omega) (by omega) hdg kk
  · exact va_mmin C.1 C.2.1 (C.2.2.1.trans hL.1.1.symm) C.2.2.2.1 (C.2.2.2.2.1 _ hk) (C.2.2.2.2.1 _ mathW.2.1.1) (C.2.2.2.2.1 _ mathW.2.2.2) (C.2.2.2.2.1 _ mathW.2.1.2) hRf (by rw [hc8]; omega) (by omega) (by omega) hdg kk
  · omega
theorem sw_abs (C : mCx p l s mi args meth c m) (hf : fv = .null ∨ ∃ a, fv = .ref a) {idx : Nat} {x : Int32} (hl : xLk (mOw m) idx = some 2) (hcat : mcat st ≤ 8) (hRf : 1 ≤ R.frames) (hRl : 21 ≤ R.locals) (hRc : h.2.2.2.2.1 ≤ n1 + R.cells) (hRs : h.2.2.2.2.2 ≤ n2 + R.slots) (hdg : decode (mBy m) pc = .ok (.invokestatic idx, 3))
    (K : SW p l e R s mi args below meth c Q D B fv P m n1 n2 ρ (pc + 3) ls (iv (if 0 ≤ x then x else 0 - x) :: st) h) : SW p l e R s mi args below meth c Q D B fv P m n1 n2 ρ pc ls (iv x :: st) h := by
  intro H locs lr hD hS hL hs hl' h1 h2
  have hs' := (List.forall_mem_cons.mp hs).2
  have kk := K H locs lr hD hS hL (List.forall_mem_cons.mpr ⟨trivial, hs'⟩) hl' h1 h2
  have hc8 := mcat_map (ρ := ρ) hf st
  rcases xLk_ok hl with ⟨z, hk⟩ | ⟨z, hk⟩ | ⟨-, hk⟩
  · cases z
  · cases z
  · exact va_mabs C.1 C.2.1 (C.2.2.1.trans hL.1.1.symm) C.2.2.2.1 (C.2.2.2.2.1 _ hk) (C.2.2.2.2.1 _ mathW.2.2.1.1) (C.2.2.2.2.1 _ mathW.2.2.2) (C.2.2.2.2.1 _ mathW.2.2.1.2) hRf (by rw [hc8]; omega) (by omega) (by omega) hdg kk
/-- an int goes back to the caller, narrowed to the method's type -/
theorem W_nret {H : Heap} {locs : List Loc} {cells slots : Nat} {Qc : Array Value → State → Outcome → State → Prop} {free : Addr → Prop} {v v' : Int32} {ty : FieldType} (C : mCx p l s mi args meth c m) (hr : mRt m = some ty) (hn : narrow ty (.int v) = .int v')
    (hq : ∀ t : State, t.heap = H → s.WarmedH t.vm → Qc args s (.returned (some (.int v'))) t) (hf : ∀ q ∈ locs, free q.base) {lr : Array Slot} {rest : List Value} (hdg : decode (mBy m) pc = .ok (.ireturn, 1)) : W p l e R s mi args below meth c H locs cells slots (MQ below Qc args s cells slots free) (F0 mi pc lr (.int v :: rest)) := by
  intro T hT X
  have hlocks : meth.locks = false := C.2.2.2.2.2.2.1
  have hr' : meth.sig.returnType = some ty := C.2.2.2.2.2.1.trans hr
  obtain ⟨fs, hret, hrun, hended, hW, hframe⟩ := X.leave (v := some (.int v')) (fun h => by rw [hr'] at h; cases h)
  have hmeth' : T.vm.method? mi = some meth := X.method'
  have hexec := C.1
  have hb := C.2.1
  refine ⟨T.setFrames fs, ?_, .returned (some (.int v')), hrun, hended, hq _ hT hW, locs, ⟨⟨_, rfl⟩, hW, hframe⟩, hf⟩
  jvm_step X.here [X.here.top, hexec, hb, hdg, hmeth', hr', hn]
  (try refine ⟨rfl, ?_⟩); (try refine ⟨rfl, ?_⟩)
  first | (intro acts; rw [hret _ acts rfl rfl rfl]) | rw [hret _ _ rfl rfl rfl]
  exact Steps.refl _
end Snd
