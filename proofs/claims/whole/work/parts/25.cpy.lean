/-! ===== soundness: arraycopy of ints, anewarray ===== -/
theorem copyW : Cond.native arraycopyName ∈ gTs ∧ Cond.static arraycopyName ∈ gTs ∧ Cond.initialized "java/lang/System" ∈ gTs := ⟨List.mem_filter.mpr ⟨by decide +kernel, rfl⟩, List.mem_filter.mpr ⟨by decide +kernel, rfl⟩, List.mem_filter.mpr ⟨by decide +kernel, rfl⟩⟩
theorem yLk_ok {own idx : Nat} (h : yLk own idx = true) : Cond.methodLink (clsN own) idx arraycopyName ∈ gTs := by
  have hall : yTab.all (fun q => decide (lw_tbl[q.2.2]? = some (Cond.methodLink (clsN q.1) q.2.1 arraycopyName))) = true := by decide +kernel
  unfold yLk at h
  obtain ⟨q, hf⟩ := Option.isSome_iff_exists.mp h
  obtain ⟨hm, hb⟩ := find_mem hf
  obtain ⟨e1, e2⟩ := beq2 hb
  obtain ⟨o, i, ps⟩ := q
  have hk := List.all_eq_true.mp hall _ hm
  simp only [decide_eq_true_eq] at hk
  simp only at e1 e2
  subst e1; subst e2
  exact gTs_in hk rfl
theorem mcp_ne {f : MI} {r o : Nat} {g : Nat → Int32} {sp dp n r' o' i' : Nat} (h : ¬ (r' = r ∧ o' = o)) : mcp f r o g sp dp n r' o' i' = f r' o' i' := by
  unfold mcp
  by_cases h1 : r' = r
  · by_cases h2 : o' = o
    · exact absurd ⟨h1, h2⟩ h
    · simp [h1, h2]
  · simp [h1]
theorem clamp_toInt {z : Int32} (hz : ¬ z < 0) : z.toInt = ((z.toNatClampNeg : Nat) : Int) := by
  have hz0 : (0 : Int) ≤ z.toInt := by
    have := Int32.not_lt.mp hz
    simpa using Int32.le_iff_toInt_le.mp this
  show z.toInt = ((z.toInt.toNat : Nat) : Int)
  omega
section Snd
variable {p : Program} {l : Launch} {e : Env} {R : Room} {s : State} {mi : MethodId} {args : Array Value} {below : List Frame} {meth : Method} {c : Code} {Q : State → Prop} {D : va_G} {B : Nat} {fv : Value} {P : MP} {m n1 n2 : Nat} {ρ : Nat → Nat → Nat} {pc : Nat} {ls : List (Option MV)} {st : List MV} {h : MH}
theorem int_row {H : Heap} {r j : Nat} (hD : mDyn D B fv P ρ h s H) (hr : 10 ≤ r) (ht : rTag r = 1) (hj : okr h.2.2.2.1 r (some j)) : j < h.2.2.2.1 r ∧ rLen P r j = regL r ∧ rdI P h.1 r j = h.1 r j ∧ ∃ cA : ClassId, ArrOfT s cA (tagT r) ∧ va_RA s cA (tagT r) ∧ H[ρ r j]? = some (arrV cA (regL r) (fun k => .int (h.1 r j k))) := by
  obtain ⟨a, b, cA, c1, c2, c3⟩ := arr_at hD hr (by omega) hj
  refine ⟨a, b, ?_, cA, c1, c2, ?_⟩
  · funext k
    have hb : Nat.blt 9 r = true := Nat.ble_eq_true_of_le hr
    unfold rdI
    rw [hb]
    rfl
  · rw [c3]
    congr 2
    funext k
    unfold mav
    rw [ht]
    rfl
theorem sw_copy (C : mCx p l s mi args meth c m) (hfv : fv = .null ∨ ∃ a, fv = .ref a) {idx r j r' j' : Nat} {sp dp n : Int32} (hr : 10 ≤ r) (hr' : 10 ≤ r') (ht : rTag r = 1) (ht' : rTag r' = 1) (hl : yLk (mOw m) idx = true) (hcat : mcat st ≤ 8) (hRf : 1 ≤ R.frames) (hRl : 8 + (nativeFrameWords "java/lang/System" "arraycopy" 5 + 11) ≤ R.locals) (hdg : decode (mBy m) pc = .ok (.invokestatic idx, 3)) (g1 : ¬ n < 0) (g2 : ¬ sp < 0) (g3 : ¬ dp < 0) (g4 : ¬ rLen P r j < sp.toNatClampNeg + n.toNatClampNeg) (g5 : ¬ rLen P r' j' < dp.toNatClampNeg + n.toNatClampNeg)
    (K : SW p l e R s mi args below meth c Q D B fv P m n1 n2 ρ (pc + 3) ls st (mcp h.1 r' j' (rdI P h.1 r j) sp.toNatClampNeg dp.toNatClampNeg n.toNatClampNeg, h.2)) : SW p l e R s mi args below meth c Q D B fv P m n1 n2 ρ pc ls (iv n :: iv dp :: rv r' (some j') :: iv sp :: rv r (some j) :: st) h := by
  intro H locs lr hD hS hL hs hl' h1 h2
  obtain ⟨-, hs1⟩ := List.forall_mem_cons.mp hs
  obtain ⟨-, hs2⟩ := List.forall_mem_cons.mp hs1
  obtain ⟨hj', hs3⟩ := List.forall_mem_cons.mp hs2
  obtain ⟨-, hs4⟩ := List.forall_mem_cons.mp hs3
  obtain ⟨hj, hs'⟩ := List.forall_mem_cons.mp hs4
  obtain ⟨hjc, hlen, hrd, c0, a1, a2, a3⟩ := int_row hD hr ht hj
  obtain ⟨hjc', hlen', hrd', c1, b1, b2, b3⟩ := int_row hD hr' ht' hj'
  have he : mrf ρ fv r (some j) = .ref (ρ r j) := by simp [mrf, beq_ne (show r ≠ 7 by omega)]
  have he' : mrf ρ fv r' (some j') = .ref (ρ r' j') := by simp [mrf, beq_ne (show r' ≠ 7 by omega)]
  have et : tagT r = .int := by unfold tagT; rw [ht]; try rfl
  have et' : tagT r' = .int := by unfold tagT; rw [ht']; try rfl
  have a1' := a1
  have b1' := b1
  rw [et] at a1'
  rw [et'] at b1'
  show W p l e R s mi args below meth c H locs (h.2.2.2.2.1 - n1) (h.2.2.2.2.2 - n2) Q (F0 mi pc lr (.int n :: .int dp :: mrf ρ fv r' (some j') :: .int sp :: mrf ρ fv r (some j) :: st.map (mval ρ fv)))
  rw [he, he']
  intro T hT X
  obtain ⟨-, k0, hk0, cm0, hkk0⟩ := a1' (regL r) (fun k => .int (h.1 r j k))
  obtain ⟨-, k1, hk1, cm1, hkk1⟩ := b1' (regL r') (fun k => .int (h.1 r' j' k))
  have hexec := C.1
  obtain ⟨vm', X', step⟩ := X.arraycopy hexec C.2.2.2.1 (C.2.2.2.2.1 _ (yLk_ok hl)) (C.2.2.2.2.1 _ copyW.1) (C.2.2.2.2.1 _ copyW.2.1) (C.2.2.2.2.1 _ copyW.2.2) (src := ρ r j) (dst := ρ r' j') (cs := arrV c0 (regL r) (fun k => .int (h.1 r j k))) (cd := arrV c1 (regL r') (fun k => .int (h.1 r' j' k))) (srcPos := sp) (destPos := dp) (n := n) (by rw [hT]; exact a3) (by rw [hT]; exact b3)
    (fun _ h => by cases h) (fun _ h => by cases h) (fun h => by cases h) (fun h => by cases h) hk0 hk1 hkk0 hkk1 (by decide) g2 g3 g1
    (by rw [clamp_toInt g2, clamp_toInt g1, arrV_size]; rw [hlen] at g4; omega)
    (by rw [clamp_toInt g3, clamp_toInt g1, arrV_size]; rw [hlen'] at g5; omega)
    (fun vm₁ _ i hi => by
      have e9 : (arrV c0 (regL r) (fun k => .int (h.1 r j k))).slots.getD (sp.toNatClampNeg + i) .null = .int (h.1 r j (sp.toNatClampNeg + i)) := by
        rw [Array.getD_eq_getD_getElem?, arrV_read _ _ (by rw [hlen] at g4; omega)]
        rfl
      rw [e9]
      exact ⟨rfl, trivial⟩)
    (g := F0 mi pc lr (.int n :: .int dp :: .ref (ρ r' j') :: .int sp :: .ref (ρ r j) :: st.map (mval ρ fv))) rfl (hL.1.1.trans C.2.2.1.symm) (rest := st.map (mval ρ fv)) rfl (by rw [C.2.1]; exact hdg) hRf (by rw [mcat_map hfv st]; show 2 * 0 + _ + _ ≤ _; omega)
  have e1 : copied (arrV c0 (regL r) (fun k => Value.int (h.1 r j k))) (arrV c1 (regL r') (fun k => Value.int (h.1 r' j' k))) sp dp n = arrV c1 (regL r') (fun k => Value.int (va_cpy (h.1 r j) (h.1 r' j') sp.toNatClampNeg dp.toNatClampNeg n.toNatClampNeg k)) := va_copied (fun z => Value.int z) c0 c1 (h.1 r j) (h.1 r' j') (by rw [hlen] at g4; omega)
  rw [e1] at X' step
  have hl2 : ρ r' j' < H.size := (Array.getElem?_eq_some_iff.mp b3).1
  generalize hcell : arrV c1 (regL r') (fun k => Value.int (va_cpy (h.1 r j) (h.1 r' j') sp.toNatClampNeg dp.toNatClampNeg n.toNatClampNeg k)) = cell at X' step
  have hheap : ((T.setVm vm').setCell (ρ r' j') cell).heap = H.setIfInBounds (ρ r' j') cell := by rw [← hT]; rfl
  have oq : ∀ q : Nat, q ≠ ρ r' j' → (H.setIfInBounds (ρ r' j') cell)[q]? = H[q]? := fun q hq => by simp [Array.getElem?_setIfInBounds, Ne.symm hq]
  have hB := (hD.1 r' j' hr' hjc').2
  have hD' : mDyn D B fv P ρ (mcp h.1 r' j' (rdI P h.1 r j) sp.toNatClampNeg dp.toNatClampNeg n.toNatClampNeg, h.2) s (H.setIfInBounds (ρ r' j') cell) := by
    refine dyn_upd (r := r') (j := j') hD hr' hjc' rfl (by simp) oq (fun _ _ _ hne => mcp_ne hne) (fun _ _ _ _ => rfl) (fun _ _ _ _ => rfl) ?_ (fun f => hD.2.2.1 r' j' f hr' hjc')
    refine arr_mcell (cA := c1) (V := fun k => Value.int (va_cpy (h.1 r j) (h.1 r' j') sp.toNatClampNeg dp.toNatClampNeg n.toNatClampNeg k)) (by omega) b1 b2 (by rw [hcell]; simp [Array.getElem?_setIfInBounds, hl2]) (fun k => ?_)
    unfold mav
    rw [ht', hrd]
    show _ = Value.int (mcp h.1 r' j' (h.1 r j) sp.toNatClampNeg dp.toNatClampNeg n.toNatClampNeg r' j' k)
    unfold mcp va_cpy
    simp
  obtain ⟨t, q1, q2⟩ := K _ _ lr hD' ⟨by simp; exact hS.1, fun q z1 z2 => by
      rw [oq q (fun e => z2 (by rw [e]; exact hB))]
      exact hS.2.1 q z1 z2, fun q hq => by
      rcases List.mem_append.mp hq with z | z
      · exact hS.2.2 q z
      · obtain ⟨w, -, hw⟩ := List.mem_map.mp z
        rw [← hw]
        exact hB⟩ hL hs' hl' h1 h2 _ hheap X'
  exact ⟨t, step t q1, q2⟩
end Snd
