/-! ===== soundness: references into rows, anewarray ===== -/
theorem rtag5 : ∀ r, r < rNo → rTag r = 5 → 10 ≤ r ∧ (∀ f, f < 60 → rTgt r f = rTgt r 0) ∧ (rTgt r 0 = 2 ∨ (rCls (rTgt r 0) < 13)) := by decide +kernel
section Snd
variable {p : Program} {l : Launch} {e : Env} {R : Room} {s : State} {mi : MethodId} {args : Array Value} {below : List Frame} {meth : Method} {c : Code} {Q : State → Prop} {D : va_G} {B : Nat} {fv : Value} {P : MP} {m n1 n2 : Nat} {ρ : Nat → Nat → Nat} {pc : Nat} {ls : List (Option MV)} {st : List MV} {h : MH}
theorem sw_aast (C : mCx p l s mi args meth c m) (hX : mExt D B fv P ρ s s.heap) {r j r' j' : Nat} {i : Int32} (ht : rTag r = 5) (htg : rTgt r i.toNatClampNeg = rTgt r 0) (hr' : r' = rTgt r 0) (hsr : P.1 r i.toNatClampNeg = none) (hdg : decode (mBy m) pc = .ok (.aastore, 1)) (hin : ¬ ino i (rLen P r j))
    (K : SW p l e R s mi args below meth c Q D B fv P m n1 n2 ρ (pc + 1) ls st (h.1, m3 h.2.1 r j i.toNatClampNeg (some j'), h.2.2)) : SW p l e R s mi args below meth c Q D B fv P m n1 n2 ρ pc ls (rv r' (some j') :: iv i :: rv r (some j) :: st) h := by
  intro H locs lr hD hS hL hs hl' h1 h2
  obtain ⟨hj', hs1⟩ := List.forall_mem_cons.mp hs
  obtain ⟨-, hs2⟩ := List.forall_mem_cons.mp hs1
  obtain ⟨hj, hs'⟩ := List.forall_mem_cons.mp hs2
  have ht0 : rTag r ≠ 0 := by omega
  obtain ⟨hr, -, hcase⟩ := rtag5 r (rg_lt (Or.inr ht0)) ht
  obtain ⟨hjc, hlen, cA, a1, a2, a3⟩ := arr_at hD hr ht0 hj
  have he : mrf ρ fv r (some j) = .ref (ρ r j) := by simp [mrf, beq_ne (show r ≠ 7 by omega)]
  have hlt : i.toNatClampNeg < regL r := by rw [← hlen]; exact Nat.not_le.mp (fun z => hin (Or.inr z))
  have h0 : ¬ i < 0 := fun z => hin (Or.inl z)
  have et : tagT r = .object (clsN (rCls (rTgt r 0))) := by unfold tagT; rw [ht]; try rfl
  rw [et] at a2
  obtain ⟨kA, comp, k1, k2, k3, k4⟩ := a2
  subst hr'
  -- the stored object's cell
  obtain ⟨cv, kc, v1, v2, v3, v4, v5⟩ : ∃ (cv : Cell) (kc : Class), H[ρ (rTgt r 0) j']? = some cv ∧ (∀ q, cv.vm ≠ .statics q) ∧ cv.cls = comp ∧ s.vm.classes[comp]? = some kc ∧ mrf ρ fv (rTgt r 0) (some j') = .ref (ρ (rTgt r 0) j') := by
    rcases hcase with z | z
    · have hs14 : clsN (rCls (rTgt r 0)) = "java/lang/String" := by rw [z]; rfl
      rw [hs14] at k3
      rw [z] at hj' ⊢
      obtain ⟨-, -, -, -, cell, c1, c2, c3⟩ := hX.2.2.2.1 j' (hj' j' rfl)
      obtain ⟨cf, k, fi, f, cell2, hff, -, hc2, -, -, hnA⟩ := (hX.2.2.2.1 j' (hj' j' rfl)).1
      rw [c1] at hc2
      cases hc2
      have hltH : ρ 2 j' < s.heap.size := (Array.getElem?_eq_some_iff.mp c1).1
      have hcls : cell.cls = comp := Option.some.inj (c3.symm.trans k3)
      obtain ⟨kc, hkc, -⟩ := Vm.findClass_spec k3
      exact ⟨cell, kc, (hS.2.1 _ hltH hnA).trans c1, (fun q hq => by rw [hq] at c2; cases c2), hcls, hkc, rfl⟩
    · obtain ⟨q, hq, -, -, hname, -⟩ := iOK_at z
      obtain ⟨h10, hjc', -, cell, q1, q2, q3, q4⟩ := obj_at hD rfl hq hj'
      obtain ⟨-, hfc, kC, hkC, hkind⟩ := hX.1 _ q hq
      rw [hname] at hfc
      have hc : D.1 (rCls (rTgt r 0)) = comp := Option.some.inj (hfc.symm.trans k3)
      exact ⟨cell, kC, q1, (fun x hx => by rw [q3] at hx; cases hx), q2.trans hc, by rw [← hc]; exact hkC, by simp [mrf, beq_ne (show rTgt r 0 ≠ 7 by omega)]⟩
  show W p l e R s mi args below meth c H locs (h.2.2.2.2.1 - n1) (h.2.2.2.2.2 - n2) Q (F0 mi pc lr (mrf ρ fv (rTgt r 0) (some j') :: .int i :: mrf ρ fv r (some j) :: st.map (mval ρ fv)))
  rw [he, v5]
  refine W.aast C.1 C.2.1 a3 (fun q hq => by cases hq) (fun hq => by cases hq) k1 k2 rfl v4 ⟨h0, by rw [arrV_size]; exact hlt⟩ v1 v2 (by rw [v3]; exact v4) (by rw [v3]; exact Vm.assignable_self _ _) rfl rfl hdg (fun H' e1 e2 e3 => ?_)
  rw [arrV_store] at e1
  have e4 : ∀ f, rdR P (m3 h.2.1 r j i.toNatClampNeg (some j')) r j f = if f = i.toNatClampNeg then some j' else rdR P h.2.1 r j f := by
    intro f
    by_cases e : f = i.toNatClampNeg
    · subst e
      unfold rdR
      rw [hsr]
      simp [m3_at]
    · rw [if_neg e]
      exact rdR_congr (by rw [m3_at, if_neg e])
  refine K H' _ lr (dyn_upd (h' := (h.1, m3 h.2.1 r j i.toNatClampNeg (some j'), h.2.2)) hD hr hjc rfl e2 e3 (fun _ _ _ _ => rfl) (fun r' o' k' hne => m3_ne _ _ _ _ _ hne) (fun _ _ _ _ => rfl) ?_ (fun f hf9 => ?_)) (hS.put e2 e3 (hD.1 r j hr hjc).2) hL hs' hl' h1 h2
  · refine arr_mcell ht0 a1 (by rw [et]; exact ⟨kA, comp, k1, k2, k3, k4⟩) e1 (fun k => ?_)
    unfold updV mav
    rw [ht]
    show _ = mrf ρ fv (rTgt r k) (rdR P (m3 h.2.1 r j i.toNatClampNeg (some j')) r j k)
    rw [e4 k]
    by_cases e : k = i.toNatClampNeg
    · subst e
      rw [if_pos rfl, if_pos rfl, htg, v5]
    · rw [if_neg e, if_neg e]
      rfl
  · show okr h.2.2.2.1 (rTgt r f) (rdR P (m3 h.2.1 r j i.toNatClampNeg (some j')) r j f)
    rw [e4 f]
    by_cases e : f = i.toNatClampNeg
    · subst e
      rw [if_pos rfl, htg]
      exact hj'
    · rw [if_neg e]
      exact hD.2.2.1 r j f hr hjc hf9
end Snd
