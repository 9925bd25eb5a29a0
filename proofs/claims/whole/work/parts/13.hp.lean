/-! ===== soundness: fields ===== -/
theorem cn_dyn {C : Nat → Nat} {r : Nat} (h : 10 ≤ r) : cn C r = C r := by
  have hb : Nat.blt 9 r = true := Nat.ble_eq_true_of_le h
  unfold cn
  rw [hb]
  rfl
theorem find_mem {α : Type} {l : List α} {f : α → Bool} {q : α} (h : l.find? f = some q) : q ∈ l ∧ f q = true := ⟨List.mem_of_find?_eq_some h, List.find?_some h⟩
theorem beq2 {a b c d : Nat} (h : (Nat.beq a b && Nat.beq c d) = true) : a = b ∧ c = d := by
  rw [Bool.and_eq_true] at h
  exact ⟨Nat.eq_of_beq_eq_true h.1, Nat.eq_of_beq_eq_true h.2⟩
theorem vwCl_lt {ci : Nat} (h : ci < 13) : ∃ q, vwCl[ci]? = some q := ⟨vwCl[ci]'(by show ci < 13; exact h), List.getElem?_eq_getElem _⟩
/-- a field's link -/
theorem fLk_ok {own idx ci k : Nat} (h : fLk own idx = some (ci, k)) (hci : ci < 13) : ∃ q : vw_C, vwCl[ci]? = some q ∧ k < q.2.2 ∧ Cond.fieldLink (clsN own) idx (q.2.1 k).1 (q.2.1 k).2.1 (q.2.1 k).2.2.1 ∈ gTs := by
  unfold fLk at h
  cases hf : fTab.find? (fun q => Nat.beq q.1 own && Nat.beq q.2.1 idx) with
  | none => rw [hf] at h; cases h
  | some q =>
    rw [hf] at h
    obtain ⟨hm, hb⟩ := find_mem hf
    obtain ⟨e1, e2⟩ := beq2 hb
    obtain ⟨o, i, ci', k', ps⟩ := q
    simp only [Option.map_some, Option.some.injEq, Prod.mk.injEq] at h
    obtain ⟨rfl, rfl⟩ := h
    have hk := List.all_eq_true.mp fTab_ok _ hm
    obtain ⟨q, hq⟩ := vwCl_lt hci
    simp only [ftOK, hq, Bool.and_eq_true, decide_eq_true_eq] at hk
    simp only at e1 e2
    subst e1; subst e2
    exact ⟨q, hq, hk.1, gTs_in hk.2 rfl⟩
theorem ul_in {ci : Nat} {q : vw_C} (hq : vwCl[ci]? = some q) : (∀ w ∈ u_ws q.1 q.2.1 q.2.2, w ∈ gTs) := by
  have hci : ci < 13 := by
    have := (List.getElem?_eq_some_iff.mp hq).1
    exact this
  have h := ul_ok ci hci
  simp only [ulOK, hq, List.all_eq_true, List.mem_range, Bool.and_eq_true, decide_eq_true_eq] at h
  intro w hw
  obtain ⟨k, hk, rfl⟩ := List.mem_map.mp hw
  refine gTs_in (h k (List.mem_range.mp hk)).1 ?_
  unfold u_lay
  split <;> rfl
section Snd
variable {p : Program} {l : Launch} {e : Env} {R : Room} {s : State} {mi : MethodId} {args : Array Value} {below : List Frame} {meth : Method} {c : Code} {Q : State → Prop} {D : va_G} {B : Nat} {fv : Value} {P : MP} {m n1 n2 : Nat} {ρ : Nat → Nat → Nat} {pc : Nat} {ls : List (Option MV)} {st : List MV} {h : MH}
/-- the cell of an object of a made class -/
theorem obj_at {H : Heap} {r j ci : Nat} {q : vw_C} (hD : mDyn D B fv P ρ h s H) (hr : rCls r = ci) (hq : vwCl[ci]? = some q) (hj : okr h.2.2.2.1 r (some j)) : 10 ≤ r ∧ j < h.2.2.2.1 r ∧ q.2.2 = regL r ∧ t_OB (ρ r j) (D.1 ci) q.2.2 (D.2 ci) H (mfv ρ fv P h r j) := by
  subst hr
  have hci : rCls r < 13 := (List.getElem?_eq_some_iff.mp hq).1
  have hlt : r < rNo := rg_lt (Or.inl (by omega))
  obtain ⟨h10, ht, hN⟩ := rg_obj r hlt hci
  rw [hq] at hN
  have hN' : q.2.2 = regL r := Option.some.inj hN
  have hj' : j < h.2.2.2.1 r := by have := hj j rfl; rwa [cn_dyn h10] at this
  have hc := (hD.1 r j h10 hj').1
  unfold mcell at hc
  rw [ht] at hc
  rw [hN']
  exact ⟨h10, hj', rfl, hc⟩
theorem get_any (C : mCx p l s mi args meth c m) (hK : ∀ (ci : Nat) (q : vw_C), vwCl[ci]? = some q → u_Kn s q.1 q.2.1 q.2.2 (D.1 ci) (D.2 ci)) {H : Heap} {locs : List Loc} {lr : Array Slot} {cells slots idx r j ci k : Nat} {rest : List Value} (hD : mDyn D B fv P ρ h s H) (hl : fLk (mOw m) idx = some (ci, k)) (hci : ci < 13) (hr : rCls r = ci) (hj : okr h.2.2.2.1 r (some j)) (hdg : decode (mBy m) pc = .ok (.getfield idx, 3))
    (kk : W p l e R s mi args below meth c H locs cells slots Q (F0 mi (pc + 3) lr (mfv ρ fv P h r j k :: rest))) : W p l e R s mi args below meth c H locs cells slots Q (F0 mi pc lr (.ref (ρ r j) :: rest)) := by
  obtain ⟨q, hq, hk, hlink⟩ := fLk_ok hl hci
  obtain ⟨-, -, -, cell, q1, q2, q3, q4⟩ := obj_at hD hr hq hj
  obtain ⟨hS, hfc, kC, hkC, hkind⟩ := hK ci q hq
  obtain ⟨cf, kf, fi, f, hi, hsl⟩ := hS k hk
  refine W.getf C.1 C.2.1 C.2.2.2.1 (C.2.2.2.2.1 _ hlink) hi (u_facts hfc hkC (u_lays C.2.2.2.2.1 (ul_in hq) hk) hi).1 q1 (by rw [q3]; exact fun h => by cases h) (v := mfv ρ fv P h r j k) ?_ rfl rfl hdg kk
  rw [hsl, q4 k hk]
theorem ref_ne7 {r ci j : Nat} (hr : rCls r = ci) (hci : ci < 13) : mrf ρ fv r (some j) = .ref (ρ r j) := by
  have h10 := (rg_obj r (rg_lt (Or.inl (by omega))) (by omega)).1
  have hb : Nat.beq r 7 = false := by
    cases hb : Nat.beq r 7 with
    | false => rfl
    | true => have := Nat.eq_of_beq_eq_true hb; omega
  simp [mrf, hb]
theorem sw_getI (C : mCx p l s mi args meth c m) (hK : ∀ (ci : Nat) (q : vw_C), vwCl[ci]? = some q → u_Kn s q.1 q.2.1 q.2.2 (D.1 ci) (D.2 ci)) {idx r j ci k : Nat} (hl : fLk (mOw m) idx = some (ci, k)) (hci : ci < 13) (hr : rCls r = ci) (hkd : fKd ci k ≠ 2) (hdg : decode (mBy m) pc = .ok (.getfield idx, 3))
    (K : SW p l e R s mi args below meth c Q D B fv P m n1 n2 ρ (pc + 3) ls (iv (rdI P h.1 r j k) :: st) h) : SW p l e R s mi args below meth c Q D B fv P m n1 n2 ρ pc ls (rv r (some j) :: st) h := by
  intro H locs lr hD hS hL hs hl' h1 h2
  obtain ⟨hj, hs'⟩ := List.forall_mem_cons.mp hs
  have h10 := (rg_obj r (rg_lt (Or.inl (by omega))) (by omega)).1
  have kk := K H locs lr hD hS hL (List.forall_mem_cons.mpr ⟨trivial, hs'⟩) hl' h1 h2
  have e1 : rdI P h.1 r j k = h.1 r j k := by
    have hb : Nat.blt 9 r = true := Nat.ble_eq_true_of_le h10
    unfold rdI
    rw [hb]
    rfl
  have e2 : mfv ρ fv P h r j k = .int (h.1 r j k) := by
    unfold mfv
    have hb : Nat.beq (fKd (rCls r) k) 2 = false := by
      cases hb : Nat.beq (fKd (rCls r) k) 2 with
      | false => rfl
      | true => rw [hr] at hb; exact absurd (Nat.eq_of_beq_eq_true hb) hkd
    rw [hb]
    rfl
  show W p l e R s mi args below meth c H locs (h.2.2.2.2.1 - n1) (h.2.2.2.2.2 - n2) Q (F0 mi pc lr (mrf ρ fv r (some j) :: st.map (mval ρ fv)))
  rw [ref_ne7 hr hci]
  refine get_any C hK hD hl hci hr hj hdg ?_
  rw [e2, ← e1]
  exact kk
theorem sw_getR (C : mCx p l s mi args meth c m) (hK : ∀ (ci : Nat) (q : vw_C), vwCl[ci]? = some q → u_Kn s q.1 q.2.1 q.2.2 (D.1 ci) (D.2 ci)) {idx r j ci k : Nat} (hl : fLk (mOw m) idx = some (ci, k)) (hci : ci < 13) (hr : rCls r = ci) (hkd : fKd ci k = 2) (hdg : decode (mBy m) pc = .ok (.getfield idx, 3))
    (K : SW p l e R s mi args below meth c Q D B fv P m n1 n2 ρ (pc + 3) ls (rv (rTgt r k) (rdR P h.2.1 r j k) :: st) h) : SW p l e R s mi args below meth c Q D B fv P m n1 n2 ρ pc ls (rv r (some j) :: st) h := by
  intro H locs lr hD hS hL hs hl' h1 h2
  obtain ⟨hj, hs'⟩ := List.forall_mem_cons.mp hs
  obtain ⟨q, hq, hk, hlink⟩ := fLk_ok hl hci
  obtain ⟨h10, hjc, hN9, -⟩ := obj_at hD hr hq hj
  have kk := K H locs lr hD hS hL (List.forall_mem_cons.mpr ⟨hD.2.2.1 r j k h10 hjc (by rw [← hN9]; exact hk), hs'⟩) hl' h1 h2
  have e2 : mfv ρ fv P h r j k = mrf ρ fv (rTgt r k) (rdR P h.2.1 r j k) := by
    unfold mfv
    rw [hr, hkd]
    rfl
  show W p l e R s mi args below meth c H locs (h.2.2.2.2.1 - n1) (h.2.2.2.2.2 - n2) Q (F0 mi pc lr (mrf ρ fv r (some j) :: st.map (mval ρ fv)))
  rw [ref_ne7 hr hci]
  refine get_any C hK hD hl hci hr hj hdg ?_
  rw [e2]
  exact kk
end Snd
