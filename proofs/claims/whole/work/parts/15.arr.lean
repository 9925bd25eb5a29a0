/-! ===== soundness: stores to fields, arrays of whole numbers ===== -/
theorem rtag_ext : ∀ r, r < 10 → rTag r ≠ 0 → (r = 1 ∨ r = 3 ∨ r = 4 ∨ r = 5 ∨ r = 6) ∧ (rTag r = 1 ∨ (r = 3 ∧ rTag r = 2)) := by decide +kernel
section Snd
variable {p : Program} {l : Launch} {e : Env} {R : Room} {s : State} {mi : MethodId} {args : Array Value} {below : List Frame} {meth : Method} {c : Code} {Q : State → Prop} {D : va_G} {B : Nat} {fv : Value} {P : MP} {m n1 n2 : Nat} {ρ : Nat → Nat → Nat} {pc : Nat} {ls : List (Option MV)} {st : List MV} {h : MH}
theorem obj_mcell {h' : MH} {H : Heap} {r j ci : Nat} {q : vw_C} {V : Nat → Value} (hr : rCls r = ci) (hq : vwCl[ci]? = some q) (ht : t_OB (ρ r j) (D.1 ci) q.2.2 (D.2 ci) H V) (hV : ∀ k, V k = mfv ρ fv P h' r j k) : mcell D fv P ρ h' s H r j := by
  subst hr
  have hci : rCls r < 13 := (List.getElem?_eq_some_iff.mp hq).1
  obtain ⟨h10, hz, hN⟩ := rg_obj r (rg_lt (Or.inl (by omega))) hci
  rw [hq] at hN
  have hN' : q.2.2 = regL r := Option.some.inj hN
  unfold mcell
  rw [hz]
  rw [← hN']
  exact ht.to (fun k _ => hV k)
theorem sw_putI (C : mCx p l s mi args meth c m) (hK : ∀ (ci : Nat) (q : vw_C), vwCl[ci]? = some q → u_Kn s q.1 q.2.1 q.2.2 (D.1 ci) (D.2 ci)) {idx r j ci k : Nat} {x : Int32} (hl : fLk (mOw m) idx = some (ci, k)) (hci : ci < 13) (hr : rCls r = ci) (hkd : fKd ci k = 0 ∨ (fKd ci k = 1 ∧ x &&& 1 = x)) {q : vw_C} (hq : vwCl[ci]? = some q) (hfin : (q.2.1 k).2.2.2 = false ∨ ((mNm m).name = "<init>" ∧ (q.2.1 k).1 = clsN (mOw m))) (hdg : decode (mBy m) pc = .ok (.putfield idx, 3))
    (K : SW p l e R s mi args below meth c Q D B fv P m n1 n2 ρ (pc + 3) ls st (m3 h.1 r j k x, h.2)) : SW p l e R s mi args below meth c Q D B fv P m n1 n2 ρ pc ls (iv x :: rv r (some j) :: st) h := by
  intro H locs lr hD hS hL hs hl' h1 h2
  obtain ⟨-, hs1⟩ := List.forall_mem_cons.mp hs
  obtain ⟨hj, hs'⟩ := List.forall_mem_cons.mp hs1
  obtain ⟨q', hq', hk, -⟩ := fLk_ok hl hci
  cases Option.some.inj (hq.symm.trans hq')
  obtain ⟨h10, hjc, -, -⟩ := obj_at hD hr hq hj
  have hul := ul_ok ci hci
  simp only [ulOK, hq, List.all_eq_true, List.mem_range, Bool.and_eq_true, decide_eq_true_eq] at hul
  have hp := (hul k hk).2
  have hne2 : fKd ci k ≠ 2 := by rcases hkd with q | ⟨q, -⟩ <;> omega
  obtain ⟨ty, hd, hn, hf⟩ : ∃ ty, parseFieldDescriptor (q.2.1 k).2.2.1 = some ty ∧ narrow ty (.int x) = .int x ∧ fits ty (.int x) = true := by
    cases hd : parseFieldDescriptor (q.2.1 k).2.2.1 with
    | none => rw [hd] at hp; cases hp
    | some ty =>
      rw [hd] at hp
      refine ⟨ty, rfl, ?_⟩
      cases ty with
      | int => exact ⟨rfl, rfl⟩
      | boolean =>
        have h1 : fKd ci k = 1 := by simpa using hp
        have hx : x &&& 1 = x := by rcases hkd with q | ⟨-, q⟩; omega; exact q
        refine ⟨by show Value.int (x &&& 1) = _; rw [hx], ?_⟩
        show (x == 0 || x == 1) = true
        rcases bit01 hx with rfl | rfl <;> decide
      | object _ => exact absurd (by simpa using hp) hne2
      | array _ => exact absurd (by simpa using hp) hne2
      | _ => cases hp
  show W p l e R s mi args below meth c H locs (h.2.2.2.2.1 - n1) (h.2.2.2.2.2 - n2) Q (F0 mi pc lr (.int x :: mrf ρ fv r (some j) :: st.map (mval ρ fv)))
  rw [ref_ne7 hr hci]
  refine put_any C hK hD hS hl hci hr hj hq hfin hd hn hf hdg (fun H' locs' ht hz hk' hS' => ?_)
  refine K H' locs' lr (dyn_upd (h' := (m3 h.1 r j k x, h.2)) hD h10 hjc rfl hz hk' (fun r' o' k' hne => m3_ne _ _ _ _ _ hne) (fun _ _ _ _ => rfl) (fun _ _ _ _ => rfl) ?_ (fun f => hD.2.2.1 r j f h10 hjc)) hS' hL hs' hl' h1 h2
  refine obj_mcell hr hq ht (fun k' => ?_)
  unfold updV mfv
  show _ = bif Nat.beq (fKd (rCls r) k') 2 then mrf ρ fv (rTgt r k') (rdR P h.2.1 r j k') else Value.int (m3 h.1 r j k x r j k')
  rw [m3_at]
  by_cases e : k' = k
  · subst e
    have hb : Nat.beq (fKd (rCls r) k') 2 = false := by
      cases hb : Nat.beq (fKd (rCls r) k') 2 with
      | false => rfl
      | true => rw [hr] at hb; exact absurd (Nat.eq_of_beq_eq_true hb) hne2
    simp [hb]
  · simp [e]
theorem sw_putR (C : mCx p l s mi args meth c m) (hfv : fv = .null ∨ ∃ a, fv = .ref a) (hK : ∀ (ci : Nat) (q : vw_C), vwCl[ci]? = some q → u_Kn s q.1 q.2.1 q.2.2 (D.1 ci) (D.2 ci)) {idx r j ci k r' : Nat} {o' o2 : Option Nat} (hl : fLk (mOw m) idx = some (ci, k)) (hci : ci < 13) (hr : rCls r = ci) (hkd : fKd ci k = 2) {q : vw_C} (hq : vwCl[ci]? = some q) (hfin : (q.2.1 k).2.2.2 = false ∨ ((mNm m).name = "<init>" ∧ (q.2.1 k).1 = clsN (mOw m))) (hsr : P.1 r k = none) (ho : (r' = rTgt r k ∧ o2 = o') ∨ (o' = none ∧ o2 = none)) (hdg : decode (mBy m) pc = .ok (.putfield idx, 3))
    (K : SW p l e R s mi args below meth c Q D B fv P m n1 n2 ρ (pc + 3) ls st (h.1, m3 h.2.1 r j k o2, h.2.2)) : SW p l e R s mi args below meth c Q D B fv P m n1 n2 ρ pc ls (rv r' o' :: rv r (some j) :: st) h := by
  intro H locs lr hD hS hL hs hl' h1 h2
  obtain ⟨ho', hs1⟩ := List.forall_mem_cons.mp hs
  obtain ⟨hj, hs'⟩ := List.forall_mem_cons.mp hs1
  obtain ⟨q', hq', hk, -⟩ := fLk_ok hl hci
  cases Option.some.inj (hq.symm.trans hq')
  obtain ⟨h10, hjc, -, -⟩ := obj_at hD hr hq hj
  have hul := ul_ok ci hci
  simp only [ulOK, hq, List.all_eq_true, List.mem_range, Bool.and_eq_true, decide_eq_true_eq] at hul
  have hp := (hul k hk).2
  have hv : mrf ρ fv r' o' = mrf ρ fv (rTgt r k) o2 := by
    rcases ho with ⟨rfl, rfl⟩ | ⟨rfl, rfl⟩ <;> rfl
  have hok : okr h.2.2.2.1 (rTgt r k) o2 := by
    rcases ho with ⟨rfl, rfl⟩ | ⟨rfl, rfl⟩
    · exact ho'
    · exact fun _ z => nomatch z
  obtain ⟨ty, hd, hn, hf⟩ : ∃ ty, parseFieldDescriptor (q.2.1 k).2.2.1 = some ty ∧ narrow ty (mrf ρ fv r' o') = mrf ρ fv r' o' ∧ fits ty (mrf ρ fv r' o') = true := by
    cases hd : parseFieldDescriptor (q.2.1 k).2.2.1 with
    | none => rw [hd] at hp; cases hp
    | some ty =>
      rw [hd] at hp
      refine ⟨ty, rfl, ?_⟩
      rcases mrf_cases (ρ := ρ) hfv r' o' with z | ⟨a, z⟩ <;> rw [z] <;> cases ty with
      | object _ => exact ⟨rfl, rfl⟩
      | array _ => exact ⟨rfl, rfl⟩
      | int => have : fKd ci k = 0 := by simpa using hp
               omega
      | boolean => have : fKd ci k = 1 := by simpa using hp
                   omega
      | _ => cases hp
  show W p l e R s mi args below meth c H locs (h.2.2.2.2.1 - n1) (h.2.2.2.2.2 - n2) Q (F0 mi pc lr (mrf ρ fv r' o' :: mrf ρ fv r (some j) :: st.map (mval ρ fv)))
  rw [ref_ne7 hr hci]
  refine put_any C hK hD hS hl hci hr hj hq hfin hd hn hf hdg (fun H' locs' ht hz hk' hS' => ?_)
  have e3 : ∀ f, rdR P (m3 h.2.1 r j k o2) r j f = if f = k then o2 else rdR P h.2.1 r j f := by
    intro f
    by_cases e : f = k
    · subst e
      unfold rdR
      rw [hsr]
      simp [m3_at]
    · rw [if_neg e]
      exact rdR_congr (by rw [m3_at, if_neg e])
  refine K H' locs' lr (dyn_upd (h' := (h.1, m3 h.2.1 r j k o2, h.2.2)) hD h10 hjc rfl hz hk' (fun _ _ _ _ => rfl) (fun r' o' k' hne => m3_ne _ _ _ _ _ hne) (fun _ _ _ _ => rfl) ?_ (fun f hf9 => ?_)) hS' hL hs' hl' h1 h2
  · refine obj_mcell hr hq ht (fun k' => ?_)
    unfold updV mfv
    show _ = bif Nat.beq (fKd (rCls r) k') 2 then mrf ρ fv (rTgt r k') (rdR P (m3 h.2.1 r j k o2) r j k') else Value.int (h.1 r j k')
    rw [e3 k']
    by_cases e : k' = k
    · subst e
      rw [if_pos rfl, if_pos rfl, hr, hkd]
      exact hv
    · rw [if_neg e, if_neg e]
  · show okr h.2.2.2.1 (rTgt r f) (rdR P (m3 h.2.1 r j k o2) r j f)
    rw [e3 f]
    by_cases e : f = k
    · subst e
      rw [if_pos rfl]
      exact hok
    · rw [if_neg e]
      exact hD.2.2.1 r j f h10 hjc hf9
/-- what lies below the law's start is as it was -/
theorem xArr_kept {H0 H : Heap} {locs : List Loc} {a n : Nat} {ty : FieldType} {f : Nat → Int32} (hS : va_S (fun q => B ≤ q) H0 H locs) (ha : a < B) (hx : xArr s H0 a ty n f) : xArr s H a ty n f := by
  obtain ⟨scr, z1, z2⟩ := hx
  have hlt : a < H0.size := (Array.getElem?_eq_some_iff.mp z1).1
  exact ⟨scr, (hS.2.1 a hlt (Nat.not_le.mpr ha)).trans z1, z2⟩
/-- every row of whole numbers, made or found -/
theorem row_at (hX : mExt D B fv P ρ s s.heap) {H : Heap} {locs : List Loc} {r j : Nat} (hD : mDyn D B fv P ρ h s H) (hS : va_S (fun q => B ≤ q) s.heap H locs) (ht : rTag r = 1 ∨ rTag r = 2 ∨ rTag r = 3) (hno : (Nat.beq r 1 && Nat.beq P.2.1 4000) = false) (hj : okr h.2.2.2.1 r (some j)) : xArr s H (ρ r j) (tagT r) (rLen P r j) (rdI P h.1 r j) := by
  rcases Nat.lt_or_ge r 10 with h9 | h9
  · obtain ⟨hr, ht2⟩ := rtag_ext r h9 (by omega)
    have hj' := hj j rfl
    rcases hr with rfl | rfl | rfl | rfl | rfl
    · have : j = 0 := by have : j < 1 := hj'; omega
      subst this
      have h4 : P.2.1 ≠ 4000 := fun z => by rw [z] at hno; cases hno
      exact xArr_kept hS (hX.2.1 h4).2 (hX.2.1 h4).1
    · obtain ⟨-, -, hx, hb, -⟩ := hX.2.2.2.1 j hj'
      exact xArr_kept hS hb hx
    · have : j = 0 := by have : j < 1 := hj'; omega
      subst this
      obtain ⟨-, hx, hb⟩ := hX.2.2.1 4 (by omega) (by omega)
      exact xArr_kept hS hb hx
    · have : j = 0 := by have : j < 1 := hj'; omega
      subst this
      obtain ⟨-, hx, hb⟩ := hX.2.2.1 5 (by omega) (by omega)
      exact xArr_kept hS hb hx
    · have : j = 0 := by have : j < 1 := hj'; omega
      subst this
      obtain ⟨-, hx, hb⟩ := hX.2.2.1 6 (by omega) (by omega)
      exact xArr_kept hS hb hx
  · have hj' : j < h.2.2.2.1 r := by have := hj j rfl; rwa [cn_dyn h9] at this
    have hc := (hD.1 r j h9 hj').1
    have hb : Nat.blt 9 r = true := Nat.ble_eq_true_of_le h9
    have e1 : rdI P h.1 r j = h.1 r j := by
      funext k
      unfold rdI
      rw [hb]
      rfl
    have hb1 : Nat.beq r 1 = false := by
      cases z : Nat.beq r 1 with
      | false => rfl
      | true => have := Nat.eq_of_beq_eq_true z; omega
    have hb3 : Nat.beq r 3 = false := by
      cases z : Nat.beq r 3 with
      | false => rfl
      | true => have := Nat.eq_of_beq_eq_true z; omega
    have e2 : rLen P r j = regL r := by
      unfold rLen
      rw [hb1, hb3]
      rfl
    rw [e1, e2]
    have e3 : mav ρ fv P h r j = fun k => Value.int (h.1 r j k) := by
      funext k
      unfold mav
      rcases ht with z | z | z <;> (rw [z]; try rfl)
    unfold mcell at hc
    split at hc
    · rename_i z
      omega
    · obtain ⟨cA, a1, -, a3⟩ := hc
      rw [e3] at a3
      exact ⟨_, a3, a1 _ _, (fun z => by cases z), ⟨Nat.le_of_eq (arrV_size _ _ _).symm, by rw [arrV_size]⟩, fun k hk => arrV_read _ _ hk⟩
theorem sw_xald (C : mCx p l s mi args meth c m) (hX : mExt D B fv P ρ s s.heap) {r j t : Nat} {i : Int32} {ins : Instr} (hr7 : Nat.beq r 7 = false) (hdg : decode (mBy m) pc = .ok (ins, 1)) (hi : (ins = .iaload ∧ t = 1) ∨ (ins = .baload ∧ (t = 2 ∨ t = 3))) (ht : rTag r = t) (hno : (Nat.beq r 1 && Nat.beq P.2.1 4000) = false) (hin : ¬ ino i (rLen P r j))
    (K : SW p l e R s mi args below meth c Q D B fv P m n1 n2 ρ (pc + 1) ls (iv (rdI P h.1 r j i.toNatClampNeg) :: st) h) : SW p l e R s mi args below meth c Q D B fv P m n1 n2 ρ pc ls (iv i :: rv r (some j) :: st) h := by
  intro H locs lr hD hS hL hs hl' h1 h2
  obtain ⟨-, hs1⟩ := List.forall_mem_cons.mp hs
  obtain ⟨hj, hs'⟩ := List.forall_mem_cons.mp hs1
  have ht3 : rTag r = 1 ∨ rTag r = 2 ∨ rTag r = 3 := by
    rcases hi with ⟨-, z⟩ | ⟨-, z | z⟩ <;> omega
  obtain ⟨scr, z1, z2, z3, z4, z5⟩ := row_at hX hD hS ht3 hno hj
  have kk := K H locs lr hD hS hL (List.forall_mem_cons.mpr ⟨trivial, hs'⟩) hl' h1 h2
  have he : mrf ρ fv r (some j) = .ref (ρ r j) := by simp [mrf, hr7]
  show W p l e R s mi args below meth c H locs (h.2.2.2.2.1 - n1) (h.2.2.2.2.2 - n2) Q (F0 mi pc lr (.int i :: mrf ρ fv r (some j) :: st.map (mval ρ fv)))
  rw [he]
  have hlt : i.toNatClampNeg < rLen P r j := Nat.not_le.mp (fun z => hin (Or.inr z))
  have hin' : ¬ (i < 0 ∨ scr.slots.size ≤ i.toNatClampNeg) := fun z => hin (z.imp id (fun y => Nat.le_trans z4.1 y))
  rcases hi with ⟨rfl, rfl⟩ | ⟨rfl, rfl | rfl⟩
  · have e : tagT r = .int := by unfold tagT; rw [ht]; try rfl
    rw [e] at z2
    exact W.iald C.1 C.2.1 z1 z2 z3 hin' (z5 _ hlt) rfl rfl hdg kk
  · have e : tagT r = .byte := by unfold tagT; rw [ht]; try rfl
    rw [e] at z2
    exact W.bald C.1 C.2.1 z1 z2 z3 hin' (z5 _ hlt) rfl rfl hdg kk
  · have e : tagT r = .boolean := by unfold tagT; rw [ht]; try rfl
    rw [e] at z2
    exact W.zald C.1 C.2.1 z1 z2 z3 hin' (z5 _ hlt) rfl rfl hdg kk
end Snd
