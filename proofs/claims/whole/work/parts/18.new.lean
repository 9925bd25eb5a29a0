/-! ===== soundness: new, newarray ===== -/
theorem regL_le : ∀ r, r < rNo → regL r ≤ 9000 := by decide +kernel
theorem regL_small (r : Nat) : regL r ≤ 9000 := by
  rcases Nat.lt_or_ge r rNo with q | q
  · exact regL_le r q
  · have hb : Nat.blt r 100 = false := by
      cases hb : Nat.blt r 100 with
      | false => rfl
      | true =>
        have h1 : r + 1 ≤ 100 := Nat.le_of_ble_eq_true hb
        have h2 : rNo = 100 := rfl
        omega
    unfold regL
    rw [hb]
    exact Nat.zero_le _
theorem arrW_int : Cond.arrayClass .int ∈ gTs := List.mem_filter.mpr ⟨by decide +kernel, rfl⟩
theorem arrW_byte : Cond.arrayClass .byte ∈ gTs := List.mem_filter.mpr ⟨by decide +kernel, rfl⟩
theorem arrW_bool : Cond.arrayClass .boolean ∈ gTs := List.mem_filter.mpr ⟨by decide +kernel, rfl⟩
theorem arrW_long : Cond.arrayClass .long ∈ gTs := List.mem_filter.mpr ⟨by decide +kernel, rfl⟩
theorem nLk_ok {own idx ci : Nat} (h : nLk own idx = some ci) : ci < 13 ∧ Cond.classLink (clsN own) idx (clsN ci) ∈ gTs := by
  unfold nLk at h
  cases hf : nTab.find? (fun q => Nat.beq q.1 own && Nat.beq q.2.1 idx) with
  | none => rw [hf] at h; cases h
  | some q =>
    rw [hf] at h
    obtain ⟨hm, hb⟩ := find_mem hf
    obtain ⟨e1, e2⟩ := beq2 hb
    obtain ⟨o, i, ci', ps⟩ := q
    simp only [Option.map_some, Option.some.injEq] at h
    subst h
    have hk := List.all_eq_true.mp nTab_ok _ hm
    simp only [nOK, Bool.and_eq_true, decide_eq_true_eq] at hk
    simp only at e1 e2
    subst e1; subst e2
    exact ⟨hk.1, gTs_in hk.2 rfl⟩
theorem iOK_at {ci : Nat} (h : ci < 13) : ∃ q : vw_C, vwCl[ci]? = some q ∧ Cond.instantiable q.1 q.2.2 ∈ gTs ∧ Cond.initialized q.1 ∈ gTs ∧ q.1 = clsN ci ∧ rCls (ci + 10) = ci := by
  have hk := i_ok ci h
  obtain ⟨q, hq⟩ := vwCl_lt h
  cases hp : iPos[ci]? with
  | none => simp [iOK, hq, hp] at hk
  | some z =>
    simp only [iOK, hq, hp, Bool.and_eq_true, decide_eq_true_eq] at hk
    exact ⟨q, hq, gTs_in hk.1.1.1 rfl, gTs_in hk.1.1.2 rfl, hk.1.2, hk.2⟩
section Snd
variable {p : Program} {l : Launch} {e : Env} {R : Room} {s : State} {mi : MethodId} {args : Array Value} {below : List Frame} {meth : Method} {c : Code} {Q : State → Prop} {D : va_G} {B : Nat} {fv : Value} {P : MP} {m n1 n2 : Nat} {ρ : Nat → Nat → Nat} {pc : Nat} {ls : List (Option MV)} {st : List MV} {h : MH}
theorem new_none {r n : Nat} (hPs : ∀ f, P.1 r f = none) (f : Nat) : rdR P (mnew h r n).2.1 r (h.2.2.2.1 r) f = none := by
  unfold rdR
  rw [hPs f]
  exact m2_at _ _ _ _ _
theorem new_ok {r n : Nat} {v : MV} (hv : okv h.2.2.2.1 v) : okv (mnew h r n).2.2.2.1 v := okv_le (cn_le (m1_le h.2.2.2.1 r)) hv
theorem new_self {r n : Nat} (hr : 10 ≤ r) : okv (mnew h r n).2.2.2.1 (rv r (some (h.2.2.2.1 r))) := by
  intro j hj
  cases hj
  rw [cn_dyn hr]
  show h.2.2.2.1 r < m1 h.2.2.2.1 r (h.2.2.2.1 r + 1) r
  unfold m1
  simp
/-- behind the making of an object at the heap's end -/
theorem new_go {H H' : Heap} {locs : List Loc} {lr : Array Slot} {r n cells slots pc' : Nat} (hr : 10 ≤ r) (hPs : ∀ f, P.1 r f = none) (hD : mDyn D B fv P ρ h s H) (hS : va_S (fun q => B ≤ q) s.heap H locs) (hL : lrel ρ fv (mMx m) ls lr) (hs : ∀ v ∈ st, okv h.2.2.2.1 v) (hl : ∀ (i : Nat) (v : MV), ls[i]? = some (some v) → okv h.2.2.2.1 v) (h1 : n1 ≤ h.2.2.2.2.1) (h2 : n2 ≤ h.2.2.2.2.2)
    (hz : H'.size = H.size + 1) (hk : ∀ q, q < H.size → H'[q]? = H[q]?) (hc : mcell D fv P (rnew h.2.2.2.1 ρ r H.size) (mnew h r n) s H' r (h.2.2.2.1 r)) (e1 : cells = h.2.2.2.2.1 - n1 + 1) (e2 : slots = h.2.2.2.2.2 - n2 + n)
    (K : ∀ ρ', rext h.2.2.2.1 ρ ρ' → SW p l e R s mi args below meth c Q D B fv P m n1 n2 ρ' pc' ls (rv r (some (h.2.2.2.1 r)) :: st) (mnew h r n)) : W p l e R s mi args below meth c H' locs cells slots Q (F0 mi pc' lr (.ref H.size :: st.map (mval ρ fv))) := by
  have he : rext h.2.2.2.1 ρ (rnew h.2.2.2.1 ρ r H.size) := rnew_ext hr
  have kk := K _ he H' locs lr (dyn_new (new_none hPs) hD hr hz hk hc) ⟨by have := hS.1; omega, fun q q1 q2 => (hk q (Nat.lt_of_lt_of_le q1 hS.1)).trans (hS.2.1 q q1 q2), hS.2.2⟩ (lrel_ext he hl hL) (List.forall_mem_cons.mpr ⟨new_self hr, fun v hv => new_ok (hs v hv)⟩) (fun i v hi => new_ok (hl i v hi)) (Nat.le_succ_of_le h1) (Nat.le_trans h2 (Nat.le_add_right _ _))
  have ev : mval (rnew h.2.2.2.1 ρ r H.size) fv (rv r (some (h.2.2.2.1 r))) = .ref H.size := by
    show (bif Nat.beq r 7 then fv else Value.ref (rnew h.2.2.2.1 ρ r H.size r (h.2.2.2.1 r))) = _
    rw [beq_ne (show r ≠ 7 by omega)]
    show Value.ref (rnew h.2.2.2.1 ρ r H.size r (h.2.2.2.1 r)) = _
    unfold rnew
    simp
  rw [List.map_cons, ev, stk_ext he hs] at kk
  have c1 : cells = (mnew h r n).2.2.2.2.1 - n1 := by rw [e1]; show _ = h.2.2.2.2.1 + 1 - n1; omega
  have c2 : slots = (mnew h r n).2.2.2.2.2 - n2 := by rw [e2]; show _ = h.2.2.2.2.2 + n - n2; omega
  rw [c1, c2]
  exact kk
theorem sw_new (C : mCx p l s mi args meth c m) (hK : ∀ (ci : Nat) (q : vw_C), vwCl[ci]? = some q → u_Kn s q.1 q.2.1 q.2.2 (D.1 ci) (D.2 ci)) {idx ci : Nat} (hl : nLk (mOw m) idx = some ci) (hPs : ∀ f, P.1 (ci + 10) f = none) (hdg : decode (mBy m) pc = .ok (.new idx, 3)) (hRc : h.2.2.2.2.1 + 1 ≤ n1 + R.cells) (hRs : h.2.2.2.2.2 + regL (ci + 10) ≤ n2 + R.slots)
    (K : ∀ ρ', rext h.2.2.2.1 ρ ρ' → SW p l e R s mi args below meth c Q D B fv P m n1 n2 ρ' (pc + 3) ls (rv (ci + 10) (some (h.2.2.2.1 (ci + 10))) :: st) (mnew h (ci + 10) (regL (ci + 10)))) : SW p l e R s mi args below meth c Q D B fv P m n1 n2 ρ pc ls st h := by
  intro H locs lr hD hS hL hs hl' h1 h2
  obtain ⟨hci, hlink⟩ := nLk_ok hl
  obtain ⟨q, hq, hinst, hini, hname, hcls⟩ := iOK_at hci
  have hKn := hK ci q hq
  obtain ⟨h10, ht, hN⟩ := rg_obj (ci + 10) (rg_lt (Or.inl (by omega))) (by omega)
  rw [hcls, hq] at hN
  have hN' : q.2.2 = regL (ci + 10) := Option.some.inj hN
  have hul := ul_ok ci hci
  simp only [ulOK, hq, List.all_eq_true, List.mem_range, Bool.and_eq_true, decide_eq_true_eq] at hul
  have hty : ∀ k, k < q.2.2 → parseFieldDescriptor (q.2.1 k).2.2.1 = some ((parseFieldDescriptor (q.2.1 k).2.2.1).getD .int) := by
    intro k hk
    have := (hul k hk).2
    cases hp : parseFieldDescriptor (q.2.1 k).2.2.1 with
    | none => rw [hp] at this; cases this
    | some t => rfl
  refine W.newcK (C := q.1) (n := q.2.2) C.1 C.2.1 C.2.2.2.1 (by rw [hname]; exact C.2.2.2.2.1 _ hlink) (C.2.2.2.2.1 _ hinst) (C.2.2.2.2.1 _ hini) rfl hdg (by omega) (by rw [hN']; omega) hKn.2.1 rfl (fun H' kC hkC e1 z1 o1 => ?_)
  refine new_go h10 hPs hD hS hL hs hl' h1 h2 z1 o1 ?_ rfl (by rw [hN']) K
  have hb := u_born _ C.2.2.2.2.1 (ul_in hq) hKn hkC e1 hty
  have hρ : rnew h.2.2.2.1 ρ (ci + 10) H.size (ci + 10) (h.2.2.2.1 (ci + 10)) = H.size := by unfold rnew; simp
  refine obj_mcell (V := mfv (rnew h.2.2.2.1 ρ (ci + 10) H.size) fv P (mnew h (ci + 10) (regL (ci + 10))) (ci + 10) (h.2.2.2.1 (ci + 10))) hcls hq ?_ (fun _ => rfl)
  rw [hρ]
  refine hb.to (fun k hk => ?_)
  unfold mfv
  rw [new_none hPs, hcls]
  have hp := (hul k hk).2
  have e0 : (mnew h (ci + 10) (regL (ci + 10))).1 (ci + 10) (h.2.2.2.1 (ci + 10)) k = 0 := m2_at _ _ _ _ _
  rw [e0]
  cases hd : parseFieldDescriptor (q.2.1 k).2.2.1 with
  | none => rw [hd] at hp; cases hp
  | some ty =>
    rw [hd] at hp
    cases ty with
    | int => have h0 : fKd ci k = 0 := by simpa using hp
             rw [h0]; rfl
    | boolean => have h0 : fKd ci k = 1 := by simpa using hp
                 rw [h0]; rfl
    | object _ => have h0 : fKd ci k = 2 := by simpa using hp
                  rw [h0]; rfl
    | array _ => have h0 : fKd ci k = 2 := by simpa using hp
                 rw [h0]; rfl
    | _ => cases hp
end Snd
