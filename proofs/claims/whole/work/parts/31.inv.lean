/-! ===== calls ===== -/
section RunI
variable {p : Program} {l : Launch} {e : Env} {R : Room} {s : State} {m : MethodId} {args : Array Value} {below : List Frame} {meth : Method} {c : Code} {H : Heap} {locs : List Loc} {cells slots : Nat}
variable {y : MethodName} {bytes cc : ByteArray} {maxL nL mc ms n index : Nat} {ws : List Cond} {rm : Room} {Pc : Array Value → State → Prop} {Qc : Array Value → State → Outcome → State → Prop} {XC : String → State → State → Prop} {free : Addr → Prop} {Ts : List Cond} {own : String} {b : Addr} {As rest : List Value} {g : JFrame}
theorem run_I (S : CallFix p m c cc nL s args Ts own) (hM : vx_Met l y ws rm Pc Qc XC mc ms free) (cb : CallB R s args own index y bytes maxL none ws rm mc ms n) (hin : (Cond.instanceMethod y).before args s = true) (hy1 : y.name = "<init>") (hp : PreS s H Pc (Value.ref b :: As))
    (hg : g.method = m) (hn : As.length = n) (hsize : g.locals.size = nL) (hstack : g.stack = As.reverse ++ .ref b :: rest) (hW : 2 * g.monitorRoom + (rest.map fun v => v.category).sum ≤ 8) (hdg : decode cc g.pc = .ok (.invokespecial index, 3)) (hf : cells + mc ≤ R.cells ∧ slots + ms ≤ R.slots) :
    vx_Run p l e R s m args below meth c H locs cells slots mc ms g rest (Qc (Value.ref b :: As).toArray) XC free := by
  have hK : vx_Back l R p e below s args y 3 8 (PreOf R mc ms Pc) (PostOf Qc mc ms free) (vx_Post XC mc ms free) := vx_callBack cb hM hp.1
  obtain ⟨-, -, -, -, -, -, hcode, -, hy, hlen, hl⟩ := cb
  obtain ⟨hx, hb, hml, ho, -⟩ := S
  subst hg
  intro T hT X
  have hpl : e.platform.magicAccessors = ({} : Platform).magicAccessors := by rw [X.admits.platform]
  obtain ⟨mk, methM, cM, kP, vm₁, hnamed, hmethM, hcodeM, -, hlocalsM, -, hkP, -, hW₁, hstep₁⟩ := Steps.initColdArgs (e := e) X.here hx X.warmed hpl ho hy1 hy hl hin hcode (f := g) rfl (argsL := As) (rest := rest) (fun sig h => hn.trans (hlen sig h)) hstack (by rw [hb]; exact hdg)
  have X₁ := X.noted hW₁
  rcases hK g.method meth c ⟨T.setVm vm₁, locs, cells, slots⟩ { g with stack := rest } (.invokespecial index) mk (Value.ref b :: As).toArray X₁ rfl (hsize.trans hml.symm) (by rw [hb]; exact hdg) hW (X₁.named hnamed) ⟨hf.1, hf.2, hp.2 (T.setVm vm₁) hT X₁.warmed⟩ with ⟨v, ⟨U', l2, c2, s2⟩, X', ⟨g', mk', t, L, e1, e2, hq, h1, hL, h2, h3⟩, st⟩ | ⟨q, ⟨U', l2, c2, s2⟩, X', ⟨g', mk', t, L, E, ce, e1, e2, hq, hce, hcv, hcl, h1, hL, h2, h3⟩, st⟩
  · dsimp only [Pt.U, Pt.locs, Pt.cells, Pt.slots] at X' e1 e2 h1 h2 h3 st
    subst h1; subst h2; subst h3
    exact Or.inl ⟨v, (T.setVm vm₁).calling g' mk' (Value.ref b :: As).toArray, t, U', L, hT, X', hL, e1, e2, hq, fun target h => hstep₁ _ fun acts => by rw [doInvoke_state]; exact st.trans h⟩
  · dsimp only [Pt.U, Pt.locs, Pt.cells, Pt.slots] at X' e1 e2 h1 h2 h3 st hcl
    subst h1; subst h2; subst h3
    exact Or.inr ⟨q, (T.setVm vm₁).calling g' mk' (Value.ref b :: As).toArray, t, U', L, E, ce, hT, X', hL, e1, e2, hq, hce, hcv, vx_cls X₁.warmed hcl, hstep₁ _ fun acts => by rw [doInvoke_state]; exact st⟩
end RunI
theorem init_ht : ∀ m, m < mNo → (mNm m).name = "<init>" → mHt m = [] := by decide +kernel
theorem inst_own : ∀ m, m < mNo → mSt m = false → mOw m < 13 ∨ mOw m = 14 := by decide +kernel
theorem str_reg : ∀ r, r < rNo → rCls r = 14 → r = 2 := by decide +kernel
theorem cls_14 : clsN 14 = "java/lang/String" := by decide +kernel
theorem mx_small : ∀ m, m < mNo → mMx m ≤ 21 := by decide +kernel
theorem cLk_ok {own idx m' : Nat} (h : cLk own idx = some m') : m' < mNo ∧ Cond.methodLink (clsN own) idx (mNm m') ∈ gTs := by
  unfold cLk at h
  cases hf : cTab.find? (fun q => Nat.beq q.1 own && Nat.beq q.2.1 idx) with
  | none => rw [hf] at h; cases h
  | some q =>
    rw [hf] at h
    obtain ⟨hm, hb⟩ := find_mem hf
    obtain ⟨e1, e2⟩ := beq2 hb
    obtain ⟨o, i, m2, ps⟩ := q
    simp only [Option.map_some, Option.some.injEq] at h
    subst h
    have hk := List.all_eq_true.mp cTab_ok _ hm
    simp only [cOK, Bool.and_eq_true, decide_eq_true_eq] at hk
    simp only at e1 e2
    subst e1; subst e2
    exact ⟨hk.1, gTs_in hk.2 rfl⟩
section Inv
variable {p : Program} {l : Launch} {e : Env} {R : Room} {s : State} {mi : MethodId} {args : Array Value} {below : List Frame} {meth : Method} {c : Code} {D : va_G} {B : Nat} {fv : Value} {P : MP} {m : Nat} {ρ : Nat → Nat → Nat} {pc : Nat} {h : MH} {H : Heap} {locs : List Loc} {lr : Array Slot} {cells slots : Nat}
theorem recv_at (hX : mExt D B fv P ρ s s.heap) (hD : mDyn D B fv P ρ h s H) (hS : va_S (fun q => B ≤ q) s.heap H locs) {r j ci : Nat} (hr : rCls r = ci) (hci : ci < 13 ∨ ci = 14) (hj : okr h.2.2.2.1 r (some j)) : mrf ρ fv r (some j) = .ref (ρ r j) ∧ ∃ cellB : Cell, H[ρ r j]? = some cellB ∧ cellB.vm.isStatics = false ∧ s.vm.findClass (clsN ci) = some cellB.cls := by
  rcases hci with z | z
  · obtain ⟨q, hq, -, -, hname, -⟩ := iOK_at z
    obtain ⟨h10, hjc', -, cell, q1, q2, q3, q4⟩ := obj_at hD hr hq hj
    obtain ⟨-, hfc, kC, hkC, hkind⟩ := hX.1 _ q hq
    rw [hname] at hfc
    exact ⟨ref_ne7 hr z, cell, q1, by rw [q3]; rfl, by rw [q2]; exact hfc⟩
  · subst z
    have h2 : r = 2 := str_reg r (rg_lt (Or.inl (by omega))) hr
    subst h2
    obtain ⟨a1, -, -, -, cell, c1, c2, c3⟩ := hX.2.2.2.1 j (hj j rfl)
    have hB : ¬ (B ≤ ρ 2 j) := by
      obtain ⟨cf, k, fi, f, cell2, -, -, -, -, -, hn⟩ := a1
      exact hn
    exact ⟨rfl, cell, (hS.2.1 _ (Array.getElem?_eq_some_iff.mp c1).1 hB).trans c1, c2, by rw [cls_14]; exact c3⟩
theorem run_any (C : mCx p l s mi args meth c m) (hf : fv = .null ∨ ∃ a, fv = .ref a) (hX : mExt D B fv P ρ s s.heap) (hD : mDyn D B fv P ρ h s H) (hS : va_S (fun q => B ≤ q) s.heap H locs) {m' idx d : Nat} {as rest : List MV} {x : MO} (hm : m' ≠ mLaw) (hch : mchM m' = true) (hl : cLk (mOw m) idx = some m') (hM : mMet l P d m' as h x)
    (hk : (mSt m' = true ∧ decode (mBy m) pc = .ok (.invokestatic idx, 3) ∧ as.length = kArgs m') ∨
      (mSt m' = false ∧ (mNm m').name ≠ "<init>" ∧ decode (mBy m) pc = .ok (.invokevirtual idx, 3) ∧ ∃ (r j : Nat) (as' : List MV), as = rv r (some j) :: as' ∧ rCls r = mOw m' ∧ as'.length = kArgs m') ∨
      (mSt m' = false ∧ (mNm m').name = "<init>" ∧ mRt m' = none ∧ decode (mBy m) pc = .ok (.invokespecial idx, 3) ∧ ∃ (r j : Nat) (as' : List MV), as = rv r (some j) :: as' ∧ rCls r = mOw m' ∧ as'.length = kArgs m'))
    (hok : ∀ v ∈ as, okv h.2.2.2.1 v ∧ notJ v = true) (hcat : mcat rest ≤ 8) (hRf : d + 9 ≤ R.frames) (hRl : 40 * d + 240 ≤ R.locals) (hRc : cells + (x.2.2.2.2.2.1 - h.2.2.2.2.1) ≤ R.cells) (hRs : slots + (x.2.2.2.2.2.2 - h.2.2.2.2.2) ≤ R.slots) (hsz : lr.size = mMx m) :
    vx_Run p l e R s mi args below meth c H locs cells slots (x.2.2.2.2.2.1 - h.2.2.2.2.1) (x.2.2.2.2.2.2 - h.2.2.2.2.2) (F0 mi pc lr ((as.reverse ++ rest).map (mval ρ fv))) (rest.map (mval ρ fv)) (mQc D B fv P ρ h x (as.map (mval ρ fv)).toArray) (mXC D B fv P ρ h x) (fun q => B ≤ q) := by
  obtain ⟨⟨w1, w2, w3⟩, ⟨sig, w4, w5⟩, w6, w7, w8, w9⟩ := mM_ok hm hch
  obtain ⟨hlt, hlink⟩ := cLk_ok hl
  have ht := C.2.2.2.2.1
  have hmx := mx_small m' hlt
  have hFix : CallFix p mi c (mBy m) (mMx m) s args gTs (clsN (mOw m)) := ⟨C.1, C.2.1, C.2.2.1, C.2.2.2.1, ht⟩
  have hlen : ∀ sig, parseMethodDescriptor (mNm m').desc = some sig → kArgs m' = sig.parameters.length := fun sg hs => by rw [w4] at hs; cases hs; exact w5
  have hmem : mCw m' ∈ mWs m' := List.mem_cons_self
  have hPre : ∀ U : State, U.heap = H → s.WarmedH U.vm → mPc D B fv P ρ as h (as.map (mval ρ fv)).toArray U := by
    intro U hU hW
    refine ⟨rfl, hok, ?_, ?_⟩
    · rw [hU]
      exact mExt_mov hW (fun q h1 h2 => hS.2.1 q h1 (Nat.not_le.mpr h2)) hX
    · rw [hU]
      exact mDyn_vm hW.alike hD
  have hc8 : 2 * (F0 mi pc lr ((as.reverse ++ rest).map (mval ρ fv))).monitorRoom + ((rest.map (mval ρ fv)).map fun v => v.category).sum ≤ 8 := by rw [mcat_map hf rest]; show 2 * 0 + mcat rest ≤ 8; omega
  have hfr : (mRm d h x).frames + 1 ≤ R.frames := by show d + 8 + 1 ≤ R.frames; omega
  have hlo : 8 + (mMx m' + 11) + (mRm d h x).locals ≤ R.locals := by show 8 + (mMx m' + 11) + (40 * d + 200) ≤ R.locals; omega
  have hV := hM.2.2 D B fv ρ
  rcases hk with ⟨k1, k2, k3⟩ | ⟨k1, k0, k2, r, j, as', rfl, k4, k5⟩ | ⟨k1, k0, k6, k2, r, j, as', rfl, k4, k5⟩
  · have hstk : (F0 mi pc lr ((as.reverse ++ rest).map (mval ρ fv))).stack = (as.map (mval ρ fv)).reverse ++ rest.map (mval ρ fv) := by show (as.reverse ++ rest).map (mval ρ fv) = _; rw [List.map_append, List.map_reverse]
    cases hh : mHt m' with
    | nil =>
      have hcw : mCw m' = .code (mNm m') (mBy m') (mMx m') (mRt m') := by unfold mCw; rw [hh]
      rw [hcw] at w6 hmem
      exact vx_runS hFix hV ⟨⟨rfl, rfl, hfr, hlo, mWs_at (by rw [hcw]; exact w6) ht, hmem, ht _ w6, ht _ w9, w3, hlen, ht _ hlink⟩, ht _ (w7 k1)⟩ ⟨mPc_blind, hPre⟩ rfl (by rw [List.length_map]; exact k3) hsz hstk hc8 k2 ⟨hRc, hRs⟩
    | cons q0 r0 =>
      have hcw : mCw m' = .codeWith (mNm m') (mBy m') (mMx m') (mRt m') (q0 :: r0) := by unfold mCw; rw [hh]
      rw [hcw] at w6 hmem
      exact vx_runSX hFix hV ⟨⟨rfl, rfl, hfr, hlo, mWs_at (by rw [hcw]; exact w6) ht, hmem⟩, ht _ w6, ht _ w9, w3, hlen, ht _ hlink, ht _ (w7 k1)⟩ ⟨mPc_blind, hPre⟩ rfl (by rw [List.length_map]; exact k3) hsz hstk hc8 k2 ⟨hRc, hRs⟩
  · obtain ⟨hmv, cellB, b1, b2, b3⟩ := recv_at hX hD hS k4 (inst_own m' hlt k1) (hok _ List.mem_cons_self).1
    have hstk : (F0 mi pc lr (((rv r (some j) :: as').reverse ++ rest).map (mval ρ fv))).stack = (as'.map (mval ρ fv)).reverse ++ Value.ref (ρ r j) :: rest.map (mval ρ fv) := by
      show ((rv r (some j) :: as').reverse ++ rest).map (mval ρ fv) = _
      rw [List.reverse_cons, List.append_assoc, List.map_append, List.map_reverse, List.singleton_append, List.map_cons]
      rw [show mval ρ fv (rv r (some j)) = Value.ref (ρ r j) from hmv]
    have hae : (rv r (some j) :: as').map (mval ρ fv) = Value.ref (ρ r j) :: as'.map (mval ρ fv) := by rw [List.map_cons, show mval ρ fv (rv r (some j)) = Value.ref (ρ r j) from hmv]
    rw [hae] at hPre ⊢
    rw [← w1] at b3
    obtain ⟨w81, w82⟩ := w8 k1
    have w83 := w82.resolve_left k0
    cases hh : mHt m' with
    | nil =>
      have hcw : mCw m' = .code (mNm m') (mBy m') (mMx m') (mRt m') := by unfold mCw; rw [hh]
      rw [hcw] at w6 hmem
      exact vx_runV hFix hV ⟨⟨rfl, rfl, hfr, hlo, mWs_at (by rw [hcw]; exact w6) ht, hmem, ht _ w6, ht _ w9, w3, hlen, ht _ hlink⟩, ht _ w81, ht _ w83⟩ ⟨mPc_blind, ⟨cellB, b1, b2, b3⟩, hPre⟩ rfl (by rw [List.length_map]; exact k5) hsz hstk hc8 k2 ⟨hRc, hRs⟩
    | cons q0 r0 =>
      have hcw : mCw m' = .codeWith (mNm m') (mBy m') (mMx m') (mRt m') (q0 :: r0) := by unfold mCw; rw [hh]
      rw [hcw] at w6 hmem
      exact vx_runVX hFix hV ⟨⟨rfl, rfl, hfr, hlo, mWs_at (by rw [hcw]; exact w6) ht, hmem⟩, ht _ w6, ht _ w9, w3, hlen, ht _ hlink, ht _ w81, ht _ w83⟩ ⟨mPc_blind, ⟨cellB, b1, b2, b3⟩, hPre⟩ rfl (by rw [List.length_map]; exact k5) hsz hstk hc8 k2 ⟨hRc, hRs⟩
  · obtain ⟨hmv, -⟩ := recv_at hX hD hS k4 (inst_own m' hlt k1) (hok _ List.mem_cons_self).1
    have hstk : (F0 mi pc lr (((rv r (some j) :: as').reverse ++ rest).map (mval ρ fv))).stack = (as'.map (mval ρ fv)).reverse ++ Value.ref (ρ r j) :: rest.map (mval ρ fv) := by
      show ((rv r (some j) :: as').reverse ++ rest).map (mval ρ fv) = _
      rw [List.reverse_cons, List.append_assoc, List.map_append, List.map_reverse, List.singleton_append, List.map_cons]
      rw [show mval ρ fv (rv r (some j)) = Value.ref (ρ r j) from hmv]
    have hae : (rv r (some j) :: as').map (mval ρ fv) = Value.ref (ρ r j) :: as'.map (mval ρ fv) := by rw [List.map_cons, show mval ρ fv (rv r (some j)) = Value.ref (ρ r j) from hmv]
    rw [hae] at hPre ⊢
    obtain ⟨w81, w82⟩ := w8 k1
    have hh := init_ht m' hlt k0
    have hcw : mCw m' = .code (mNm m') (mBy m') (mMx m') none := by unfold mCw; rw [hh, k6]
    rw [hcw] at w6 hmem
    exact run_I hFix hV ⟨rfl, rfl, hfr, hlo, mWs_at (by rw [hcw]; exact w6) ht, hmem, ht _ w6, ht _ w9, w3, hlen, ht _ hlink⟩ (ht _ w81) k0 ⟨mPc_blind, hPre⟩ rfl (by rw [List.length_map]; exact k5) hsz hstk hc8 k2 ⟨hRc, hRs⟩
end Inv
