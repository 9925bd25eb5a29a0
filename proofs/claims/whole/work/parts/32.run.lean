/-! ===== runs: ends, throws, calls ===== -/
/-- from here on the JVM comes to what x says -/
def mGo (p : Program) (l : Launch) (e : Env) (R : Room) (s : State) (mi : MethodId) (args : Array Value) (below : List Frame) (meth : Method) (c : Code) (D : va_G) (B : Nat) (fv : Value) (P : MP) (m : Nat) (ρ0 : Nat → Nat → Nat) (h0 : MH) (x : MO) (pc : Nat) (ls : List (Option MV)) (st : List MV) (h : MH) : Prop :=
  h.2.2.2.2.1 ≤ x.2.2.2.2.2.1 ∧ h.2.2.2.2.2 ≤ x.2.2.2.2.2.2 ∧ ((∀ r, h0.2.2.2.1 r ≤ h.2.2.2.1 r) → ∀ ρ, rext h0.2.2.2.1 ρ0 ρ →
    SW p l e R s mi args below meth c (vx_MQ below (mQc D B fv P ρ0 h0 x) (mXC D B fv P ρ0 h0 x) args s (x.2.2.2.2.2.1 - h0.2.2.2.2.1) (x.2.2.2.2.2.2 - h0.2.2.2.2.2) (fun q => B ≤ q)) D B fv P m h0.2.2.2.2.1 h0.2.2.2.2.2 ρ pc ls st h)
section Go
variable {p : Program} {l : Launch} {e : Env} {R : Room} {s : State} {mi : MethodId} {args : Array Value} {below : List Frame} {meth : Method} {c : Code} {D : va_G} {B : Nat} {fv : Value} {P : MP} {m : Nat} {ρ0 ρ : Nat → Nat → Nat} {h0 : MH} {x : MO} {pc : Nat} {ls : List (Option MV)} {st : List MV} {h : MH}
theorem mDyn_keep {h' : MH} {H H' : Heap} (hD : mDyn D B fv P ρ h s H) (h1 : h'.1 = h.1) (h2 : h'.2.1 = h.2.1) (h3 : h'.2.2.1 = h.2.2.1) (h4 : h'.2.2.2.1 = h.2.2.2.1) (hz : H.size ≤ H'.size) (hk : ∀ q, q < H.size → H'[q]? = H[q]?) : mDyn D B fv P ρ h' s H' := by
  obtain ⟨d1, d2, d3, d4⟩ := hD
  refine ⟨fun r o a b => ?_, by rw [h4]; exact d2, by rw [h4, h2]; exact d3, Nat.le_trans d4 hz⟩
  rw [h4] at b
  have hc := (d1 r o a b).1
  exact ⟨mcell_keep hc (hk _ (mcell_lt hc)) (fun k => by rw [h1]) (fun k => by rw [h2]) (fun k => by rw [h3]), (d1 r o a b).2⟩
theorem rnew0_ext {C : Nat → Nat} {a : Nat} : rext C ρ (rnew C ρ 0 a) := by
  refine ⟨fun r' o' ho => ?_, fun r' o' h1 h2 => ?_⟩
  · unfold rnew
    rw [if_neg]
    rintro ⟨rfl, rfl⟩
    exact Nat.lt_irrefl _ (show C 0 < C 0 from ho)
  · unfold rnew
    rw [if_neg]
    rintro ⟨rfl, -⟩
    omega
/-- a caught exception gets a place in region 0 -/
theorem mDyn_c0 {H : Heap} {a : Nat} (hD : mDyn D B fv P ρ h s H) : mDyn D B fv P (rnew h.2.2.2.1 ρ 0 a) (h.1, h.2.1, h.2.2.1, m1 h.2.2.2.1 0 (h.2.2.2.1 0 + 1), h.2.2.2.2) s H := by
  obtain ⟨d1, d2, d3, d4⟩ := hD
  have he : rext h.2.2.2.1 ρ (rnew h.2.2.2.1 ρ 0 a) := rnew0_ext
  have hC : ∀ r, 10 ≤ r → m1 h.2.2.2.1 0 (h.2.2.2.1 0 + 1) r = h.2.2.2.1 r := by
    intro r hr
    unfold m1
    rw [if_neg (by omega)]
  have hold : ∀ r o, 10 ≤ r → rnew h.2.2.2.1 ρ 0 a r o = ρ r o := by
    intro r o hr
    unfold rnew
    rw [if_neg]
    rintro ⟨rfl, -⟩
    omega
  refine ⟨fun r o h1 h2 => ?_, fun r o r2 o2 h1 h2 h3 h4 hq => ?_, fun r o f h1 h2 h9 => ?_, d4⟩
  · have h2' : o < m1 h.2.2.2.1 0 (h.2.2.2.1 0 + 1) r := h2
    rw [hC r h1] at h2'
    have hc := (d1 r o h1 h2').1
    exact ⟨mcell_mov hc (hold r o h1) rfl (fun _ => rfl) (fun k hk9 => mrf_ext he (d3 r o k h1 h2' hk9)) (fun _ => rfl), by rw [hold r o h1]; exact (d1 r o h1 h2').2⟩
  · have h2' : o < m1 h.2.2.2.1 0 (h.2.2.2.1 0 + 1) r := h2
    have h4' : o2 < m1 h.2.2.2.1 0 (h.2.2.2.1 0 + 1) r2 := h4
    rw [hC r h1] at h2'
    rw [hC r2 h3] at h4'
    rw [hold r o h1, hold r2 o2 h3] at hq
    exact d2 r o r2 o2 h1 h2' h3 h4' hq
  · have h2' : o < m1 h.2.2.2.1 0 (h.2.2.2.1 0 + 1) r := h2
    rw [hC r h1] at h2'
    exact fun j hj => Nat.lt_of_lt_of_le (d3 r o f h1 h2' h9 j hj) (cn_le (m1_le h.2.2.2.1 0) _)
theorem vaF_of {H : Heap} {locs : List Loc} {t : State} (hS : va_S (fun q => B ≤ q) s.heap H locs) (ht : t.heap = H) : va_F (fun q => B ≤ q) s t := ⟨by rw [ht]; exact hS.1, fun q h1 h2 => by rw [ht]; exact hS.2.1 q h1 h2⟩
/-- an int is given back -/
theorem go_nret (C : mCx p l s mi args meth c m) {v v' : Int32} {t : Nat} (ht : rtN (mRt m) = t) (ht4 : t < 4) (hv : mrn t v (fun w => some (.inl (some (.inl w)), h)) = some x) (hdg : decode (mBy m) pc = .ok (.ireturn, 1)) : mGo p l e R s mi args below meth c D B fv P m ρ0 h0 x pc ls (iv v :: st) h := by
  have key : ∃ (ty : FieldType) (w : Int32), mRt m = some ty ∧ narrow ty (.int v) = .int w ∧ x = (.inl (some (.inl w)), h) := by
    cases hr : mRt m with
    | none => rw [hr] at ht; subst ht; exact absurd ht4 (by decide)
    | some ty =>
      rw [hr] at ht
      subst ht
      cases ty with
      | int => exact ⟨_, _, rfl, rfl, (Option.some.inj hv).symm⟩
      | boolean => exact ⟨_, _, rfl, rfl, (Option.some.inj hv).symm⟩
      | byte => exact ⟨_, _, rfl, rfl, (Option.some.inj hv).symm⟩
      | char => exact ⟨_, _, rfl, rfl, (Option.some.inj hv).symm⟩
      | _ => exact absurd (show 9 < 4 from ht4) (by decide)
  obtain ⟨ty, w, hr, hn, rfl⟩ := key
  refine ⟨Nat.le_refl _, Nat.le_refl _, fun hC ρ hext H locs lr hD hS hL hs hl h1 h2 => ?_⟩
  exact vx_ret (W_nret C hr hn (fun t2 ht2 hW => ⟨some (iv w), ρ, rfl, hext, hC, rfl, fun u hu => by cases hu; trivial, by rw [ht2]; exact mDyn_vm hW.alike hD, vaF_of hS ht2⟩) hS.2.2 hdg)
/-- nothing, or a reference, goes back to the caller, whatever lies below -/
theorem W_vret {H : Heap} {locs : List Loc} {cells slots : Nat} {Qc : Array Value → State → Outcome → State → Prop} {free : Addr → Prop} (C : mCx p l s mi args meth c m) (hr : mRt m = none)
    (hq : ∀ t : State, t.heap = H → s.WarmedH t.vm → Qc args s (.returned none) t) (hf : ∀ q ∈ locs, free q.base) {lr : Array Slot} {rest : List Value} (hdg : decode (mBy m) pc = .ok (.return_, 1)) : W p l e R s mi args below meth c H locs cells slots (MQ below Qc args s cells slots free) (F0 mi pc lr rest) := by
  intro T hT X
  have hlocks : meth.locks = false := C.2.2.2.2.2.2.1
  have hr' : meth.sig.returnType = none := C.2.2.2.2.2.1.trans hr
  obtain ⟨fs, hret, hrun, hended, hW, hframe⟩ := X.leave (v := none) (fun _ => rfl)
  have hmeth' : T.vm.method? mi = some meth := X.method'
  have hexec := C.1
  have hb := C.2.1
  refine ⟨T.setFrames fs, ?_, .returned none, hrun, hended, hq _ hT hW, locs, ⟨⟨_, rfl⟩, hW, hframe⟩, hf⟩
  jvm_step X.here [X.here.top, hexec, hb, hdg, hmeth', hr']
  (try refine ⟨rfl, ?_⟩); (try refine ⟨rfl, ?_⟩)
  first | (intro acts; rw [hret _ acts rfl rfl rfl]) | rw [hret _ _ rfl rfl rfl]
  exact Steps.refl _
theorem W_aret {H : Heap} {locs : List Loc} {cells slots : Nat} {Qc : Array Value → State → Outcome → State → Prop} {free : Addr → Prop} {v : Value} {n : String} (C : mCx p l s mi args meth c m) (hr : mRt m = some (.object n)) (hv : v = .null ∨ ∃ a, v = .ref a)
    (hq : ∀ t : State, t.heap = H → s.WarmedH t.vm → Qc args s (.returned (some v)) t) (hf : ∀ q ∈ locs, free q.base) {lr : Array Slot} {rest : List Value} (hdg : decode (mBy m) pc = .ok (.areturn, 1)) : W p l e R s mi args below meth c H locs cells slots (MQ below Qc args s cells slots free) (F0 mi pc lr (v :: rest)) := by
  intro T hT X
  have hlocks : meth.locks = false := C.2.2.2.2.2.2.1
  have hr' : meth.sig.returnType = some (.object n) := C.2.2.2.2.2.1.trans hr
  obtain ⟨fs, hret, hrun, hended, hW, hframe⟩ := X.leave (v := some v) (fun h => by rw [hr'] at h; cases h)
  have hmeth' : T.vm.method? mi = some meth := X.method'
  have hexec := C.1
  have hb := C.2.1
  refine ⟨T.setFrames fs, ?_, .returned (some v), hrun, hended, hq _ hT hW, locs, ⟨⟨_, rfl⟩, hW, hframe⟩, hf⟩
  rcases hv with rfl | ⟨a, rfl⟩ <;>
    (jvm_step X.here [X.here.top, hexec, hb, hdg, hmeth', hr']
     (try refine ⟨rfl, ?_⟩); (try refine ⟨rfl, ?_⟩)
     first | (intro acts; rw [hret _ acts rfl rfl rfl]) | rw [hret _ _ rfl rfl rfl]
     exact Steps.refl _)
theorem go_vret (C : mCx p l s mi args meth c m) (hr : mRt m = none) (hdg : decode (mBy m) pc = .ok (.return_, 1)) : mGo p l e R s mi args below meth c D B fv P m ρ0 h0 (.inl none, h) pc ls st h := by
  refine ⟨Nat.le_refl _, Nat.le_refl _, fun hC ρ hext H locs lr hD hS hL hs hl h1 h2 => ?_⟩
  exact vx_ret (W_vret C hr (fun t2 ht2 hW => ⟨none, ρ, rfl, hext, hC, rfl, fun u hu => (by cases hu), by rw [ht2]; exact mDyn_vm hW.alike hD, vaF_of hS ht2⟩) hS.2.2 hdg)
theorem go_aret (C : mCx p l s mi args meth c m) (hf : fv = .null ∨ ∃ a, fv = .ref a) {r : Nat} {o : Option Nat} (hr : retK (mRt m) = 2) (hdg : decode (mBy m) pc = .ok (.areturn, 1)) : mGo p l e R s mi args below meth c D B fv P m ρ0 h0 (.inl (some (rv r o)), h) pc ls (rv r o :: st) h := by
  refine ⟨Nat.le_refl _, Nat.le_refl _, fun hC ρ hext H locs lr hD hS hL hs hl h1 h2 => ?_⟩
  obtain ⟨ho, -⟩ := List.forall_mem_cons.mp hs
  obtain ⟨n, hn⟩ : ∃ n, mRt m = some (.object n) := by
    cases hq : mRt m with
    | none => rw [hq] at hr; cases hr
    | some ty =>
      rw [hq] at hr
      cases ty with
      | object n => exact ⟨n, rfl⟩
      | _ => cases hr
  exact vx_ret (W_aret C hn (mrf_cases hf r o) (fun t2 ht2 hW => ⟨some (rv r o), ρ, rfl, hext, hC, rfl, fun u hu => by cases hu; exact ho, by rw [ht2]; exact mDyn_vm hW.alike hD, vaF_of hS ht2⟩) hS.2.2 hdg)
/-- a throw that has come over the frame -/
theorem go_thr (C : mCx p l s mi args meth c m) (hm : m < mNo) {en : Nat × List Nat × Int32} (hcd : mCode m pc = some en) (hX : mExt D B fv P ρ0 s s.heap) {n cells slots : Nat} {ρ1 : Nat → Nat → Nat} {h1 : MH} {H1 : Heap} {locs1 : List Loc} {lr : Array Slot} {rest : List Value} {q : Addr} {ce : Cell} {k : Nat → List (Option MV) → List MV → MH → MX}
    (hn : 1 ≤ n ∧ n ≤ 3) (hext : rext h0.2.2.2.1 ρ0 ρ1) (hC : ∀ r, h0.2.2.2.1 r ≤ h1.2.2.2.1 r) (hD : mDyn D B fv P ρ1 h1 s H1) (hS : va_S (fun q => B ≤ q) s.heap H1 locs1) (hce : H1[q]? = some ce) (hcv : ce.vm = .none) (hcl : s.vm.findClass (excN n) = some ce.cls)
    (hL : lrel ρ1 fv (mMx m) ls lr) (hl : ∀ (i : Nat) (v : MV), ls[i]? = some (some v) → okv h1.2.2.2.1 v) (c1 : h0.2.2.2.2.1 ≤ h1.2.2.2.2.1) (c2 : h0.2.2.2.2.2 ≤ h1.2.2.2.2.2) (e1 : cells = h1.2.2.2.2.1 - h0.2.2.2.2.1) (e2 : slots = h1.2.2.2.2.2 - h0.2.2.2.2.2)
    (hq : mth (mHand m pc) n ls k h1 = some x) (hk : ∀ a1 a2 a3 a4, k a1 a2 a3 a4 = some x → mGo p l e R s mi args below meth c D B fv P m ρ0 h0 x a1 a2 a3 a4) :
    vx_W p l e R s mi args below meth c H1 locs1 cells slots (vx_MQ below (mQc D B fv P ρ0 h0 x) (mXC D B fv P ρ0 h0 x) args s (x.2.2.2.2.2.1 - h0.2.2.2.2.1) (x.2.2.2.2.2.2 - h0.2.2.2.2.2) (fun q => B ≤ q)) (F0 mi pc lr rest) q := by
  have hho := hand_ok hm hcd
  have htab : c.exceptionTable.toList = tableOf (mHt m) := C.2.2.2.2.2.2.2.2.1
  cases hcase : mHand m pc with
  | nil =>
    rw [hcase] at hq hho
    cases Option.some.inj hq
    have hout : ∀ y ∈ c.exceptionTable.toList, covers y pc = false := by
      intro y hy
      rw [htab] at hy
      obtain ⟨z, hz, rfl⟩ := List.mem_map.mp hy
      have hfe : (mHt m).filter (hCov pc) = [] := List.map_eq_nil_iff.mp hho.symm
      have := List.filter_eq_nil_iff.mp hfe z hz
      show hCov pc z = false
      cases hz2 : hCov pc z with
      | false => rfl
      | true => exact absurd hz2 this
    exact vx_out hout C.2.2.2.2.2.2.1 hce hcv hcl (fun t ht hvm => ⟨n, ρ1, rfl, hn, rfl, hext, hC, by rw [ht]; exact mDyn_vm hvm hD, vaF_of hS ht⟩) hS.2.2 (by rw [e1]; exact Nat.le_refl _) (by rw [e2]; exact Nat.le_refl _)
  | cons q0 r0 =>
    have hq2 : mth2 (mHand m pc) n ls k h1 = some x := by
      rw [hcase] at hq ⊢
      exact hq
    rw [hho] at hq2
    obtain ⟨t, t1, t2⟩ := mth2_hd (args := args) (d := mi.cls) C.2.2.2.1 hn hcl hX.2.2.2.2.2.2.2.2.2.2 (mHt m) (fun z hz => ⟨(hl_ok hm z hz).1, C.2.2.2.2.1 _ (hl_ok hm z hz).2⟩) hq2
    obtain ⟨-, -, g⟩ := hk _ _ _ _ t2
    obtain ⟨k0, hk0⟩ : ∃ k0, s.vm.classes[ce.cls]? = some k0 := Vm.classAt_of_findClass hcl
    have hC3 : ∀ r, h1.2.2.2.1 r ≤ m1 h1.2.2.2.1 0 (h1.2.2.2.1 0 + 1) r := m1_le h1.2.2.2.1 0
    have he : rext h1.2.2.2.1 ρ1 (rnew h1.2.2.2.1 ρ1 0 q) := rnew0_ext
    refine hd_W hce hcv hk0 (by rw [htab]; exact t1) ?_
    have gg := g (fun r => Nat.le_trans (hC r) (hC3 r)) (rnew h1.2.2.2.1 ρ1 0 q) (rext_trans hC hext he) H1 locs1 lr (mDyn_c0 hD) hS (lrel_ext he hl hL) (fun v hv => by
      rw [List.mem_singleton] at hv
      subst hv
      intro j hj
      cases hj
      show h1.2.2.2.1 0 < m1 h1.2.2.2.1 0 (h1.2.2.2.1 0 + 1) 0
      unfold m1
      simp) (fun i v hi => okv_le (cn_le hC3) (hl i v hi)) c1 c2
    have ev : mval (rnew h1.2.2.2.1 ρ1 0 q) fv (rv 0 (some (h1.2.2.2.1 0))) = .ref q := by
      show Value.ref (rnew h1.2.2.2.1 ρ1 0 q 0 (h1.2.2.2.1 0)) = _
      unfold rnew
      simp
    rw [List.map_cons, ev, List.map_nil] at gg
    rw [e1, e2]
    exact gg
end Go
