/-! ===== what a call owes ===== -/
abbrev MO : Type := (Option MV ⊕ Nat) × MH
def mPc (D : va_G) (B : Nat) (fv : Value) (P : MP) (ρ : Nat → Nat → Nat) (as : List MV) (h : MH) : Array Value → State → Prop := fun a st => a = (as.map (mval ρ fv)).toArray ∧ (∀ v ∈ as, okv h.2.2.2.1 v ∧ notJ v = true) ∧ mExt D B fv P ρ st st.heap ∧ mDyn D B fv P ρ h st st.heap
def mQc (D : va_G) (B : Nat) (fv : Value) (P : MP) (ρ : Nat → Nat → Nat) (h : MH) (x : MO) : Array Value → State → Outcome → State → Prop := fun _ st o t => ∃ (r : Option MV) (ρ' : Nat → Nat → Nat), x.1 = .inl r ∧ rext h.2.2.2.1 ρ ρ' ∧ (∀ q, h.2.2.2.1 q ≤ x.2.2.2.2.1 q) ∧ o = .returned (r.map (mval ρ' fv)) ∧ (∀ v, r = some v → okv x.2.2.2.2.1 v) ∧ mDyn D B fv P ρ' x.2 t t.heap ∧ va_F (fun q => B ≤ q) st t
def mXC (D : va_G) (B : Nat) (fv : Value) (P : MP) (ρ : Nat → Nat → Nat) (h : MH) (x : MO) : String → State → State → Prop := fun E st t => ∃ (n : Nat) (ρ' : Nat → Nat → Nat), x.1 = .inr n ∧ (1 ≤ n ∧ n ≤ 3) ∧ E = excN n ∧ rext h.2.2.2.1 ρ ρ' ∧ (∀ q, h.2.2.2.1 q ≤ x.2.2.2.2.1 q) ∧ mDyn D B fv P ρ' x.2 t t.heap ∧ va_F (fun q => B ≤ q) st t
def mRm (d : Nat) (h : MH) (x : MO) : Room := { frames := d + 8, locals := 40 * d + 200, cells := x.2.2.2.2.2.1 - h.2.2.2.2.1, slots := x.2.2.2.2.2.2 - h.2.2.2.2.2 }
def mCw (m : Nat) : Cond := match mHt m with
  | [] => .code (mNm m) (mBy m) (mMx m) (mRt m)
  | q :: r => .codeWith (mNm m) (mBy m) (mMx m) (mRt m) (q :: r)
def mWs (m : Nat) : List Cond := mCw m :: gTs
def mMet (l : Launch) (P : MP) (d m : Nat) (as : List MV) (h : MH) (x : MO) : Prop := h.2.2.2.2.1 ≤ x.2.2.2.2.2.1 ∧ h.2.2.2.2.2 ≤ x.2.2.2.2.2.2 ∧ ∀ (D : va_G) (B : Nat) (fv : Value) (ρ : Nat → Nat → Nat), vx_Met l (mNm m) (mWs m) (mRm d h x) (mPc D B fv P ρ as h) (mQc D B fv P ρ h x) (mXC D B fv P ρ h x) (x.2.2.2.2.2.1 - h.2.2.2.2.1) (x.2.2.2.2.2.2 - h.2.2.2.2.2) (fun q => B ≤ q)
theorem mPc_blind {D : va_G} {B : Nat} {fv : Value} {P : MP} {ρ : Nat → Nat → Nat} {as : List MV} {h : MH} : FrameBlind (mPc D B fv P ρ as h) := by
  intro a U g mk hp
  obtain ⟨h1, h2, h3, h4⟩ := hp
  exact ⟨h1, h2, mExt_mov (s := U) (U := U.calling g mk a) (State.WarmedH.refl U) (fun _ _ _ => rfl) h3, mDyn_vm (s := U) (U := U.calling g mk a) (Vm.Alike.refl _) h4⟩
theorem wBy_at {m : Nat} {q : Nat × Nat × Nat × Nat} (hm : m ≠ mLaw) (hq : mPos[m]? = some q) : mBy m = wBy lw_tbl[q.1]? := by
  unfold mBy
  rw [beq_ne hm]
  rw [List.getD_eq_getElem?_getD, hq]
  rfl
/-- a method's own words -/
theorem mM_ok {m : Nat} (hm : m ≠ mLaw) (h : mchM m = true) : ((mNm m).cls = clsN (mOw m) ∧ plainName (mNm m).cls = true ∧ ((mNm m).cls ≠ "java/lang/invoke/MethodHandle" ∧ (mNm m).cls ≠ "java/lang/invoke/VarHandle")) ∧ (∃ sig, parseMethodDescriptor (mNm m).desc = some sig ∧ kArgs m = sig.parameters.length) ∧ mCw m ∈ gTs ∧
    (mSt m = true → Cond.static (mNm m) ∈ gTs) ∧ (mSt m = false → Cond.instanceMethod (mNm m) ∈ gTs ∧ ((mNm m).name = "<init>" ∨ Cond.selects (mNm m).cls (mNm m) (mNm m) ∈ gTs)) ∧ Cond.initialized (mNm m).cls ∈ gTs := by
  unfold mchM at h
  cases hq : mPos[m]? with
  | none => rw [hq] at h; cases h
  | some q =>
    rw [hq] at h
    simp only [Bool.and_eq_true] at h
    obtain ⟨⟨⟨⟨⟨⟨h1, h2⟩, h3⟩, h4⟩, h5⟩, h6⟩, h7⟩ := h
    refine ⟨⟨of_decide_eq_true h1, h2, of_decide_eq_true h3⟩, ?_, ?_, fun hs => ?_, fun hs => ?_, gTs_in (of_decide_eq_true h7) rfl⟩
    · obtain ⟨sig, hsig⟩ := Option.isSome_iff_exists.mp h4
      refine ⟨sig, hsig, ?_⟩
      unfold kArgs
      rw [hsig]
    · have hb := wBy_at hm hq
      cases hw : lw_tbl[q.1]? with
      | none => rw [hw] at h5; cases h5
      | some w =>
        rw [hw] at h5 hb
        match w, h5, hb, hw with
        | .code y b mx rt, h5, hb, hw =>
          have h9 := of_decide_eq_true h5
          obtain ⟨rfl, rfl, rfl, e4⟩ := h9
          have e5 : mBy m = b := hb
          unfold mCw
          rw [e4]
          simp only []
          rw [e5]
          exact gTs_in hw rfl
        | .codeWith y b mx rt hh, h5, hb, hw =>
          have h9 := of_decide_eq_true h5
          obtain ⟨rfl, rfl, rfl, e4, e6⟩ := h9
          have e5 : mBy m = b := hb
          have e7 : mCw m = .codeWith (mNm m) b (mMx m) (mRt m) hh := by
            unfold mCw
            rw [e4, e5]
            cases hh with
            | nil => exact absurd rfl e6
            | cons _ _ => rfl
          rw [e7]
          exact gTs_in hw rfl
    · rw [hs] at h6
      exact gTs_in (of_decide_eq_true h6) rfl
    · rw [hs] at h6
      simp only [cond_false, Bool.and_eq_true, Bool.or_eq_true] at h6
      refine ⟨gTs_in (of_decide_eq_true h6.1) rfl, h6.2.imp (fun z => of_decide_eq_true z) (fun z => gTs_in (of_decide_eq_true z) rfl)⟩
theorem gTs_at {s : State} {args : Array Value} (ht : ∀ w ∈ gTs, w.before args s = true) {w : Cond} (hw : w ∈ gTs) (a' : Array Value) (U : State) (hW : s.WarmedH U.vm) : w.before a' U = true :=
  pay_in ht (ws := gTs) (fun w hw => ⟨hw, good_of_word (List.mem_filter.mp hw).2⟩) w hw a' U hW
theorem mWs_at {s : State} {args : Array Value} {m : Nat} (hc : mCw m ∈ gTs) (ht : ∀ w ∈ gTs, w.before args s = true) : ∀ w ∈ mWs m, ∀ (a' : Array Value) (U : State), s.WarmedH U.vm → w.before a' U = true :=
  fun w hw a' U hW => (List.mem_cons.mp hw).elim (fun e => by rw [e]; exact gTs_at ht hc a' U hW) (fun h => gTs_at ht h a' U hW)
section Run
variable {p : Program} {l : Launch} {e : Env} {R : Room} {s : State} {mi : MethodId} {args : Array Value} {below : List Frame} {meth : Method} {c : Code} {Q : State → Prop} {D : va_G} {B : Nat} {fv : Value} {P : MP} {m n1 n2 : Nat} {ρ : Nat → Nat → Nat} {pc : Nat} {ls : List (Option MV)} {st : List MV} {h : MH} {H : Heap} {locs : List Loc} {lr : Array Slot} {cells slots mc ms : Nat}
/-- behind a call -/
theorem call_W {a' : Array Value} {st0 rest : List Value} {x : MO} (hr : vx_Run p l e R s mi args below meth c H locs cells slots mc ms (F0 mi pc lr st0) rest (mQc D B fv P ρ h x a') (mXC D B fv P ρ h x) (fun q => B ≤ q)) (hS : va_S (fun q => B ≤ q) s.heap H locs)
    (kk : ∀ (r : Option MV) (ρ' : Nat → Nat → Nat) (H1 : Heap) (locs1 : List Loc), x.1 = .inl r → rext h.2.2.2.1 ρ ρ' → (∀ q, h.2.2.2.1 q ≤ x.2.2.2.2.1 q) → (∀ v, r = some v → okv x.2.2.2.2.1 v) → mDyn D B fv P ρ' x.2 s H1 → va_S (fun q => B ≤ q) s.heap H1 locs1 → W p l e R s mi args below meth c H1 locs1 (cells + mc) (slots + ms) Q (F0 mi (pc + 3) lr ((r.map (mval ρ' fv)).toList ++ rest)))
    (kx : ∀ (n : Nat) (ρ' : Nat → Nat → Nat) (H1 : Heap) (locs1 : List Loc) (q : Addr) (ce : Cell), x.1 = .inr n → (1 ≤ n ∧ n ≤ 3) → rext h.2.2.2.1 ρ ρ' → (∀ q, h.2.2.2.1 q ≤ x.2.2.2.2.1 q) → mDyn D B fv P ρ' x.2 s H1 → va_S (fun q => B ≤ q) s.heap H1 locs1 → H1[q]? = some ce → ce.vm = .none → s.vm.findClass (excN n) = some ce.cls → vx_W p l e R s mi args below meth c H1 locs1 (cells + mc) (slots + ms) Q (F0 mi pc lr rest) q) :
    W p l e R s mi args below meth c H locs cells slots Q (F0 mi pc lr st0) := by
  intro T hT X
  rcases hr T hT X with ⟨v, st₀, t, T', L, h0, X', hL, e1, e2, ⟨r, ρ', x1, x2, x3, x4, x5, x6, hF⟩, st⟩ | ⟨q, st₀, t, T', L, E, ce, h0, X', hL, e1, e2, ⟨n, ρ', x1, x2, x3, x4, x5, x6, hF⟩, hce, hcv, hcl, st⟩
  · cases x4
    obtain ⟨k1, k2, k3⟩ := vx_keep (A0 := fun q => B ≤ q) h0 e1 hS (fun _ _ z => z) (fun _ z => z) hL hF
    have hvm : t.vm.Alike s.vm := by rw [← e2]; exact X'.warmed.alike.symm
    obtain ⟨t2, a1, b1⟩ := kk r ρ' T'.heap (locs ++ L) x1 x2 x3 x5 (by rw [e1]; exact mDyn_vm hvm x6) k3 T' rfl X'
    exact ⟨t2, st t2 a1, b1⟩
  · subst x3
    obtain ⟨k1, k2, k3⟩ := vx_keep (A0 := fun q => B ≤ q) h0 e1 hS (fun _ _ z => z) (fun _ z => z) hL hF
    have hvm : t.vm.Alike s.vm := by rw [← e2]; exact X'.warmed.alike.symm
    obtain ⟨t2, a1, b1⟩ := kx n ρ' T'.heap (locs ++ L) q ce x1 x2 x4 x5 (by rw [e1]; exact mDyn_vm hvm x6) k3 (by rw [e1]; exact hce) hcv hcl T' rfl X'
    exact ⟨t2, st.trans a1, b1⟩
end Run
