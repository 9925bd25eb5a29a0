/-! ===== soundness: what the mini machine does in a step, the JVM does ===== -/
abbrev gTs : List Cond := lw_tbl.filter goodWord
theorem gTs_in {p : Nat} {w : Cond} (h : lw_tbl[p]? = some w) (hg : goodWord w = true) : w ∈ gTs := List.mem_filter.mpr ⟨List.mem_of_getElem? h, hg⟩
/-- what holds of a method's body all the way -/
def mCx (p : Program) (l : Launch) (s : State) (mi : MethodId) (args : Array Value) (meth : Method) (c : Code) (m : Nat) : Prop :=
  p.tables.exec = Jvm.exec ∧ c.code = mBy m ∧ c.maxLocals = mMx m ∧ s.vm.findClass (clsN (mOw m)) = some mi.cls ∧ (∀ w ∈ gTs, w.before args s = true) ∧ meth.sig.returnType = mRt m ∧ meth.locks = false ∧ meth.name = (mNm m).name ∧ c.exceptionTable.toList = tableOf (mHt m) ∧ l.stackTraces = false
/-- from here on the JVM comes to Q, whatever its heap is that stands beside h -/
def SW (p : Program) (l : Launch) (e : Env) (R : Room) (s : State) (mi : MethodId) (args : Array Value) (below : List Frame) (meth : Method) (c : Code) (Q : State → Prop) (D : va_G) (B : Nat) (fv : Value) (P : MP) (m n1 n2 : Nat) (ρ : Nat → Nat → Nat) (pc : Nat) (ls : List (Option MV)) (st : List MV) (h : MH) : Prop :=
  ∀ (H : Heap) (locs : List Loc) (lr : Array Slot), mDyn D B fv P ρ h s H → va_S (fun q => B ≤ q) s.heap H locs → lrel ρ fv (mMx m) ls lr → (∀ v ∈ st, okv h.2.2.2.1 v) → (∀ (i : Nat) (v : MV), ls[i]? = some (some v) → okv h.2.2.2.1 v) → n1 ≤ h.2.2.2.2.1 → n2 ≤ h.2.2.2.2.2 →
    W p l e R s mi args below meth c H locs (h.2.2.2.2.1 - n1) (h.2.2.2.2.2 - n2) Q (F0 mi pc lr (st.map (mval ρ fv)))
section Snd
variable {p : Program} {l : Launch} {e : Env} {R : Room} {s : State} {mi : MethodId} {args : Array Value} {below : List Frame} {meth : Method} {c : Code} {Q : State → Prop} {D : va_G} {B : Nat} {fv : Value} {P : MP} {m n1 n2 : Nat} {ρ : Nat → Nat → Nat} {pc : Nat} {ls : List (Option MV)} {st : List MV} {h : MH}
theorem sw_iconst (C : mCx p l s mi args meth c m) {n : Int} {v : Int32} (hdg : decode (mBy m) pc = .ok (.iconst n, 1)) (hv : Int32.ofInt n = v)
    (K : SW p l e R s mi args below meth c Q D B fv P m n1 n2 ρ (pc + 1) ls (iv v :: st) h) : SW p l e R s mi args below meth c Q D B fv P m n1 n2 ρ pc ls st h :=
  fun H locs lr hD hS hL hs hl h1 h2 => lv_iconst C.1 C.2.1 hdg hv (K H locs lr hD hS hL (List.forall_mem_cons.mpr ⟨trivial, hs⟩) hl h1 h2)
theorem sw_bipush (C : mCx p l s mi args meth c m) {n : Int} {v : Int32} (hdg : decode (mBy m) pc = .ok (.bipush n, 2)) (hv : (Int8.ofInt n).toInt32 = v)
    (K : SW p l e R s mi args below meth c Q D B fv P m n1 n2 ρ (pc + 2) ls (iv v :: st) h) : SW p l e R s mi args below meth c Q D B fv P m n1 n2 ρ pc ls st h :=
  fun H locs lr hD hS hL hs hl h1 h2 => lv_bipush C.1 C.2.1 hdg hv (K H locs lr hD hS hL (List.forall_mem_cons.mpr ⟨trivial, hs⟩) hl h1 h2)
theorem sw_sipush (C : mCx p l s mi args meth c m) {n : Int} {v : Int32} (hdg : decode (mBy m) pc = .ok (.sipush n, 3)) (hv : (Int16.ofInt n).toInt32 = v)
    (K : SW p l e R s mi args below meth c Q D B fv P m n1 n2 ρ (pc + 3) ls (iv v :: st) h) : SW p l e R s mi args below meth c Q D B fv P m n1 n2 ρ pc ls st h :=
  fun H locs lr hD hS hL hs hl h1 h2 => lv_sipush C.1 C.2.1 hdg hv (K H locs lr hD hS hL (List.forall_mem_cons.mpr ⟨trivial, hs⟩) hl h1 h2)
theorem sw_lconst (C : mCx p l s mi args meth c m) {n : Fin 2} (hdg : decode (mBy m) pc = .ok (.lconst n, 1))
    (K : SW p l e R s mi args below meth c Q D B fv P m n1 n2 ρ (pc + 1) ls (jv (Int64.ofNat n.val) :: st) h) : SW p l e R s mi args below meth c Q D B fv P m n1 n2 ρ pc ls st h :=
  fun H locs lr hD hS hL hs hl h1 h2 => lv_lconst C.1 C.2.1 hdg rfl (K H locs lr hD hS hL (List.forall_mem_cons.mpr ⟨trivial, hs⟩) hl h1 h2)
theorem sw_null (C : mCx p l s mi args meth c m) (r : Nat) (hdg : decode (mBy m) pc = .ok (.aconst_null, 1))
    (K : SW p l e R s mi args below meth c Q D B fv P m n1 n2 ρ (pc + 1) ls (rv r none :: st) h) : SW p l e R s mi args below meth c Q D B fv P m n1 n2 ρ pc ls st h :=
  fun H locs lr hD hS hL hs hl h1 h2 => lv_null C.1 C.2.1 hdg (K H locs lr hD hS hL (List.forall_mem_cons.mpr ⟨(fun _ q => nomatch q), hs⟩) hl h1 h2)
theorem sw_iload (C : mCx p l s mi args meth c m) {i len : Nat} {x : Int32} (hdg : decode (mBy m) pc = .ok (.iload i, 2) ∧ len = 2 ∨ ∃ a : Fin 4, decode (mBy m) pc = .ok (.iload_n a, 1) ∧ a.val = i ∧ len = 1) (hx : lget ls i = some (iv x))
    (K : SW p l e R s mi args below meth c Q D B fv P m n1 n2 ρ (pc + len) ls (iv x :: st) h) : SW p l e R s mi args below meth c Q D B fv P m n1 n2 ρ pc ls st h := by
  intro H locs lr hD hS hL hs hl h1 h2
  have hr := (hL.2.2 i _ (lget_at hx)).2
  have k := K H locs lr hD hS hL (List.forall_mem_cons.mpr ⟨trivial, hs⟩) hl h1 h2
  rcases hdg with ⟨hd, rfl⟩ | ⟨a, hd, ha, rfl⟩
  · exact lv_iload C.1 C.2.1 hd hr k
  · exact lv_iload_n C.1 C.2.1 hd ha hr k
theorem mrf_cases (hf : fv = .null ∨ ∃ a, fv = .ref a) (r : Nat) (o : Option Nat) : mrf ρ fv r o = .null ∨ ∃ a, mrf ρ fv r o = .ref a := by
  cases o with
  | none => exact Or.inl rfl
  | some j =>
    show (bif Nat.beq r 7 then fv else Value.ref (ρ r j)) = .null ∨ ∃ a, (bif Nat.beq r 7 then fv else Value.ref (ρ r j)) = .ref a
    cases Nat.beq r 7
    · exact Or.inr ⟨_, rfl⟩
    · exact hf
theorem sw_aload (C : mCx p l s mi args meth c m) (hf : fv = .null ∨ ∃ a, fv = .ref a) {i len r : Nat} {o : Option Nat} (hdg : decode (mBy m) pc = .ok (.aload i, 2) ∧ len = 2 ∨ ∃ a : Fin 4, decode (mBy m) pc = .ok (.aload_n a, 1) ∧ a.val = i ∧ len = 1) (hx : lget ls i = some (rv r o))
    (K : SW p l e R s mi args below meth c Q D B fv P m n1 n2 ρ (pc + len) ls (rv r o :: st) h) : SW p l e R s mi args below meth c Q D B fv P m n1 n2 ρ pc ls st h := by
  intro H locs lr hD hS hL hs hl h1 h2
  have hr : lr[i]? = some (.val (mrf ρ fv r o)) := (hL.2.2 i _ (lget_at hx)).2
  have k : W p l e R s mi args below meth c H locs (h.2.2.2.2.1 - n1) (h.2.2.2.2.2 - n2) Q (F0 mi (pc + len) lr (mrf ρ fv r o :: st.map (mval ρ fv))) := K H locs lr hD hS hL (List.forall_mem_cons.mpr ⟨hl i _ (lget_at hx), hs⟩) hl h1 h2
  rcases mrf_cases (ρ := ρ) hf r o with q | ⟨a, q⟩
  · rw [q] at hr k
    rcases hdg with ⟨hd, rfl⟩ | ⟨b, hd, ha, rfl⟩
    · exact lv_aloadN C.1 C.2.1 hd hr k
    · exact lv_aload_nN C.1 C.2.1 hd ha hr k
  · rw [q] at hr k
    rcases hdg with ⟨hd, rfl⟩ | ⟨b, hd, ha, rfl⟩
    · exact lv_aload C.1 C.2.1 hd hr k
    · exact lv_aload_n C.1 C.2.1 hd ha hr k
theorem okl_set {C : Nat → Nat} {i : Nat} {v : MV} (hv : okv C v) (hl : ∀ (i : Nat) (v : MV), ls[i]? = some (some v) → okv C v) : ∀ (j : Nat) (w : MV), (ls.set i (some v))[j]? = some (some w) → okv C w := by
  intro j w hj
  by_cases hji : j = i
  · subst hji
    have hl' : j < ls.length := by
      have := (List.getElem?_eq_some_iff.mp hj).1
      rwa [List.length_set] at this
    rw [List.getElem?_set_self hl'] at hj
    cases hj
    exact hv
  · rw [List.getElem?_set_ne (fun q => hji q.symm)] at hj
    exact hl j w hj
theorem sw_istore (C : mCx p l s mi args meth c m) (hf : fv = .null ∨ ∃ a, fv = .ref a) {i len : Nat} {x : Int32} (hdg : decode (mBy m) pc = .ok (.istore i, 2) ∧ len = 2 ∨ ∃ a : Fin 4, decode (mBy m) pc = .ok (.istore_n a, 1) ∧ a.val = i ∧ len = 1) (hi : i < mMx m)
    (K : SW p l e R s mi args below meth c Q D B fv P m n1 n2 ρ (pc + len) (ls.set i (some (iv x))) st h) : SW p l e R s mi args below meth c Q D B fv P m n1 n2 ρ pc ls (iv x :: st) h := by
  intro H locs lr hD hS hL hs hl h1 h2
  have hs' := (List.forall_mem_cons.mp hs).2
  rcases hdg with ⟨hd, rfl⟩ | ⟨b, hd, ha, rfl⟩
  · exact lv_istore C.1 C.2.1 hd (lprs_has hL) hi rfl (fun lr' h' => K H locs lr' hD hS (lrel_set (v := iv x) hf rfl hL h') hs' (okl_set trivial hl) h1 h2)
  · exact lv_istore_n C.1 C.2.1 hd ha (lprs_has hL) hi rfl (fun lr' h' => K H locs lr' hD hS (lrel_set (v := iv x) hf rfl hL h') hs' (okl_set trivial hl) h1 h2)
theorem sw_astore (C : mCx p l s mi args meth c m) (hf : fv = .null ∨ ∃ a, fv = .ref a) {i len r : Nat} {o : Option Nat} (hdg : decode (mBy m) pc = .ok (.astore i, 2) ∧ len = 2 ∨ ∃ a : Fin 4, decode (mBy m) pc = .ok (.astore_n a, 1) ∧ a.val = i ∧ len = 1) (hi : i < mMx m)
    (K : SW p l e R s mi args below meth c Q D B fv P m n1 n2 ρ (pc + len) (ls.set i (some (rv r o))) st h) : SW p l e R s mi args below meth c Q D B fv P m n1 n2 ρ pc ls (rv r o :: st) h := by
  intro H locs lr hD hS hL hs hl h1 h2
  obtain ⟨hv, hs'⟩ := List.forall_mem_cons.mp hs
  have hA : ∀ lr', lv_has lr' (mMx m) ((i, mrf ρ fv r o) :: (lprs ρ fv ls).filter (fun q => !(q.1 == i) && !(q.1 + 1 == i && q.2.category == 2))) → W p l e R s mi args below meth c H locs (h.2.2.2.2.1 - n1) (h.2.2.2.2.2 - n2) Q (F0 mi (pc + len) lr' (st.map (mval ρ fv))) :=
    fun lr' h' => K H locs lr' hD hS (lrel_set (v := rv r o) hf rfl hL h') hs' (okl_set hv hl) h1 h2
  show W p l e R s mi args below meth c H locs (h.2.2.2.2.1 - n1) (h.2.2.2.2.2 - n2) Q (F0 mi pc lr (mrf ρ fv r o :: st.map (mval ρ fv)))
  rcases mrf_cases (ρ := ρ) hf r o with q | ⟨a, q⟩
  · rw [q] at hA ⊢
    rcases hdg with ⟨hd, rfl⟩ | ⟨b, hd, ha, rfl⟩
    · exact lv_astoreN C.1 C.2.1 hd (lprs_has hL) hi rfl hA
    · exact lv_astore_nN C.1 C.2.1 hd ha (lprs_has hL) hi rfl hA
  · rw [q] at hA ⊢
    rcases hdg with ⟨hd, rfl⟩ | ⟨b, hd, ha, rfl⟩
    · exact lv_astore C.1 C.2.1 hd (lprs_has hL) hi rfl hA
    · exact lv_astore_n C.1 C.2.1 hd ha (lprs_has hL) hi rfl hA
theorem sw_iinc (C : mCx p l s mi args meth c m) (hf : fv = .null ∨ ∃ a, fv = .ref a) {i : Nat} {n : Int} {x v : Int32} (hdg : decode (mBy m) pc = .ok (.iinc i n, 3)) (hi : i < mMx m) (hx : lget ls i = some (iv x)) (hv : Int32.ofInt n = v)
    (K : SW p l e R s mi args below meth c Q D B fv P m n1 n2 ρ (pc + 3) (ls.set i (some (iv (x + v)))) st h) : SW p l e R s mi args below meth c Q D B fv P m n1 n2 ρ pc ls st h := by
  intro H locs lr hD hS hL hs hl h1 h2
  obtain ⟨k, hk⟩ := List.mem_iff_getElem?.mp (lprs_mem (ρ := ρ) (fv := fv) (lget_at hx))
  exact lv_iinc (v := x + v) C.1 C.2.1 hdg (lprs_has hL) hk (by rw [hv]) hi rfl (fun lr' h' => K H locs lr' hD hS (lrel_set (v := iv (x + v)) hf rfl hL h') hs (okl_set trivial hl) h1 h2)
theorem sw_bin (C : mCx p l s mi args meth c m) {x y : Int32} {w : Nat} {i : Instr} (hdg : decode (mBy m) pc = .ok (i, 1)) (hi : (i = .iadd ∧ w = 0) ∨ (i = .isub ∧ w = 1) ∨ (i = .imul ∧ w = 2) ∨ (i = .iand ∧ w = 3) ∨ (i = .ior ∧ w = 4) ∨ (i = .ixor ∧ w = 5) ∨ (i = .ishl ∧ w = 6) ∨ (i = .ishr ∧ w = 7) ∨ (i = .iushr ∧ w = 8))
    {F : Int32 → MX} {z : (Option MV ⊕ Nat) × MH} (hq : mop w x y F = some z) (K : ∀ v, F v = some z → SW p l e R s mi args below meth c Q D B fv P m n1 n2 ρ (pc + 1) ls (iv v :: st) h) : SW p l e R s mi args below meth c Q D B fv P m n1 n2 ρ pc ls (iv y :: iv x :: st) h := by
  intro H locs lr hD hS hL hs hl h1 h2
  have hs' := (List.forall_mem_cons.mp (List.forall_mem_cons.mp hs).2).2
  have k : ∀ v, F v = some z → _ := fun v hv => K v hv H locs lr hD hS hL (List.forall_mem_cons.mpr ⟨trivial, hs'⟩) hl h1 h2
  rcases hi with ⟨rfl, rfl⟩ | ⟨rfl, rfl⟩ | ⟨rfl, rfl⟩ | ⟨rfl, rfl⟩ | ⟨rfl, rfl⟩ | ⟨rfl, rfl⟩ | ⟨rfl, rfl⟩ | ⟨rfl, rfl⟩ | ⟨rfl, rfl⟩
  · exact lv_iadd C.1 C.2.1 hdg (k _ hq)
  · exact lv_isub C.1 C.2.1 hdg (k _ hq)
  · exact lv_imul C.1 C.2.1 hdg (k _ hq)
  · exact lv_iand C.1 C.2.1 hdg (k _ hq)
  · exact lv_ior C.1 C.2.1 hdg (k _ hq)
  · exact lv_ixor C.1 C.2.1 hdg (k _ hq)
  · exact lv_ishl C.1 C.2.1 hdg (k _ hq)
  · exact lv_ishr C.1 C.2.1 hdg (k _ hq)
  · exact lv_iushr C.1 C.2.1 hdg rfl (k _ hq)
theorem sw_idiv (C : mCx p l s mi args meth c m) {x y : Int32} (hdg : decode (mBy m) pc = .ok (.idiv, 1)) (hy : ¬ y = 0) (K : SW p l e R s mi args below meth c Q D B fv P m n1 n2 ρ (pc + 1) ls (iv (x / y) :: st) h) : SW p l e R s mi args below meth c Q D B fv P m n1 n2 ρ pc ls (iv y :: iv x :: st) h :=
  fun H locs lr hD hS hL hs hl h1 h2 => lv_idiv C.1 C.2.1 hdg hy (K H locs lr hD hS hL (List.forall_mem_cons.mpr ⟨trivial, (List.forall_mem_cons.mp (List.forall_mem_cons.mp hs).2).2⟩) hl h1 h2)
theorem sw_irem (C : mCx p l s mi args meth c m) {x y : Int32} (hdg : decode (mBy m) pc = .ok (.irem, 1)) (hy : ¬ y = 0) (K : SW p l e R s mi args below meth c Q D B fv P m n1 n2 ρ (pc + 1) ls (iv (x - x / y * y) :: st) h) : SW p l e R s mi args below meth c Q D B fv P m n1 n2 ρ pc ls (iv y :: iv x :: st) h :=
  fun H locs lr hD hS hL hs hl h1 h2 => lv_irem C.1 C.2.1 hdg hy (K H locs lr hD hS hL (List.forall_mem_cons.mpr ⟨trivial, (List.forall_mem_cons.mp (List.forall_mem_cons.mp hs).2).2⟩) hl h1 h2)
theorem sw_un (C : mCx p l s mi args meth c m) {x : Int32} {w : Nat} {i : Instr} (hdg : decode (mBy m) pc = .ok (i, 1)) (hi : (i = .ineg ∧ w = 0) ∨ (i = .i2b ∧ w = 1) ∨ (i = .i2c ∧ w = 2))
    {F : Int32 → MX} {z : (Option MV ⊕ Nat) × MH} (hq : mun w x F = some z) (K : ∀ v, F v = some z → SW p l e R s mi args below meth c Q D B fv P m n1 n2 ρ (pc + 1) ls (iv v :: st) h) : SW p l e R s mi args below meth c Q D B fv P m n1 n2 ρ pc ls (iv x :: st) h := by
  intro H locs lr hD hS hL hs hl h1 h2
  have k : ∀ v, F v = some z → _ := fun v hv => K v hv H locs lr hD hS hL (List.forall_mem_cons.mpr ⟨trivial, (List.forall_mem_cons.mp hs).2⟩) hl h1 h2
  rcases hi with ⟨rfl, rfl⟩ | ⟨rfl, rfl⟩ | ⟨rfl, rfl⟩
  · exact lv_ineg C.1 C.2.1 hdg (k _ hq)
  · exact lv_i2b C.1 C.2.1 hdg rfl (k _ hq)
  · exact lv_i2c C.1 C.2.1 hdg rfl (k _ hq)
theorem sw_i2l (C : mCx p l s mi args meth c m) {x : Int32} (hdg : decode (mBy m) pc = .ok (.i2l, 1)) (K : SW p l e R s mi args below meth c Q D B fv P m n1 n2 ρ (pc + 1) ls (jv x.toInt64 :: st) h) : SW p l e R s mi args below meth c Q D B fv P m n1 n2 ρ pc ls (iv x :: st) h :=
  fun H locs lr hD hS hL hs hl h1 h2 => lv_i2l C.1 C.2.1 hdg rfl (K H locs lr hD hS hL (List.forall_mem_cons.mpr ⟨trivial, (List.forall_mem_cons.mp hs).2⟩) hl h1 h2)
theorem nle_i {x y : Int32} : ¬ x ≤ y ↔ y < x := Int32.not_le
theorem nlt_i {x y : Int32} : ¬ x < y ↔ y ≤ x := Int32.not_lt
/-- a branch on two ints -/
theorem sw_icmp (C : mCx p l s mi args meth c m) {x y : Int32} {q : ClassFile.Cond} {off : Int} {t : Nat} (hdg : decode (mBy m) pc = .ok (.if_icmp q off, 3)) (ht : (pc : Int) + off = (t : Int)) {A A' : MX} {z : (Option MV ⊕ Nat) × MH} (hq : mbr (cndN q) x y A A' = some z)
    (K1 : A = some z → SW p l e R s mi args below meth c Q D B fv P m n1 n2 ρ t ls st h) (K2 : A' = some z → SW p l e R s mi args below meth c Q D B fv P m n1 n2 ρ (pc + 3) ls st h) : SW p l e R s mi args below meth c Q D B fv P m n1 n2 ρ pc ls (iv y :: iv x :: st) h := by
  intro H locs lr hD hS hL hs hl h1 h2
  have hs' := (List.forall_mem_cons.mp (List.forall_mem_cons.mp hs).2).2
  have k1 := fun hv => K1 hv H locs lr hD hS hL hs' hl h1 h2
  have k2 := fun hv => K2 hv H locs lr hD hS hL hs' hl h1 h2
  cases q
  · exact lv_icmp_eq C.1 C.2.1 hdg ht (fun g => k1 (by simpa [mbr, cndN, g] using hq)) (fun g => k2 (by simpa [mbr, cndN, g] using hq))
  · exact lv_icmp_ne C.1 C.2.1 hdg ht (fun g => k1 (by simpa [mbr, cndN, g] using hq)) (fun g => k2 (by have g' : x = y := g; simpa [mbr, cndN, g'] using hq))
  · exact lv_icmp_lt C.1 C.2.1 hdg ht (fun g => k1 (by simpa [mbr, cndN, g] using hq)) (fun g => k2 (by simpa [mbr, cndN, g] using hq))
  · exact lv_icmp_ge C.1 C.2.1 hdg ht (fun g => k1 (by have g' : ¬ x < y := nlt_i.mpr g; simpa [mbr, cndN, g'] using hq)) (fun g => k2 (by have g' : x < y := nle_i.mp g; simpa [mbr, cndN, g'] using hq))
  · exact lv_icmp_gt C.1 C.2.1 hdg ht (fun g => k1 (by have g' : y < x := g; simpa [mbr, cndN, g'] using hq)) (fun g => k2 (by have g' : ¬ y < x := g; simpa [mbr, cndN, g'] using hq))
  · exact lv_icmp_le C.1 C.2.1 hdg ht (fun g => k1 (by have g' : ¬ y < x := nlt_i.mpr g; simpa [mbr, cndN, g'] using hq)) (fun g => k2 (by have g' : y < x := nle_i.mp g; simpa [mbr, cndN, g'] using hq))
theorem sw_ifc (C : mCx p l s mi args meth c m) {x : Int32} {q : ClassFile.Cond} {off : Int} {t : Nat} (hdg : decode (mBy m) pc = .ok (.ifCond q off, 3)) (ht : (pc : Int) + off = (t : Int)) {A A' : MX} {z : (Option MV ⊕ Nat) × MH} (hq : mbr (cndN q) x 0 A A' = some z)
    (K1 : A = some z → SW p l e R s mi args below meth c Q D B fv P m n1 n2 ρ t ls st h) (K2 : A' = some z → SW p l e R s mi args below meth c Q D B fv P m n1 n2 ρ (pc + 3) ls st h) : SW p l e R s mi args below meth c Q D B fv P m n1 n2 ρ pc ls (iv x :: st) h := by
  intro H locs lr hD hS hL hs hl h1 h2
  have hs' := (List.forall_mem_cons.mp hs).2
  have k1 := fun hv => K1 hv H locs lr hD hS hL hs' hl h1 h2
  have k2 := fun hv => K2 hv H locs lr hD hS hL hs' hl h1 h2
  cases q
  · exact lv_if_eq C.1 C.2.1 hdg ht (fun g => k1 (by simpa [mbr, cndN, g] using hq)) (fun g => k2 (by simpa [mbr, cndN, g] using hq))
  · exact lv_if_ne C.1 C.2.1 hdg ht (fun g => k1 (by simpa [mbr, cndN, g] using hq)) (fun g => k2 (by have g' : x = 0 := g; simpa [mbr, cndN, g'] using hq))
  · exact lv_if_lt C.1 C.2.1 hdg ht (fun g => k1 (by simpa [mbr, cndN, g] using hq)) (fun g => k2 (by simpa [mbr, cndN, g] using hq))
  · exact lv_if_ge C.1 C.2.1 hdg ht (fun g => k1 (by have g' : ¬ x < 0 := nlt_i.mpr g; simpa [mbr, cndN, g'] using hq)) (fun g => k2 (by have g' : x < 0 := nle_i.mp g; simpa [mbr, cndN, g'] using hq))
  · exact lv_if_gt C.1 C.2.1 hdg ht (fun g => k1 (by have g' : 0 < x := g; simpa [mbr, cndN, g'] using hq)) (fun g => k2 (by have g' : ¬ 0 < x := g; simpa [mbr, cndN, g'] using hq))
  · exact lv_if_le C.1 C.2.1 hdg ht (fun g => k1 (by have g' : ¬ 0 < x := nlt_i.mpr g; simpa [mbr, cndN, g'] using hq)) (fun g => k2 (by have g' : 0 < x := nle_i.mp g; simpa [mbr, cndN, g'] using hq))
theorem sw_goto (C : mCx p l s mi args meth c m) {off : Int} {t : Nat} (hdg : decode (mBy m) pc = .ok (.goto off, 3)) (ht : (pc : Int) + off = (t : Int)) (K : SW p l e R s mi args below meth c Q D B fv P m n1 n2 ρ t ls st h) : SW p l e R s mi args below meth c Q D B fv P m n1 n2 ρ pc ls st h :=
  fun H locs lr hD hS hL hs hl h1 h2 => lv_goto C.1 C.2.1 hdg ht (K H locs lr hD hS hL hs hl h1 h2)
theorem sw_ifnull (C : mCx p l s mi args meth c m) {r : Nat} {o : Option Nat} (hr : Nat.beq r 7 = false) {w : Nat} {off : Int} {t : Nat} (hdg : (decode (mBy m) pc = .ok (.ifnull off, 3) ∧ w = 0) ∨ (decode (mBy m) pc = .ok (.ifnonnull off, 3) ∧ w = 1)) (ht : (pc : Int) + off = (t : Int)) {A A' : MX} {z : (Option MV ⊕ Nat) × MH} (hq : mnu w o A A' = some z)
    (K1 : A = some z → SW p l e R s mi args below meth c Q D B fv P m n1 n2 ρ t ls st h) (K2 : A' = some z → SW p l e R s mi args below meth c Q D B fv P m n1 n2 ρ (pc + 3) ls st h) : SW p l e R s mi args below meth c Q D B fv P m n1 n2 ρ pc ls (rv r o :: st) h := by
  intro H locs lr hD hS hL hs hl h1 h2
  have hs' := (List.forall_mem_cons.mp hs).2
  have k1 := fun hv => K1 hv H locs lr hD hS hL hs' hl h1 h2
  have k2 := fun hv => K2 hv H locs lr hD hS hL hs' hl h1 h2
  show W p l e R s mi args below meth c H locs (h.2.2.2.2.1 - n1) (h.2.2.2.2.2 - n2) Q (F0 mi pc lr (mrf ρ fv r o :: st.map (mval ρ fv)))
  cases o with
  | none =>
    rcases hdg with ⟨hd, rfl⟩ | ⟨hd, rfl⟩
    · exact lv_ifnullN C.1 C.2.1 hd ht (k1 (by simpa [mnu] using hq))
    · exact lv_ifnonnullN C.1 C.2.1 hd (k2 (by simpa [mnu] using hq))
  | some j =>
    have he : mrf ρ fv r (some j) = .ref (ρ r j) := by simp [mrf, hr]
    rw [he]
    rcases hdg with ⟨hd, rfl⟩ | ⟨hd, rfl⟩
    · exact lv_ifnull C.1 C.2.1 hd (k2 (by simpa [mnu] using hq))
    · exact lv_ifnonnull C.1 C.2.1 hd ht (k1 (by simpa [mnu] using hq))
theorem sw_dup (C : mCx p l s mi args meth c m) (hf : fv = .null ∨ ∃ a, fv = .ref a) {v : MV} (hv : notJ v = true) (hdg : decode (mBy m) pc = .ok (.dup, 1)) (K : SW p l e R s mi args below meth c Q D B fv P m n1 n2 ρ (pc + 1) ls (v :: v :: st) h) : SW p l e R s mi args below meth c Q D B fv P m n1 n2 ρ pc ls (v :: st) h :=
  fun H locs lr hD hS hL hs hl h1 h2 => lv_dup C.1 C.2.1 hdg (mval_cat hf hv) (K H locs lr hD hS hL (List.forall_mem_cons.mpr ⟨(List.forall_mem_cons.mp hs).1, hs⟩) hl h1 h2)
theorem sw_dup2 (C : mCx p l s mi args meth c m) (hf : fv = .null ∨ ∃ a, fv = .ref a) {v w : MV} (hv : notJ v = true) (hw : notJ w = true) (hdg : decode (mBy m) pc = .ok (.dup2, 1)) (K : SW p l e R s mi args below meth c Q D B fv P m n1 n2 ρ (pc + 1) ls (v :: w :: v :: w :: st) h) : SW p l e R s mi args below meth c Q D B fv P m n1 n2 ρ pc ls (v :: w :: st) h :=
  fun H locs lr hD hS hL hs hl h1 h2 => lv_dup2_11 C.1 C.2.1 hdg (mval_cat hf hv) (mval_cat hf hw) (K H locs lr hD hS hL (List.forall_mem_cons.mpr ⟨(List.forall_mem_cons.mp hs).1, List.forall_mem_cons.mpr ⟨(List.forall_mem_cons.mp (List.forall_mem_cons.mp hs).2).1, hs⟩⟩) hl h1 h2)
theorem sw_pop (C : mCx p l s mi args meth c m) (hf : fv = .null ∨ ∃ a, fv = .ref a) {v : MV} (hv : notJ v = true) (hdg : decode (mBy m) pc = .ok (.pop, 1)) (K : SW p l e R s mi args below meth c Q D B fv P m n1 n2 ρ (pc + 1) ls st h) : SW p l e R s mi args below meth c Q D B fv P m n1 n2 ρ pc ls (v :: st) h :=
  fun H locs lr hD hS hL hs hl h1 h2 => lv_pop C.1 C.2.1 hdg (mval_cat hf hv) (K H locs lr hD hS hL (List.forall_mem_cons.mp hs).2 hl h1 h2)
end Snd
