/-! ===== soundness: texts, Object's constructor, Math, lcmp, references stored into rows ===== -/
theorem sLk_ok {own idx j : Nat} (h : sLk own idx = some j) : (own, idx, j) ∈ sTab := by
  unfold sLk at h
  cases hf : sTab.find? (fun q => Nat.beq q.1 own && Nat.beq q.2.1 idx) with
  | none => rw [hf] at h; cases h
  | some q =>
    rw [hf] at h
    obtain ⟨hm, hb⟩ := find_mem hf
    obtain ⟨e1, e2⟩ := beq2 hb
    obtain ⟨o, i, j'⟩ := q
    simp only [Option.map_some, Option.some.injEq] at h
    simp only at e1 e2
    subst h; subst e1; subst e2
    exact hm
theorem sTab_lt : ∀ q ∈ sTab, q.2.2 < strs.length := by decide +kernel
/-- the two fields of a text -/
theorem fLk_str {own idx k : Nat} (h : fLk own idx = some (14, k)) : (k = 0 ∧ Cond.fieldLink (clsN own) idx "java/lang/String" "value" "[B" ∈ gTs) ∨ (k = 1 ∧ Cond.fieldLink (clsN own) idx "java/lang/String" "coder" "B" ∈ gTs) := by
  unfold fLk at h
  cases hf : fTab.find? (fun q => Nat.beq q.1 own && Nat.beq q.2.1 idx) with
  | none => rw [hf] at h; cases h
  | some q =>
    rw [hf] at h
    obtain ⟨hm, hb⟩ := find_mem hf
    obtain ⟨e1, e2⟩ := beq2 hb
    obtain ⟨o, i, ci', k', ps⟩ := q
    simp only [Option.map_some, Option.some.injEq, Prod.mk.injEq] at h
    obtain ⟨rfl, rfl⟩ := h
    have hk := List.all_eq_true.mp fTab_ok _ hm
    simp only at e1 e2
    subst e1; subst e2
    have hn : vwCl[14]? = none := rfl
    simp only [ftOK, hn, Bool.and_eq_true] at hk
    obtain ⟨-, hk⟩ := hk
    cases hb0 : Nat.beq k' 0 with
    | true =>
      rw [hb0] at hk
      simp only [cond_true, decide_eq_true_eq] at hk
      exact Or.inl ⟨Nat.eq_of_beq_eq_true hb0, gTs_in hk rfl⟩
    | false =>
      rw [hb0] at hk
      simp only [cond_false, decide_eq_true_eq] at hk
      exact Or.inr ⟨hk.1, gTs_in hk.2 rfl⟩
theorem objW : Cond.instanceMethod Lib.objectInit ∈ gTs ∧ Cond.code Lib.objectInit ⟨#[0xb1]⟩ 1 none ∈ gTs := ⟨List.mem_filter.mpr ⟨by decide +kernel, rfl⟩, List.mem_filter.mpr ⟨by decide +kernel, rfl⟩⟩
theorem oLk_ok {own idx : Nat} (h : oLk own idx = true) : Cond.methodLink (clsN own) idx Lib.objectInit ∈ gTs := by
  have hall : oTab.all (fun q => decide (lw_tbl[q.2.2]? = some (Cond.methodLink (clsN q.1) q.2.1 Lib.objectInit))) = true := by decide +kernel
  unfold oLk at h
  obtain ⟨q, hf⟩ := Option.isSome_iff_exists.mp h
  obtain ⟨hm, hb⟩ := find_mem hf
  obtain ⟨e1, e2⟩ := beq2 hb
  obtain ⟨o, i, ps⟩ := q
  have hk := List.all_eq_true.mp hall _ hm
  simp only [decide_eq_true_eq] at hk
  simp only at e1 e2
  subst e1; subst e2
  exact gTs_in hk rfl
theorem mcat_map {ρ : Nat → Nat → Nat} {fv : Value} (hf : fv = .null ∨ ∃ a, fv = .ref a) : ∀ st : List MV, ((st.map (mval ρ fv)).map fun v => v.category).sum = mcat st
  | [] => rfl
  | .inl _ :: r => by
    show 1 + ((r.map (mval ρ fv)).map fun v => v.category).sum = mcat r + 1
    rw [mcat_map hf r]; omega
  | .inr (.inl q) :: r => by
    have hc := mval_cat (ρ := ρ) hf (v := .inr (.inl q)) rfl
    show (mval ρ fv (.inr (.inl q))).category + ((r.map (mval ρ fv)).map fun v => v.category).sum = mcat r + 1
    rw [mcat_map hf r, hc]; omega
  | .inr (.inr _) :: r => by
    show 2 + ((r.map (mval ρ fv)).map fun v => v.category).sum = mcat r + 2
    rw [mcat_map hf r]; omega
section Snd
variable {p : Program} {l : Launch} {e : Env} {R : Room} {s : State} {mi : MethodId} {args : Array Value} {below : List Frame} {meth : Method} {c : Code} {Q : State → Prop} {D : va_G} {B : Nat} {fv : Value} {P : MP} {m n1 n2 : Nat} {ρ : Nat → Nat → Nat} {pc : Nat} {ls : List (Option MV)} {st : List MV} {h : MH}
theorem sw_ldcs (C : mCx p l s mi args meth c m) (hX : mExt D B fv P ρ s s.heap) {idx j : Nat} (hl : sLk (mOw m) idx = some j) (hdg : decode (mBy m) pc = .ok (.ldc idx, 2))
    (K : SW p l e R s mi args below meth c Q D B fv P m n1 n2 ρ (pc + 2) ls (rv 2 (some j) :: st) h) : SW p l e R s mi args below meth c Q D B fv P m n1 n2 ρ pc ls st h := by
  intro H locs lr hD hS hL hs hl' h1 h2
  have hm := sLk_ok hl
  obtain ⟨tx, ht⟩ := hX.2.2.2.2.1 _ hm
  have hj : j < strs.length := sTab_lt _ hm
  exact va_ldcS C.1 C.2.1 C.2.2.2.1 ht hdg (K H locs lr hD hS hL (List.forall_mem_cons.mpr ⟨fun i hi => by cases hi; exact hj, hs⟩) hl' h1 h2)
theorem sw_strV (C : mCx p l s mi args meth c m) (hX : mExt D B fv P ρ s s.heap) {idx j : Nat} (hl : fLk (mOw m) idx = some (14, 0)) (hdg : decode (mBy m) pc = .ok (.getfield idx, 3))
    (K : SW p l e R s mi args below meth c Q D B fv P m n1 n2 ρ (pc + 3) ls (rv 3 (some j) :: st) h) : SW p l e R s mi args below meth c Q D B fv P m n1 n2 ρ pc ls (rv 2 (some j) :: st) h := by
  intro H locs lr hD hS hL hs hl' h1 h2
  obtain ⟨hj, hs'⟩ := List.forall_mem_cons.mp hs
  have hj' : j < strs.length := hj j rfl
  rcases fLk_str hl with ⟨-, hw⟩ | ⟨z, -⟩
  · exact vk_getf C.1 C.2.1 (hX.2.2.2.1 j hj').1 hS C.2.2.2.1 (C.2.2.2.2.1 _ hw) (fun _ z => z) hdg (K H locs lr hD hS hL (List.forall_mem_cons.mpr ⟨fun i hi => by cases hi; exact hj', hs'⟩) hl' h1 h2)
  · cases z
theorem sw_strC (C : mCx p l s mi args meth c m) (hX : mExt D B fv P ρ s s.heap) {idx j : Nat} (hl : fLk (mOw m) idx = some (14, 1)) (hdg : decode (mBy m) pc = .ok (.getfield idx, 3))
    (K : SW p l e R s mi args below meth c Q D B fv P m n1 n2 ρ (pc + 3) ls (iv 0 :: st) h) : SW p l e R s mi args below meth c Q D B fv P m n1 n2 ρ pc ls (rv 2 (some j) :: st) h := by
  intro H locs lr hD hS hL hs hl' h1 h2
  obtain ⟨hj, hs'⟩ := List.forall_mem_cons.mp hs
  have hj' : j < strs.length := hj j rfl
  rcases fLk_str hl with ⟨z, -⟩ | ⟨-, hw⟩
  · cases z
  · exact vk_getf C.1 C.2.1 (hX.2.2.2.1 j hj').2.1 hS C.2.2.2.1 (C.2.2.2.2.1 _ hw) (fun _ z => z) hdg (K H locs lr hD hS hL (List.forall_mem_cons.mpr ⟨trivial, hs'⟩) hl' h1 h2)
theorem sw_obj (C : mCx p l s mi args meth c m) (hf : fv = .null ∨ ∃ a, fv = .ref a) {idx r j : Nat} (hr7 : Nat.beq r 7 = false) (hl : oLk (mOw m) idx = true) (hcat : mcat st ≤ 8) (hRf : 1 ≤ R.frames) (hRl : 20 ≤ R.locals) (hdg : decode (mBy m) pc = .ok (.invokespecial idx, 3))
    (K : SW p l e R s mi args below meth c Q D B fv P m n1 n2 ρ (pc + 3) ls st h) : SW p l e R s mi args below meth c Q D B fv P m n1 n2 ρ pc ls (rv r (some j) :: st) h := by
  intro H locs lr hD hS hL hs hl' h1 h2
  obtain ⟨hj, hs'⟩ := List.forall_mem_cons.mp hs
  have he : mrf ρ fv r (some j) = .ref (ρ r j) := by simp [mrf, hr7]
  show W p l e R s mi args below meth c H locs (h.2.2.2.2.1 - n1) (h.2.2.2.2.2 - n2) Q (F0 mi pc lr (mrf ρ fv r (some j) :: st.map (mval ρ fv)))
  rw [he]
  have hm0 : (2 * JFrame.monitorRoom (F0 mi pc lr (.ref (ρ r j) :: st.map (mval ρ fv)))) = 0 := rfl
  exact W.objInit C.1 C.2.1 C.2.2.2.1 (C.2.2.2.2.1 _ (oLk_ok hl)) (C.2.2.2.2.1 _ objW.1) (C.2.2.2.2.1 _ objW.2) (g := F0 mi pc lr (.ref (ρ r j) :: st.map (mval ρ fv))) rfl (hL.1.1.trans C.2.2.1.symm) rfl hdg hRf (by rw [hm0, mcat_map hf st]; omega) (K H locs lr hD hS hL hs' hl' h1 h2)
theorem sw_lcmp (C : mCx p l s mi args meth c m) {x y : Int64} (hdg : decode (mBy m) pc = .ok (.lcmp, 1))
    (K1 : x < y → SW p l e R s mi args below meth c Q D B fv P m n1 n2 ρ (pc + 1) ls (iv (-1) :: st) h) (K2 : ¬ x < y → x = y → SW p l e R s mi args below meth c Q D B fv P m n1 n2 ρ (pc + 1) ls (iv 0 :: st) h) (K3 : ¬ x < y → ¬ x = y → SW p l e R s mi args below meth c Q D B fv P m n1 n2 ρ (pc + 1) ls (iv 1 :: st) h) : SW p l e R s mi args below meth c Q D B fv P m n1 n2 ρ pc ls (jv y :: jv x :: st) h := by
  intro H locs lr hD hS hL hs hl' h1 h2
  have hs' := (List.forall_mem_cons.mp (List.forall_mem_cons.mp hs).2).2
  refine W.lcmp C.1 C.2.1 hdg ?_
  by_cases a : x < y
  · have e : lg_cmp x y = -1 := by
      have h3 : ¬ x > y := fun z => by
        have z1 := Int64.lt_iff_toInt_lt.mp z
        have z2 := Int64.lt_iff_toInt_lt.mp a
        omega
      have h4 : ¬ x = y := fun z => by subst z; have z2 := Int64.lt_iff_toInt_lt.mp a; omega
      simp [lg_cmp, h3, h4]
    rw [e]
    exact K1 a H locs lr hD hS hL (List.forall_mem_cons.mpr ⟨trivial, hs'⟩) hl' h1 h2
  · by_cases b : x = y
    · have e : lg_cmp x y = 0 := by
        have h3 : ¬ x > y := fun z => by subst b; exact a z
        simp [lg_cmp, h3, b]
      rw [e]
      exact K2 a b H locs lr hD hS hL (List.forall_mem_cons.mpr ⟨trivial, hs'⟩) hl' h1 h2
    · have e : lg_cmp x y = 1 := by
        have h3 : x > y := Int64.lt_iff_toInt_lt.mpr (by
          have z1 : ¬ x.toInt < y.toInt := fun z => a (Int64.lt_iff_toInt_lt.mpr z)
          have z2 : ¬ x.toInt = y.toInt := fun z => b (Int64.toInt_inj.mp z)
          omega)
        simp [lg_cmp, h3]
      rw [e]
      exact K3 a b H locs lr hD hS hL (List.forall_mem_cons.mpr ⟨trivial, hs'⟩) hl' h1 h2
end Snd
