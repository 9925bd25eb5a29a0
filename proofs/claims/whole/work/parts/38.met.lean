/-! ===== every method meets what the mini machine says ===== -/
section Met
variable {p : Program} {l : Launch} {e : Env} {R : Room} {s : State} {mi : MethodId} {args : Array Value} {below : List Frame} {meth : Method} {c : Code} {D : va_G} {B : Nat} {fv : Value} {P : MP} {m d : Nat} {ρ0 : Nat → Nat → Nat} {h0 : MH} {x : MO}
theorem mrun_go {E : Nat → List MV → MH → MX} (C : mCx p l s mi args meth c m) (hf : fv = .null ∨ ∃ a, fv = .ref a) (hm : m < mNo) (hmA : mchA m) (hmc : ∀ m', m' < mNo → m' ≠ mLaw → mchM m' = true) (hPk : mPok P) (hX : mExt D B fv P ρ0 s s.heap) (hRf : d + 9 ≤ R.frames) (hRl : 40 * d + 240 ≤ R.locals) (hRc : x.2.2.2.2.2.1 - h0.2.2.2.2.1 ≤ R.cells) (hRs : x.2.2.2.2.2.2 - h0.2.2.2.2.2 ≤ R.slots)
    (hE : ∀ m' as h1 y, m' < mNo → m' ≠ mLaw → as.length ≤ mMx m' → E m' as h1 = some y → mMet l P d m' as h1 y) :
    ∀ (j pc : Nat) (ls : List (Option MV)) (st : List MV) (h : MH), mrun P E m j pc ls st h = some x → mGo p l e R s mi args below meth c D B fv P m ρ0 h0 x pc ls st h
  | 0, _, _, _, _, hq => nomatch hq
  | j + 1, pc, ls, st, h, hq => go_body C hf hm hmA hmc hPk hX hRf hRl hRc hRs hE (fun a1 a2 a3 a4 hh => mrun_go C hf hm hmA hmc hPk hX hRf hRl hRc hRs hE j a1 a2 a3 a4 hh) hq
/-- the locals at the entry -/
theorem entry_lrel (hf : fv = .null ∨ ∃ a, fv = .ref a) {ρ : Nat → Nat → Nat} {as : List MV} (hn : ∀ v ∈ as, notJ v = true) (hl : as.length ≤ mMx m) : lrel ρ fv (mMx m) (minit m as) (((as.map (mval ρ fv)).map Slot.val ++ List.replicate (mMx m - (as.map (mval ρ fv)).length) Slot.unset).toArray) := by
  have hlen : (minit m as).length = mMx m := by
    unfold minit
    rw [List.length_append, List.length_map, List.length_replicate]
    omega
  have hent : ∀ (i : Nat) (sl : Slot), (((as.map (mval ρ fv)).map Slot.val ++ List.replicate (mMx m - (as.map (mval ρ fv)).length) Slot.unset).toArray)[i]? = some sl → (∃ v ∈ as, sl = Slot.val (mval ρ fv v)) ∨ sl = Slot.unset := by
    intro i sl hi
    rw [List.getElem?_toArray] at hi
    rcases List.mem_append.mp (List.mem_of_getElem? hi) with h | h
    · obtain ⟨w, hw, rfl⟩ := List.mem_map.mp h
      obtain ⟨v, hv, rfl⟩ := List.mem_map.mp hw
      exact Or.inl ⟨v, hv, rfl⟩
    · exact Or.inr (List.eq_of_mem_replicate h)
  refine ⟨⟨?_, ⟨fun i v hi hc => ?_, fun i hi => ?_⟩, fun q hq => by cases hq⟩, hlen, fun i v hi => ?_⟩
  · simp
    omega
  · rcases hent i _ hi with ⟨w, hw, e9⟩ | e9
    · cases e9
      rw [mval_cat hf (hn w hw)] at hc
      cases hc
    · cases e9
  · rcases hent i _ hi with ⟨w, hw, e9⟩ | e9
    · cases e9
    · cases e9
  · unfold minit at hi
    by_cases hlt : i < as.length
    · rw [List.getElem?_append_left (by rw [List.length_map]; exact hlt), List.getElem?_map] at hi
      obtain ⟨w, hw, hv⟩ : ∃ w, as[i]? = some w ∧ some w = some v := by
        cases ha : as[i]? with
        | none => rw [ha] at hi; cases hi
        | some w => rw [ha] at hi; exact ⟨w, rfl, Option.some.inj hi⟩
      cases hv
      refine ⟨hn v (List.mem_of_getElem? hw), ?_⟩
      rw [List.getElem?_toArray, List.getElem?_append_left (by rw [List.length_map, List.length_map]; exact hlt), List.getElem?_map, List.getElem?_map, hw]
      rfl
    · rw [List.getElem?_append_right (by rw [List.length_map]; omega)] at hi
      have h1 := List.mem_of_getElem? hi
      have h2 := List.eq_of_mem_replicate h1
      cases h2
theorem minit_ok {as : List MV} {C : Nat → Nat} (h : ∀ v ∈ as, okv C v) : ∀ (i : Nat) (v : MV), (minit m as)[i]? = some (some v) → okv C v := by
  intro i v hi
  unfold minit at hi
  rcases List.mem_append.mp (List.mem_of_getElem? hi) with h1 | h1
  · obtain ⟨w, hw, e9⟩ := List.mem_map.mp h1
    cases e9
    exact h v hw
  · cases List.eq_of_mem_replicate h1
end Met
theorem met_body {l : Launch} {P : MP} {d n m : Nat} {as : List MV} {h : MH} {x : MO} (hl : l.stackTraces = false) (hPk : mPok P) (hmA : mchA m) (hmc : ∀ m', m' < mNo → m' ≠ mLaw → mchM m' = true) (hm : m < mNo) (hn : m ≠ mLaw) (hle : as.length ≤ mMx m) (hE : ∀ m' as h1 y, m' < mNo → m' ≠ mLaw → as.length ≤ mMx m' → mev P d n m' as h1 = some y → mMet l P d m' as h1 y)
    (hq : mrun P (mev P d n) m n 0 (minit m as) [] h = some x) {D : va_G} {B : Nat} {fv : Value} {ρ : Nat → Nat → Nat} {p : Program} {e : Env} {s : State} {mi : MethodId} {args : Array Value} {below : List Frame} {meth : Method} {c : Code} {s₁ : State}
    (hB : BodyLoose p l (mNm m) (headSpec (mWs m) (mRm (d + 1) h x)) (mBy m) (mMx m) (mRt m) e s mi args below meth c s₁) (hml : c.maxLocals = mMx m) (htab : c.exceptionTable.toList = tableOf (mHt m)) (hP : mPc D B fv P ρ as h args s) :
    W p l e (headSpec (mWs m) (mRm (d + 1) h x)).room s mi args below meth c s.heap [] 0 0 (vx_MQ below (mQc D B fv P ρ h x) (mXC D B fv P ρ h x) args s (x.2.2.2.2.2.1 - h.2.2.2.2.1) (x.2.2.2.2.2.2 - h.2.2.2.2.2) (fun q => B ≤ q)) (entryFrame mi args (mMx m)) := by
  obtain ⟨rfl, hok, hX, hD⟩ := hP
  obtain ⟨⟨w1, w2, w3⟩, -⟩ := mM_ok hn (hmc m hm hn)
  have hf := hX.2.2.2.2.2.2.1.2
  have hC : mCx p l s mi (as.map (mval ρ fv)).toArray meth c m := by
    refine ⟨hB.exec, hB.bytes, hml, ?_, fun w hw => atoms_spec (ws := mWs m) hB.pre w (List.mem_cons_of_mem _ hw), hB.returns, hB.notSynchronized, (name_of_methodNamed hB.named hB.method).1, htab, hl⟩
    rw [← w1]
    exact findClass_of_methodNamed hB.named
  have hg := mrun_go (e := e) (below := below) (R := (headSpec (mWs m) (mRm (d + 1) h x)).room) (d := d) (h0 := h) (ρ0 := ρ) (x := x) hC hf hm hmA hmc hPk hX (by show d + 9 ≤ d + 1 + 8; omega) (by show 40 * d + 240 ≤ 40 * (d + 1) + 200; omega) (Nat.le_refl _) (Nat.le_refl _) hE n 0 (minit m as) [] h hq
  have hn1 : ∀ v ∈ as, notJ v = true := fun v hv => (hok v hv).2
  have hsw := hg.2.2 (fun _ => Nat.le_refl _) ρ rext_rf s.heap [] _ hD ⟨Nat.le_refl _, fun _ _ _ => rfl, fun _ hz => by cases hz⟩ (entry_lrel hf hn1 hle) (fun _ hz => by cases hz) (minit_ok (fun v hv => (hok v hv).1)) (Nat.le_refl _) (Nat.le_refl _)
  rw [Nat.sub_self, Nat.sub_self] at hsw
  rw [entry_eq mi (as.map (mval ρ fv)) (fun v hv => by
    obtain ⟨w, hw, rfl⟩ := List.mem_map.mp hv
    exact mval_cat hf (hn1 w hw)) (mMx m)]
  exact hsw
theorem mev_met {l : Launch} {P : MP} (hl : l.stackTraces = false) (hPk : mPok P) (hmA : ∀ m, m < mNo → mchA m) (hmc : ∀ m', m' < mNo → m' ≠ mLaw → mchM m' = true) :
    ∀ (d n m : Nat) (as : List MV) (h : MH) (x : MO), m < mNo → m ≠ mLaw → as.length ≤ mMx m → mev P d n m as h = some x → mMet l P d m as h x
  | 0, _, _, _, _, _, _, _, _, hq => nomatch hq
  | d + 1, n, m, as, h, x, hm, hn, hle, hq => by
    have hE : ∀ m' as h1 y, m' < mNo → m' ≠ mLaw → as.length ≤ mMx m' → mev P d n m' as h1 = some y → mMet l P d m' as h1 y := fun m' as' h1 y a b c hy => mev_met hl hPk hmA hmc d n m' as' h1 y a b c hy
    have hb := mn_mev (P := P) (d + 1) n m as h x hq
    obtain ⟨⟨w1, w2, w3⟩, -⟩ := mM_ok hn (hmc m hm hn)
    refine ⟨hb.1, hb.2, fun D B fv ρ => ?_⟩
    cases hh : mHt m with
    | nil =>
      have hcw : mCw m = .code (mNm m) (mBy m) (mMx m) (mRt m) := by unfold mCw; rw [hh]
      refine vx_ofW (cc := mBy m) (maxL := mMx m) (ret := mRt m) (ws' := gTs) w2 (by unfold mWs; rw [hcw]) (fun p e s mi args below meth c s₁ hB hml ht hP => met_body hl hPk (hmA m hm) hmc hm hn hle hE hq hB hml ?_ hP)
      rw [hh]
      cases hz : c.exceptionTable.toList with
      | nil => rfl
      | cons a b => exact (ht a (by rw [hz]; exact List.mem_cons_self)).elim
    | cons q0 r0 =>
      have hcw : mCw m = .codeWith (mNm m) (mBy m) (mMx m) (mRt m) (q0 :: r0) := by unfold mCw; rw [hh]
      refine vx_ofWH (cc := mBy m) (maxL := mMx m) (ret := mRt m) (hh := q0 :: r0) (ws' := gTs) w2 (by unfold mWs; rw [hcw]) (fun p e s mi args below meth c s₁ hB hml hP => met_body hl hPk (hmA m hm) hmc hm hn hle hE hq hB hml ?_ hP)
      rw [hh]
      exact vx_table (x := mNm m) hB (atoms_spec (ws := mWs m) hB.pre _ (by unfold mWs; rw [hcw]; exact List.mem_cons_self))
