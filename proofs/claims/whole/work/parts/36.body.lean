/-! ===== one step of the mini machine is one of the JVM ===== -/
theorem cTab_nl : cTab.all (fun q => !Nat.beq q.2.2.1 mLaw) = true := by decide +kernel
theorem cLk_nl {own idx m' : Nat} (h : cLk own idx = some m') : m' ≠ mLaw := by
  unfold cLk at h
  cases hf : cTab.find? (fun q => Nat.beq q.1 own && Nat.beq q.2.1 idx) with
  | none => rw [hf] at h; cases h
  | some z =>
    rw [hf] at h
    simp only [Option.map_some, Option.some.injEq] at h
    subst h
    have hk := List.all_eq_true.mp cTab_nl _ (find_mem hf).1
    intro e
    simp only [e] at hk
    exact absurd hk (by decide)
theorem arg_le : ∀ m, m < mNo → (bif mSt m then kArgs m else kArgs m + 1) ≤ mMx m := by decide +kernel
theorem all_notJ {l : List MV} (h : l.all notJ = true) : ∀ v ∈ l.reverse, notJ v = true := fun v hv => List.all_eq_true.mp h v (List.mem_reverse.mp hv)
section Body
variable {p : Program} {l : Launch} {e : Env} {R : Room} {s : State} {mi : MethodId} {args : Array Value} {below : List Frame} {meth : Method} {c : Code} {D : va_G} {B : Nat} {fv : Value} {P : MP} {m d : Nat} {ρ0 : Nat → Nat → Nat} {h0 : MH} {x : MO} {pc : Nat} {ls : List (Option MV)} {st : List MV} {h : MH}
variable {E : Nat → List MV → MH → MX} {k : Nat → List (Option MV) → List MV → MH → MX}
/-- the calls -/
theorem go_37 (C : mCx p l s mi args meth c m) (hf : fv = .null ∨ ∃ a, fv = .ref a) (hm : m < mNo) (hmc : ∀ m', m' < mNo → m' ≠ mLaw → mchM m' = true) (hX : mExt D B fv P ρ0 s s.heap) (hRf : d + 9 ≤ R.frames) (hRl : 40 * d + 240 ≤ R.locals) (hRc : x.2.2.2.2.2.1 - h0.2.2.2.2.1 ≤ R.cells) (hRs : x.2.2.2.2.2.2 - h0.2.2.2.2.2 ≤ R.slots)
    (hE : ∀ m' as h1 y, m' < mNo → m' ≠ mLaw → as.length ≤ mMx m' → E m' as h1 = some y → mMet l P d m' as h1 y) (hk : ∀ a1 a2 a3 a4, k a1 a2 a3 a4 = some x → mGo p l e R s mi args below meth c D B fv P m ρ0 h0 x a1 a2 a3 a4) {en : Nat × List Nat × Int32} (hcd : mCode m pc = some en)
    {idx m' kd na rk rr : Nat} {c9 : Int32} (hcl : cLk (mOw m) idx = some m') (hq : mexec P E k m pc ls st h 37 [pc + 3, kd, m', na, rk, rr] c9 = some x)
    (hkind : (kd = 0 ∧ mSt m' = true ∧ na = kArgs m' ∧ decode (mBy m) pc = .ok (.invokestatic idx, 3)) ∨ (kd = mOw m' + 1 ∧ mSt m' = false ∧ na = kArgs m' + 1 ∧ (mNm m').name ≠ "<init>" ∧ decode (mBy m) pc = .ok (.invokevirtual idx, 3)) ∨
      (kd = mOw m' + 1 ∧ mSt m' = false ∧ na = kArgs m' + 1 ∧ (mNm m').name = "<init>" ∧ mRt m' = none ∧ decode (mBy m) pc = .ok (.invokespecial idx, 3))) : mGo p l e R s mi args below meth c D B fv P m ρ0 h0 x pc ls st h := by
  have hlt := (cLk_ok hcl).1
  have hnl := cLk_nl hcl
  have hal := arg_le m' hlt
  have hq1 : chk (Nat.ble (mcat (st.drop na)) 8 && (st.take na).all notJ && Nat.ble na st.length) (match (generalizing := false) kd with
      | 0 => mret (E m' (st.take na).reverse h) rk rr (st.drop na) (k (pc + 3) ls) (fun n h1 => mth (mHand m pc) n ls k h1)
      | _ => (match (st.take na).reverse with
        | .inr (.inl q) :: as' => onS q.2 fun j => chk (Nat.beq (rCls q.1) (kd - 1)) (mret (E m' (rv q.1 (some j) :: as') h) rk rr (st.drop na) (k (pc + 3) ls) (fun n h1 => mth (mHand m pc) n ls k h1)) none
        | _ => none)) none = some x := hq
  obtain ⟨hb, hq2⟩ := chk_t hq1
  rw [Bool.and_eq_true, Bool.and_eq_true] at hb
  obtain ⟨⟨hb1, hb2⟩, hb3⟩ := hb
  have hcat := Nat.le_of_ble_eq_true hb1
  have hna := Nat.le_of_ble_eq_true hb3
  have hnJ := all_notJ hb2
  have hlen : (st.take na).reverse.length = na := by rw [List.length_reverse, List.length_take]; omega
  have hst : st = (st.take na).reverse.reverse ++ st.drop na := by rw [List.reverse_reverse, List.take_append_drop]
  rcases hkind with ⟨rfl, k1, k2, k3⟩ | ⟨rfl, k1, k2, k4, k3⟩ | ⟨rfl, k1, k2, k4, k5, k3⟩
  · exact go_call C hf hm hcd hX hnl (hmc m' hlt hnl) hcl (E := E) (fun y hy => hE _ _ _ _ hlt hnl (by rw [k1] at hal; rw [hlen, k2]; exact hal) hy) (Or.inl ⟨k1, k3, by rw [hlen]; exact k2⟩) hnJ hcat hRf hRl hRc hRs hst hq2 hk
  · have hq3 : (match (st.take na).reverse with
        | .inr (.inl q) :: as' => onS q.2 fun j => chk (Nat.beq (rCls q.1) (mOw m')) (mret (E m' (rv q.1 (some j) :: as') h) rk rr (st.drop na) (k (pc + 3) ls) (fun n h1 => mth (mHand m pc) n ls k h1)) none
        | _ => none) = some x := hq2
    generalize has : (st.take na).reverse = as at *
    split at hq3
    · rename_i q as'
      obtain ⟨j, hj, hq4⟩ := onS_some hq3
      obtain ⟨hr, hq5⟩ := chk_t hq4
      have e1 : (.inr (.inl q) : MV) = rv q.1 (some j) := by rw [← hj]
      rw [e1] at hst hnJ hlen
      exact go_call C hf hm hcd hX hnl (hmc m' hlt hnl) hcl (E := E) (fun y hy => hE _ _ _ _ hlt hnl (by rw [k1] at hal; rw [hlen, k2]; exact hal) hy) (Or.inr (Or.inl ⟨k1, k4, k3, q.1, j, as', rfl, Nat.eq_of_beq_eq_true hr, by rw [List.length_cons] at hlen; omega⟩)) hnJ hcat hRf hRl hRc hRs hst hq5 hk
    · cases hq3
  · have hq3 : (match (st.take na).reverse with
        | .inr (.inl q) :: as' => onS q.2 fun j => chk (Nat.beq (rCls q.1) (mOw m')) (mret (E m' (rv q.1 (some j) :: as') h) rk rr (st.drop na) (k (pc + 3) ls) (fun n h1 => mth (mHand m pc) n ls k h1)) none
        | _ => none) = some x := hq2
    generalize has : (st.take na).reverse = as at *
    split at hq3
    · rename_i q as'
      obtain ⟨j, hj, hq4⟩ := onS_some hq3
      obtain ⟨hr, hq5⟩ := chk_t hq4
      have e1 : (.inr (.inl q) : MV) = rv q.1 (some j) := by rw [← hj]
      rw [e1] at hst hnJ hlen
      exact go_call C hf hm hcd hX hnl (hmc m' hlt hnl) hcl (E := E) (fun y hy => hE _ _ _ _ hlt hnl (by rw [k1] at hal; rw [hlen, k2]; exact hal) hy) (Or.inr (Or.inr ⟨k1, k4, k5, k3, q.1, j, as', rfl, Nat.eq_of_beq_eq_true hr, by rw [List.length_cons] at hlen; omega⟩)) hnJ hcat hRf hRl hRc hRs hst hq5 hk
    · cases hq3
end Body
