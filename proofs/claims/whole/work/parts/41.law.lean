/-! ===== the law up to its loop ===== -/
def agS : Bool := (List.range 100).all fun r => (Nat.blt r 10) || (srT r 1000).isNone || (Nat.ble (regL r) 100 && (List.range (hS0.2.2.2.1 r)).all fun o => (List.range (regL r)).all fun f => match srT r f with
  | none => true
  | some g => g o == hS0.2.1 r o f)
theorem ag_ok : agS = true := by decide +kernel
theorem srT_big {r : Nat} (h : 100 ≤ r) (f : Nat) : srT r f = none := by
  have hb : Nat.blt r 100 = false := by
    cases hb : Nat.blt r 100 with
    | false => rfl
    | true => have h1 : r + 1 ≤ 100 := Nat.le_of_ble_eq_true hb; omega
  unfold srT
  rw [hb]
  rfl
theorem srE_n {r : Nat} (h : 10 ≤ r) (f : Nat) : srE r f = none := by
  unfold srE
  rw [beq_ne (show r ≠ 2 by omega)]
  rfl
theorem ag_at {r o f : Nat} {g : Nat → Option Nat} (hr : 10 ≤ r) (ho : o < hS0.2.2.2.1 r) (hf : f < regL r) (hg : srT r f = some g) : g o = hS0.2.1 r o f := by
  rcases Nat.lt_or_ge r 100 with h9 | h9
  · have h := List.all_eq_true.mp ag_ok r (List.mem_range.mpr h9)
    simp only [Bool.or_eq_true, Bool.and_eq_true] at h
    rcases h with (h | h) | h
    · have : r + 1 ≤ 10 := Nat.le_of_ble_eq_true h
      omega
    · have := srT_n r hr (Option.isNone_iff_eq_none.mp h) f
      rw [this] at hg
      cases hg
    · have h1 := List.all_eq_true.mp h.2 o (List.mem_range.mpr ho)
      have h2 := List.all_eq_true.mp h1 f (List.mem_range.mpr hf)
      simp only [hg] at h2
      exact eq_of_beq h2
  · rw [srT_big h9] at hg
    cases hg
theorem ag_rd {L : Nat} {xs : Nat → Int32} {r o f : Nat} (hr : 10 ≤ r) (ho : o < hS0.2.2.2.1 r) (hf : f < regL r) : rdR (mP L xs) hS0.2.1 r o f = rdR pN0 hS0.2.1 r o f := by
  have e : rdR pN0 hS0.2.1 r o f = hS0.2.1 r o f := by
    unfold rdR
    rw [show pN0.1 r f = none from srE_n hr f]
  rw [e]
  unfold rdR
  cases hg : (mP L xs).1 r f with
  | none => rfl
  | some g => exact ag_at hr ho hf hg
theorem mPok_E : mPok pN0 := ⟨fun r hr _ f => srE_n hr f, fun r hr _ f _ => srE_n ((rtag5 r (rg_lt (Or.inr (by omega))) hr).1) f, rfl⟩
theorem sr5 : ∀ r, r < rNo → rTag r = 5 → (srT r 0).isSome = true := by decide +kernel
theorem mPok_T (L : Nat) (xs : Nat → Int32) : mPok (mP L xs) := by
  refine ⟨fun r hr h f => srT_n r hr h f, fun r hr h f _ => ?_, rfl⟩
  have h1 := sr5 r (rg_lt (Or.inr (by omega))) hr
  have h2 : srT r 0 = none := h
  rw [h2] at h1
  cases h1
section Sw
variable {D : va_G} {B : Nat} {fv : Value} {P P' : MP} {ρ : Nat → Nat → Nat} {h : MH} {s : State} {H : Heap}
theorem mDyn_sw (he : ∀ r o f, 10 ≤ r → o < h.2.2.2.1 r → f < regL r → rdR P' h.2.1 r o f = rdR P h.2.1 r o f) (hD : mDyn D B fv P ρ h s H) : mDyn D B fv P' ρ h s H := by
  obtain ⟨d1, d2, d3, d4⟩ := hD
  refine ⟨fun r o h1 h2 => ⟨?_, (d1 r o h1 h2).2⟩, d2, fun r o f h1 h2 h3 => by rw [he r o f h1 h2 h3]; exact d3 r o f h1 h2 h3, d4⟩
  have hc := (d1 r o h1 h2).1
  have e1 : ∀ k, k < regL r → mfv ρ fv P h r o k = mfv ρ fv P' h r o k := by
    intro k hk
    unfold mfv
    rw [he r o k h1 h2 hk]
  have e2 : ∀ k, k < regL r → mav ρ fv P h r o k = mav ρ fv P' h r o k := by
    intro k hk
    unfold mav
    rw [he r o k h1 h2 hk]
  unfold mcell at hc ⊢
  split
  · rename_i ht
    rw [ht] at hc
    exact hc.to e1
  · rename_i ht
    split at hc
    · exact absurd ‹rTag r = 0› ht
    · obtain ⟨cA, a1, a2, a3⟩ := hc
      exact ⟨cA, a1, a2, by rw [a3, arrV_congr e2]⟩
end Sw
section Pre
variable {p : Program} {l : Launch} {e : Env} {R : Room} {s : State} {mi : MethodId} {args : Array Value} {below : List Frame} {meth : Method} {c : Code} {Q : State → Prop} {D : va_G} {B : Nat} {fv : Value} {P : MP} {m n1 n2 d : Nat} {ρ : Nat → Nat → Nat} {pc : Nat} {ls : List (Option MV)} {st : List MV} {h h2 : MH}
theorem sw_con (C : mCx p l s mi args meth c m) (hf : fv = .null ∨ ∃ a, fv = .ref a) (hX : mExt D B fv P ρ s s.heap) {m' idx r j : Nat} (hm2 : m' ≠ mLaw) (hch : mchM m' = true) (hl : cLk (mOw m) idx = some m') (hM : mMet l P d m' [rv r (some j)] h (.inl none, h2)) (k1 : mSt m' = false) (k2 : (mNm m').name = "<init>") (k3 : mRt m' = none) (k4 : rCls r = mOw m') (k5 : kArgs m' = 0) (hdg : decode (mBy m) pc = .ok (.invokespecial idx, 3)) (hcat : mcat st ≤ 8) (hRf : d + 9 ≤ R.frames) (hRl : 40 * d + 240 ≤ R.locals) (hRc : h2.2.2.2.2.1 - n1 ≤ R.cells) (hRs : h2.2.2.2.2.2 - n2 ≤ R.slots)
    (K : ∀ ρ', rext h.2.2.2.1 ρ ρ' → SW p l e R s mi args below meth c Q D B fv P m n1 n2 ρ' (pc + 3) ls st h2) : SW p l e R s mi args below meth c Q D B fv P m n1 n2 ρ pc ls (rv r (some j) :: st) h := by
  intro H locs lr hD hS hL hs hl2 h1 h2'
  obtain ⟨hj, hs'⟩ := List.forall_mem_cons.mp hs
  have hM1 : h.2.2.2.2.1 ≤ h2.2.2.2.2.1 := hM.1
  have hM2 : h.2.2.2.2.2 ≤ h2.2.2.2.2.2 := hM.2.1
  have hrun := run_any (p := p) (e := e) (below := below) (cells := h.2.2.2.2.1 - n1) (slots := h.2.2.2.2.2 - n2) (lr := lr) (rest := st) C hf hX hD hS hm2 hch hl hM (Or.inr (Or.inr ⟨k1, k2, k3, hdg, r, j, [], rfl, k4, k5.symm⟩)) (fun v hv => by
    rw [List.mem_singleton] at hv
    subst hv
    exact ⟨hj, rfl⟩) hcat hRf hRl (by show h.2.2.2.2.1 - n1 + (h2.2.2.2.2.1 - h.2.2.2.2.1) ≤ R.cells; omega) (by show h.2.2.2.2.2 - n2 + (h2.2.2.2.2.2 - h.2.2.2.2.2) ≤ R.slots; omega) hL.1.1
  have a1 : h.2.2.2.2.1 - n1 + (h2.2.2.2.2.1 - h.2.2.2.2.1) = h2.2.2.2.2.1 - n1 := by omega
  have a2 : h.2.2.2.2.2 - n2 + (h2.2.2.2.2.2 - h.2.2.2.2.2) = h2.2.2.2.2.2 - n2 := by omega
  refine call_W hrun hS (fun r' ρ' H1 locs1 x1 x2 x3 x5 x6 hS1 => ?_) (fun n ρ' H1 locs1 q ce x1 x2 x4 x3 x6 hS1 hce hcv hcl => by cases x1)
  cases x1
  have gg := K ρ' x2 H1 locs1 lr x6 hS1 (lrel_ext x2 hl2 hL) (fun v hv => okv_le (cn_le x3) (hs' v hv)) (fun i v hi => okv_le (cn_le x3) (hl2 i v hi)) (Nat.le_trans h1 hM1) (Nat.le_trans h2' hM2)
  rw [stk_ext x2 hs'] at gg
  have a1' : h.2.2.2.2.1 - n1 + ((Sum.inl none, h2) : MO).2.2.2.2.2.1 - h.2.2.2.2.1 = h.2.2.2.2.1 - n1 + h2.2.2.2.2.1 - h.2.2.2.2.1 := rfl
  show W p l e R s mi args below meth c H1 locs1 (h.2.2.2.2.1 - n1 + (h2.2.2.2.2.1 - h.2.2.2.2.1)) (h.2.2.2.2.2 - n2 + (h2.2.2.2.2.2 - h.2.2.2.2.2)) Q (F0 mi (pc + 3) lr (st.map (mval ρ fv)))
  rw [a1, a2]
  exact gg
end Pre
