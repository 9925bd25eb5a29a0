/-! ===== op 37: calls; op 46: throws ===== -/
theorem mret_some {X : MX} {rk rr : Nat} {st : List MV} {K : List MV → MH → MX} {G : Nat → MH → MX} {x : MO} (hq : mret X rk rr st K G = some x) :
    ∃ y : MO, X = some y ∧ ((∃ r : Option MV, y.1 = .inl r ∧ ∃ vs : List MV, (∀ (ρ : Nat → Nat → Nat) (fv : Value), vs.map (mval ρ fv) = (r.map (mval ρ fv)).toList) ∧ (∀ C : Nat → Nat, (∀ v, r = some v → okv C v) → ∀ v ∈ vs, okv C v) ∧ K (vs ++ st) y.2 = some x) ∨ (∃ n : Nat, y.1 = .inr n ∧ G n y.2 = some x)) := by
  unfold mret at hq
  split at hq
  · unfold mclV at hq
    split at hq
    · exact ⟨_, rfl, Or.inl ⟨none, rfl, [], fun _ _ => rfl, fun _ _ v hv => (by cases hv), hq⟩⟩
    · exact ⟨_, rfl, Or.inr ⟨_, rfl, hq⟩⟩
    · cases hq
  · unfold mclI at hq
    split at hq
    · rename_i v h
      exact ⟨_, rfl, Or.inl ⟨some (.inl v), rfl, [.inl v], fun _ _ => rfl, fun _ _ v hv => by rw [List.mem_singleton] at hv; subst hv; trivial, hq⟩⟩
    · exact ⟨_, rfl, Or.inr ⟨_, rfl, hq⟩⟩
    · cases hq
  · unfold mclR at hq
    split at hq
    · rename_i q h
      by_cases hqr : q.1 = rr
      · rw [if_pos hqr] at hq
        have e : (.inr (.inl q) : MV) = rv rr q.2 := by rw [← hqr]
        refine ⟨_, rfl, Or.inl ⟨some (.inr (.inl q)), rfl, [rv rr q.2], fun _ _ => by rw [e]; rfl, fun C hC v hv => ?_, hq⟩⟩
        rw [List.mem_singleton] at hv
        subst hv
        rw [← e]
        exact hC _ rfl
      · rw [if_neg hqr] at hq
        by_cases hn : q.2 = none
        · rw [if_pos hn] at hq
          refine ⟨_, rfl, Or.inl ⟨some (.inr (.inl q)), rfl, [rv rr none], fun ρ fv => ?_, fun C hC v hv => ?_, hq⟩⟩
          · show [mval ρ fv (rv rr none)] = [mval ρ fv (.inr (.inl q))]
            have : mval ρ fv (.inr (.inl q)) = Value.null := by show mrf ρ fv q.1 q.2 = _; rw [hn]; rfl
            rw [this]
            rfl
          · rw [List.mem_singleton] at hv
            subst hv
            exact fun j hj => nomatch hj
        · rw [if_neg hn] at hq
          cases hq
    · exact ⟨_, rfl, Or.inr ⟨_, rfl, hq⟩⟩
    · cases hq
section Cl
variable {p : Program} {l : Launch} {e : Env} {R : Room} {s : State} {mi : MethodId} {args : Array Value} {below : List Frame} {meth : Method} {c : Code} {D : va_G} {B : Nat} {fv : Value} {P : MP} {m d : Nat} {ρ0 ρ : Nat → Nat → Nat} {h0 : MH} {x : MO} {pc : Nat} {ls : List (Option MV)} {st : List MV} {h : MH}
theorem go_call (C : mCx p l s mi args meth c m) (hf : fv = .null ∨ ∃ a, fv = .ref a) (hm : m < mNo) {en : Nat × List Nat × Int32} (hcd : mCode m pc = some en) (hX : mExt D B fv P ρ0 s s.heap) {k : Nat → List (Option MV) → List MV → MH → MX} {m' idx rk rr : Nat} {as rest : List MV} (hm2 : m' ≠ mLaw) (hch : mchM m' = true) (hl : cLk (mOw m) idx = some m') {E : Nat → List MV → MH → MX} (hE : ∀ y, E m' as h = some y → mMet l P d m' as h y)
    (hk : (mSt m' = true ∧ decode (mBy m) pc = .ok (.invokestatic idx, 3) ∧ as.length = kArgs m') ∨
      (mSt m' = false ∧ (mNm m').name ≠ "<init>" ∧ decode (mBy m) pc = .ok (.invokevirtual idx, 3) ∧ ∃ (r j : Nat) (as' : List MV), as = rv r (some j) :: as' ∧ rCls r = mOw m' ∧ as'.length = kArgs m') ∨
      (mSt m' = false ∧ (mNm m').name = "<init>" ∧ mRt m' = none ∧ decode (mBy m) pc = .ok (.invokespecial idx, 3) ∧ ∃ (r j : Nat) (as' : List MV), as = rv r (some j) :: as' ∧ rCls r = mOw m' ∧ as'.length = kArgs m'))
    (hnJ : ∀ v ∈ as, notJ v = true) (hcat : mcat rest ≤ 8) (hRf : d + 9 ≤ R.frames) (hRl : 40 * d + 240 ≤ R.locals) (hRc : x.2.2.2.2.2.1 - h0.2.2.2.2.1 ≤ R.cells) (hRs : x.2.2.2.2.2.2 - h0.2.2.2.2.2 ≤ R.slots) (hst : st = as.reverse ++ rest)
    (hq : mret (E m' as h) rk rr rest (k (pc + 3) ls) (fun n h1 => mth (mHand m pc) n ls k h1) = some x) (hkk : ∀ a1 a2 a3 a4, k a1 a2 a3 a4 = some x → mGo p l e R s mi args below meth c D B fv P m ρ0 h0 x a1 a2 a3 a4) :
    mGo p l e R s mi args below meth c D B fv P m ρ0 h0 x pc ls st h := by
  obtain ⟨y, hy, hcase⟩ := mret_some hq
  have hM := hE y hy
  have hle : y.2.2.2.2.2.1 ≤ x.2.2.2.2.2.1 ∧ y.2.2.2.2.2.2 ≤ x.2.2.2.2.2.2 := by
    rcases hcase with ⟨r, hr, vs, -, -, hK⟩ | ⟨n, hn, hG⟩
    · exact ⟨(hkk _ _ _ _ hK).1, (hkk _ _ _ _ hK).2.1⟩
    · cases hcs : mHand m pc with
      | nil =>
        rw [hcs] at hG
        cases Option.some.inj hG
        exact ⟨Nat.le_refl _, Nat.le_refl _⟩
      | cons q0 r0 =>
        rw [hcs] at hG
        have : ∀ L : List (Nat × Nat), mth2 L n ls k y.2 = some x → y.2.2.2.2.2.1 ≤ x.2.2.2.2.2.1 ∧ y.2.2.2.2.2.2 ≤ x.2.2.2.2.2.2 := by
          intro L
          induction L with
          | nil => intro z; cases z
          | cons a b ih =>
            intro z
            simp only [mth2] at z
            by_cases hz : n = a.1
            · rw [if_pos hz] at z
              exact ⟨(hkk _ _ _ _ z).1, (hkk _ _ _ _ z).2.1⟩
            · rw [if_neg hz] at z
              exact ih z
        exact this _ hG
  refine ⟨Nat.le_trans hM.1 hle.1, Nat.le_trans hM.2.1 hle.2, fun hC ρ hext H locs lr hD hS hL hs hl2 h1 h2 => ?_⟩
  subst hst
  have hX' : mExt D B fv P ρ s s.heap := mExt_ext hext hX
  have hok : ∀ v ∈ as, okv h.2.2.2.1 v ∧ notJ v = true := fun v hv => ⟨hs v (List.mem_append_left _ (List.mem_reverse.mpr hv)), hnJ v hv⟩
  have hokr : ∀ v ∈ rest, okv h.2.2.2.1 v := fun v hv => hs v (List.mem_append_right _ hv)
  have hM1 := hM.1
  have hM2 := hM.2.1
  have hrun := run_any (p := p) (e := e) (below := below) (cells := h.2.2.2.2.1 - h0.2.2.2.2.1) (slots := h.2.2.2.2.2 - h0.2.2.2.2.2) (lr := lr) C hf hX' hD hS hm2 hch hl hM hk hok hcat hRf hRl (by omega) (by omega) (hL.1.1)
  have a1 : h.2.2.2.2.1 - h0.2.2.2.2.1 + (y.2.2.2.2.2.1 - h.2.2.2.2.1) = y.2.2.2.2.2.1 - h0.2.2.2.2.1 := by omega
  have a2 : h.2.2.2.2.2 - h0.2.2.2.2.2 + (y.2.2.2.2.2.2 - h.2.2.2.2.2) = y.2.2.2.2.2.2 - h0.2.2.2.2.2 := by omega
  refine call_W hrun hS (fun r ρ' H1 locs1 x1 x2 x3 x5 x6 hS1 => ?_) (fun n ρ' H1 locs1 q ce x1 x2 x4 x3 x6 hS1 hce hcv hcl => ?_)
  · rcases hcase with ⟨r', hr', vs, v1, v2, hK⟩ | ⟨n, hn, hG⟩
    · cases hr'.symm.trans x1
      obtain ⟨-, -, g⟩ := hkk _ _ _ _ hK
      have gg := g (fun r => Nat.le_trans (hC r) (x3 r)) ρ' (rext_trans hC hext x2) H1 locs1 lr x6 hS1 (lrel_ext x2 hl2 hL) (fun v hv => (List.mem_append.mp hv).elim (v2 _ x5 v) (fun z => okv_le (cn_le x3) (hokr v z))) (fun i v hi => okv_le (cn_le x3) (hl2 i v hi)) (Nat.le_trans h1 hM1) (Nat.le_trans h2 hM2)
      rw [List.map_append, v1, stk_ext x2 hokr] at gg
      rw [a1, a2]
      exact gg
    · rw [hn] at x1; cases x1
  · rcases hcase with ⟨r', hr', -⟩ | ⟨n', hn, hG⟩
    · rw [hr'] at x1; cases x1
    · cases hn.symm.trans x1
      exact go_thr C hm hcd hX x2 (rext_trans hC hext x4) (fun r => Nat.le_trans (hC r) (x3 r)) x6 hS1 hce hcv hcl (lrel_ext x4 hl2 hL) (fun i v hi => okv_le (cn_le x3) (hl2 i v hi)) (Nat.le_trans h1 hM1) (Nat.le_trans h2 hM2) a1 a2 hG hkk
end Cl
