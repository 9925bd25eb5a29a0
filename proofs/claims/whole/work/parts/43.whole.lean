/-! ===== the law, out of what the mini machine says of its loop ===== -/
/-- what is left: the mini machine comes from the loop's head to the answer true, within the room -/
def mGoal (L : Nat) (xs : Nat → Int32) : Prop := ∃ (d n j : Nat) (x : MO), d ≤ 2000 ∧ mrun (mP L xs) (mev (mP L xs) d n) mLaw j 23 lsS [] hS0 = some x ∧ x.1 = .inl (some (iv 1)) ∧ x.2.2.2.2.2.1 ≤ 601024 ∧ x.2.2.2.2.2.2 ≤ 7293034
theorem same_nil {s t : State} {L : List Loc} {k n : Nat} (h : s.sameButNew t L k n) (hL : ∀ z ∈ L, s.heap.size ≤ z.base) : s.sameButNew t [] k n := by
  obtain ⟨h1, h2, h3, h4, h5, h6⟩ := h
  refine ⟨h1, h2, h3, h4, h5, fun q c hq => ?_⟩
  obtain ⟨c9, e1, e2, e3, e4⟩ := h6 q c hq
  refine ⟨c9, e1, e2, e3, fun i _ => e4 i (fun hm => ?_)⟩
  have h7 := hL _ hm
  have h8 : q < s.heap.size := (Array.getElem?_eq_some_iff.mp hq).1
  exact absurd h7 (Nat.not_le.mpr h8)
theorem bnd_A : hA2.2.2.2.2.1 + 1 ≤ 601024 ∧ hA2.2.2.2.2.2 + regL 22 ≤ 7293034 := by decide +kernel
theorem bnd_B : hA4.2.2.2.2.1 + 1 ≤ 601024 ∧ hA4.2.2.2.2.2 + regL 99 ≤ 7293034 := by decide +kernel
section Law
variable {p : Program} {l : Launch} {e : Env} {s : State} {mi : MethodId} {below : List Frame} {meth : Method} {c : Code} {D : va_G} {fv : Value} {Q : State → Prop}
theorem law_go (hl : l.stackTraces = false) (hmA : ∀ m, m < mNo → mchA m) (hmc : ∀ m', m' < mNo → m' ≠ mLaw → mchM m' = true) {b L : Nat} {xs : Nat → Int32} (C : mCx p l s mi #[Value.ref b] meth c mLaw) {ρ : Nat → Nat → Nat} (hX : mExt D s.heap.size fv pN0 ρ s s.heap) (hXT : mExt D s.heap.size fv (mP L xs) ρ s s.heap) (hg : mGoal L xs) :
    SW p l e room_1 s mi #[Value.ref b] below meth c (lw_Z below #[Value.ref b] s) D s.heap.size fv pN0 mLaw 0 0 ρ 0 (minit mLaw [rv 1 (some 0)]) [] hN0 := by
  have hf := hX.2.2.2.2.2.2.1.2
  have hK := hX.1
  have hE9 : ∀ r, 10 ≤ r → ∀ f, pN0.1 r f = none := fun r hr f => srE_n hr f
  obtain ⟨c1, c2, c3, c4, c5, c6, c7⟩ := law_ck
  have hls0 : minit mLaw [rv 1 (some 0)] = [some (rv 1 (some 0)), none, none, none, none, none, none] := by
    unfold minit
    rw [c1]
    rfl
  rw [hls0]
  obtain ⟨gA, gB, hMA, hMB, cA22, cB99, bA, bB, hS9⟩ : ∃ gA gB : MH, mMet l pN0 9 10 [rv 21 (some 0)] hA1 (.inl none, gA) ∧ mMet l pN0 9 11 [rv 22 (some 0)] (mnew gA 22 (regL 22)) (.inl none, gB) ∧ gA.2.2.2.1 22 = 0 ∧ gB.2.2.2.1 99 = 0 ∧ (gA.2.2.2.2.1 + 1 ≤ 601024 ∧ gA.2.2.2.2.2 + regL 22 ≤ 7293034) ∧ (gB.2.2.2.2.1 + 1 ≤ 601024 ∧ gB.2.2.2.2.2 + regL 99 ≤ 7293034) ∧ hS0 = mnew gB 99 (regL 99) :=
    ⟨hA2, hA4, mev_met hl mPok_E hmA hmc 9 400 10 _ _ _ (by decide) (by decide) (by decide +kernel) (xOk_eq xA_ok), mev_met hl mPok_E hmA hmc 9 2000 11 _ _ _ (by decide) (by decide) (by decide +kernel) (xOk_eq xB_ok), cnt_22, cnt_99, bnd_A, bnd_B, rfl⟩
  have hl10 : cLk (mOw mLaw) 64 = some 10 := by decide +kernel
  have hl11 : cLk (mOw mLaw) 67 = some 11 := by decide +kernel
  have hn21 : nLk (mOw mLaw) 8 = some 11 := by decide +kernel
  have hn22 : nLk (mOw mLaw) 65 = some 12 := by decide +kernel
  refine sw_new C hK (ci := 11) hn21 (hE9 21 (by decide)) ld0 (by decide) (by decide +kernel) (fun ρ1 e1 => ?_)
  have X1 := mExt_ext e1 hX
  refine sw_dup C hf rfl ld3 ?_
  refine sw_con (d := 9) (h2 := gA) C hf X1 (m' := 10) (by decide) (hmc 10 (by decide) (by decide)) hl10 hMA (by decide +kernel) (by decide +kernel) (by decide +kernel) (by decide +kernel) (by decide +kernel) ld4 (by decide) (by decide) (by decide) (by have := bA.1; show gA.2.2.2.2.1 - 0 ≤ 601024; omega) (by have := bA.2; show gA.2.2.2.2.2 - 0 ≤ 7293034; omega) (fun ρ2 e2 => ?_)
  have X2 := mExt_ext e2 X1
  refine sw_astore C hf (i := 1) (Or.inr ⟨1, ld7, rfl, rfl⟩) (by rw [c1]; decide) ?_
  refine sw_new C hK (ci := 12) hn22 (hE9 22 (by decide)) ld8 (by have := bA.1; show gA.2.2.2.2.1 + 1 ≤ 0 + 601024; omega) (by have := bA.2; show gA.2.2.2.2.2 + regL 22 ≤ 0 + 7293034; omega) (fun ρ3 e3 => ?_)
  have X3 := mExt_ext e3 X2
  rw [show gA.2.2.2.1 (12 + 10) = 0 from cA22]
  refine sw_dup C hf rfl ld11 ?_
  refine sw_con (d := 9) (h2 := gB) C hf X3 (m' := 11) (by decide) (hmc 11 (by decide) (by decide)) hl11 hMB (by decide +kernel) (by decide +kernel) (by decide +kernel) (by decide +kernel) (by decide +kernel) ld12 (by decide) (by decide) (by decide) (by have := bB.1; show gB.2.2.2.2.1 - 0 ≤ 601024; omega) (by have := bB.2; show gB.2.2.2.2.2 - 0 ≤ 7293034; omega) (fun ρ4 e4 => ?_)
  have X4 := mExt_ext e4 X3
  refine sw_astore C hf (i := 2) (Or.inr ⟨2, ld15, rfl, rfl⟩) (by rw [c1]; decide) ?_
  refine sw_iconst C ld16 (v := 1) rfl ?_
  refine sw_newa C (r := 99) (by decide) (hE9 99 (by decide)) (Or.inr (Or.inr (Or.inr ⟨rfl, by decide +kernel⟩))) (by decide +kernel) ld17 (by have := bB.1; show gB.2.2.2.2.1 + 1 ≤ 0 + 601024; omega) (by have := bB.2; show gB.2.2.2.2.2 + regL 99 ≤ 0 + 7293034; omega) (fun ρ5 e5 => ?_)
  have X5 := mExt_ext e5 X4
  rw [cB99]
  refine sw_astore C hf (i := 3) (Or.inr ⟨3, ld19, rfl, rfl⟩) (by rw [c1]; decide) ?_
  refine sw_iconst C ld20 (v := 0) rfl ?_
  refine sw_istore C hf (i := 4) (Or.inl ⟨ld21, rfl⟩) (by rw [c1]; decide) ?_
  rw [← hS9]
  -- the loop
  clear hS9
  revert hg
  have hag : ∀ r o f, 10 ≤ r → o < hS0.2.2.2.1 r → f < regL r → rdR (mP L xs) hS0.2.1 r o f = rdR pN0 hS0.2.1 r o f := fun r o f a1 a2 a3 => ag_rd a1 a2 a3
  revert hag
  unfold mGoal
  generalize hS0 = gS
  intro hag hg
  obtain ⟨d, n, j, x, hd, hrun, hx1, hx2, hx3⟩ := hg
  have XT : mExt D s.heap.size fv (mP L xs) ρ5 s s.heap := mExt_ext e5 (mExt_ext e4 (mExt_ext e3 (mExt_ext e2 (mExt_ext e1 hXT))))
  have hgo := mrun_go (p := p) (l := l) (e := e) (R := room_1) (s := s) (below := below) (d := d) (ρ0 := ρ5) (h0 := (gS.1, gS.2.1, gS.2.2.1, gS.2.2.2.1, 0, 0)) (x := x) C hf c4 (hmA mLaw c4) hmc (mPok_T L xs) XT (by show d + 9 ≤ 2048; omega) (by show 40 * d + 240 ≤ 84000; omega) (by show x.2.2.2.2.2.1 - 0 ≤ 601024; omega) (by show x.2.2.2.2.2.2 - 0 ≤ 7293034; omega) (fun m' as h1 y a1 a2 a3 hy => mev_met hl (mPok_T L xs) hmA hmc d n m' as h1 y a1 a2 a3 hy) j 23 lsS [] gS hrun
  intro H locs lr hD hS hL hs hl2 h1 h2
  have hD' : mDyn D s.heap.size fv (mP L xs) ρ5 gS s H := mDyn_sw (P := pN0) hag hD
  have hw := hgo.2.2 (fun _ => Nat.le_refl _) ρ5 rext_rf H locs lr hD' hS hL hs hl2 (Nat.zero_le _) (Nat.zero_le _)
  intro T hT X
  obtain ⟨t, t1, o, t2, t3, t4⟩ := hw T hT X
  refine ⟨t, t1, o, t2, t3, ?_⟩
  rcases t4 with ⟨⟨r, ρ6, q1, q2, q3, q4, q5, q6, q7⟩, Lc, ⟨w1, w2, w3⟩, w4⟩ | ⟨q, rfl, E, ce, Lc, ⟨n9, ρ6, q1, -⟩, -⟩
  · rw [hx1] at q1
    cases q1
    subst q4
    exact ⟨rfl, ⟨_, rfl⟩, w2, (same_nil w3 w4).mono (by show x.2.2.2.2.2.1 - 0 ≤ 601024; omega) (by show x.2.2.2.2.2.2 - 0 ≤ 7293034; omega)⟩
  · rw [hx1] at q1
    cases q1
end Law
