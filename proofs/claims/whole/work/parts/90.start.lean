/-! ===== the law's start ===== -/
theorem whole_start {p : Program} {e : Env} {s : State} {m : MethodId} {below : List Frame} {meth : Method} {c : Code} (l : Launch) (hl : l.stackTraces = false) {b L : Nat} {xs : Nat → Int32} (hL : L ≤ 3072) (htab : c.exceptionTable.toList = []) (hnm : meth.name = "law") (C0 : lw_At p s m meth c b L xs) : W p l e room_1 s m #[Value.ref b] below meth c s.heap [] 0 0 (lw_Z below #[Value.ref b] s) (entryFrame m ([Value.ref b] : List Value).toArray 7) := by
  obtain ⟨a1, a2, a3, a4, a5, a6, a7, a8, a9, a10⟩ := C0
  obtain ⟨c1, c2, c3, c4, c5, c6, c7⟩ := law_ck
  have hn : ∀ w ∈ nFl, w.before #[Value.ref b] s = true := flat_of_before _ a10
  obtain ⟨D, fv, ρ, hρ, hX⟩ := ext_start hn a6 a7
  have hf := (hX pN0 (Or.inr rfl)).2.2.2.2.2.2.1.2
  have C : mCx p l s m #[Value.ref b] meth c mLaw := by
    refine ⟨a1, a2.trans law_by.symm, a4.trans c1.symm, ?_, fun w hw => a6 w (List.mem_filter.mp hw).1, a3.trans c6.symm, a9, hnm.trans c7.symm, by rw [htab, c3]; rfl, hl⟩
    rw [c2, c5]
    exact a5
  have hsw := law_go (e := e) (below := below) hl ck_all cm_all C (hX pN0 (Or.inr rfl)) (hX (mP L xs) (Or.inl rfl)) (goal_all L hL xs)
  have hmv : mval ρ fv (rv 1 (some 0)) = Value.ref b := by
    show Value.ref (ρ 1 0) = _
    rw [hρ]
  have hlr := entry_lrel (m := mLaw) (ρ := ρ) (as := [rv 1 (some 0)]) hf (fun v hv => by
    rw [List.mem_singleton] at hv
    subst hv
    rfl) (by rw [c1]; decide)
  have hok : ∀ v ∈ [rv 1 (some 0)], okv hN0.2.2.2.1 v := fun v hv => by
    rw [List.mem_singleton] at hv
    subst hv
    intro j hj
    cases hj
    exact Nat.zero_lt_one
  have hw := hsw s.heap [] _ ⟨fun r o _ h => absurd h (Nat.not_lt_zero _), fun r o r' o' _ h => absurd h (Nat.not_lt_zero _), fun r o f _ h => absurd h (Nat.not_lt_zero _), Nat.le_refl _⟩ ⟨Nat.le_refl _, fun _ _ _ => rfl, fun _ hz => by cases hz⟩ hlr (fun _ hz => by cases hz) (minit_ok hok) (Nat.le_refl _) (Nat.le_refl _)
  rw [entry_eq m [Value.ref b] (fun v hv => by
    rw [List.mem_singleton] at hv
    subst hv
    rfl) 7]
  rw [List.map_cons, hmv, c1] at hw
  exact hw
theorem lw_st {l : Launch} (h : l.flags = flags0) : l.stackTraces = false := by
  unfold Launch.stackTraces
  rw [h]
  decide +kernel
