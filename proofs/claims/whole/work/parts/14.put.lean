/-! ===== soundness: writes to fields ===== -/
theorem bit01 {x : Int32} (h : x &&& 1 = x) : x = 0 ∨ x = 1 := by
  obtain ⟨j, hj, e⟩ := pk_andE x (m := 1) 1 (by decide)
  rw [h] at e
  have hj2 : j < 2 := hj
  match j, hj2, e with
  | 0, _, e => exact Or.inl (e.trans nI_0)
  | 1, _, e => exact Or.inr e
theorem rdR_congr {P : MP} {f g : MR} {r o k : Nat} (h : f r o k = g r o k) : rdR P f r o k = rdR P g r o k := by
  unfold rdR
  cases P.1 r k with
  | none => exact h
  | some _ => rfl
section Snd
variable {p : Program} {l : Launch} {e : Env} {R : Room} {s : State} {mi : MethodId} {args : Array Value} {below : List Frame} {meth : Method} {c : Code} {Q : State → Prop} {D : va_G} {B : Nat} {fv : Value} {P : MP} {m n1 n2 : Nat} {ρ : Nat → Nat → Nat} {pc : Nat} {ls : List (Option MV)} {st : List MV} {h : MH}
theorem mcell_keep {h' : MH} {H H' : Heap} {r o : Nat} (hc : mcell D fv P ρ h s H r o) (hH : H'[ρ r o]? = H[ρ r o]?) (hI : ∀ k, h'.1 r o k = h.1 r o k) (hR : ∀ k, h'.2.1 r o k = h.2.1 r o k) (hJ : ∀ k, h'.2.2.1 r o k = h.2.2.1 r o k) : mcell D fv P ρ h' s H' r o := by
  have e1 : mfv ρ fv P h' r o = mfv ρ fv P h r o := by
    funext k
    unfold mfv
    rw [hI k, rdR_congr (hR k)]
  have e2 : mav ρ fv P h' r o = mav ρ fv P h r o := by
    funext k
    unfold mav
    rw [hI k, rdR_congr (hR k), hJ k]
  unfold mcell at hc ⊢
  rw [e1, e2]
  split
  · rename_i ht
    rw [ht] at hc
    exact hc.kept hH
  · rename_i ht
    split at hc
    · exact absurd ‹rTag r = 0› ht
    · obtain ⟨cA, a1, a2, a3⟩ := hc
      exact ⟨cA, a1, a2, hH.trans a3⟩
theorem dyn_upd {h' : MH} {H H' : Heap} {r j : Nat} (hD : mDyn D B fv P ρ h s H) (hr : 10 ≤ r) (hj : j < h.2.2.2.1 r) (hC : h'.2.2.2.1 = h.2.2.2.1) (hz : H'.size = H.size) (hk : ∀ q, q ≠ ρ r j → H'[q]? = H[q]?)
    (hI : ∀ r' o' k, ¬ (r' = r ∧ o' = j) → h'.1 r' o' k = h.1 r' o' k) (hR : ∀ r' o' k, ¬ (r' = r ∧ o' = j) → h'.2.1 r' o' k = h.2.1 r' o' k) (hJ : ∀ r' o' k, ¬ (r' = r ∧ o' = j) → h'.2.2.1 r' o' k = h.2.2.1 r' o' k)
    (hc : mcell D fv P ρ h' s H' r j) (hv : ∀ f, f < regL r → okr h.2.2.2.1 (rTgt r f) (rdR P h'.2.1 r j f)) : mDyn D B fv P ρ h' s H' := by
  obtain ⟨d1, d2, d3, d4⟩ := hD
  refine ⟨fun r' o' h1 h2 => ?_, fun r' o' r2 o2 h1 h2 h3 h4 => ?_, fun r' o' f h1 h2 h5 => ?_, by rw [hz]; exact d4⟩
  · rw [hC] at h2
    by_cases q : r' = r ∧ o' = j
    · obtain ⟨rfl, rfl⟩ := q
      exact ⟨hc, (d1 r' o' h1 h2).2⟩
    · have hne : ρ r' o' ≠ ρ r j := fun z => q (d2 r' o' r j h1 h2 hr hj z)
      exact ⟨mcell_keep (d1 r' o' h1 h2).1 (hk _ hne) (fun k => hI r' o' k q) (fun k => hR r' o' k q) (fun k => hJ r' o' k q), (d1 r' o' h1 h2).2⟩
  · rw [hC] at h2 h4
    exact d2 r' o' r2 o2 h1 h2 h3 h4
  · rw [hC] at h2 ⊢
    by_cases q : r' = r ∧ o' = j
    · obtain ⟨rfl, rfl⟩ := q
      exact hv f h5
    · rw [rdR_congr (hR r' o' f q)]
      exact d3 r' o' f h1 h2 h5
theorem m3_ne {α : Type} (f : Nat → Nat → Nat → α) (r o i : Nat) (v : α) {r' o' i' : Nat} (h : ¬ (r' = r ∧ o' = o)) : m3 f r o i v r' o' i' = f r' o' i' := by
  unfold m3
  by_cases h1 : r' = r
  · by_cases h2 : o' = o
    · exact absurd ⟨h1, h2⟩ h
    · simp [h1, h2]
  · simp [h1]
theorem m3_at {α : Type} (f : Nat → Nat → Nat → α) (r o i : Nat) (v : α) (k : Nat) : m3 f r o i v r o k = if k = i then v else f r o k := by
  unfold m3
  simp
/-- a store into a field, final or not -/
theorem put_any (C : mCx p l s mi args meth c m) (hK : ∀ (ci : Nat) (q : vw_C), vwCl[ci]? = some q → u_Kn s q.1 q.2.1 q.2.2 (D.1 ci) (D.2 ci)) {H : Heap} {locs : List Loc} {lr : Array Slot} {cells slots idx r j ci k : Nat} {rest : List Value} {q : vw_C} {v : Value} {ty : FieldType} (hD : mDyn D B fv P ρ h s H) (hS : va_S (fun q => B ≤ q) s.heap H locs) (hl : fLk (mOw m) idx = some (ci, k)) (hci : ci < 13) (hr : rCls r = ci) (hj : okr h.2.2.2.1 r (some j))
    (hq : vwCl[ci]? = some q) (hfin : (q.2.1 k).2.2.2 = false ∨ ((mNm m).name = "<init>" ∧ (q.2.1 k).1 = clsN (mOw m))) (hd : parseFieldDescriptor (q.2.1 k).2.2.1 = some ty) (hn : narrow ty v = v) (hfit : fits ty v = true) (hdg : decode (mBy m) pc = .ok (.putfield idx, 3))
    (kk : ∀ (H' : Heap) (locs' : List Loc), t_OB (ρ r j) (D.1 ci) q.2.2 (D.2 ci) H' (updV (mfv ρ fv P h r j) k v) → H'.size = H.size → (∀ a, a ≠ ρ r j → H'[a]? = H[a]?) → va_S (fun q => B ≤ q) s.heap H' locs' → W p l e R s mi args below meth c H' locs' cells slots Q (F0 mi (pc + 3) lr rest)) : W p l e R s mi args below meth c H locs cells slots Q (F0 mi pc lr (v :: .ref (ρ r j) :: rest)) := by
  obtain ⟨q', hq', hk, hlink⟩ := fLk_ok hl hci
  cases Option.some.inj (hq.symm.trans hq')
  obtain ⟨h10, hjc, -, cell, q1, q2, q3, q4⟩ := obj_at hD hr hq hj
  have hB := (hD.1 r j h10 hjc).2
  have hul := ul_ok ci hci
  simp only [ulOK, hq, List.all_eq_true, List.mem_range, Bool.and_eq_true, decide_eq_true_eq] at hul
  have hty : ∀ k, k < q.2.2 → parseFieldDescriptor (q.2.1 k).2.2.1 = some ((parseFieldDescriptor (q.2.1 k).2.2.1).getD .int) := by
    intro k hk
    have := (hul k hk).2
    cases hp : parseFieldDescriptor (q.2.1 k).2.2.1 with
    | none => rw [hp] at this; cases this
    | some t => rfl
  have hVK : va_K D vwCl [] s := ⟨hK, fun k q h => by simp at h⟩
  have hap := va_apart (own := clsN (mOw m)) C.2.2.2.2.1 (ul_in hq) _ hty (nm_all ci q hq) hVK hq
  obtain ⟨hSl, hfc, kC, hkC, hkind⟩ := hK ci q hq
  obtain ⟨cf, kf, fi, f, hi, hsl⟩ := hSl k hk
  have hst := (u_facts hfc hkC (u_lays C.2.2.2.2.1 (ul_in hq) hk) hi).1
  have hlay := C.2.2.2.2.1 _ (ul_in hq _ (u_in_lay hk))
  unfold u_lay at hlay
  have fin : ∀ H' : Heap, H'[ρ r j]? = some (cell.setSlot f.slot v) → H'.size = H.size → (∀ a, a ≠ ρ r j → H'[a]? = H[a]?) → W p l e R s mi args below meth c H' (locs ++ [⟨ρ r j, f.slot⟩]) cells slots Q (F0 mi (pc + 3) lr rest) := by
    intro H' e1 e2 e3
    rw [hsl] at e1
    exact kk H' _ ⟨_, e1, q2, q3, t_set q4 hap hk v⟩ e2 e3 (hS.put e2 e3 hB)
  cases hf : (q.2.1 k).2.2.2 with
  | false =>
    rw [if_neg (by rw [hf]; decide)] at hlay
    have h6 := u_store hfc hkC hkind hlay hi hd hn hfit
    exact W.putK C.1 C.2.1 (f := f) ⟨C.2.2.2.1, C.2.2.2.2.1 _ hlink, ⟨_, _, _, hi⟩, hst⟩ (by rw [q2]; exact h6) q1 q3 (by rw [hsl]; exact k2_hasslot (q4 k hk)) rfl rfl hdg fin
  | true =>
    rw [if_pos hf] at hlay
    obtain ⟨hinit, hdecl⟩ : (mNm m).name = "<init>" ∧ (q.2.1 k).1 = clsN (mOw m) := hfin.resolve_left (by rw [hf]; decide)
    have hcf : mi.cls = cf := by
      obtain ⟨_, _, c', _, _, _, -, -, hf', -, -, -, hown2, -⟩ := Cond.laysFinal_spec hlay
      have e1 : c' = cf := by have := hi.symm.trans hf'; simp at this; exact this.1.symm
      rw [hdecl] at hown2
      rw [← e1]; exact Option.some.inj (C.2.2.2.1.symm.trans hown2)
    have h6 := u_fits hfc hkC hkind (Or.inr hlay) hi hd hn hfit
    exact W.putFinK C.1 C.2.1 C.2.2.2.1 (C.2.2.2.2.1 _ hlink) hi hst hcf (C.2.2.2.2.2.2.2.1.trans hinit) (by rw [q2]; exact h6) q1 q3 (by rw [hsl]; exact k2_hasslot (q4 k hk)) rfl rfl hdg fin
end Snd
