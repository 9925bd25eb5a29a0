/-! ===== soundness: stores to arrays, new objects ===== -/
/-- ρ' goes on with ρ -/
def rext (C : Nat → Nat) (ρ ρ' : Nat → Nat → Nat) : Prop := (∀ r o, o < cn C r → ρ' r o = ρ r o) ∧ ∀ r o, 1 ≤ r → r < 10 → ρ' r o = ρ r o
theorem rext_rf {C : Nat → Nat} {ρ : Nat → Nat → Nat} : rext C ρ ρ := ⟨fun _ _ _ => rfl, fun _ _ _ _ => rfl⟩
theorem mrf_ext {C : Nat → Nat} {ρ ρ' : Nat → Nat → Nat} {fv : Value} (he : rext C ρ ρ') {r : Nat} {o : Option Nat} (ho : okr C r o) : mrf ρ' fv r o = mrf ρ fv r o := by
  cases o with
  | none => rfl
  | some j =>
    show (bif Nat.beq r 7 then fv else Value.ref (ρ' r j)) = (bif Nat.beq r 7 then fv else Value.ref (ρ r j))
    rw [he.1 r j (ho j rfl)]
theorem mval_ext {C : Nat → Nat} {ρ ρ' : Nat → Nat → Nat} {fv : Value} (he : rext C ρ ρ') {v : MV} (ho : okv C v) : mval ρ' fv v = mval ρ fv v := by
  match v, ho with
  | .inl _, _ => rfl
  | .inr (.inl q), ho => exact mrf_ext he ho
  | .inr (.inr _), _ => rfl
theorem stk_ext {C : Nat → Nat} {ρ ρ' : Nat → Nat → Nat} {fv : Value} (he : rext C ρ ρ') {st : List MV} (hs : ∀ v ∈ st, okv C v) : st.map (mval ρ' fv) = st.map (mval ρ fv) := List.map_congr_left (fun v hv => mval_ext he (hs v hv))
theorem lrel_ext {C : Nat → Nat} {ρ ρ' : Nat → Nat → Nat} {fv : Value} (he : rext C ρ ρ') {nL : Nat} {ls : List (Option MV)} {lr : Array Slot} (hl : ∀ (i : Nat) (v : MV), ls[i]? = some (some v) → okv C v) (hL : lrel ρ fv nL ls lr) : lrel ρ' fv nL ls lr :=
  ⟨hL.1, hL.2.1, fun i v hi => ⟨(hL.2.2 i v hi).1, by rw [mval_ext he (hl i v hi)]; exact (hL.2.2 i v hi).2⟩⟩
theorem okv_le {C C' : Nat → Nat} (h : ∀ r, cn C r ≤ cn C' r) {v : MV} (ho : okv C v) : okv C' v := by
  match v, ho with
  | .inl _, _ => trivial
  | .inr (.inl q), ho => exact fun j hj => Nat.lt_of_lt_of_le (ho j hj) (h q.1)
  | .inr (.inr _), _ => trivial
theorem cn_le {C C' : Nat → Nat} (h : ∀ r, C r ≤ C' r) (r : Nat) : cn C r ≤ cn C' r := by
  unfold cn
  cases Nat.blt 9 r || Nat.beq r 0
  · exact Nat.le_refl _
  · exact h r
theorem m1_le (C : Nat → Nat) (r : Nat) : ∀ q, C q ≤ m1 C r (C r + 1) q := by
  intro q
  unfold m1
  by_cases e : q = r
  · subst e; simp
  · simp [e]
theorem m2_ne {α : Type} (f : Nat → Nat → Nat → α) (r o : Nat) (v : α) {r' o' i' : Nat} (h : ¬ (r' = r ∧ o' = o)) : m2 f r o v r' o' i' = f r' o' i' := by
  unfold m2
  by_cases h1 : r' = r
  · by_cases h2 : o' = o
    · exact absurd ⟨h1, h2⟩ h
    · simp [h1, h2]
  · simp [h1]
theorem m2_at {α : Type} (f : Nat → Nat → Nat → α) (r o : Nat) (v : α) (k : Nat) : m2 f r o v r o k = v := by
  unfold m2
  simp
section Snd
variable {p : Program} {l : Launch} {e : Env} {R : Room} {s : State} {mi : MethodId} {args : Array Value} {below : List Frame} {meth : Method} {c : Code} {Q : State → Prop} {D : va_G} {B : Nat} {fv : Value} {P : MP} {m n1 n2 : Nat} {ρ ρ' : Nat → Nat → Nat} {pc : Nat} {ls : List (Option MV)} {st : List MV} {h : MH}
theorem arrV_congr {cA : ClassId} {n : Nat} {f g : Nat → Value} (h : ∀ k, k < n → f k = g k) : arrV cA n f = arrV cA n g := by
  unfold arrV
  congr 1
  apply Array.ext
  · simp
  · intro i h1 h2
    simp at h1
    simp [h i h1]
theorem mcell_mov {h' : MH} {H H' : Heap} {r o : Nat} (hc : mcell D fv P ρ h s H r o) (hρ : ρ' r o = ρ r o) (hH : H'[ρ r o]? = H[ρ r o]?) (hI : ∀ k, h'.1 r o k = h.1 r o k) (hR : ∀ k, k < regL r → mrf ρ' fv (rTgt r k) (rdR P h'.2.1 r o k) = mrf ρ fv (rTgt r k) (rdR P h.2.1 r o k)) (hJ : ∀ k, h'.2.2.1 r o k = h.2.2.1 r o k) : mcell D fv P ρ' h' s H' r o := by
  have e1 : ∀ k, k < regL r → mfv ρ fv P h r o k = mfv ρ' fv P h' r o k := by
    intro k hk
    unfold mfv
    rw [hI k, hR k hk]
  have e2 : ∀ k, k < regL r → mav ρ fv P h r o k = mav ρ' fv P h' r o k := by
    intro k hk
    unfold mav
    rw [hI k, hR k hk, hJ k]
  unfold mcell at hc ⊢
  rw [hρ]
  split
  · rename_i ht
    rw [ht] at hc
    exact (hc.kept hH).to e1
  · rename_i ht
    split at hc
    · exact absurd ‹rTag r = 0› ht
    · obtain ⟨cA, a1, a2, a3⟩ := hc
      exact ⟨cA, a1, a2, by rw [hH, a3, arrV_congr e2]⟩
theorem mcell_lt {H : Heap} {r o : Nat} (hc : mcell D fv P ρ h s H r o) : ρ r o < H.size := by
  unfold mcell at hc
  split at hc
  · obtain ⟨cell, q, -⟩ := hc
    exact (Array.getElem?_eq_some_iff.mp q).1
  · obtain ⟨cA, -, -, q⟩ := hc
    exact (Array.getElem?_eq_some_iff.mp q).1
/-- the place of a new object -/
def rnew (C : Nat → Nat) (ρ : Nat → Nat → Nat) (r a : Nat) : Nat → Nat → Nat := fun r' o' => if r' = r ∧ o' = C r then a else ρ r' o'
theorem rnew_ext {C : Nat → Nat} {r a : Nat} (hr : 10 ≤ r) : rext C ρ (rnew C ρ r a) := by
  refine ⟨fun r' o' ho => ?_, fun r' o' h1 h2 => ?_⟩
  · unfold rnew
    rw [if_neg]
    rintro ⟨rfl, rfl⟩
    rw [cn_dyn hr] at ho
    omega
  · unfold rnew
    rw [if_neg]
    rintro ⟨rfl, -⟩
    omega
theorem dyn_new {H H' : Heap} {r n : Nat} (hsr : ∀ f, rdR P (mnew h r n).2.1 r (h.2.2.2.1 r) f = none) (hD : mDyn D B fv P ρ h s H) (hr : 10 ≤ r) (hz : H'.size = H.size + 1) (hk : ∀ q, q < H.size → H'[q]? = H[q]?) (hc : mcell D fv P (rnew h.2.2.2.1 ρ r H.size) (mnew h r n) s H' r (h.2.2.2.1 r)) : mDyn D B fv P (rnew h.2.2.2.1 ρ r H.size) (mnew h r n) s H' := by
  obtain ⟨d1, d2, d3, d4⟩ := hD
  have he : rext h.2.2.2.1 ρ (rnew h.2.2.2.1 ρ r H.size) := rnew_ext hr
  have hC : ∀ r' o', o' < (mnew h r n).2.2.2.1 r' → (r' = r ∧ o' = h.2.2.2.1 r) ∨ o' < h.2.2.2.1 r' := by
    intro r' o' ho
    have ho' : o' < m1 h.2.2.2.1 r (h.2.2.2.1 r + 1) r' := ho
    unfold m1 at ho'
    by_cases e : r' = r
    · subst e
      rw [if_pos rfl] at ho'
      rcases Nat.lt_or_ge o' (h.2.2.2.1 r') with q | q
      · exact Or.inr q
      · exact Or.inl ⟨rfl, by omega⟩
    · rw [if_neg e] at ho'
      exact Or.inr ho'
  have hnew : rnew h.2.2.2.1 ρ r H.size r (h.2.2.2.1 r) = H.size := by unfold rnew; simp
  have hold : ∀ r' o', 10 ≤ r' → o' < h.2.2.2.1 r' → rnew h.2.2.2.1 ρ r H.size r' o' = ρ r' o' := fun r' o' h1 h2 => he.1 r' o' (by rw [cn_dyn h1]; exact h2)
  refine ⟨fun r' o' h1 h2 => ?_, fun r' o' r2 o2 h1 h2 h3 h4 hq => ?_, fun r' o' f h1 h2 h9 => ?_, by omega⟩
  · rcases hC r' o' h2 with ⟨rfl, rfl⟩ | h5
    · exact ⟨hc, by rw [hnew]; exact d4⟩
    · have hne : ¬ (r' = r ∧ o' = h.2.2.2.1 r) := by rintro ⟨rfl, rfl⟩; omega
      have hcell := (d1 r' o' h1 h5).1
      refine ⟨mcell_mov hcell (hold r' o' h1 h5) (hk _ (mcell_lt hcell)) (fun k => m2_ne _ _ _ _ hne) (fun k hk9 => ?_) (fun k => m2_ne _ _ _ _ hne), by rw [hold r' o' h1 h5]; exact (d1 r' o' h1 h5).2⟩
      have e1 : rdR P (mnew h r n).2.1 r' o' k = rdR P h.2.1 r' o' k := rdR_congr (m2_ne _ _ _ _ hne)
      rw [e1]
      exact mrf_ext he (d3 r' o' k h1 h5 hk9)
  · rcases hC r' o' h2 with ⟨rfl, rfl⟩ | h5
    · rcases hC r2 o2 h4 with ⟨rfl, rfl⟩ | h6
      · exact ⟨rfl, rfl⟩
      · rw [hnew, hold r2 o2 h3 h6] at hq
        have := mcell_lt (d1 r2 o2 h3 h6).1
        omega
    · rcases hC r2 o2 h4 with ⟨rfl, rfl⟩ | h6
      · rw [hnew, hold r' o' h1 h5] at hq
        have := mcell_lt (d1 r' o' h1 h5).1
        omega
      · rw [hold r' o' h1 h5, hold r2 o2 h3 h6] at hq
        exact d2 r' o' r2 o2 h1 h5 h3 h6 hq
  · rcases hC r' o' h2 with ⟨rfl, rfl⟩ | h5
    · rw [hsr f]
      exact fun _ z => nomatch z
    · have hne : ¬ (r' = r ∧ o' = h.2.2.2.1 r) := by rintro ⟨rfl, rfl⟩; omega
      have e1 : rdR P (mnew h r n).2.1 r' o' f = rdR P h.2.1 r' o' f := rdR_congr (m2_ne _ _ _ _ hne)
      rw [e1]
      exact fun j hj => Nat.lt_of_lt_of_le (d3 r' o' f h1 h5 h9 j hj) (cn_le (m1_le h.2.2.2.1 r) _)
end Snd
