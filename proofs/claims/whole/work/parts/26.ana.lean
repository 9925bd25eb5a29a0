/-! ===== soundness: anewarray; ends of a method ===== -/
def aOK (q : Nat × Nat × Nat × Nat) : Bool := decide (rTag q.2.2.1 = 5) && decide (lw_tbl[q.2.2.2]? = some (Cond.classLink (clsN q.1) q.2.1 (clsN (rCls (rTgt q.2.2.1 0))))) && nTs.elem (Cond.arrayOver (.object (clsN (rCls (rTgt q.2.2.1 0)))))
theorem aTab_ok : aTab.all aOK = true := by decide +kernel
theorem aLk_ok {own idx r : Nat} (h : aLk own idx = some r) : rTag r = 5 ∧ Cond.classLink (clsN own) idx (clsN (rCls (rTgt r 0))) ∈ gTs ∧ Cond.arrayOver (.object (clsN (rCls (rTgt r 0)))) ∈ nTs := by
  unfold aLk at h
  cases hf : aTab.find? (fun q => Nat.beq q.1 own && Nat.beq q.2.1 idx) with
  | none => rw [hf] at h; cases h
  | some q =>
    rw [hf] at h
    obtain ⟨hm, hb⟩ := find_mem hf
    obtain ⟨e1, e2⟩ := beq2 hb
    obtain ⟨o, i, r', ps⟩ := q
    simp only [Option.map_some, Option.some.injEq] at h
    subst h
    have hk := List.all_eq_true.mp aTab_ok _ hm
    simp only [aOK, Bool.and_eq_true, decide_eq_true_eq] at hk
    simp only at e1 e2
    subst e1; subst e2
    exact ⟨hk.1.1, gTs_in hk.1.2 rfl, List.mem_of_elem_eq_true hk.2⟩
theorem nullArr (cA : ClassId) (n : Nat) : ({ cls := cA, slots := Array.replicate n .null, vm := .none } : Cell) = arrV cA n (fun _ => .null) := by
  unfold arrV
  congr 1
  apply Array.ext
  · simp
  · intro i h1 h2
    simp
section Snd
variable {p : Program} {l : Launch} {e : Env} {R : Room} {s : State} {mi : MethodId} {args : Array Value} {below : List Frame} {meth : Method} {c : Code} {Q : State → Prop} {D : va_G} {B : Nat} {fv : Value} {P : MP} {m n1 n2 : Nat} {ρ : Nat → Nat → Nat} {pc : Nat} {ls : List (Option MV)} {st : List MV} {h : MH}
theorem sw_anew (C : mCx p l s mi args meth c m) (hX : mExt D B fv P ρ s s.heap) {idx r : Nat} {x : Int32} (hl : aLk (mOw m) idx = some r) (hPs : ∀ f, P.1 r f = none) (hx : x = Int32.ofNat (regL r)) (hdg : decode (mBy m) pc = .ok (.anewarray idx, 3)) (hRc : h.2.2.2.2.1 + 1 ≤ n1 + R.cells) (hRs : h.2.2.2.2.2 + regL r ≤ n2 + R.slots)
    (K : ∀ ρ', rext h.2.2.2.1 ρ ρ' → SW p l e R s mi args below meth c Q D B fv P m n1 n2 ρ' (pc + 3) ls (rv r (some (h.2.2.2.1 r)) :: st) (mnew h r (regL r))) : SW p l e R s mi args below meth c Q D B fv P m n1 n2 ρ pc ls (iv x :: st) h := by
  intro H locs lr hD hS hL hs hl' h1 h2
  have hs' := (List.forall_mem_cons.mp hs).2
  have hsm := regL_small r
  subst hx
  obtain ⟨ht, hlink, hover⟩ := aLk_ok hl
  have ht0 : rTag r ≠ 0 := by omega
  obtain ⟨hr, -, -⟩ := rtag5 r (rg_lt (Or.inr ht0)) ht
  have hn : ¬ Int32.ofNat (regL r) < 0 := nI_pos (n := regL r) (by omega)
  have hN : (Int32.ofNat (regL r)).toNatClampNeg = regL r := nI_clamp (n := regL r) (by omega)
  have ho : (Cond.arrayOver (.object (clsN (rCls (rTgt r 0))))).before args s = true := va_AO.use (hX.2.2.2.2.2.2.2.2.2.1 _ hover)
  refine W.anew C.1 C.2.1 C.2.2.2.1 (C.2.2.2.2.1 _ hlink) ho (g := F0 mi pc lr (.int (Int32.ofNat (regL r)) :: st.map (mval ρ fv))) rfl hdg rfl hn (by rw [hN]; omega) (by omega) (by rw [hN]; omega) (fun cA kA comp q1 q2 q3 q4 => ?_)
  rw [hN, nullArr]
  have et : tagT r = .object (clsN (rCls (rTgt r 0))) := by unfold tagT; rw [ht]; try rfl
  have hρ : rnew h.2.2.2.1 ρ r H.size r (h.2.2.2.1 r) = H.size := by unfold rnew; simp
  refine new_go hr hPs hD hS hL hs' hl' h1 h2 (by simp) (fun q hq => by rw [Array.getElem?_push, if_neg (by omega)]) ?_ rfl rfl K
  refine arr_mcell (cA := cA) (V := fun _ => .null) ht0 ?_ ?_ (by rw [hρ]; simp) (fun k => ?_)
  · rw [et]
    exact fun n z => ⟨(fun _ hz => by cases hz), kA, q2, comp, q3⟩
  · rw [et]
    exact ⟨kA, comp, q2, q3, q4, q1⟩
  · unfold mav
    rw [ht]
    show _ = mrf _ fv (rTgt r k) (rdR P (mnew h r (regL r)).2.1 r (h.2.2.2.1 r) k)
    rw [new_none hPs]
    rfl
end Snd
