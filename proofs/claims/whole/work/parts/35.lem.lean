/-! ===== what an answer of the mini machine says ===== -/
theorem plI_some {v : Option MV} {F : Int32 → MX} {z : MO} (h : plI v F = some z) : ∃ y, v = some (iv y) ∧ F y = some z := by
  match v, h with
  | some (.inl y), h => exact ⟨y, rfl, h⟩
theorem plR_some {v : Option MV} {F : Nat → Option Nat → MX} {z : MO} (h : plR v F = some z) : ∃ r o, v = some (rv r o) ∧ F r o = some z := by
  match v, h with
  | some (.inr (.inl q)), h => exact ⟨q.1, q.2, rfl, h⟩
theorem p1i_some {st : List MV} {F : Int32 → List MV → MX} {z : MO} (h : p1i st F = some z) : ∃ y s, st = iv y :: s ∧ F y s = some z := by
  match st, h with
  | .inl y :: s, h => exact ⟨y, s, rfl, h⟩
theorem p2i_some {st : List MV} {F : Int32 → Int32 → List MV → MX} {z : MO} (h : p2i st F = some z) : ∃ x y s, st = iv y :: iv x :: s ∧ F x y s = some z := by
  match st, h with
  | .inl y :: .inl x :: s, h => exact ⟨x, y, s, rfl, h⟩
theorem p1r_some {st : List MV} {F : Nat → Option Nat → List MV → MX} {z : MO} (h : p1r st F = some z) : ∃ r o s, st = rv r o :: s ∧ F r o s = some z := by
  match st, h with
  | .inr (.inl q) :: s, h => exact ⟨q.1, q.2, s, rfl, h⟩
theorem p1j_some {st : List MV} {F : Int64 → List MV → MX} {z : MO} (h : p1j st F = some z) : ∃ y s, st = jv y :: s ∧ F y s = some z := by
  match st, h with
  | .inr (.inr y) :: s, h => exact ⟨y, s, rfl, h⟩
theorem onS_some {o : Option Nat} {F : Nat → MX} {z : MO} (h : onS o F = some z) : ∃ j, o = some j ∧ F j = some z := by
  match o, h with
  | some j, h => exact ⟨j, rfl, h⟩
theorem chk_t {b : Bool} {A : MX} {z : MO} (h : chk b A none = some z) : b = true ∧ A = some z := by
  match b, h with
  | true, h => exact ⟨rfl, h⟩
theorem chk_f {b : Bool} {A : MX} {z : MO} (h : chk b none A = some z) : b = false ∧ A = some z := by
  match b, h with
  | false, h => exact ⟨rfl, h⟩
theorem chk_or {b : Bool} {A A' : MX} {z : MO} (h : chk b A A' = some z) : (b = true ∧ A = some z) ∨ (b = false ∧ A' = some z) := by
  match b, h with
  | true, h => exact Or.inl ⟨rfl, h⟩
  | false, h => exact Or.inr ⟨rfl, h⟩
theorem ite_n {q : Prop} [Decidable q] {A : MX} {z : MO} (h : (if q then none else A) = some z) : ¬ q ∧ A = some z := by
  by_cases hq : q
  · rw [if_pos hq] at h; cases h
  · rw [if_neg hq] at h; exact ⟨hq, h⟩
theorem mbr_or {w : Nat} {x y : Int32} {A A' : MX} {z : MO} (h : mbr w x y A A' = some z) : A = some z ∨ A' = some z := by
  unfold mbr at h
  split at h <;> (split at h) <;> first | exact Or.inl h | exact Or.inr h
theorem mnu_or {w : Nat} {o : Option Nat} {A A' : MX} {z : MO} (h : mnu w o A A' = some z) : A = some z ∨ A' = some z := by
  unfold mnu at h
  split at h <;> (split at h) <;> first | exact Or.inl h | exact Or.inr h
theorem msw_ex {x : Int32} {d : Nat} {F : Nat → MX} {z : MO} : ∀ l : List (Int32 × Nat), msw l x d F = some z → ∃ t, F t = some z
  | [], h => ⟨d, h⟩
  | (v, t) :: r, h => by
    simp only [msw] at h
    by_cases e : x = v
    · rw [if_pos e] at h; exact ⟨t, h⟩
    · rw [if_neg e] at h; exact msw_ex r h
theorem mop_ex {w : Nat} {x y : Int32} {F : Int32 → MX} {z : MO} (h : mop w x y F = some z) : ∃ v, F v = some z := by
  unfold mop at h
  split at h <;> exact ⟨_, h⟩
theorem mun_ex {w : Nat} {x : Int32} {F : Int32 → MX} {z : MO} (h : mun w x F = some z) : ∃ v, F v = some z := by
  unfold mun at h
  split at h <;> exact ⟨_, h⟩
theorem mnr_ex {w : Nat} {x : Int32} {F : Int32 → MX} {z : MO} (h : mnr w x F = some z) : ∃ v, F v = some z := by
  unfold mnr at h
  split at h <;> exact ⟨_, h⟩
/-- what is asked of the references that never change -/
def mPok (P : MP) : Prop := (∀ r, 10 ≤ r → P.1 r 1000 = none → ∀ f, P.1 r f = none) ∧ (∀ r, rTag r = 5 → P.1 r 0 = none → ∀ f, f < 60 → P.1 r f = none) ∧ P.1 2 0 = some (fun o => some o)
theorem rt_7 : rTag 7 = 0 := by decide +kernel
theorem ne7 {r : Nat} (h : rTag r ≠ 0) : Nat.beq r 7 = false := by
  refine beq_ne ?_
  rintro rfl
  exact h rt_7
theorem rtag4 : ∀ r, r < rNo → rTag r = 4 → 10 ≤ r := by decide +kernel
theorem rt5_len : ∀ r, r < rNo → rTag r = 5 → regL r ≤ 60 := by decide +kernel
theorem tg_2 : rTgt 2 0 = 3 := by decide +kernel
theorem nfw : 8 + (nativeFrameWords "java/lang/System" "arraycopy" 5 + 11) ≤ 240 := by decide +kernel
theorem rLen_dyn {P : MP} {r j : Nat} (h : 10 ≤ r) : rLen P r j = regL r := by
  unfold rLen
  rw [beq_ne (show r ≠ 1 by omega), beq_ne (show r ≠ 3 by omega)]
  rfl
theorem fKd_cases {ci : Nat} {q : vw_C} (hq : vwCl[ci]? = some q) {k : Nat} (hk : k < q.2.2) : fKd ci k = 0 ∨ fKd ci k = 1 ∨ fKd ci k = 2 := by
  have hci : ci < 13 := (List.getElem?_eq_some_iff.mp hq).1
  have hul := ul_ok ci hci
  simp only [ulOK, hq, List.all_eq_true, List.mem_range, Bool.and_eq_true, decide_eq_true_eq] at hul
  have h := (hul k hk).2
  split at h
  · exact Or.inl (of_decide_eq_true h)
  · exact Or.inr (Or.inl (of_decide_eq_true h))
  · exact Or.inr (Or.inr (of_decide_eq_true h))
  · exact Or.inr (Or.inr (of_decide_eq_true h))
  · cases h
theorem fLk_ci {own idx : Nat} {q : Nat × Nat} (h : fLk own idx = some q) : q.1 < 13 ∨ q.1 = 14 := by
  unfold fLk at h
  cases hf : fTab.find? (fun q => Nat.beq q.1 own && Nat.beq q.2.1 idx) with
  | none => rw [hf] at h; cases h
  | some z =>
    rw [hf] at h
    have hk := List.all_eq_true.mp fTab_ok _ (find_mem hf).1
    simp only [Option.map_some, Option.some.injEq] at h
    subst h
    unfold ftOK at hk
    cases hv : vwCl[z.2.2.1]? with
    | some r => exact Or.inl (List.getElem?_eq_some_iff.mp hv).1
    | none =>
      rw [hv] at hk
      simp only [Bool.and_eq_true, decide_eq_true_eq] at hk
      exact Or.inr hk.1
theorem tgtB_eq {pc : Nat} {off : Int} {t : Nat} (h : tgtB pc off t = true) : (pc : Int) + off = (t : Int) := of_decide_eq_true h
section G1
variable {p : Program} {l : Launch} {e : Env} {R : Room} {s : State} {mi : MethodId} {args : Array Value} {below : List Frame} {meth : Method} {c : Code} {D : va_G} {B : Nat} {fv : Value} {P : MP} {m : Nat} {ρ0 : Nat → Nat → Nat} {h0 : MH} {x : MO} {pc pc' : Nat} {ls ls' : List (Option MV)} {st st' : List MV} {h h' : MH}
abbrev mQ (below : List Frame) (D : va_G) (B : Nat) (fv : Value) (P : MP) (ρ0 : Nat → Nat → Nat) (h0 : MH) (x : MO) (args : Array Value) (s : State) : State → Prop := vx_MQ below (mQc D B fv P ρ0 h0 x) (mXC D B fv P ρ0 h0 x) args s (x.2.2.2.2.2.1 - h0.2.2.2.2.1) (x.2.2.2.2.2.2 - h0.2.2.2.2.2) (fun q => B ≤ q)
theorem go_1 (g : mGo p l e R s mi args below meth c D B fv P m ρ0 h0 x pc' ls' st' h') (e1 : h'.2.2.2 = h.2.2.2)
    (F : ∀ ρ, rext h0.2.2.2.1 ρ0 ρ → SW p l e R s mi args below meth c (mQ below D B fv P ρ0 h0 x args s) D B fv P m h0.2.2.2.2.1 h0.2.2.2.2.2 ρ pc' ls' st' h' → SW p l e R s mi args below meth c (mQ below D B fv P ρ0 h0 x args s) D B fv P m h0.2.2.2.2.1 h0.2.2.2.2.2 ρ pc ls st h) : mGo p l e R s mi args below meth c D B fv P m ρ0 h0 x pc ls st h :=
  ⟨by rw [← e1]; exact g.1, by rw [← e1]; exact g.2.1, fun hC ρ he => F ρ he (g.2.2 (by rw [e1]; exact hC) ρ he)⟩
theorem go_n {r : Nat} (g : mGo p l e R s mi args below meth c D B fv P m ρ0 h0 x pc' ls' st' (mnew h r (regL r)))
    (F : h.2.2.2.2.1 + 1 ≤ x.2.2.2.2.2.1 → h.2.2.2.2.2 + regL r ≤ x.2.2.2.2.2.2 → ∀ ρ, rext h0.2.2.2.1 ρ0 ρ → (∀ ρ', rext h.2.2.2.1 ρ ρ' → SW p l e R s mi args below meth c (mQ below D B fv P ρ0 h0 x args s) D B fv P m h0.2.2.2.2.1 h0.2.2.2.2.2 ρ' pc' ls' st' (mnew h r (regL r))) → SW p l e R s mi args below meth c (mQ below D B fv P ρ0 h0 x args s) D B fv P m h0.2.2.2.2.1 h0.2.2.2.2.2 ρ pc ls st h) : mGo p l e R s mi args below meth c D B fv P m ρ0 h0 x pc ls st h :=
  ⟨Nat.le_trans (Nat.le_succ _) g.1, Nat.le_trans (Nat.le_add_right _ _) g.2.1, fun hC ρ he => F g.1 g.2.1 ρ he (fun ρ' he' => g.2.2 (fun q => Nat.le_trans (hC q) (m1_le h.2.2.2.1 r q)) ρ' (rext_trans hC he he'))⟩
end G1
