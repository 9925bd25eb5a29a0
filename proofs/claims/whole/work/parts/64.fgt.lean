/-! ===== a run that knows more of its locals ===== -/
def lle (a b : List (Option MV)) : Prop := ∀ i v, lget a i = some v → lget b i = some v
theorem lle_rf (a : List (Option MV)) : lle a a := fun _ _ h => h
theorem lget_set {a : List (Option MV)} {i : Nat} {v : MV} {j : Nat} : lget (a.set i (some v)) j = if j = i ∧ i < a.length then some v else lget a j := by
  unfold lget
  by_cases e : j = i
  · subst e
    by_cases h : j < a.length
    · rw [if_pos ⟨rfl, h⟩, List.getElem?_set_self h]
    · rw [if_neg (fun z => h z.2), List.getElem?_eq_none (by rw [List.length_set]; omega), List.getElem?_eq_none (by omega)]
  · rw [if_neg (fun z => e z.1), List.getElem?_set_ne (fun z => e z.symm)]
def Im (F F' : MX) : Prop := ∀ x, F = some x → F' = some x
section Ims
variable {E : Nat → List MV → MH → MX} {k k' : Nat → List (Option MV) → List MV → MH → MX}
theorem im_rf (F : MX) : Im F F := fun _ h => h
theorem im_ite {c : Prop} [Decidable c] {A B A' B' : MX} (ha : Im A A') (hb : Im B B') : Im (if c then A else B) (if c then A' else B') := by
  by_cases h : c
  · rw [if_pos h, if_pos h]; exact ha
  · rw [if_neg h, if_neg h]; exact hb
theorem im_chk {b : Bool} {A B A' B' : MX} (ha : Im A A') (hb : Im B B') : Im (chk b A B) (chk b A' B') := by
  cases b
  · exact hb
  · exact ha
theorem im_onS {o : Option Nat} {F F' : Nat → MX} (hf : ∀ i, Im (F i) (F' i)) : Im (onS o F) (onS o F') := by
  cases o
  · exact im_rf none
  · exact hf _
theorem im_a1 {l : List Nat} {F F' : Nat → MX} (hf : ∀ a, Im (F a) (F' a)) : Im (a1 l F) (a1 l F') := by
  unfold a1
  split
  · exact hf _
  · exact im_rf none
theorem im_a2 {l : List Nat} {F F' : Nat → Nat → MX} (hf : ∀ a b, Im (F a b) (F' a b)) : Im (a2 l F) (a2 l F') := by
  unfold a2
  split
  · exact hf _ _
  · exact im_rf none
theorem im_a3 {l : List Nat} {F F' : Nat → Nat → Nat → MX} (hf : ∀ a b c, Im (F a b c) (F' a b c)) : Im (a3 l F) (a3 l F') := by
  unfold a3
  split
  · exact hf _ _ _
  · exact im_rf none
theorem im_a4 {l : List Nat} {F F' : Nat → Nat → Nat → Nat → MX} (hf : ∀ a b c d, Im (F a b c d) (F' a b c d)) : Im (a4 l F) (a4 l F') := by
  unfold a4
  split
  · exact hf _ _ _ _
  · exact im_rf none
theorem im_a6 {l : List Nat} {F F' : Nat → Nat → Nat → Nat → Nat → Nat → MX} (hf : ∀ a b c d e g, Im (F a b c d e g) (F' a b c d e g)) : Im (a6 l F) (a6 l F') := by
  unfold a6
  split
  · exact hf _ _ _ _ _ _
  · exact im_rf none
theorem im_p1i {l : List MV} {F F' : Int32 → List MV → MX} (hf : ∀ a b, Im (F a b) (F' a b)) : Im (p1i l F) (p1i l F') := by
  unfold p1i
  split
  · exact hf _ _
  · exact im_rf none
theorem im_p2i {l : List MV} {F F' : Int32 → Int32 → List MV → MX} (hf : ∀ a b c, Im (F a b c) (F' a b c)) : Im (p2i l F) (p2i l F') := by
  unfold p2i
  split
  · exact hf _ _ _
  · exact im_rf none
theorem im_p1r {l : List MV} {F F' : Nat → Option Nat → List MV → MX} (hf : ∀ a b c, Im (F a b c) (F' a b c)) : Im (p1r l F) (p1r l F') := by
  unfold p1r
  split
  · exact hf _ _ _
  · exact im_rf none
theorem im_p1j {l : List MV} {F F' : Int64 → List MV → MX} (hf : ∀ a b, Im (F a b) (F' a b)) : Im (p1j l F) (p1j l F') := by
  unfold p1j
  split
  · exact hf _ _
  · exact im_rf none
theorem im_plI {a b : List (Option MV)} {i : Nat} (hl : lle a b) {F F' : Int32 → MX} (hf : ∀ a, Im (F a) (F' a)) : Im (plI (lget a i) F) (plI (lget b i) F') := by
  intro x hx
  obtain ⟨y, hy, h⟩ := plI_some hx
  rw [hl i _ hy]
  exact hf y x h
theorem im_plR {a b : List (Option MV)} {i : Nat} (hl : lle a b) {F F' : Nat → Option Nat → MX} (hf : ∀ a b, Im (F a b) (F' a b)) : Im (plR (lget a i) F) (plR (lget b i) F') := by
  intro x hx
  obtain ⟨r, o, hy, h⟩ := plR_some hx
  rw [hl i _ hy]
  exact hf r o x h
theorem im_mop {w : Nat} {x y : Int32} {F F' : Int32 → MX} (hf : ∀ a, Im (F a) (F' a)) : Im (mop w x y F) (mop w x y F') := by
  unfold mop
  split <;> exact hf _
theorem im_mun {w : Nat} {x : Int32} {F F' : Int32 → MX} (hf : ∀ a, Im (F a) (F' a)) : Im (mun w x F) (mun w x F') := by
  unfold mun
  split <;> exact hf _
theorem im_mnr {w : Nat} {x : Int32} {F F' : Int32 → MX} (hf : ∀ a, Im (F a) (F' a)) : Im (mnr w x F) (mnr w x F') := by
  unfold mnr
  split <;> exact hf _
theorem im_mrn {w : Nat} {x : Int32} {F F' : Int32 → MX} (hf : ∀ a, Im (F a) (F' a)) : Im (mrn w x F) (mrn w x F') := by
  unfold mrn
  split <;> exact hf _
theorem im_mbr {w : Nat} {x y : Int32} {A B A' B' : MX} (ha : Im A A') (hb : Im B B') : Im (mbr w x y A B) (mbr w x y A' B') := by
  unfold mbr
  split <;> first | exact im_ite ha hb | exact im_ite hb ha
theorem im_mnu {w : Nat} {o : Option Nat} {A B A' B' : MX} (ha : Im A A') (hb : Im B B') : Im (mnu w o A B) (mnu w o A' B') := by
  unfold mnu
  split <;> first | exact im_ite ha hb | exact im_ite hb ha
theorem im_msw {x : Int32} {d : Nat} {F F' : Nat → MX} (hf : ∀ a, Im (F a) (F' a)) : ∀ l : List (Int32 × Nat), Im (msw l x d F) (msw l x d F')
  | [] => hf d
  | (v, t) :: r => by
    simp only [msw]
    exact im_ite (hf t) (im_msw hf r)
theorem im_mth2 (hk : ∀ p a b s h, lle a b → Im (k p a s h) (k' p b s h)) {e : Nat} {a b : List (Option MV)} (hl : lle a b) {h : MH} : ∀ l : List (Nat × Nat), Im (mth2 l e a k h) (mth2 l e b k' h)
  | [] => im_rf none
  | q :: r => by
    simp only [mth2]
    exact im_ite (hk _ _ _ _ _ hl) (im_mth2 hk hl r)
theorem im_mth (hk : ∀ p a b s h, lle a b → Im (k p a s h) (k' p b s h)) {e : Nat} {a b : List (Option MV)} (hl : lle a b) {h : MH} (l : List (Nat × Nat)) : Im (mth l e a k h) (mth l e b k' h) := by
  cases l with
  | nil => exact im_rf _
  | cons q r => exact im_mth2 hk hl (q :: r)
theorem im_mret {X : MX} {rk rr : Nat} {st : List MV} {F F' : List MV → MH → MX} (hF : ∀ a b, Im (F a b) (F' a b)) {G G' : Nat → MH → MX} (hG : ∀ a b, Im (G a b) (G' a b)) : Im (mret X rk rr st F G) (mret X rk rr st F' G') := by
  unfold mret
  split
  · unfold mclV
    split
    · exact hF _ _
    · exact hG _ _
    · exact im_rf none
  · unfold mclI
    split
    · exact hF _ _
    · exact hG _ _
    · exact im_rf none
  · unfold mclR
    split
    · exact im_ite (hF _ _) (im_ite (hF _ _) (im_rf none))
    · exact hG _ _
    · exact im_rf none
theorem lle_set {a b : List (Option MV)} (hn : a.length = b.length) (hl : lle a b) (i : Nat) (v : MV) : lle (a.set i (some v)) (b.set i (some v)) := by
  intro j w hj
  rw [lget_set] at hj ⊢
  rw [← hn]
  by_cases e : j = i ∧ i < a.length
  · rw [if_pos e] at hj ⊢; exact hj
  · rw [if_neg e] at hj ⊢; exact hl j w hj
end Ims
/-- with the length -/
def lll (a b : List (Option MV)) : Prop := a.length = b.length ∧ lle a b
theorem lll_set {a b : List (Option MV)} (h : lll a b) (i : Nat) (v : MV) : lll (a.set i (some v)) (b.set i (some v)) := ⟨by rw [List.length_set, List.length_set]; exact h.1, lle_set h.1 h.2 i v⟩
section Ims2
variable {E : Nat → List MV → MH → MX} {k k' : Nat → List (Option MV) → List MV → MH → MX}
theorem im_mth2' (hk : ∀ p a b s h, lll a b → Im (k p a s h) (k' p b s h)) {e : Nat} {a b : List (Option MV)} (hl : lll a b) {h : MH} : ∀ l : List (Nat × Nat), Im (mth2 l e a k h) (mth2 l e b k' h)
  | [] => im_rf none
  | q :: r => by
    simp only [mth2]
    exact im_ite (hk _ _ _ _ _ hl) (im_mth2' hk hl r)
theorem im_mth' (hk : ∀ p a b s h, lll a b → Im (k p a s h) (k' p b s h)) {e : Nat} {a b : List (Option MV)} (hl : lll a b) {h : MH} (l : List (Nat × Nat)) : Im (mth l e a k h) (mth l e b k' h) := by
  cases l with
  | nil => exact im_rf _
  | cons q r => exact im_mth2' hk hl (q :: r)
set_option maxHeartbeats 8000000 in
theorem im_mbody (hk : ∀ p a b s h, lll a b → Im (k p a s h) (k' p b s h)) (P : MP) (m pc : Nat) {ls ls' : List (Option MV)} (hl : lll ls ls') (st : List MV) (h : MH) : Im (mbody P E k m pc ls st h) (mbody P E k' m pc ls' st h) := by
  have hl2 : lle ls ls' := hl.2
  unfold mbody
  cases mCode m pc with
  | none => exact im_rf none
  | some e =>
    simp only []
    unfold mexec
    split
    all_goals (repeat' first
          | with_reducible exact hk _ _ _ _ _ hl
          | with_reducible exact hk _ _ _ _ _ (lll_set hl _ _)
          | with_reducible exact im_rf _
          | with_reducible exact im_msw (fun _ => hk _ _ _ _ _ hl) _
          | with_reducible exact im_mth' hk hl _
          | (with_reducible refine im_mret (fun _ _ => hk _ _ _ _ _ hl) (fun _ _ => im_mth' hk hl _))
          | (with_reducible refine im_a1 ?_; intro _)
          | (with_reducible refine im_a2 ?_; intro _ _)
          | (with_reducible refine im_a3 ?_; intro _ _ _)
          | (with_reducible refine im_a4 ?_; intro _ _ _ _)
          | (with_reducible refine im_a6 ?_; intro _ _ _ _ _ _)
          | (with_reducible refine im_p1i ?_; intro _ _)
          | (with_reducible refine im_p2i ?_; intro _ _ _)
          | (with_reducible refine im_p1r ?_; intro _ _ _)
          | (with_reducible refine im_p1j ?_; intro _ _)
          | (with_reducible refine im_plI hl2 ?_; intro _)
          | (with_reducible refine im_plR hl2 ?_; intro _ _)
          | (with_reducible refine im_onS ?_; intro _)
          | with_reducible refine im_mbr ?_ ?_
          | with_reducible refine im_mnu ?_ ?_
          | (with_reducible refine im_mop ?_; intro _)
          | (with_reducible refine im_mun ?_; intro _)
          | (with_reducible refine im_mnr ?_; intro _)
          | (with_reducible refine im_mrn ?_; intro _)
          | with_reducible refine im_chk ?_ ?_
          | with_reducible refine im_ite ?_ ?_
          | split)
end Ims2
theorem mrun_fgt {P : MP} {E : Nat → List MV → MH → MX} {m : Nat} : ∀ (j pc : Nat) (a b : List (Option MV)) (st : List MV) (h : MH), lll a b → Im (mrun P E m j pc a st h) (mrun P E m j pc b st h)
  | 0, _, _, _, _, _, _ => im_rf none
  | j + 1, pc, a, b, st, h, hl => im_mbody (fun p a b s h hl => mrun_fgt j p a b s h hl) P m pc hl st h
theorem RL_fgt {P : MP} {d m pc : Nat} {a b : List (Option MV)} {st : List MV} {h : MH} {x : MO} (hl : lll a b) (hq : RL P d m pc a st h = some x) : RL P d m pc b st h = some x := by
  obtain ⟨n0, hn⟩ := mlim_spec hq
  exact mlim_of ⟨n0, fun n j h1 h2 => mrun_fgt j pc a b st h hl x (hn n j h1 h2)⟩
