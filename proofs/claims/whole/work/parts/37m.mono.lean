/-! ===== the mini machine's counts only grow ===== -/
def Mn (h : MH) (F : MX) : Prop := ∀ x, F = some x → h.2.2.2.2.1 ≤ x.2.2.2.2.2.1 ∧ h.2.2.2.2.2 ≤ x.2.2.2.2.2.2
theorem mn_le {h h' : MH} {F : MX} (h1 : h.2.2.2.2.1 ≤ h'.2.2.2.2.1) (h2 : h.2.2.2.2.2 ≤ h'.2.2.2.2.2) (hF : Mn h' F) : Mn h F := fun x hx => ⟨Nat.le_trans h1 (hF x hx).1, Nat.le_trans h2 (hF x hx).2⟩
section Mns
variable {h : MH}
theorem mn_none : Mn h none := fun _ hx => nomatch hx
theorem mn_ret {r : Option MV ⊕ Nat} : Mn h (some (r, h)) := fun x hx => by cases Option.some.inj hx; exact ⟨Nat.le_refl _, Nat.le_refl _⟩
theorem mn_ite {c : Prop} [Decidable c] {A B : MX} (ha : Mn h A) (hb : Mn h B) : Mn h (if c then A else B) := by
  by_cases q : c
  · rw [if_pos q]; exact ha
  · rw [if_neg q]; exact hb
theorem mn_chk {b : Bool} {A B : MX} (ha : Mn h A) (hb : Mn h B) : Mn h (chk b A B) := by
  cases b
  · exact hb
  · exact ha
theorem mn_onS {o : Option Nat} {F : Nat → MX} (hf : ∀ i, Mn h (F i)) : Mn h (onS o F) := fun x hx => by
  obtain ⟨j, -, hj⟩ := onS_some hx
  exact hf j x hj
theorem mn_a1 {l : List Nat} {F : Nat → MX} (hf : ∀ a, Mn h (F a)) : Mn h (a1 l F) := by
  unfold a1
  split
  · exact hf _
  · exact mn_none
theorem mn_a2 {l : List Nat} {F : Nat → Nat → MX} (hf : ∀ a b, Mn h (F a b)) : Mn h (a2 l F) := by
  unfold a2
  split
  · exact hf _ _
  · exact mn_none
theorem mn_a3 {l : List Nat} {F : Nat → Nat → Nat → MX} (hf : ∀ a b c, Mn h (F a b c)) : Mn h (a3 l F) := by
  unfold a3
  split
  · exact hf _ _ _
  · exact mn_none
theorem mn_a4 {l : List Nat} {F : Nat → Nat → Nat → Nat → MX} (hf : ∀ a b c d, Mn h (F a b c d)) : Mn h (a4 l F) := by
  unfold a4
  split
  · exact hf _ _ _ _
  · exact mn_none
theorem mn_a6 {l : List Nat} {F : Nat → Nat → Nat → Nat → Nat → Nat → MX} (hf : ∀ a b c d e g, Mn h (F a b c d e g)) : Mn h (a6 l F) := by
  unfold a6
  split
  · exact hf _ _ _ _ _ _
  · exact mn_none
theorem mn_p1i {st : List MV} {F : Int32 → List MV → MX} (hf : ∀ a b, Mn h (F a b)) : Mn h (p1i st F) := fun x hx => by
  obtain ⟨a, b, -, hj⟩ := p1i_some hx
  exact hf _ _ x hj
theorem mn_p2i {st : List MV} {F : Int32 → Int32 → List MV → MX} (hf : ∀ a b c, Mn h (F a b c)) : Mn h (p2i st F) := fun x hx => by
  obtain ⟨a, b, c, -, hj⟩ := p2i_some hx
  exact hf _ _ _ x hj
theorem mn_p1r {st : List MV} {F : Nat → Option Nat → List MV → MX} (hf : ∀ a b c, Mn h (F a b c)) : Mn h (p1r st F) := fun x hx => by
  obtain ⟨a, b, c, -, hj⟩ := p1r_some hx
  exact hf _ _ _ x hj
theorem mn_p1j {st : List MV} {F : Int64 → List MV → MX} (hf : ∀ a b, Mn h (F a b)) : Mn h (p1j st F) := fun x hx => by
  obtain ⟨a, b, -, hj⟩ := p1j_some hx
  exact hf _ _ x hj
theorem mn_plI {v : Option MV} {F : Int32 → MX} (hf : ∀ a, Mn h (F a)) : Mn h (plI v F) := fun x hx => by
  obtain ⟨a, -, hj⟩ := plI_some hx
  exact hf _ x hj
theorem mn_plR {v : Option MV} {F : Nat → Option Nat → MX} (hf : ∀ a b, Mn h (F a b)) : Mn h (plR v F) := fun x hx => by
  obtain ⟨a, b, -, hj⟩ := plR_some hx
  exact hf _ _ x hj
theorem mn_mop {w : Nat} {x y : Int32} {F : Int32 → MX} (hf : ∀ a, Mn h (F a)) : Mn h (mop w x y F) := fun x hx => by
  obtain ⟨a, hj⟩ := mop_ex hx
  exact hf _ x hj
theorem mn_mun {w : Nat} {x : Int32} {F : Int32 → MX} (hf : ∀ a, Mn h (F a)) : Mn h (mun w x F) := fun x hx => by
  obtain ⟨a, hj⟩ := mun_ex hx
  exact hf _ x hj
theorem mn_mnr {w : Nat} {x : Int32} {F : Int32 → MX} (hf : ∀ a, Mn h (F a)) : Mn h (mnr w x F) := fun x hx => by
  obtain ⟨a, hj⟩ := mnr_ex hx
  exact hf _ x hj
theorem mn_mrn {w : Nat} {x : Int32} {F : Int32 → MX} (hf : ∀ a, Mn h (F a)) : Mn h (mrn w x F) := by
  unfold mrn
  split <;> exact hf _
theorem mn_mbr {w : Nat} {x y : Int32} {A B : MX} (ha : Mn h A) (hb : Mn h B) : Mn h (mbr w x y A B) := fun x hx => (mbr_or hx).elim (ha x) (hb x)
theorem mn_mnu {w : Nat} {o : Option Nat} {A B : MX} (ha : Mn h A) (hb : Mn h B) : Mn h (mnu w o A B) := fun x hx => (mnu_or hx).elim (ha x) (hb x)
theorem mn_msw {l : List (Int32 × Nat)} {x : Int32} {d : Nat} {F : Nat → MX} (hf : ∀ a, Mn h (F a)) : Mn h (msw l x d F) := fun x hx => by
  obtain ⟨a, hj⟩ := msw_ex _ hx
  exact hf _ x hj
variable {E : Nat → List MV → MH → MX} {k : Nat → List (Option MV) → List MV → MH → MX}
theorem mn_mth2 (hk : ∀ a b c d, Mn d (k a b c d)) {e : Nat} {ls : List (Option MV)} : ∀ l : List (Nat × Nat), Mn h (mth2 l e ls k h)
  | [] => mn_none
  | q :: r => by
    simp only [mth2]
    exact mn_ite (mn_le (Nat.le_refl _) (Nat.le_refl _) (hk _ _ _ _)) (mn_mth2 hk r)
theorem mn_mth (hk : ∀ a b c d, Mn d (k a b c d)) {e : Nat} {ls : List (Option MV)} (l : List (Nat × Nat)) : Mn h (mth l e ls k h) := by
  cases l with
  | nil => exact mn_ret
  | cons q r => exact mn_mth2 hk (q :: r)
theorem mn_mret {X : MX} (hX : Mn h X) {rk rr : Nat} {st : List MV} {F : List MV → MH → MX} (hF : ∀ a b, Mn b (F a b)) {G : Nat → MH → MX} (hG : ∀ a b, Mn b (G a b)) : Mn h (mret X rk rr st F G) := fun x hx => by
  obtain ⟨y, hy, hc⟩ := mret_some hx
  have h1 := hX y hy
  rcases hc with ⟨r, -, vs, -, -, hK⟩ | ⟨n, -, hK⟩
  · have h2 := hF _ _ x hK
    exact ⟨Nat.le_trans h1.1 h2.1, Nat.le_trans h1.2 h2.2⟩
  · have h2 := hG _ _ x hK
    exact ⟨Nat.le_trans h1.1 h2.1, Nat.le_trans h1.2 h2.2⟩
set_option maxHeartbeats 4000000 in
theorem mn_mbody (hE : ∀ a b c, Mn c (E a b c)) (hk : ∀ a b c d, Mn d (k a b c d)) (P : MP) (m pc : Nat) (ls : List (Option MV)) (st : List MV) : Mn h (mbody P E k m pc ls st h) := by
  unfold mbody
  cases mCode m pc with
  | none => exact mn_none
  | some e =>
    simp only []
    unfold mexec
    split
    all_goals (repeat' first
          | with_reducible exact hk _ _ _ _
          | with_reducible exact mn_none
          | with_reducible exact mn_ret
          | with_reducible exact mn_mth hk _
          | (with_reducible refine mn_mret (hE _ _ _) (fun _ _ => hk _ _ _ _) (fun _ _ => mn_mth hk _))
          | (with_reducible refine mn_a1 ?_; intro _)
          | (with_reducible refine mn_a2 ?_; intro _ _)
          | (with_reducible refine mn_a3 ?_; intro _ _ _)
          | (with_reducible refine mn_a4 ?_; intro _ _ _ _)
          | (with_reducible refine mn_a6 ?_; intro _ _ _ _ _ _)
          | (with_reducible refine mn_p1i ?_; intro _ _)
          | (with_reducible refine mn_p2i ?_; intro _ _ _)
          | (with_reducible refine mn_p1r ?_; intro _ _ _)
          | (with_reducible refine mn_p1j ?_; intro _ _)
          | (with_reducible refine mn_plI ?_; intro _)
          | (with_reducible refine mn_plR ?_; intro _ _)
          | (with_reducible refine mn_onS ?_; intro _)
          | (with_reducible refine mn_msw ?_; intro _)
          | with_reducible refine mn_mbr ?_ ?_
          | with_reducible refine mn_mnu ?_ ?_
          | (with_reducible refine mn_mop ?_; intro _)
          | (with_reducible refine mn_mun ?_; intro _)
          | (with_reducible refine mn_mnr ?_; intro _)
          | (with_reducible refine mn_mrn ?_; intro _)
          | with_reducible refine mn_chk ?_ ?_
          | with_reducible refine mn_ite ?_ ?_
          | exact mn_le (Nat.le_refl _) (Nat.le_refl _) (hk _ _ _ _)
          | exact mn_le (Nat.le_succ _) (Nat.le_add_right _ _) (hk _ _ _ _)
          | exact mn_le (Nat.le_succ _) (Nat.le_add_right _ _) (mn_mth hk _)
          | split)
end Mns
theorem mn_mrun {P : MP} {E : Nat → List MV → MH → MX} (hE : ∀ a b c, Mn c (E a b c)) {m : Nat} : ∀ (j pc : Nat) (ls : List (Option MV)) (st : List MV) (h : MH), Mn h (mrun P E m j pc ls st h)
  | 0, _, _, _, _ => mn_none
  | j + 1, pc, ls, st, h => mn_mbody hE (fun a b c d => mn_mrun hE j a b c d) P m pc ls st
theorem mn_mev {P : MP} : ∀ (d n m : Nat) (as : List MV) (h : MH), Mn h (mev P d n m as h)
  | 0, _, _, _, _ => mn_none
  | d + 1, n, m, as, h => mn_mrun (fun a b c => mn_mev d n a b c) n 0 _ _ h
