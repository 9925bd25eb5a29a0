/-! ===== closure of 'whatever comes, has Pr' ===== -/
section Als
variable {Pr : MH → Prop}
theorem al_none : Al Pr none := fun _ hx => nomatch hx
theorem al_ite {c : Prop} [Decidable c] {A B : MX} (ha : Al Pr A) (hb : Al Pr B) : Al Pr (if c then A else B) := by
  by_cases q : c
  · rw [if_pos q]; exact ha
  · rw [if_neg q]; exact hb
theorem al_chk {b : Bool} {A B : MX} (ha : Al Pr A) (hb : Al Pr B) : Al Pr (chk b A B) := by
  cases b
  · exact hb
  · exact ha
theorem al_onS {o : Option Nat} {F : Nat → MX} (hf : ∀ i, Al Pr (F i)) : Al Pr (onS o F) := fun x hx => by
  obtain ⟨j, -, hj⟩ := onS_some hx
  exact hf j x hj
theorem al_a1 {l : List Nat} {F : Nat → MX} (hf : ∀ a, Al Pr (F a)) : Al Pr (a1 l F) := by
  unfold a1
  split
  · exact hf _
  · exact al_none
theorem al_a2 {l : List Nat} {F : Nat → Nat → MX} (hf : ∀ a b, Al Pr (F a b)) : Al Pr (a2 l F) := by
  unfold a2
  split
  · exact hf _ _
  · exact al_none
theorem al_a3 {l : List Nat} {F : Nat → Nat → Nat → MX} (hf : ∀ a b c, Al Pr (F a b c)) : Al Pr (a3 l F) := by
  unfold a3
  split
  · exact hf _ _ _
  · exact al_none
theorem al_a4 {l : List Nat} {F : Nat → Nat → Nat → Nat → MX} (hf : ∀ a b c d, Al Pr (F a b c d)) : Al Pr (a4 l F) := by
  unfold a4
  split
  · exact hf _ _ _ _
  · exact al_none
theorem al_a6 {l : List Nat} {F : Nat → Nat → Nat → Nat → Nat → Nat → MX} (hf : ∀ a b c d e g, Al Pr (F a b c d e g)) : Al Pr (a6 l F) := by
  unfold a6
  split
  · exact hf _ _ _ _ _ _
  · exact al_none
theorem al_p1i {st : List MV} {F : Int32 → List MV → MX} (hf : ∀ a b, Al Pr (F a b)) : Al Pr (p1i st F) := fun x hx => by
  obtain ⟨a, b, -, hj⟩ := p1i_some hx
  exact hf _ _ x hj
theorem al_p2i {st : List MV} {F : Int32 → Int32 → List MV → MX} (hf : ∀ a b c, Al Pr (F a b c)) : Al Pr (p2i st F) := fun x hx => by
  obtain ⟨a, b, c, -, hj⟩ := p2i_some hx
  exact hf _ _ _ x hj
theorem al_p1r {st : List MV} {F : Nat → Option Nat → List MV → MX} (hf : ∀ a b c, Al Pr (F a b c)) : Al Pr (p1r st F) := fun x hx => by
  obtain ⟨a, b, c, -, hj⟩ := p1r_some hx
  exact hf _ _ _ x hj
theorem al_p1j {st : List MV} {F : Int64 → List MV → MX} (hf : ∀ a b, Al Pr (F a b)) : Al Pr (p1j st F) := fun x hx => by
  obtain ⟨a, b, -, hj⟩ := p1j_some hx
  exact hf _ _ x hj
theorem al_plI {v : Option MV} {F : Int32 → MX} (hf : ∀ a, Al Pr (F a)) : Al Pr (plI v F) := fun x hx => by
  obtain ⟨a, -, hj⟩ := plI_some hx
  exact hf _ x hj
theorem al_plR {v : Option MV} {F : Nat → Option Nat → MX} (hf : ∀ a b, Al Pr (F a b)) : Al Pr (plR v F) := fun x hx => by
  obtain ⟨a, b, -, hj⟩ := plR_some hx
  exact hf _ _ x hj
theorem al_mop {w : Nat} {x y : Int32} {F : Int32 → MX} (hf : ∀ a, Al Pr (F a)) : Al Pr (mop w x y F) := fun x hx => by
  obtain ⟨a, hj⟩ := mop_ex hx
  exact hf _ x hj
theorem al_mun {w : Nat} {x : Int32} {F : Int32 → MX} (hf : ∀ a, Al Pr (F a)) : Al Pr (mun w x F) := fun x hx => by
  obtain ⟨a, hj⟩ := mun_ex hx
  exact hf _ x hj
theorem al_mnr {w : Nat} {x : Int32} {F : Int32 → MX} (hf : ∀ a, Al Pr (F a)) : Al Pr (mnr w x F) := fun x hx => by
  obtain ⟨a, hj⟩ := mnr_ex hx
  exact hf _ x hj
theorem al_mrn {w : Nat} {x : Int32} {F : Int32 → MX} (hf : ∀ a, Al Pr (F a)) : Al Pr (mrn w x F) := by
  unfold mrn
  split <;> exact hf _
theorem al_mbr {w : Nat} {x y : Int32} {A B : MX} (ha : Al Pr A) (hb : Al Pr B) : Al Pr (mbr w x y A B) := fun x hx => (mbr_or hx).elim (ha x) (hb x)
theorem al_mnu {w : Nat} {o : Option Nat} {A B : MX} (ha : Al Pr A) (hb : Al Pr B) : Al Pr (mnu w o A B) := fun x hx => (mnu_or hx).elim (ha x) (hb x)
theorem al_msw {l : List (Int32 × Nat)} {x : Int32} {d : Nat} {F : Nat → MX} (hf : ∀ a, Al Pr (F a)) : Al Pr (msw l x d F) := fun x hx => by
  obtain ⟨a, hj⟩ := msw_ex _ hx
  exact hf _ x hj
end Als
section Efs
variable {mask : Nat} {h : MH} {E : Nat → List MV → MH → MX} {k : Nat → List (Option MV) → List MV → MH → MX}
theorem ef_mth2 (hb : mask.testBit 127 = true) (hk : ∀ a b c d, Ef mask d (k a b c d)) {e : Nat} {ls : List (Option MV)} : ∀ l : List (Nat × Nat), Ef mask h (mth2 l e ls k h)
  | [] => al_none
  | q :: r => by
    simp only [mth2]
    have hfm : Fm mask h (h.1, h.2.1, h.2.2.1, m1 h.2.2.2.1 0 (h.2.2.2.1 0 + 1), h.2.2.2.2) := by
      refine ⟨fun _ _ _ _ _ => ⟨rfl, rfl, rfl⟩, fun r => m1_le h.2.2.2.1 0 r, fun r hr => ?_, fun _ => rfl⟩
      show m1 h.2.2.2.1 0 (h.2.2.2.1 0 + 1) r = _
      unfold m1
      rw [if_neg]
      rintro rfl
      rw [show 0 * 128 + 127 = 127 from rfl, hb] at hr
      cases hr
    exact al_ite (ef_le hfm (hk _ _ _ _)) (ef_mth2 hb hk r)
theorem ef_mth {m pc : Nat} (hb : ((mHand m pc).isEmpty || mask.testBit 127) = true) (hk : ∀ a b c d, Ef mask d (k a b c d)) {e : Nat} {ls : List (Option MV)} : Ef mask h (mth (mHand m pc) e ls k h) := by
  cases hc : mHand m pc with
  | nil => exact fun x hx => by cases Option.some.inj hx; exact fm_rf _ _
  | cons q r =>
    rw [hc] at hb
    exact ef_mth2 hb hk (q :: r)
theorem ef_mret {X : MX} (hX : Ef mask h X) {rk rr : Nat} {st : List MV} {F : List MV → MH → MX} (hF : ∀ a b, Ef mask b (F a b)) {G : Nat → MH → MX} (hG : ∀ a b, Ef mask b (G a b)) : Ef mask h (mret X rk rr st F G) := fun x hx => by
  obtain ⟨y, hy, hc⟩ := mret_some hx
  have h1 := hX y hy
  rcases hc with ⟨r, -, vs, -, -, hK⟩ | ⟨n, -, hK⟩
  · exact fm_tr h1 (hF _ _ x hK)
  · exact fm_tr h1 (hG _ _ x hK)
theorem obj_reg : ∀ r, r < rNo → rCls r < 13 → r = rCls r + 10 := by decide +kernel
theorem ef_put {r ci f : Nat} (hb : Nat.beq (rCls r) ci = true) (hc : Nat.blt ci 13 = true) (ht : mask.testBit ((ci + 10) * 128 + f) = true) : mask.testBit (lid r f) = true := by
  have e1 := Nat.eq_of_beq_eq_true hb
  have e2 : ci + 1 ≤ 13 := Nat.le_of_ble_eq_true hc
  have hr := rg_lt (r := r) (Or.inl (by omega))
  have e3 := obj_reg r hr (by omega)
  have e4 := (rg_obj r hr (by omega)).2.1
  rw [lid_obj e4, e3, e1]
  exact ht
section Ops
variable {P : MP} {m pc : Nat} {ls : List (Option MV)} {st : List MV} {as : List Nat} {c : Int32}
theorem ef_22 (hk : ∀ a b c d, Ef mask d (k a b c d)) (hw : wck mask m pc (22, as, c) = true) : Ef mask h (mexec P E k m pc ls st h 22 as c) := by
  match as, hw with
  | [n, ci, f, z], hw =>
    have hw2 : (Nat.blt ci 13 && mask.testBit ((ci + 10) * 128 + f)) = true := hw
    rw [Bool.and_eq_true] at hw2
    show Ef mask h (p1i st fun x s => p1r s fun r o s => onS o fun j => chk (Nat.beq (rCls r) ci) (match (generalizing := false) z with | 0 => k n ls s (m3 h.1 r j f x, h.2) | _ => if x &&& 1 = x then k n ls s (m3 h.1 r j f x, h.2) else none) none)
    refine al_p1i fun x s => al_p1r fun r o s => al_onS fun j => ?_
    intro y hy
    obtain ⟨hb, hy2⟩ := chk_t hy
    have hbit := ef_put hb hw2.1 hw2.2
    have hres : Ef mask h (match (generalizing := false) z with | 0 => k n ls s (m3 h.1 r j f x, h.2) | _ => if x &&& 1 = x then k n ls s (m3 h.1 r j f x, h.2) else none) := by
      split
      · exact ef_le (fm_I hbit) (hk _ _ _ _)
      · exact al_ite (ef_le (fm_I hbit) (hk _ _ _ _)) al_none
    exact hres y hy2
theorem ef_23 (hk : ∀ a b c d, Ef mask d (k a b c d)) (hw : wck mask m pc (23, as, c) = true) : Ef mask h (mexec P E k m pc ls st h 23 as c) := by
  match as, hw with
  | [n, ci, f], hw =>
    have hw2 : (Nat.blt ci 13 && mask.testBit ((ci + 10) * 128 + f)) = true := hw
    rw [Bool.and_eq_true] at hw2
    show Ef mask h (p1r st fun r' o' s => p1r s fun r o s => onS o fun j => chk (Nat.beq (rCls r) ci) (match P.1 r f with | some _ => none | none => chk (Nat.beq r' (rTgt r f)) (k n ls s (h.1, m3 h.2.1 r j f o', h.2.2)) (chk o'.isNone (k n ls s (h.1, m3 h.2.1 r j f none, h.2.2)) none)) none)
    refine al_p1r fun r' o' s => al_p1r fun r o s => al_onS fun j => ?_
    intro y hy
    obtain ⟨hb, hy2⟩ := chk_t hy
    have hbit := ef_put hb hw2.1 hw2.2
    have hres : Ef mask h (match (generalizing := false) P.1 r f with | some _ => none | none => chk (Nat.beq r' (rTgt r f)) (k n ls s (h.1, m3 h.2.1 r j f o', h.2.2)) (chk o'.isNone (k n ls s (h.1, m3 h.2.1 r j f none, h.2.2)) none)) := by
      split
      · exact al_none
      · exact al_chk (ef_le (fm_R hbit) (hk _ _ _ _)) (al_chk (ef_le (fm_R hbit) (hk _ _ _ _)) al_none)
    exact hres y hy2
theorem ef_26 (hk : ∀ a b c d, Ef mask d (k a b c d)) (hw : wck mask m pc (26, as, c) = true) : Ef mask h (mexec P E k m pc ls st h 26 as c) := by
  match as, hw with
  | [n, t, r0], hw =>
    have hw2 : (!Nat.beq t 0 && mask.testBit (r0 * 128)) = true := hw
    rw [Bool.and_eq_true] at hw2
    show Ef mask h (p1i st fun x s => p1i s fun i s => p1r s fun r o s => onS o fun j => chk (Nat.beq (rTag r) t) (chk (Nat.blt r 10 || !Nat.beq r r0) none (if ino i (rLen P r j) then none else mnr t x fun v => k n ls s (m3 h.1 r j i.toNatClampNeg v, h.2))) none)
    refine al_p1i fun x s => al_p1i fun i s => al_p1r fun r o s => al_onS fun j => ?_
    intro y hy0
    obtain ⟨hb0, hy⟩ := chk_t hy0
    obtain ⟨hb, hy2⟩ := chk_f hy
    rw [Bool.or_eq_false_iff] at hb
    have hr : r = r0 := Nat.eq_of_beq_eq_true (by simpa using hb.2)
    subst hr
    refine (al_ite al_none (al_mnr fun v => ef_le (fm_I ?_) (hk _ _ _ _))) y hy2
    have ht : rTag r ≠ 0 := by
      rw [Nat.eq_of_beq_eq_true hb0]
      rintro rfl
      exact absurd hw2.1 (by decide)
    rw [lid_arr ht]
    exact hw2.2
theorem ef_30 (hk : ∀ a b c d, Ef mask d (k a b c d)) (hw : wck mask m pc (30, as, c) = true) : Ef mask h (mexec P E k m pc ls st h 30 as c) := by
  match as, hw with
  | [n, r0], hw =>
    have hw2 : mask.testBit (r0 * 128) = true := hw
    show Ef mask h (p1j st fun x s => p1i s fun i s => p1r s fun r o s => onS o fun j => chk (Nat.beq (rTag r) 4 && Nat.beq r r0) (if ino i (rLen P r j) then none else k n ls s (h.1, h.2.1, m3 h.2.2.1 r j i.toNatClampNeg x, h.2.2.2)) none)
    refine al_p1j fun x s => al_p1i fun i s => al_p1r fun r o s => al_onS fun j => ?_
    intro y hy
    obtain ⟨hb, hy2⟩ := chk_t hy
    rw [Bool.and_eq_true] at hb
    have hr := Nat.eq_of_beq_eq_true hb.2
    have ht := Nat.eq_of_beq_eq_true hb.1
    subst hr
    exact (al_ite al_none (ef_le (fm_J (by rw [lid_arr (by omega)]; exact hw2)) (hk _ _ _ _))) y hy2
theorem ef_45 (hk : ∀ a b c d, Ef mask d (k a b c d)) (hw : wck mask m pc (45, as, c) = true) : Ef mask h (mexec P E k m pc ls st h 45 as c) := by
  match as, hw with
  | [n, r0], hw =>
    have hw2 : mask.testBit (r0 * 128) = true := hw
    show Ef mask h (p1i st fun len s => p1i s fun dp s => p1r s fun r' o' s => p1i s fun sp s => p1r s fun r o s => onS o fun j => onS o' fun j' =>
      chk (Nat.beq (rTag r) 1 && Nat.ble (mcat s) 8) (chk (Nat.beq (rTag r') 1 && Nat.beq r' r0) (chk (Nat.blt r' 10 || Nat.blt r 10) none (if len < 0 then none else if sp < 0 then none else if dp < 0 then none else if rLen P r j < sp.toNatClampNeg + len.toNatClampNeg then none else if rLen P r' j' < dp.toNatClampNeg + len.toNatClampNeg then none else
        k n ls s (mcp h.1 r' j' (rdI P h.1 r j) sp.toNatClampNeg dp.toNatClampNeg len.toNatClampNeg, h.2))) none) none)
    refine al_p1i fun x s => al_p1i fun i s => al_p1r fun r' o' s => al_p1i fun sp s => al_p1r fun r o s => al_onS fun j => al_onS fun j' => al_chk ?_ al_none
    intro y hy
    obtain ⟨hb, hy2⟩ := chk_t hy
    rw [Bool.and_eq_true] at hb
    have hr := Nat.eq_of_beq_eq_true hb.2
    have ht := Nat.eq_of_beq_eq_true hb.1
    subst hr
    exact (al_chk al_none (al_ite al_none (al_ite al_none (al_ite al_none (al_ite al_none (al_ite al_none (ef_le (fm_cp (by omega) hw2) (hk _ _ _ _)))))))) y hy2
theorem ef_31 (hk : ∀ a b c d, Ef mask d (k a b c d)) (hw : wck mask m pc (31, as, c) = true) : Ef mask h (mexec P E k m pc ls st h 31 as c) := by
  match as, hw with
  | [n, r], hw =>
    have hw2 : (mask.testBit (r * 128 + 127) && mask.testBit 5 && Nat.blt 9 r) = true := hw
    rw [Bool.and_eq_true, Bool.and_eq_true] at hw2
    show Ef mask h (match P.1 r 1000 with | some _ => none | none => k n ls (rv r (some (h.2.2.2.1 r)) :: st) (mnew h r (regL r)))
    split
    · exact al_none
    · exact ef_le (fm_new hw2.1.1 hw2.1.2) (hk _ _ _ _)
theorem ef_32 (hk : ∀ a b c d, Ef mask d (k a b c d)) (hw : wck mask m pc (32, as, c) = true) : Ef mask h (mexec P E k m pc ls st h 32 as c) := by
  match as, hw with
  | [n, r], hw =>
    have hw2 : (mask.testBit (r * 128 + 127) && mask.testBit 5 && Nat.blt 9 r) = true := hw
    rw [Bool.and_eq_true, Bool.and_eq_true] at hw2
    show Ef mask h (p1i st fun x s => chk (x == Int32.ofNat (regL r)) (match P.1 r 1000 with | some _ => none | none => k n ls (rv r (some (h.2.2.2.1 r)) :: s) (mnew h r (regL r))) none)
    refine al_p1i fun x s => al_chk ?_ al_none
    split
    · exact al_none
    · exact ef_le (fm_new hw2.1.1 hw2.1.2) (hk _ _ _ _)
theorem ef_33 (hk : ∀ a b c d, Ef mask d (k a b c d)) (hw : wck mask m pc (33, as, c) = true) : Ef mask h (mexec P E k m pc ls st h 33 as c) := by
  match as, hw with
  | [n, r], hw =>
    have hw2 : (mask.testBit (r * 128 + 127) && mask.testBit 5 && Nat.blt 9 r) = true := hw
    rw [Bool.and_eq_true, Bool.and_eq_true] at hw2
    show Ef mask h (p1i st fun x s => chk (x == Int32.ofNat (regL r)) (match P.1 r 1000 with | some _ => none | none => k n ls (rv r (some (h.2.2.2.1 r)) :: s) (mnew h r (regL r))) none)
    refine al_p1i fun x s => al_chk ?_ al_none
    split
    · exact al_none
    · exact ef_le (fm_new hw2.1.1 hw2.1.2) (hk _ _ _ _)
theorem ef_28 (hP5 : ∀ r, rTag r = 5 → (P.1 r 0).isSome = true) : Ef mask h (mexec P E k m pc ls st h 28 as c) := by
  show Ef mask h (a1 as fun n => p1r st fun r' o' s => p1i s fun i s => p1r s fun r o s => onS o fun j => onS o' fun j' => chk (Nat.beq (rTag r) 5) (match P.1 r 0 with | some _ => none | none => chk (Nat.beq r' (rTgt r 0)) (if ino i (rLen P r j) then none else k n ls s (h.1, m3 h.2.1 r j i.toNatClampNeg (some j'), h.2.2)) none) none)
  refine al_a1 fun n => al_p1r fun r' o' s => al_p1i fun i s => al_p1r fun r o s => al_onS fun j => al_onS fun j' => ?_
  intro y hy
  obtain ⟨hb, hy2⟩ := chk_t hy
  have h1 := hP5 r (Nat.eq_of_beq_eq_true hb)
  obtain ⟨g, hg⟩ := Option.isSome_iff_exists.mp h1
  rw [hg] at hy2
  cases hy2
theorem ef_37 (hE : ∀ m' as h', m' < mNo → (mEff m' &&& mask == mEff m') = true → Ef mask h' (E m' as h')) (hk : ∀ a b c d, Ef mask d (k a b c d)) (hw : wck mask m pc (37, as, c) = true) : Ef mask h (mexec P E k m pc ls st h 37 as c) := by
  match as, hw with
  | [n, kd, m', na, rk, rr], hw =>
    have hw2 : (Nat.blt m' mNo && (mEff m' &&& mask == mEff m') && ((mHand m pc).isEmpty || mask.testBit 127)) = true := hw
    rw [Bool.and_eq_true, Bool.and_eq_true] at hw2
    have hm' : m' < mNo := Nat.le_of_ble_eq_true hw2.1.1
    have hcall : ∀ as', Ef mask h (mret (E m' as' h) rk rr (st.drop na) (k n ls) (fun e h => mth (mHand m pc) e ls k h)) := fun as' => ef_mret (hE m' as' h hm' hw2.1.2) (fun _ _ => hk _ _ _ _) (fun _ _ => ef_mth hw2.2 hk)
    show Ef mask h (chk (Nat.ble (mcat (st.drop na)) 8 && (st.take na).all notJ && Nat.ble na st.length) (match (generalizing := false) kd with
      | 0 => mret (E m' (st.take na).reverse h) rk rr (st.drop na) (k n ls) (fun e h => mth (mHand m pc) e ls k h)
      | _ => (match (st.take na).reverse with
        | .inr (.inl q) :: as' => onS q.2 fun j => chk (Nat.beq (rCls q.1) (kd - 1)) (mret (E m' (rv q.1 (some j) :: as') h) rk rr (st.drop na) (k n ls) (fun e h => mth (mHand m pc) e ls k h)) none
        | _ => none)) none)
    refine al_chk ?_ al_none
    split
    · exact hcall _
    · split
      · exact al_onS fun j => al_chk (hcall _) al_none
      · exact al_none
theorem ef_46 (hk : ∀ a b c d, Ef mask d (k a b c d)) (hw : wck mask m pc (46, as, c) = true) : Ef mask h (mexec P E k m pc ls st h 46 as c) := by
  have hw2 : (mask.testBit 5 && ((mHand m pc).isEmpty || mask.testBit 127)) = true := by
    match as, hw with
    | [], hw => exact hw
    | [_], hw => exact hw
    | [_, _], hw => exact hw
    | [_, _, _], hw => exact hw
    | [_, _, _, _], hw => exact hw
    | [_, _, _, _, _], hw => exact hw
    | [_, _, _, _, _, _], hw => exact hw
    | _ :: _ :: _ :: _ :: _ :: _ :: _ :: _, hw => exact hw
  rw [Bool.and_eq_true] at hw2
  show Ef mask h (a1 as fun e => chk (Nat.ble (mcat st) 8) (mth (mHand m pc) e ls k (h.1, h.2.1, h.2.2.1, h.2.2.2.1, h.2.2.2.2.1 + 1, h.2.2.2.2.2 + 6)) none)
  refine al_a1 fun e => al_chk (ef_le (h' := (h.1, h.2.1, h.2.2.1, h.2.2.2.1, h.2.2.2.2.1 + 1, h.2.2.2.2.2 + 6)) ⟨fun _ _ _ _ _ => ⟨rfl, rfl, rfl⟩, fun _ => Nat.le_refl _, fun _ _ => rfl, fun z => ?_⟩ (ef_mth hw2.2 hk)) al_none
  rw [hw2.1] at z
  cases z
end Ops
set_option maxHeartbeats 8000000 in
theorem ef_rest {P : MP} {m pc : Nat} {ls : List (Option MV)} {st : List MV} {as : List Nat} {c : Int32} {op : Nat} (hk : ∀ a b c d, Ef mask d (k a b c d)) (h1 : op ≠ 22 ∧ op ≠ 23 ∧ op ≠ 26 ∧ op ≠ 28 ∧ op ≠ 30 ∧ op ≠ 45 ∧ op ≠ 31 ∧ op ≠ 32 ∧ op ≠ 33 ∧ op ≠ 37 ∧ op ≠ 46) : Ef mask h (mexec P E k m pc ls st h op as c) := by
  have hret : ∀ r : Option MV ⊕ Nat, Ef mask h (some (r, h)) := fun r x hx => by cases Option.some.inj hx; exact fm_rf _ _
  unfold mexec
  split
  all_goals first
    | (exfalso; obtain ⟨a1, a2, a3, a4, a5, a6, a7, a8, a9, a10, a11⟩ := h1; first | exact a1 rfl | exact a2 rfl | exact a3 rfl | exact a4 rfl | exact a5 rfl | exact a6 rfl | exact a7 rfl | exact a8 rfl | exact a9 rfl | exact a10 rfl | exact a11 rfl)
    | (repeat' first
          | with_reducible exact hk _ _ _ _
          | with_reducible exact al_none
          | with_reducible exact hret _
          | (with_reducible refine al_a1 ?_; intro _)
          | (with_reducible refine al_a2 ?_; intro _ _)
          | (with_reducible refine al_a3 ?_; intro _ _ _)
          | (with_reducible refine al_p1i ?_; intro _ _)
          | (with_reducible refine al_p2i ?_; intro _ _ _)
          | (with_reducible refine al_p1r ?_; intro _ _ _)
          | (with_reducible refine al_p1j ?_; intro _ _)
          | (with_reducible refine al_plI ?_; intro _)
          | (with_reducible refine al_plR ?_; intro _ _)
          | (with_reducible refine al_onS ?_; intro _)
          | (with_reducible refine al_msw ?_; intro _)
          | with_reducible refine al_mbr ?_ ?_
          | with_reducible refine al_mnu ?_ ?_
          | (with_reducible refine al_mop ?_; intro _)
          | (with_reducible refine al_mun ?_; intro _)
          | (with_reducible refine al_mrn ?_; intro _)
          | with_reducible refine al_chk ?_ ?_
          | with_reducible refine al_ite ?_ ?_
          | split)
theorem ef_mbody {P : MP} (hP5 : ∀ r, rTag r = 5 → (P.1 r 0).isSome = true) {m pc : Nat} (hw : ∀ e, mCode m pc = some e → wck mask m pc e = true) (hE : ∀ m' as h', m' < mNo → (mEff m' &&& mask == mEff m') = true → Ef mask h' (E m' as h')) (hk : ∀ a b c d, Ef mask d (k a b c d)) (ls : List (Option MV)) (st : List MV) : Ef mask h (mbody P E k m pc ls st h) := by
  unfold mbody
  cases hcd : mCode m pc with
  | none => exact al_none
  | some e =>
    have hwe := hw e hcd
    obtain ⟨op, as, c⟩ := e
    simp only []
    by_cases b1 : op = 22
    · subst b1; exact ef_22 hk hwe
    by_cases b2 : op = 23
    · subst b2; exact ef_23 hk hwe
    by_cases b3 : op = 26
    · subst b3; exact ef_26 hk hwe
    by_cases b4 : op = 28
    · subst b4; exact ef_28 hP5
    by_cases b5 : op = 30
    · subst b5; exact ef_30 hk hwe
    by_cases b6 : op = 45
    · subst b6; exact ef_45 hk hwe
    by_cases b7 : op = 31
    · subst b7; exact ef_31 hk hwe
    by_cases b8 : op = 32
    · subst b8; exact ef_32 hk hwe
    by_cases b9 : op = 33
    · subst b9; exact ef_33 hk hwe
    by_cases b10 : op = 37
    · subst b10; exact ef_37 hE hk hwe
    by_cases b11 : op = 46
    · subst b11; exact ef_46 hk hwe
    exact ef_rest hk ⟨b1, b2, b3, b4, b5, b6, b7, b8, b9, b10, b11⟩
end Efs
theorem sr5T : ∀ (L : Nat) (xs : Nat → Int32) (r : Nat), rTag r = 5 → ((mP L xs).1 r 0).isSome = true := fun L xs r hr => sr5 r (rg_lt (Or.inr (by omega))) hr
theorem ef_mrun {L : Nat} {xs : Nat → Int32} {E : Nat → List MV → MH → MX} {m : Nat} (hm : m < mNo) (hE : ∀ m' as h', m' < mNo → (mEff m' &&& mEff m == mEff m') = true → Ef (mEff m) h' (E m' as h')) : ∀ (j pc : Nat) (ls : List (Option MV)) (st : List MV) (h : MH), Ef (mEff m) h (mrun (mP L xs) E m j pc ls st h)
  | 0, _, _, _, _ => al_none
  | j + 1, pc, ls, st, h => ef_mbody (sr5T L xs) (fun e hc => wck_at hm hc) hE (fun a b c d => ef_mrun hm hE j a b c d) ls st
theorem ef_mev {L : Nat} {xs : Nat → Int32} : ∀ (d n m : Nat) (as : List MV) (h : MH), m < mNo → Ef (mEff m) h (mev (mP L xs) d n m as h)
  | 0, _, _, _, _, _ => al_none
  | d + 1, n, m, as, h, hm => ef_mrun hm (fun m' as' h' hm' hs x hx => fm_sub hs (ef_mev d n m' as' h' hm' x hx)) n 0 _ _ h
theorem EL_fm {L : Nat} {xs : Nat → Int32} {d m : Nat} {as : List MV} {h : MH} {x : MO} (hm : m < mNo) (hq : EL (mP L xs) d m as h = some x) : Fm (mEff m) h x.2 := by
  obtain ⟨n, hn⟩ := EL_mev hq
  exact ef_mev d n m as h hm x hn
/-! ===== more depth does no harm ===== -/
theorem mrun_monoE {P : MP} {E E' : Nat → List MV → MH → MX} (hE : ∀ a b c y, E a b c = some y → E' a b c = some y) {m : Nat} : ∀ (j pc : Nat) (ls : List (Option MV)) (st : List MV) (h : MH) (x : MO), mrun P E m j pc ls st h = some x → mrun P E' m j pc ls st h = some x
  | 0, _, _, _, _, _, hq => nomatch hq
  | j + 1, pc, ls, st, h, x, hq => by
    obtain ⟨a, ha⟩ := lim_mbody (E := E) (En := fun _ _ => E') (k := mrun P E m j) (kn := fun _ _ => mrun P E' m j) (fun a b c y hy => ⟨0, fun _ _ _ _ => hE a b c y hy⟩) (fun a b c d y hy => ⟨0, fun _ _ _ _ => mrun_monoE hE j a b c d y hy⟩) P m pc ls st h x hq
    exact ha a a (Nat.le_refl a) (Nat.le_refl a)
theorem mev_mono {P : MP} : ∀ (d n m : Nat) (as : List MV) (h : MH) (x : MO), mev P d n m as h = some x → mev P (d + 1) n m as h = some x
  | 0, _, _, _, _, _, hq => nomatch hq
  | d + 1, n, m, as, h, x, hq => mrun_monoE (fun a b c y hy => mev_mono d n a b c y hy) n 0 _ _ h x hq
theorem EL_mono1 {P : MP} {d m : Nat} {as : List MV} {h : MH} {x : MO} (hq : EL P d m as h = some x) : EL P (d + 1) m as h = some x := by
  obtain ⟨a, ha⟩ := mlim_spec hq
  exact mlim_of ⟨a, fun n j h1 h2 => mev_mono d n m as h x (ha n j h1 h2)⟩
theorem EL_mono {P : MP} {d d' m : Nat} {as : List MV} {h : MH} {x : MO} (hd : d ≤ d') (hq : EL P d m as h = some x) : EL P d' m as h = some x := by
  induction hd with
  | refl => exact hq
  | step _ ih => exact EL_mono1 ih
/-- a call by an equation -/
theorem EL_by {P : MP} {d m j : Nat} {cut : List Nat} {as : List MV} {h : MH} {x : MO} (hq : mrunc P (EL P d) (RL P d m) m cut j 0 (minit m as) [] h = some x) : EL P (d + 1) m as h = some x := EL_succ (RL_cut hq)
