/-! ===== runs and calls of the mini machine, without fuel ===== -/
def mrun (P : MP) (E : Nat → List MV → MH → MX) (m : Nat) : Nat → Nat → List (Option MV) → List MV → MH → MX
  | 0, _, _, _, _ => none
  | n + 1, pc, ls, st, h => mbody P E (mrun P E m n) m pc ls st h
def minit (m : Nat) (args : List MV) : List (Option MV) := args.map some ++ List.replicate (mMx m - args.length) none
def mev (P : MP) : Nat → Nat → Nat → List MV → MH → MX
  | 0, _, _, _, _ => none
  | d + 1, n, m, args, h => mrun P (mev P d n) m n 0 (minit m args) [] h
/-- what F gives, the Fn give in the end -/
def Lim (F : MX) (Fn : Nat → Nat → MX) : Prop := ∀ x, F = some x → ∃ n0, ∀ n j, n0 ≤ n → n0 ≤ j → Fn n j = some x
theorem lim_c (F : MX) : Lim F (fun _ _ => F) := fun _ h => ⟨0, fun _ _ _ _ => h⟩
theorem lim_ite {c : Prop} [Decidable c] {A B : MX} {An Bn : Nat → Nat → MX} (ha : Lim A An) (hb : Lim B Bn) : Lim (if c then A else B) (fun n j => if c then An n j else Bn n j) := by
  by_cases h : c
  · simp only [if_pos h]; exact ha
  · simp only [if_neg h]; exact hb
theorem lim_chk {b : Bool} {A B : MX} {An Bn : Nat → Nat → MX} (ha : Lim A An) (hb : Lim B Bn) : Lim (chk b A B) (fun n j => chk b (An n j) (Bn n j)) := by
  cases b
  · exact hb
  · exact ha
theorem lim_onS {o : Option Nat} {F : Nat → MX} {Fn : Nat → Nat → Nat → MX} (hf : ∀ i, Lim (F i) (fun n j => Fn n j i)) : Lim (onS o F) (fun n j => onS o (Fn n j)) := by
  cases o
  · exact lim_c none
  · exact hf _
theorem lim_a1 {l : List Nat} {F : Nat → MX} {Fn : Nat → Nat → Nat → MX} (hf : ∀ a, Lim (F a) (fun n j => Fn n j a)) : Lim (a1 l F) (fun n j => a1 l (Fn n j)) := by
  match l with
  | [] => exact lim_c none
  | [a] => exact hf a
  | _ :: _ :: _ => exact lim_c none
theorem lim_a2 {l : List Nat} {F : Nat → Nat → MX} {Fn : Nat → Nat → Nat → Nat → MX} (hf : ∀ a b, Lim (F a b) (fun n j => Fn n j a b)) : Lim (a2 l F) (fun n j => a2 l (Fn n j)) := by
  match l with
  | [] => exact lim_c none
  | [_] => exact lim_c none
  | [a, b] => exact hf a b
  | _ :: _ :: _ :: _ => exact lim_c none
theorem lim_a3 {l : List Nat} {F : Nat → Nat → Nat → MX} {Fn : Nat → Nat → Nat → Nat → Nat → MX} (hf : ∀ a b c, Lim (F a b c) (fun n j => Fn n j a b c)) : Lim (a3 l F) (fun n j => a3 l (Fn n j)) := by
  match l with
  | [] => exact lim_c none
  | [_] => exact lim_c none
  | [_, _] => exact lim_c none
  | [a, b, c] => exact hf a b c
  | _ :: _ :: _ :: _ :: _ => exact lim_c none
theorem lim_a4 {l : List Nat} {F : Nat → Nat → Nat → Nat → MX} {Fn : Nat → Nat → Nat → Nat → Nat → Nat → MX} (hf : ∀ a b c d, Lim (F a b c d) (fun n j => Fn n j a b c d)) : Lim (a4 l F) (fun n j => a4 l (Fn n j)) := by
  match l with
  | [] => exact lim_c none
  | [_] => exact lim_c none
  | [_, _] => exact lim_c none
  | [_, _, _] => exact lim_c none
  | [a, b, c, d] => exact hf a b c d
  | _ :: _ :: _ :: _ :: _ :: _ => exact lim_c none
theorem lim_a6 {l : List Nat} {F : Nat → Nat → Nat → Nat → Nat → Nat → MX} {Fn : Nat → Nat → Nat → Nat → Nat → Nat → Nat → Nat → MX} (hf : ∀ a b c d e g, Lim (F a b c d e g) (fun n j => Fn n j a b c d e g)) : Lim (a6 l F) (fun n j => a6 l (Fn n j)) := by
  match l with
  | [] => exact lim_c none
  | [_] => exact lim_c none
  | [_, _] => exact lim_c none
  | [_, _, _] => exact lim_c none
  | [_, _, _, _] => exact lim_c none
  | [_, _, _, _, _] => exact lim_c none
  | [a, b, c, d, e, g] => exact hf a b c d e g
  | _ :: _ :: _ :: _ :: _ :: _ :: _ :: _ => exact lim_c none
theorem lim_p1i {l : List MV} {F : Int32 → List MV → MX} {Fn : Nat → Nat → Int32 → List MV → MX} (hf : ∀ a b, Lim (F a b) (fun n j => Fn n j a b)) : Lim (p1i l F) (fun n j => p1i l (Fn n j)) := by
  match l with
  | [] => exact lim_c none
  | .inl x :: s => exact hf x s
  | .inr _ :: _ => exact lim_c none
theorem lim_p2i {l : List MV} {F : Int32 → Int32 → List MV → MX} {Fn : Nat → Nat → Int32 → Int32 → List MV → MX} (hf : ∀ a b c, Lim (F a b c) (fun n j => Fn n j a b c)) : Lim (p2i l F) (fun n j => p2i l (Fn n j)) := by
  match l with
  | [] => exact lim_c none
  | [.inl _] => exact lim_c none
  | .inl y :: .inl x :: s => exact hf x y s
  | .inl _ :: .inr _ :: _ => exact lim_c none
  | .inr _ :: _ => exact lim_c none
theorem lim_p1r {l : List MV} {F : Nat → Option Nat → List MV → MX} {Fn : Nat → Nat → Nat → Option Nat → List MV → MX} (hf : ∀ a b c, Lim (F a b c) (fun n j => Fn n j a b c)) : Lim (p1r l F) (fun n j => p1r l (Fn n j)) := by
  match l with
  | [] => exact lim_c none
  | .inl _ :: _ => exact lim_c none
  | .inr (.inl q) :: s => exact hf q.1 q.2 s
  | .inr (.inr _) :: _ => exact lim_c none
theorem lim_p1j {l : List MV} {F : Int64 → List MV → MX} {Fn : Nat → Nat → Int64 → List MV → MX} (hf : ∀ a b, Lim (F a b) (fun n j => Fn n j a b)) : Lim (p1j l F) (fun n j => p1j l (Fn n j)) := by
  match l with
  | [] => exact lim_c none
  | .inl _ :: _ => exact lim_c none
  | .inr (.inl _) :: _ => exact lim_c none
  | .inr (.inr x) :: s => exact hf x s
theorem lim_plI {v : Option MV} {F : Int32 → MX} {Fn : Nat → Nat → Int32 → MX} (hf : ∀ a, Lim (F a) (fun n j => Fn n j a)) : Lim (plI v F) (fun n j => plI v (Fn n j)) := by
  match v with
  | none => exact lim_c none
  | some (.inl x) => exact hf x
  | some (.inr _) => exact lim_c none
theorem lim_plR {v : Option MV} {F : Nat → Option Nat → MX} {Fn : Nat → Nat → Nat → Option Nat → MX} (hf : ∀ a b, Lim (F a b) (fun n j => Fn n j a b)) : Lim (plR v F) (fun n j => plR v (Fn n j)) := by
  match v with
  | none => exact lim_c none
  | some (.inl _) => exact lim_c none
  | some (.inr (.inl q)) => exact hf q.1 q.2
  | some (.inr (.inr _)) => exact lim_c none
theorem lim_mop {w : Nat} {x y : Int32} {F : Int32 → MX} {Fn : Nat → Nat → Int32 → MX} (hf : ∀ a, Lim (F a) (fun n j => Fn n j a)) : Lim (mop w x y F) (fun n j => mop w x y (Fn n j)) := by
  unfold mop
  split <;> exact hf _
theorem lim_mun {w : Nat} {x : Int32} {F : Int32 → MX} {Fn : Nat → Nat → Int32 → MX} (hf : ∀ a, Lim (F a) (fun n j => Fn n j a)) : Lim (mun w x F) (fun n j => mun w x (Fn n j)) := by
  unfold mun
  split <;> exact hf _
theorem lim_mnr {w : Nat} {x : Int32} {F : Int32 → MX} {Fn : Nat → Nat → Int32 → MX} (hf : ∀ a, Lim (F a) (fun n j => Fn n j a)) : Lim (mnr w x F) (fun n j => mnr w x (Fn n j)) := by
  unfold mnr
  split <;> exact hf _
theorem lim_mrn {w : Nat} {x : Int32} {F : Int32 → MX} {Fn : Nat → Nat → Int32 → MX} (hf : ∀ a, Lim (F a) (fun n j => Fn n j a)) : Lim (mrn w x F) (fun n j => mrn w x (Fn n j)) := by
  unfold mrn
  split <;> exact hf _
theorem lim_mbr {w : Nat} {x y : Int32} {A B : MX} {An Bn : Nat → Nat → MX} (ha : Lim A An) (hb : Lim B Bn) : Lim (mbr w x y A B) (fun n j => mbr w x y (An n j) (Bn n j)) := by
  unfold mbr
  split <;> first | exact lim_ite ha hb | exact lim_ite hb ha
theorem lim_mnu {w : Nat} {o : Option Nat} {A B : MX} {An Bn : Nat → Nat → MX} (ha : Lim A An) (hb : Lim B Bn) : Lim (mnu w o A B) (fun n j => mnu w o (An n j) (Bn n j)) := by
  unfold mnu
  split <;> first | exact lim_ite ha hb | exact lim_ite hb ha
theorem lim_msw {x : Int32} {d : Nat} {F : Nat → MX} {Fn : Nat → Nat → Nat → MX} (hf : ∀ a, Lim (F a) (fun n j => Fn n j a)) : ∀ l : List (Int32 × Nat), Lim (msw l x d F) (fun n j => msw l x d (Fn n j))
  | [] => hf d
  | (v, t) :: r => by
    simp only [msw]
    exact lim_ite (hf t) (lim_msw hf r)
theorem lim_mclV {X : MX} {Xn : Nat → Nat → MX} (hX : Lim X Xn) {F : MH → MX} {Fn : Nat → Nat → MH → MX} (hf : ∀ a, Lim (F a) (fun n j => Fn n j a)) {G : Nat → MH → MX} {Gn : Nat → Nat → Nat → MH → MX} (hg : ∀ a b, Lim (G a b) (fun n j => Gn n j a b)) : Lim (mclV X F G) (fun n j => mclV (Xn n j) (Fn n j) (Gn n j)) := by
  intro x h
  match X, hX, h with
  | none, hX, h => nomatch h
  | some (.inl none, h1), hX, h =>
    obtain ⟨a, ha⟩ := hX _ rfl
    obtain ⟨b, hb⟩ := hf h1 x h
    exact ⟨a + b, fun n j h2 h3 => by dsimp only; rw [ha n j (by omega) (by omega)]; exact hb n j (by omega) (by omega)⟩
  | some (.inl (some _), h1), hX, h => nomatch h
  | some (.inr e, h1), hX, h =>
    obtain ⟨a, ha⟩ := hX _ rfl
    obtain ⟨b, hb⟩ := hg e h1 x h
    exact ⟨a + b, fun n j h2 h3 => by dsimp only; rw [ha n j (by omega) (by omega)]; exact hb n j (by omega) (by omega)⟩
theorem lim_mclI {X : MX} {Xn : Nat → Nat → MX} (hX : Lim X Xn) {F : Int32 → MH → MX} {Fn : Nat → Nat → Int32 → MH → MX} (hf : ∀ a b, Lim (F a b) (fun n j => Fn n j a b)) {G : Nat → MH → MX} {Gn : Nat → Nat → Nat → MH → MX} (hg : ∀ a b, Lim (G a b) (fun n j => Gn n j a b)) : Lim (mclI X F G) (fun n j => mclI (Xn n j) (Fn n j) (Gn n j)) := by
  intro x h
  match X, hX, h with
  | none, hX, h => nomatch h
  | some (.inl none, h1), hX, h => nomatch h
  | some (.inl (some (.inl v)), h1), hX, h =>
    obtain ⟨a, ha⟩ := hX _ rfl
    obtain ⟨b, hb⟩ := hf v h1 x h
    exact ⟨a + b, fun n j h2 h3 => by dsimp only; rw [ha n j (by omega) (by omega)]; exact hb n j (by omega) (by omega)⟩
  | some (.inl (some (.inr _)), h1), hX, h => nomatch h
  | some (.inr e, h1), hX, h =>
    obtain ⟨a, ha⟩ := hX _ rfl
    obtain ⟨b, hb⟩ := hg e h1 x h
    exact ⟨a + b, fun n j h2 h3 => by dsimp only; rw [ha n j (by omega) (by omega)]; exact hb n j (by omega) (by omega)⟩
theorem lim_mclR {X : MX} {Xn : Nat → Nat → MX} (hX : Lim X Xn) {rr : Nat} {F : Option Nat → MH → MX} {Fn : Nat → Nat → Option Nat → MH → MX} (hf : ∀ a b, Lim (F a b) (fun n j => Fn n j a b)) {G : Nat → MH → MX} {Gn : Nat → Nat → Nat → MH → MX} (hg : ∀ a b, Lim (G a b) (fun n j => Gn n j a b)) : Lim (mclR X rr F G) (fun n j => mclR (Xn n j) rr (Fn n j) (Gn n j)) := by
  intro x h
  match X, hX, h with
  | none, hX, h => nomatch h
  | some (.inl none, h1), hX, h => nomatch h
  | some (.inl (some (.inl v)), h1), hX, h => nomatch h
  | some (.inl (some (.inr (.inl q))), h1), hX, h =>
    obtain ⟨a, ha⟩ := hX _ rfl
    have hl : Lim (if q.1 = rr then F q.2 h1 else if q.2 = none then F none h1 else none) (fun n j => if q.1 = rr then Fn n j q.2 h1 else if q.2 = none then Fn n j none h1 else none) := lim_ite (hf _ _) (lim_ite (hf _ _) (lim_c none))
    obtain ⟨b, hb⟩ := hl x h
    exact ⟨a + b, fun n j h2 h3 => by dsimp only; rw [ha n j (by omega) (by omega)]; exact hb n j (by omega) (by omega)⟩
  | some (.inl (some (.inr (.inr _))), h1), hX, h => nomatch h
  | some (.inr e, h1), hX, h =>
    obtain ⟨a, ha⟩ := hX _ rfl
    obtain ⟨b, hb⟩ := hg e h1 x h
    exact ⟨a + b, fun n j h2 h3 => by dsimp only; rw [ha n j (by omega) (by omega)]; exact hb n j (by omega) (by omega)⟩
section Lims
variable {E : Nat → List MV → MH → MX} {En : Nat → Nat → Nat → List MV → MH → MX} {k : Nat → List (Option MV) → List MV → MH → MX} {kn : Nat → Nat → Nat → List (Option MV) → List MV → MH → MX}
theorem lim_mth2 (hk : ∀ a b c d, Lim (k a b c d) (fun n j => kn n j a b c d)) {e : Nat} {ls : List (Option MV)} {h : MH} : ∀ l : List (Nat × Nat), Lim (mth2 l e ls k h) (fun n j => mth2 l e ls (kn n j) h)
  | [] => lim_c none
  | q :: r => by
    simp only [mth2]
    exact lim_ite (hk _ _ _ _) (lim_mth2 hk r)
theorem lim_mth (hk : ∀ a b c d, Lim (k a b c d) (fun n j => kn n j a b c d)) {e : Nat} {ls : List (Option MV)} {h : MH} (l : List (Nat × Nat)) : Lim (mth l e ls k h) (fun n j => mth l e ls (kn n j) h) := by
  cases l with
  | nil => exact lim_c _
  | cons q r => exact lim_mth2 hk (q :: r)
theorem lim_mret {X : MX} {Xn : Nat → Nat → MX} (hX : Lim X Xn) {rk rr : Nat} {st : List MV} {F : List MV → MH → MX} {Fn : Nat → Nat → List MV → MH → MX} (hf : ∀ a b, Lim (F a b) (fun n j => Fn n j a b)) {G : Nat → MH → MX} {Gn : Nat → Nat → Nat → MH → MX} (hg : ∀ a b, Lim (G a b) (fun n j => Gn n j a b)) : Lim (mret X rk rr st F G) (fun n j => mret (Xn n j) rk rr st (Fn n j) (Gn n j)) := by
  unfold mret
  split
  · exact lim_mclV hX (fun a => hf _ a) hg
  · exact lim_mclI hX (fun a b => hf _ b) hg
  · exact lim_mclR hX (fun a b => hf _ b) hg
set_option maxHeartbeats 4000000 in
theorem lim_mbody (hE : ∀ a b c, Lim (E a b c) (fun n j => En n j a b c)) (hk : ∀ a b c d, Lim (k a b c d) (fun n j => kn n j a b c d)) (P : MP) (m pc : Nat) (ls : List (Option MV)) (st : List MV) (h : MH) :
    Lim (mbody P E k m pc ls st h) (fun n j => mbody P (En n j) (kn n j) m pc ls st h) := by
  unfold mbody
  cases mCode m pc with
  | none => exact lim_c none
  | some e =>
    simp only []
    unfold mexec
    split
    all_goals (repeat' first
          | with_reducible exact hk _ _ _ _
          | with_reducible exact hE _ _ _
          | with_reducible exact lim_c _
          | with_reducible exact lim_msw (fun _ => hk _ _ _ _) _
          | with_reducible exact lim_mth hk _
          | (with_reducible refine lim_mret (hE _ _ _) (fun _ _ => hk _ _ _ _) (fun _ _ => lim_mth hk _))
          | (with_reducible refine lim_a1 ?_; intro _)
          | (with_reducible refine lim_a2 ?_; intro _ _)
          | (with_reducible refine lim_a3 ?_; intro _ _ _)
          | (with_reducible refine lim_a4 ?_; intro _ _ _ _)
          | (with_reducible refine lim_a6 ?_; intro _ _ _ _ _ _)
          | (with_reducible refine lim_p1i ?_; intro _ _)
          | (with_reducible refine lim_p2i ?_; intro _ _ _)
          | (with_reducible refine lim_p1r ?_; intro _ _ _)
          | (with_reducible refine lim_p1j ?_; intro _ _)
          | (with_reducible refine lim_plI ?_; intro _)
          | (with_reducible refine lim_plR ?_; intro _ _)
          | (with_reducible refine lim_onS ?_; intro _)
          | with_reducible refine lim_mbr ?_ ?_
          | with_reducible refine lim_mnu ?_ ?_
          | (with_reducible refine lim_mop ?_; intro _)
          | (with_reducible refine lim_mun ?_; intro _)
          | (with_reducible refine lim_mnr ?_; intro _)
          | (with_reducible refine lim_mrn ?_; intro _)
          | with_reducible refine lim_chk ?_ ?_
          | with_reducible refine lim_ite ?_ ?_
          | split)
end Lims
/-- what a sequence gives in the end -/
noncomputable def mlim (f : Nat → Nat → MX) : MX := @dite MX (∃ x, ∃ n0, ∀ n j, n0 ≤ n → n0 ≤ j → f n j = some x) (Classical.propDecidable _) (fun q => some q.choose) (fun _ => none)
theorem mlim_of {f : Nat → Nat → MX} {x : (Option MV ⊕ Nat) × MH} (h : ∃ n0, ∀ n j, n0 ≤ n → n0 ≤ j → f n j = some x) : mlim f = some x := by
  have q : ∃ x, ∃ n0, ∀ n j, n0 ≤ n → n0 ≤ j → f n j = some x := ⟨x, h⟩
  unfold mlim
  rw [dif_pos q]
  obtain ⟨a, ha⟩ := h
  obtain ⟨b, hb⟩ := q.choose_spec
  exact (hb (a + b) (a + b) (by omega) (by omega)).symm.trans (ha (a + b) (a + b) (by omega) (by omega))
theorem mlim_spec {f : Nat → Nat → MX} {x : (Option MV ⊕ Nat) × MH} (h : mlim f = some x) : ∃ n0, ∀ n j, n0 ≤ n → n0 ≤ j → f n j = some x := by
  unfold mlim at h
  by_cases q : ∃ x, ∃ n0, ∀ n j, n0 ≤ n → n0 ≤ j → f n j = some x
  · rw [dif_pos q] at h
    cases h
    exact q.choose_spec
  · rw [dif_neg q] at h
    cases h
/-- a call, at a depth -/
noncomputable def EL (P : MP) (d m : Nat) (args : List MV) (h : MH) : MX := mlim (fun n _ => mev P d n m args h)
/-- a run from a place, its calls at a depth -/
noncomputable def RL (P : MP) (d m pc : Nat) (ls : List (Option MV)) (st : List MV) (h : MH) : MX := mlim (fun n j => mrun P (mev P d n) m j pc ls st h)
theorem EL_lim (P : MP) (d m : Nat) (args : List MV) (h : MH) : Lim (EL P d m args h) (fun n _ => mev P d n m args h) := fun _ q => mlim_spec q
theorem RL_lim (P : MP) (d m pc : Nat) (ls : List (Option MV)) (st : List MV) (h : MH) : Lim (RL P d m pc ls st h) (fun n j => mrun P (mev P d n) m j pc ls st h) := fun _ q => mlim_spec q
theorem RL_step {P : MP} {d m pc : Nat} {ls : List (Option MV)} {st : List MV} {h : MH} {x : (Option MV ⊕ Nat) × MH} (q : mbody P (EL P d) (RL P d m) m pc ls st h = some x) : RL P d m pc ls st h = some x := by
  obtain ⟨a, ha⟩ := lim_mbody (E := EL P d) (En := fun n _ => mev P d n) (k := RL P d m) (kn := fun n j => mrun P (mev P d n) m j) (fun a b c => EL_lim P d a b c) (fun a b c e => RL_lim P d m a b c e) P m pc ls st h x q
  refine mlim_of ⟨a + 1, fun n j h1 h2 => ?_⟩
  obtain ⟨j, rfl⟩ : ∃ i, j = i + 1 := ⟨j - 1, by omega⟩
  exact ha n j (by omega) (by omega)
/-- a continuation that gives less -/
theorem mbody_mono {P : MP} {E : Nat → List MV → MH → MX} {k k' : Nat → List (Option MV) → List MV → MH → MX} {m pc : Nat} {ls : List (Option MV)} {st : List MV} {h : MH} {x : (Option MV ⊕ Nat) × MH} (hk : ∀ a b c d y, k a b c d = some y → k' a b c d = some y) (q : mbody P E k m pc ls st h = some x) : mbody P E k' m pc ls st h = some x := by
  obtain ⟨a, ha⟩ := lim_mbody (E := E) (En := fun _ _ => E) (k := k) (kn := fun _ _ => k') (fun _ _ _ => lim_c _) (fun a b c d y hy => ⟨0, fun _ _ _ _ => hk a b c d y hy⟩) P m pc ls st h x q
  exact ha a a (Nat.le_refl a) (Nat.le_refl a)
theorem RL_cut {P : MP} {d m : Nat} {cut : List Nat} : ∀ {j pc : Nat} {ls : List (Option MV)} {st : List MV} {h : MH} {x : (Option MV ⊕ Nat) × MH}, mrunc P (EL P d) (RL P d m) m cut j pc ls st h = some x → RL P d m pc ls st h = some x
  | 0, _, _, _, _, _, q => q
  | j + 1, pc, ls, st, h, x, q => by
    refine RL_step (mbody_mono (fun a b c d y hy => ?_) q)
    cases hc : cut.elem a with
    | true => rw [hc] at hy; exact hy
    | false => rw [hc] at hy; exact RL_cut hy
theorem EL_succ {P : MP} {d m : Nat} {args : List MV} {h : MH} {x : (Option MV ⊕ Nat) × MH} (q : RL P d m 0 (minit m args) [] h = some x) : EL P (d + 1) m args h = some x := by
  obtain ⟨a, ha⟩ := mlim_spec q
  exact mlim_of ⟨a, fun n _ h1 _ => ha n n h1 h1⟩
theorem EL_mev {P : MP} {d m : Nat} {args : List MV} {h : MH} {x : (Option MV ⊕ Nat) × MH} (q : EL P d m args h = some x) : ∃ n, mev P d n m args h = some x := by
  obtain ⟨a, ha⟩ := mlim_spec q
  exact ⟨a, ha a a (Nat.le_refl a) (Nat.le_refl a)⟩
