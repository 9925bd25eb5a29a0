/-! ===== calls and runs as equations ===== -/
theorem mrun_mono {P : MP} {E : Nat → List MV → MH → MX} {m : Nat} : ∀ (j pc : Nat) (ls : List (Option MV)) (st : List MV) (h : MH) (x : MO), mrun P E m j pc ls st h = some x → mrun P E m (j + 1) pc ls st h = some x
  | 0, _, _, _, _, _, hq => nomatch hq
  | j + 1, pc, ls, st, h, x, hq => mbody_mono (k := mrun P E m j) (k' := mrun P E m (j + 1)) (fun a b c d y hy => mrun_mono j a b c d y hy) hq
theorem mev_fuel {P : MP} : ∀ (d n m : Nat) (as : List MV) (h : MH) (x : MO), mev P d n m as h = some x → mev P d (n + 1) m as h = some x
  | 0, _, _, _, _, _, hq => nomatch hq
  | d + 1, n, m, as, h, x, hq => mrun_mono n 0 _ _ h x (mrun_monoE (fun a b c y hy => mev_fuel d n a b c y hy) n 0 _ _ h x hq)
theorem mev_up {P : MP} {d m : Nat} {as : List MV} {h : MH} {x : MO} {n n' : Nat} (hn : n ≤ n') (hq : mev P d n m as h = some x) : mev P d n' m as h = some x := by
  induction hn with
  | refl => exact hq
  | step _ ih => exact mev_fuel _ _ _ _ _ _ ih
theorem mrun_up {P : MP} {d m : Nat} {pc : Nat} {ls : List (Option MV)} {st : List MV} {h : MH} {x : MO} {n n' j j' : Nat} (hn : n ≤ n') (hj : j ≤ j') (hq : mrun P (mev P d n) m j pc ls st h = some x) : mrun P (mev P d n') m j' pc ls st h = some x := by
  have h1 : mrun P (mev P d n') m j pc ls st h = some x := mrun_monoE (fun a b c y hy => mev_up hn hy) j pc ls st h x hq
  clear hq
  induction hj with
  | refl => exact h1
  | step _ ih => exact mrun_mono _ _ _ _ _ _ ih
theorem mev_EL {P : MP} {d n m : Nat} {as : List MV} {h : MH} {x : MO} (hq : mev P d n m as h = some x) : EL P d m as h = some x := mlim_of ⟨n, fun _ _ h1 _ => mev_up h1 hq⟩
theorem mrun_RL {P : MP} {d n j m pc : Nat} {ls : List (Option MV)} {st : List MV} {h : MH} {x : MO} (hq : mrun P (mev P d n) m j pc ls st h = some x) : RL P d m pc ls st h = some x := mlim_of ⟨n + j, fun _ _ h1 h2 => mrun_up (by omega) (by omega) hq⟩
theorem mx_ext {A B : MX} (h1 : ∀ x, A = some x → B = some x) (h2 : ∀ x, B = some x → A = some x) : A = B := by
  cases ha : A with
  | some x => exact (h1 x ha).symm
  | none =>
    cases hb : B with
    | none => rfl
    | some y => exact absurd ((h2 y hb).symm.trans ha) (by intro z; cases z)
theorem RL_eq {P : MP} {d m pc : Nat} {ls : List (Option MV)} {st : List MV} {h : MH} : RL P d m pc ls st h = mbody P (EL P d) (RL P d m) m pc ls st h := by
  refine mx_ext (fun x hx => ?_) (fun x hx => RL_step hx)
  obtain ⟨a, ha⟩ := mlim_spec hx
  have h1 : mbody P (mev P d a) (mrun P (mev P d a) m a) m pc ls st h = some x := ha a (a + 1) (Nat.le_refl a) (Nat.le_succ a)
  obtain ⟨b, hb⟩ := lim_mbody (E := mev P d a) (En := fun _ _ => EL P d) (k := mrun P (mev P d a) m a) (kn := fun _ _ => RL P d m) (fun _ _ _ y hy => ⟨0, fun _ _ _ _ => mev_EL hy⟩) (fun _ _ _ _ y hy => ⟨0, fun _ _ _ _ => mrun_RL hy⟩) P m pc ls st h x h1
  exact hb b b (Nat.le_refl b) (Nat.le_refl b)
theorem mrunc_RL {P : MP} {d m : Nat} {cut : List Nat} : ∀ (j pc : Nat) (ls : List (Option MV)) (st : List MV) (h : MH), mrunc P (EL P d) (RL P d m) m cut j pc ls st h = RL P d m pc ls st h
  | 0, _, _, _, _ => rfl
  | j + 1, pc, ls, st, h => by
    rw [RL_eq]
    have e : (fun pc' ls' st' h' => chk (cut.elem pc') (RL P d m pc' ls' st' h') (mrunc P (EL P d) (RL P d m) m cut j pc' ls' st' h')) = RL P d m := by
      funext pc' ls' st' h'
      rw [mrunc_RL j pc' ls' st' h']
      cases cut.elem pc' <;> rfl
    show mbody P (EL P d) (fun pc' ls' st' h' => chk (cut.elem pc') (RL P d m pc' ls' st' h') (mrunc P (EL P d) (RL P d m) m cut j pc' ls' st' h')) m pc ls st h = _
    rw [e]
theorem RL_all {P : MP} {d m : Nat} {cut : List Nat} {j pc : Nat} {ls : List (Option MV)} {st : List MV} {h : MH} {F : MX} (q : mrunc P (EL P d) (RL P d m) m cut j pc ls st h = F) : RL P d m pc ls st h = F := (mrunc_RL j pc ls st h).symm.trans q
theorem EL_eq {P : MP} {d m : Nat} {args : List MV} {h : MH} : EL P (d + 1) m args h = RL P d m 0 (minit m args) [] h := by
  refine mx_ext (fun x hx => ?_) (fun x hx => EL_succ hx)
  obtain ⟨a, ha⟩ := mlim_spec hx
  exact mrun_RL (ha a a (Nat.le_refl a) (Nat.le_refl a))
theorem EL_all {P : MP} {d m : Nat} {cut : List Nat} {j : Nat} {as : List MV} {ls : List (Option MV)} {h : MH} {F : MX} (e : minit m as = ls) (q : mrunc P (EL P d) (RL P d m) m cut j 0 ls [] h = F) : EL P (d + 1) m as h = F := by
  rw [EL_eq, e]
  exact RL_all q
