/-! ===== soundness: switches ===== -/
theorem msw_hit {F : Nat → MX} {d t : Nat} {x : Int32} : ∀ {l : List (Int32 × Nat)} {j : Nat}, l[j]? = some (x, t) → (∀ i, i < j → ∀ q, l[i]? = some q → q.1 ≠ x) → msw l x d F = F t
  | [], j, h, _ => by simp at h
  | (v, t') :: r, 0, h, _ => by
    simp only [List.getElem?_cons_zero, Option.some.injEq, Prod.mk.injEq] at h
    obtain ⟨rfl, rfl⟩ := h
    simp [msw]
  | (v, t') :: r, j + 1, h, hn => by
    have h0 : v ≠ x := hn 0 (by omega) (v, t') rfl
    have hx : ¬ x = v := fun z => h0 z.symm
    simp only [msw, hx, if_false]
    exact msw_hit (j := j) (by simpa using h) (fun i hi q hq => hn (i + 1) (by omega) q (by simpa using hq))
theorem msw_miss {F : Nat → MX} {d : Nat} {x : Int32} : ∀ {l : List (Int32 × Nat)}, (∀ q ∈ l, q.1 ≠ x) → msw l x d F = F d
  | [], _ => rfl
  | (v, t') :: r, hn => by
    have h0 : v ≠ x := hn (v, t') List.mem_cons_self
    have hx : ¬ x = v := fun z => h0 z.symm
    simp only [msw, hx, if_false]
    exact msw_miss (fun q hq => hn q (List.mem_cons_of_mem _ hq))
theorem ofInt_inj {a b : Int} (ha : -2147483648 ≤ a ∧ a < 2147483648) (hb : -2147483648 ≤ b ∧ b < 2147483648) (h : Int32.ofInt a = Int32.ofInt b) : a = b := by
  have h1 := congrArg Int32.toInt h
  rwa [Int32.toInt_ofInt_of_le (by omega) (by omega), Int32.toInt_ofInt_of_le (by omega) (by omega)] at h1
theorem toInt_rng (x : Int32) : -2147483648 ≤ x.toInt ∧ x.toInt < 2147483648 := ⟨by have := Int32.le_toInt x; simpa using this, by have := Int32.toInt_lt x; simpa using this⟩
section Snd
variable {p : Program} {l : Launch} {e : Env} {R : Room} {s : State} {mi : MethodId} {args : Array Value} {below : List Frame} {meth : Method} {c : Code} {Q : State → Prop} {D : va_G} {B : Nat} {fv : Value} {P : MP} {m n1 n2 : Nat} {ρ : Nat → Nat → Nat} {pc : Nat} {ls : List (Option MV)} {st : List MV} {h : MH}
theorem sw_tsw (C : mCx p l s mi args meth c m) {x : Int32} {dflt lo hi : Int} {offs : Array Int} {len t : Nat} {tb : List (Int32 × Nat)} (hdg : decode (mBy m) pc = .ok (.tableswitch dflt lo hi offs, len)) (ht : (pc : Int) + dflt = (t : Int)) (hlo : -2147483648 ≤ lo) (hhi : hi < 2147483648) (hsz : hi - lo + 1 = (offs.size : Int)) (hlen : tb.length = offs.size)
    (htb : ∀ j, j < offs.size → ∃ off v, offs[j]? = some off ∧ tb[j]? = some v ∧ (pc : Int) + off = (v.2 : Int) ∧ v.1 = Int32.ofInt (lo + (j : Int))) {F : Nat → MX} {z : (Option MV ⊕ Nat) × MH} (hq : msw tb x t F = some z)
    (K : ∀ t', F t' = some z → SW p l e R s mi args below meth c Q D B fv P m n1 n2 ρ t' ls st h) : SW p l e R s mi args below meth c Q D B fv P m n1 n2 ρ pc ls (iv x :: st) h := by
  intro H locs lr hD hS hL hs hl' h1 h2
  have hs' := (List.forall_mem_cons.mp hs).2
  have hxr := toInt_rng x
  by_cases hin : lo ≤ x.toInt ∧ x.toInt ≤ hi
  · have hj : (x.toInt - lo).toNat < offs.size := by omega
    obtain ⟨off, v, ho, hv, hto, hv1⟩ := htb _ hj
    have hvx : v.1 = x := by
      rw [hv1, show lo + ((x.toInt - lo).toNat : Int) = x.toInt by omega, Int32.ofInt_toInt]
    have hv' : tb[(x.toInt - lo).toNat]? = some (x, v.2) := by rw [hv, ← hvx]
    rw [msw_hit hv' (fun i hi' q hq' hqx => by
      obtain ⟨off2, v2, ho2, hv2, hto2, hv12⟩ := htb i (by omega)
      rw [hq'] at hv2
      cases hv2
      have e1 : Int32.ofInt (lo + (i : Int)) = Int32.ofInt x.toInt := by rw [← hv12, hqx, Int32.ofInt_toInt]
      have e2 := ofInt_inj (by omega) hxr e1
      omega)] at hq
    exact lv_tableIn C.1 C.2.1 hdg (by omega) (by omega) ho hto (K _ hq H locs lr hD hS hL hs' hl' h1 h2)
  · rw [msw_miss (fun q hq' hqx => by
      obtain ⟨i, hi'⟩ := List.mem_iff_getElem?.mp hq'
      have hil : i < tb.length := (List.getElem?_eq_some_iff.mp hi').1
      obtain ⟨off2, v2, ho2, hv2, hto2, hv12⟩ := htb i (by omega)
      rw [hi'] at hv2
      cases hv2
      have e1 : Int32.ofInt (lo + (i : Int)) = Int32.ofInt x.toInt := by rw [← hv12, hqx, Int32.ofInt_toInt]
      have e2 := ofInt_inj (by omega) hxr e1
      omega)] at hq
    exact lv_tableOut C.1 C.2.1 hdg (by omega) ht (K _ hq H locs lr hD hS hL hs' hl' h1 h2)
end Snd
