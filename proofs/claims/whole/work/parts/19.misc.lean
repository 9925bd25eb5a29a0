/-! ===== soundness: newarray, statics, texts, Object's constructor, Math, lcmp ===== -/
theorem gLk_ok {own idx r : Nat} (h : gLk own idx = some r) : (r = 4 ∨ r = 5 ∨ r = 6 ∨ r = 7 ∨ r = 8) ∧ (match r with
    | 7 => Cond.fieldLink (clsN own) idx "jdk/internal/util/Preconditions" "SIOOBE_FORMATTER" "Ljava/util/function/BiFunction;" ∈ gTs
    | 8 => Cond.fieldLink (clsN own) idx "java/lang/String" "COMPACT_STRINGS" "Z" ∈ gTs
    | _ => Cond.fieldLink (clsN own) idx "FairHouse$Ride" (stN r) "[I" ∈ gTs) := by
  have hall : gTab.all (fun q => (Nat.beq q.2.2.1 4 || Nat.beq q.2.2.1 5 || Nat.beq q.2.2.1 6 || Nat.beq q.2.2.1 7 || Nat.beq q.2.2.1 8) && (match q.2.2.1 with
    | 7 => decide (lw_tbl[q.2.2.2]? = some (Cond.fieldLink (clsN q.1) q.2.1 "jdk/internal/util/Preconditions" "SIOOBE_FORMATTER" "Ljava/util/function/BiFunction;"))
    | 8 => decide (lw_tbl[q.2.2.2]? = some (Cond.fieldLink (clsN q.1) q.2.1 "java/lang/String" "COMPACT_STRINGS" "Z"))
    | r => decide (lw_tbl[q.2.2.2]? = some (Cond.fieldLink (clsN q.1) q.2.1 "FairHouse$Ride" (stN r) "[I")))) = true := by decide +kernel
  unfold gLk at h
  cases hf : gTab.find? (fun q => Nat.beq q.1 own && Nat.beq q.2.1 idx) with
  | none => rw [hf] at h; cases h
  | some q =>
    rw [hf] at h
    obtain ⟨hm, hb⟩ := find_mem hf
    obtain ⟨e1, e2⟩ := beq2 hb
    obtain ⟨o, i, r', ps⟩ := q
    simp only [Option.map_some, Option.some.injEq] at h
    subst h
    have hk := List.all_eq_true.mp hall _ hm
    simp only [Bool.and_eq_true, Bool.or_eq_true] at hk
    simp only at e1 e2
    subst e1; subst e2
    obtain ⟨hr, hw⟩ := hk
    rcases hr with (((hr | hr) | hr) | hr) | hr <;> (have hr' := Nat.eq_of_beq_eq_true hr; subst hr'; simp only [decide_eq_true_eq] at hw; refine ⟨by omega, ?_⟩; exact gTs_in hw rfl)
section Snd
variable {p : Program} {l : Launch} {e : Env} {R : Room} {s : State} {mi : MethodId} {args : Array Value} {below : List Frame} {meth : Method} {c : Code} {Q : State → Prop} {D : va_G} {B : Nat} {fv : Value} {P : MP} {m n1 n2 : Nat} {ρ : Nat → Nat → Nat} {pc : Nat} {ls : List (Option MV)} {st : List MV} {h : MH}
theorem sw_newa (C : mCx p l s mi args meth c m) {r : Nat} {at9 : ArrayType} {x : Int32} (hr : 10 ≤ r) (hPs : ∀ f, P.1 r f = none) (hat : (at9 = .int ∧ rTag r = 1) ∨ (at9 = .byte ∧ rTag r = 2) ∨ (at9 = .boolean ∧ rTag r = 3) ∨ (at9 = .long ∧ rTag r = 4)) (hx : x = Int32.ofNat (regL r)) (hdg : decode (mBy m) pc = .ok (.newarray at9, 2)) (hRc : h.2.2.2.2.1 + 1 ≤ n1 + R.cells) (hRs : h.2.2.2.2.2 + regL r ≤ n2 + R.slots)
    (K : ∀ ρ', rext h.2.2.2.1 ρ ρ' → SW p l e R s mi args below meth c Q D B fv P m n1 n2 ρ' (pc + 2) ls (rv r (some (h.2.2.2.1 r)) :: st) (mnew h r (regL r))) : SW p l e R s mi args below meth c Q D B fv P m n1 n2 ρ pc ls (iv x :: st) h := by
  intro H locs lr hD hS hL hs hl' h1 h2
  have hs' := (List.forall_mem_cons.mp hs).2
  have hsm := regL_small r
  subst hx
  have hn : ¬ Int32.ofNat (regL r) < 0 := nI_pos (n := regL r) (by omega)
  have hN : (Int32.ofNat (regL r)).toNatClampNeg = regL r := nI_clamp (n := regL r) (by omega)
  have ht0 : rTag r ≠ 0 := by rcases hat with ⟨-, z⟩ | ⟨-, z⟩ | ⟨-, z⟩ | ⟨-, z⟩ <;> omega
  have ety : newarray.typeOf at9 = tagT r := by
    unfold tagT
    rcases hat with ⟨rfl, z⟩ | ⟨rfl, z⟩ | ⟨rfl, z⟩ | ⟨rfl, z⟩ <;> rw [z] <;> rfl
  have hw : (Cond.arrayClass (newarray.typeOf at9)).before args s = true := by
    rcases hat with ⟨rfl, z⟩ | ⟨rfl, z⟩ | ⟨rfl, z⟩ | ⟨rfl, z⟩
    · exact C.2.2.2.2.1 _ arrW_int
    · exact C.2.2.2.2.1 _ arrW_byte
    · exact C.2.2.2.2.1 _ arrW_bool
    · exact C.2.2.2.2.1 _ arrW_long
  have hbt : regL r * componentBytes (newarray.typeOf at9) ≤ 536870912 := by
    have hc8 : componentBytes (newarray.typeOf at9) ≤ 8 := by
      rcases hat with ⟨rfl, z⟩ | ⟨rfl, z⟩ | ⟨rfl, z⟩ | ⟨rfl, z⟩ <;> decide
    exact Nat.le_trans (Nat.mul_le_mul hsm hc8) (by decide)
  refine va_newaK C.1 C.2.1 hw (g := F0 mi pc lr (.int (Int32.ofNat (regL r)) :: st.map (mval ρ fv))) rfl hdg rfl hn hN hbt (by omega) (by omega) rfl (fun H' cA e1 z1 o1 hAr hNm => ?_)
  refine new_go hr hPs hD hS hL hs' hl' h1 h2 z1 o1 ?_ rfl rfl K
  have hρ : rnew h.2.2.2.1 ρ r H.size r (h.2.2.2.1 r) = H.size := by unfold rnew; simp
  rw [ety] at hAr hNm e1
  have hRA : va_RA s cA (tagT r) := by
    have : tagT r = newarray.typeOf at9 := ety.symm
    rw [this] at hNm ⊢
    rcases hat with ⟨rfl, z⟩ | ⟨rfl, z⟩ | ⟨rfl, z⟩ | ⟨rfl, z⟩ <;> exact hNm
  refine arr_mcell (V := fun _ => defaultValue (tagT r)) ht0 hAr hRA (by rw [hρ]; exact e1) (fun k => ?_)
  have e0 : (mnew h r (regL r)).1 r (h.2.2.2.1 r) k = 0 := m2_at _ _ _ _ _
  have e4 : (mnew h r (regL r)).2.2.1 r (h.2.2.2.1 r) k = 0 := m2_at _ _ _ _ _
  unfold mav
  rw [← ety, e0, e4]
  rcases hat with ⟨rfl, z⟩ | ⟨rfl, z⟩ | ⟨rfl, z⟩ | ⟨rfl, z⟩ <;> rw [z] <;> rfl
theorem sw_gets (C : mCx p l s mi args meth c m) (hX : mExt D B fv P ρ s s.heap) {idx r : Nat} (hl : gLk (mOw m) idx = some r) (h8 : r ≠ 8) (hdg : decode (mBy m) pc = .ok (.getstatic idx, 3))
    (K : SW p l e R s mi args below meth c Q D B fv P m n1 n2 ρ (pc + 3) ls (rv r (some 0) :: st) h) : SW p l e R s mi args below meth c Q D B fv P m n1 n2 ρ pc ls st h := by
  intro H locs lr hD hS hL hs hl' h1 h2
  obtain ⟨hr, hw⟩ := gLk_ok hl
  have kk := K H locs lr hD hS hL (List.forall_mem_cons.mpr ⟨fun j hj => by cases hj; rcases hr with rfl | rfl | rfl | rfl | rfl <;> first | exact Nat.zero_lt_one | exact absurd rfl h8, hs⟩) hl' h1 h2
  rcases hr with rfl | rfl | rfl | rfl | rfl
  · exact va_gets C.1 C.2.1 (hX.2.2.1 4 (by omega) (by omega)).1 hS C.2.2.2.1 (C.2.2.2.2.1 _ hw) (fun _ z => z) hdg kk
  · exact va_gets C.1 C.2.1 (hX.2.2.1 5 (by omega) (by omega)).1 hS C.2.2.2.1 (C.2.2.2.2.1 _ hw) (fun _ z => z) hdg kk
  · exact va_gets C.1 C.2.1 (hX.2.2.1 6 (by omega) (by omega)).1 hS C.2.2.2.1 (C.2.2.2.2.1 _ hw) (fun _ z => z) hdg kk
  · exact va_gets C.1 C.2.1 hX.2.2.2.2.2.2.1.1 hS C.2.2.2.1 (C.2.2.2.2.1 _ hw) (fun _ z => z) hdg kk
  · exact absurd rfl h8
theorem sw_getc (C : mCx p l s mi args meth c m) (hX : mExt D B fv P ρ s s.heap) {idx : Nat} (hl : gLk (mOw m) idx = some 8) (hdg : decode (mBy m) pc = .ok (.getstatic idx, 3))
    (K : SW p l e R s mi args below meth c Q D B fv P m n1 n2 ρ (pc + 3) ls (iv 1 :: st) h) : SW p l e R s mi args below meth c Q D B fv P m n1 n2 ρ pc ls st h := by
  intro H locs lr hD hS hL hs hl' h1 h2
  obtain ⟨-, hw⟩ := gLk_ok hl
  exact va_gets C.1 C.2.1 hX.2.2.2.2.2.1 hS C.2.2.2.1 (C.2.2.2.2.1 _ hw) (fun _ z => z) hdg (K H locs lr hD hS hL (List.forall_mem_cons.mpr ⟨trivial, hs⟩) hl' h1 h2)
end Snd
