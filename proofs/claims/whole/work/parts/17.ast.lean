/-! ===== soundness: array stores and lengths, longs, references in rows, new ===== -/
theorem beq_ne {a b : Nat} (h : a ≠ b) : Nat.beq a b = false := by
  cases z : Nat.beq a b with
  | false => rfl
  | true => exact absurd (Nat.eq_of_beq_eq_true z) h
section Snd
variable {p : Program} {l : Launch} {e : Env} {R : Room} {s : State} {mi : MethodId} {args : Array Value} {below : List Frame} {meth : Method} {c : Code} {Q : State → Prop} {D : va_G} {B : Nat} {fv : Value} {P : MP} {m n1 n2 : Nat} {ρ : Nat → Nat → Nat} {pc : Nat} {ls : List (Option MV)} {st : List MV} {h : MH}
/-- a made row -/
theorem arr_at {H : Heap} {r j : Nat} (hD : mDyn D B fv P ρ h s H) (hr : 10 ≤ r) (ht : rTag r ≠ 0) (hj : okr h.2.2.2.1 r (some j)) : j < h.2.2.2.1 r ∧ rLen P r j = regL r ∧ ∃ cA : ClassId, ArrOfT s cA (tagT r) ∧ va_RA s cA (tagT r) ∧ H[ρ r j]? = some (arrV cA (regL r) (mav ρ fv P h r j)) := by
  have hj' : j < h.2.2.2.1 r := by have := hj j rfl; rwa [cn_dyn hr] at this
  have hc := (hD.1 r j hr hj').1
  refine ⟨hj', ?_, ?_⟩
  · unfold rLen
    rw [beq_ne (show r ≠ 1 by omega), beq_ne (show r ≠ 3 by omega)]
    rfl
  · unfold mcell at hc
    split at hc
    · exact absurd ‹rTag r = 0› ht
    · exact hc
theorem arr_mcell {h' : MH} {H : Heap} {r j : Nat} {cA : ClassId} {V : Nat → Value} (ht : rTag r ≠ 0) (h1 : ArrOfT s cA (tagT r)) (h2 : va_RA s cA (tagT r)) (h3 : H[ρ r j]? = some (arrV cA (regL r) V)) (hV : ∀ k, V k = mav ρ fv P h' r j k) : mcell D fv P ρ h' s H r j := by
  unfold mcell
  split
  · exact absurd ‹rTag r = 0› ht
  · exact ⟨cA, h1, h2, by rw [h3, show V = mav ρ fv P h' r j from funext hV]⟩
theorem sw_xast (C : mCx p l s mi args meth c m) {r j t : Nat} {i x : Int32} {ins : Instr} (hr : 10 ≤ r) (hdg : decode (mBy m) pc = .ok (ins, 1)) (hi : (ins = .iastore ∧ t = 1) ∨ (ins = .bastore ∧ (t = 2 ∨ t = 3))) (ht : rTag r = t) (hin : ¬ ino i (rLen P r j)) {F : Int32 → MX} {z : (Option MV ⊕ Nat) × MH} (hq : mnr t x F = some z)
    (K : ∀ v, F v = some z → SW p l e R s mi args below meth c Q D B fv P m n1 n2 ρ (pc + 1) ls st (m3 h.1 r j i.toNatClampNeg v, h.2)) : SW p l e R s mi args below meth c Q D B fv P m n1 n2 ρ pc ls (iv x :: iv i :: rv r (some j) :: st) h := by
  intro H locs lr hD hS hL hs hl' h1 h2
  obtain ⟨-, hs1⟩ := List.forall_mem_cons.mp hs
  obtain ⟨-, hs2⟩ := List.forall_mem_cons.mp hs1
  obtain ⟨hj, hs'⟩ := List.forall_mem_cons.mp hs2
  have ht0 : rTag r ≠ 0 := by rcases hi with ⟨-, z⟩ | ⟨-, z | z⟩ <;> omega
  obtain ⟨hjc, hlen, cA, a1, a2, a3⟩ := arr_at hD hr ht0 hj
  have he : mrf ρ fv r (some j) = .ref (ρ r j) := by simp [mrf, beq_ne (show r ≠ 7 by omega)]
  show W p l e R s mi args below meth c H locs (h.2.2.2.2.1 - n1) (h.2.2.2.2.2 - n2) Q (F0 mi pc lr (.int x :: .int i :: mrf ρ fv r (some j) :: st.map (mval ρ fv)))
  rw [he]
  have hin' : ¬ (i < 0 ∨ (arrV cA (regL r) (mav ρ fv P h r j)).slots.size ≤ i.toNatClampNeg) := by rw [arrV_size, ← hlen]; exact hin
  have fin : ∀ (v : Int32), F v = some z → ∀ H' : Heap, H'[ρ r j]? = some ((arrV cA (regL r) (mav ρ fv P h r j)).setSlot i.toNatClampNeg (.int v)) → H'.size = H.size → (∀ q, q ≠ ρ r j → H'[q]? = H[q]?) → W p l e R s mi args below meth c H' (locs ++ [⟨ρ r j, i.toNatClampNeg⟩]) (h.2.2.2.2.1 - n1) (h.2.2.2.2.2 - n2) Q (F0 mi (pc + 1) lr (st.map (mval ρ fv))) := by
    intro v hv H' e1 e2 e3
    rw [arrV_store] at e1
    refine K v hv H' _ lr (dyn_upd (h' := (m3 h.1 r j i.toNatClampNeg v, h.2)) hD hr hjc rfl e2 e3 (fun r' o' k' hne => m3_ne _ _ _ _ _ hne) (fun _ _ _ _ => rfl) (fun _ _ _ _ => rfl) ?_ (fun f => hD.2.2.1 r j f hr hjc)) (hS.put e2 e3 (hD.1 r j hr hjc).2) hL hs' hl' h1 h2
    refine arr_mcell ht0 a1 a2 e1 (fun k => ?_)
    unfold updV mav
    show _ = match rTag r with | 4 => _ | 5 => _ | _ => Value.int (m3 h.1 r j i.toNatClampNeg v r j k)
    rw [m3_at]
    have ht3 : rTag r = 1 ∨ rTag r = 2 ∨ rTag r = 3 := by rcases hi with ⟨-, z⟩ | ⟨-, z | z⟩ <;> omega
    by_cases e : k = i.toNatClampNeg
    · rw [if_pos e, if_pos e]
      rcases ht3 with z | z | z <;> rw [z] <;> rfl
    · rw [if_neg e, if_neg e]
      rcases ht3 with z | z | z <;> rw [z] <;> rfl
  rcases hi with ⟨rfl, rfl⟩ | ⟨rfl, rfl | rfl⟩
  · have e : tagT r = .int := by unfold tagT; rw [ht]; try rfl
    rw [e] at a1
    exact W.iast C.1 C.2.1 a3 (a1 _ _) (fun z => by cases z) hin' rfl rfl hdg (fin _ hq)
  · have e : tagT r = .byte := by unfold tagT; rw [ht]; try rfl
    rw [e] at a1
    exact W.bast C.1 C.2.1 a3 (a1 _ _) (fun z => by cases z) hin' rfl rfl hdg (fin _ hq)
  · have e : tagT r = .boolean := by unfold tagT; rw [ht]; try rfl
    rw [e] at a1
    exact W.zast C.1 C.2.1 a3 (a1 _ _) (fun z => by cases z) hin' rfl rfl hdg (fin _ hq)
theorem sw_alen (C : mCx p l s mi args meth c m) (hX : mExt D B fv P ρ s s.heap) {r j : Nat} (hr7 : Nat.beq r 7 = false) (ht : rTag r ≠ 0) (hno : (Nat.beq r 1 && Nat.beq P.2.1 4000) = false) (hdg : decode (mBy m) pc = .ok (.arraylength, 1))
    (K : SW p l e R s mi args below meth c Q D B fv P m n1 n2 ρ (pc + 1) ls (iv (Int32.ofNat (rLen P r j)) :: st) h) : SW p l e R s mi args below meth c Q D B fv P m n1 n2 ρ pc ls (rv r (some j) :: st) h := by
  intro H locs lr hD hS hL hs hl' h1 h2
  obtain ⟨hj, hs'⟩ := List.forall_mem_cons.mp hs
  have kk := K H locs lr hD hS hL (List.forall_mem_cons.mpr ⟨trivial, hs'⟩) hl' h1 h2
  have he : mrf ρ fv r (some j) = .ref (ρ r j) := by simp [mrf, hr7]
  show W p l e R s mi args below meth c H locs (h.2.2.2.2.1 - n1) (h.2.2.2.2.2 - n2) Q (F0 mi pc lr (mrf ρ fv r (some j) :: st.map (mval ρ fv)))
  rw [he]
  by_cases h9 : 10 ≤ r
  · obtain ⟨hjc, hlen, cA, a1, a2, a3⟩ := arr_at hD h9 ht hj
    exact W.alen C.1 C.2.1 a3 (a1 _ _) (by rw [arrV_size, hlen]) rfl rfl hdg kk
  · obtain ⟨-, ht2⟩ := rtag_ext r (by omega) ht
    obtain ⟨scr, z1, z2, z3, z4, z5⟩ := row_at hX hD hS (ht2.elim Or.inl (fun z => Or.inr (Or.inl z.2))) hno hj
    exact W.alen C.1 C.2.1 z1 z2 z4.2 rfl rfl hdg kk
theorem sw_aald (C : mCx p l s mi args meth c m) {r j : Nat} {i : Int32} (hr : 10 ≤ r) (ht : rTag r = 5) (hdg : decode (mBy m) pc = .ok (.aaload, 1)) (hin : ¬ ino i (rLen P r j))
    (K : SW p l e R s mi args below meth c Q D B fv P m n1 n2 ρ (pc + 1) ls (rv (rTgt r i.toNatClampNeg) (rdR P h.2.1 r j i.toNatClampNeg) :: st) h) : SW p l e R s mi args below meth c Q D B fv P m n1 n2 ρ pc ls (iv i :: rv r (some j) :: st) h := by
  intro H locs lr hD hS hL hs hl' h1 h2
  obtain ⟨-, hs1⟩ := List.forall_mem_cons.mp hs
  obtain ⟨hj, hs'⟩ := List.forall_mem_cons.mp hs1
  have ht0 : rTag r ≠ 0 := by omega
  obtain ⟨hjc, hlen, cA, a1, a2, a3⟩ := arr_at hD hr ht0 hj
  have hlt9 : i.toNatClampNeg < regL r := by rw [← hlen]; exact Nat.not_le.mp (fun z => hin (Or.inr z))
  have kk := K H locs lr hD hS hL (List.forall_mem_cons.mpr ⟨hD.2.2.1 r j _ hr hjc hlt9, hs'⟩) hl' h1 h2
  have he : mrf ρ fv r (some j) = .ref (ρ r j) := by simp [mrf, beq_ne (show r ≠ 7 by omega)]
  show W p l e R s mi args below meth c H locs (h.2.2.2.2.1 - n1) (h.2.2.2.2.2 - n2) Q (F0 mi pc lr (.int i :: mrf ρ fv r (some j) :: st.map (mval ρ fv)))
  rw [he]
  have hin' : ¬ (i < 0 ∨ (arrV cA (regL r) (mav ρ fv P h r j)).slots.size ≤ i.toNatClampNeg) := by rw [arrV_size, ← hlen]; exact hin
  have hlt : i.toNatClampNeg < regL r := by rw [← hlen]; exact Nat.not_le.mp (fun z => hin (Or.inr z))
  have e : tagT r = .object (clsN (rCls (rTgt r 0))) := by unfold tagT; rw [ht]; try rfl
  rw [e] at a1
  refine W.aald (v := mav ρ fv P h r j i.toNatClampNeg) C.1 C.2.1 a3 (a1 _ _) rfl (fun z => by cases z) hin' (arrV_read _ _ hlt) rfl rfl hdg ?_
  have e2 : mav ρ fv P h r j i.toNatClampNeg = mrf ρ fv (rTgt r i.toNatClampNeg) (rdR P h.2.1 r j i.toNatClampNeg) := by unfold mav; rw [ht]; try rfl
  rw [e2]
  exact kk
theorem sw_lald (C : mCx p l s mi args meth c m) {r j : Nat} {i : Int32} (hr : 10 ≤ r) (ht : rTag r = 4) (hdg : decode (mBy m) pc = .ok (.laload, 1)) (hin : ¬ ino i (rLen P r j))
    (K : SW p l e R s mi args below meth c Q D B fv P m n1 n2 ρ (pc + 1) ls (jv (h.2.2.1 r j i.toNatClampNeg) :: st) h) : SW p l e R s mi args below meth c Q D B fv P m n1 n2 ρ pc ls (iv i :: rv r (some j) :: st) h := by
  intro H locs lr hD hS hL hs hl' h1 h2
  obtain ⟨-, hs1⟩ := List.forall_mem_cons.mp hs
  obtain ⟨hj, hs'⟩ := List.forall_mem_cons.mp hs1
  have ht0 : rTag r ≠ 0 := by omega
  obtain ⟨hjc, hlen, cA, a1, a2, a3⟩ := arr_at hD hr ht0 hj
  have kk := K H locs lr hD hS hL (List.forall_mem_cons.mpr ⟨trivial, hs'⟩) hl' h1 h2
  have he : mrf ρ fv r (some j) = .ref (ρ r j) := by simp [mrf, beq_ne (show r ≠ 7 by omega)]
  show W p l e R s mi args below meth c H locs (h.2.2.2.2.1 - n1) (h.2.2.2.2.2 - n2) Q (F0 mi pc lr (.int i :: mrf ρ fv r (some j) :: st.map (mval ρ fv)))
  rw [he]
  have hin' : ¬ (i < 0 ∨ (arrV cA (regL r) (mav ρ fv P h r j)).slots.size ≤ i.toNatClampNeg) := by rw [arrV_size, ← hlen]; exact hin
  have hlt : i.toNatClampNeg < regL r := by rw [← hlen]; exact Nat.not_le.mp (fun z => hin (Or.inr z))
  have e : tagT r = .long := by unfold tagT; rw [ht]; try rfl
  rw [e] at a1
  refine W.lald (v := mav ρ fv P h r j i.toNatClampNeg) C.1 C.2.1 a3 (a1 _ _) (fun z => by cases z) hin' (arrV_read _ _ hlt) rfl rfl hdg ?_
  have e2 : mav ρ fv P h r j i.toNatClampNeg = .long (h.2.2.1 r j i.toNatClampNeg) := by unfold mav; rw [ht]; try rfl
  rw [e2]
  exact kk
theorem sw_last (C : mCx p l s mi args meth c m) {r j : Nat} {i : Int32} {x : Int64} (hr : 10 ≤ r) (ht : rTag r = 4) (hdg : decode (mBy m) pc = .ok (.lastore, 1)) (hin : ¬ ino i (rLen P r j))
    (K : SW p l e R s mi args below meth c Q D B fv P m n1 n2 ρ (pc + 1) ls st (h.1, h.2.1, m3 h.2.2.1 r j i.toNatClampNeg x, h.2.2.2)) : SW p l e R s mi args below meth c Q D B fv P m n1 n2 ρ pc ls (jv x :: iv i :: rv r (some j) :: st) h := by
  intro H locs lr hD hS hL hs hl' h1 h2
  obtain ⟨-, hs1⟩ := List.forall_mem_cons.mp hs
  obtain ⟨-, hs2⟩ := List.forall_mem_cons.mp hs1
  obtain ⟨hj, hs'⟩ := List.forall_mem_cons.mp hs2
  have ht0 : rTag r ≠ 0 := by omega
  obtain ⟨hjc, hlen, cA, a1, a2, a3⟩ := arr_at hD hr ht0 hj
  have he : mrf ρ fv r (some j) = .ref (ρ r j) := by simp [mrf, beq_ne (show r ≠ 7 by omega)]
  show W p l e R s mi args below meth c H locs (h.2.2.2.2.1 - n1) (h.2.2.2.2.2 - n2) Q (F0 mi pc lr (.long x :: .int i :: mrf ρ fv r (some j) :: st.map (mval ρ fv)))
  rw [he]
  have hin' : ¬ (i < 0 ∨ (arrV cA (regL r) (mav ρ fv P h r j)).slots.size ≤ i.toNatClampNeg) := by rw [arrV_size, ← hlen]; exact hin
  have e : tagT r = .long := by unfold tagT; rw [ht]; try rfl
  have a1' := a1
  rw [e] at a1'
  refine W.last C.1 C.2.1 a3 (a1' _ _) (fun z => by cases z) hin' rfl rfl hdg (fun H' e1 e2 e3 => ?_)
  rw [arrV_store] at e1
  refine K H' _ lr (dyn_upd (h' := (h.1, h.2.1, m3 h.2.2.1 r j i.toNatClampNeg x, h.2.2.2)) hD hr hjc rfl e2 e3 (fun _ _ _ _ => rfl) (fun _ _ _ _ => rfl) (fun r' o' k' hne => m3_ne _ _ _ _ _ hne) ?_ (fun f => hD.2.2.1 r j f hr hjc)) (hS.put e2 e3 (hD.1 r j hr hjc).2) hL hs' hl' h1 h2
  refine arr_mcell ht0 a1 a2 e1 (fun k => ?_)
  unfold updV mav
  rw [ht]
  show _ = Value.long (m3 h.2.2.1 r j i.toNatClampNeg x r j k)
  rw [m3_at]
  by_cases e : k = i.toNatClampNeg
  · rw [if_pos e, if_pos e]
  · rw [if_neg e, if_neg e]
    rfl
end Snd
