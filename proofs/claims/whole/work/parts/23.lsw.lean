/-! ===== soundness: lookupswitch; arraycopy; references into rows ===== -/
theorem msw_lk {F : Nat → MX} {t pc : Nat} {x : Int32} {dflt : Int} {z : (Option MV ⊕ Nat) × MH} (ht : (pc : Int) + dflt = (t : Int)) : ∀ (ps : List (Int × Int)) (tb : List (Int32 × Nat)), tb.length = ps.length → (∀ w ∈ ps, -2147483648 ≤ w.1 ∧ w.1 < 2147483648) → (∀ w ∈ ps.zip tb, (pc : Int) + w.1.2 = (w.2.2 : Int) ∧ w.2.1 = Int32.ofInt w.1.1) → msw tb x t F = some z → ∃ t', F t' = some z ∧ (pc : Int) + Op.lookupswitch.offset ps dflt x.toInt = (t' : Int)
  | [], [], _, _, _, h => ⟨t, h, by rw [Op.lookupswitch.offset_nil]; exact ht⟩
  | (a, o) :: ps, (v, t') :: tb, hl, hr, hz, h => by
    have h0 := hz ((a, o), (v, t')) (by simp)
    have hr0 := hr (a, o) List.mem_cons_self
    simp only at h0 hr0
    rw [Op.lookupswitch.offset_cons]
    simp only [msw] at h
    by_cases e : x = v
    · rw [if_pos e] at h
      have ea : a = x.toInt := by
        rw [e, h0.2, Int32.toInt_ofInt_of_le (by omega) (by omega)]
      rw [if_pos ea]
      exact ⟨t', h, h0.1⟩
    · rw [if_neg e] at h
      have ea : ¬ a = x.toInt := fun q => e (by rw [h0.2, q, Int32.ofInt_toInt])
      rw [if_neg ea]
      exact msw_lk ht ps tb (by simpa using hl) (fun w hw => hr w (List.mem_cons_of_mem _ hw)) (fun w hw => hz w (by rw [List.zip_cons_cons]; exact List.mem_cons_of_mem _ hw)) h
  | [], _ :: _, hl, _, _, _ => by simp at hl
  | _ :: _, [], hl, _, _, _ => by simp at hl
section Snd
variable {p : Program} {l : Launch} {e : Env} {R : Room} {s : State} {mi : MethodId} {args : Array Value} {below : List Frame} {meth : Method} {c : Code} {Q : State → Prop} {D : va_G} {B : Nat} {fv : Value} {P : MP} {m n1 n2 : Nat} {ρ : Nat → Nat → Nat} {pc : Nat} {ls : List (Option MV)} {st : List MV} {h : MH}
theorem sw_lsw (C : mCx p l s mi args meth c m) {x : Int32} {dflt : Int} {ps : Array (Int × Int)} {len t : Nat} {tb : List (Int32 × Nat)} (hdg : decode (mBy m) pc = .ok (.lookupswitch dflt ps, len)) (ht : (pc : Int) + dflt = (t : Int)) (hlen : tb.length = ps.size) (hinc : (ps.toList.zip (ps.toList.drop 1)).all (fun (a, next) => a.1 < next.1) = true) (hr : ∀ w ∈ ps.toList, -2147483648 ≤ w.1 ∧ w.1 < 2147483648) (hz : ∀ w ∈ ps.toList.zip tb, (pc : Int) + w.1.2 = (w.2.2 : Int) ∧ w.2.1 = Int32.ofInt w.1.1)
    {F : Nat → MX} {z : (Option MV ⊕ Nat) × MH} (hq : msw tb x t F = some z) (K : ∀ t', F t' = some z → SW p l e R s mi args below meth c Q D B fv P m n1 n2 ρ t' ls st h) : SW p l e R s mi args below meth c Q D B fv P m n1 n2 ρ pc ls (iv x :: st) h := by
  intro H locs lr hD hS hL hs hl' h1 h2
  obtain ⟨t', hF, hto⟩ := msw_lk ht ps.toList tb (by rw [hlen, Array.length_toList]) hr hz hq
  exact lv_lookup C.1 C.2.1 hdg hinc rfl hto (K t' hF H locs lr hD hS hL (List.forall_mem_cons.mp hs).2 hl' h1 h2)
end Snd
