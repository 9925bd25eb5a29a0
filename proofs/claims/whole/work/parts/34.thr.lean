/-! ===== op 46: new, dup, ldc, <init>, athrow ===== -/
def nKnd (w : Cond) : Bool := match w with
  | .declares _ => true
  | .castable _ _ => true
  | .arrayOver (.object _) => true
  | _ => false
def thOK (m pc : Nat) : Bool := match mCode m pc with
  | some (46, [x], _) => (match decode (mBy m) (pc + 6) with
    | .ok (.invokespecial ic, 3) => (vx_atS (clsN (mOw m)) ic (excN x) ["java/lang/RuntimeException", "java/lang/Exception"]).all (fun w => vx_ot w && (goodWord w || (nKnd w && w.onTables)))
    | _ => false)
  | _ => true
theorem thr_all : (List.range mNo).all (fun m => (List.range (mLen m)).all fun pc => thOK m pc) = true := by decide +kernel
theorem exc_fit : ∀ x, 1 ≤ x → x ≤ 3 → Jvm.Bundle.fit (excN x) = true ∧ Cond.initialized (excN x) ∈ gTs := by
  intro x h1 h2
  match x, h1, h2 with
  | 1, _, _ => exact ⟨by decide +kernel, List.mem_filter.mpr ⟨by decide +kernel, rfl⟩⟩
  | 2, _, _ => exact ⟨by decide +kernel, List.mem_filter.mpr ⟨by decide +kernel, rfl⟩⟩
  | 3, _, _ => exact ⟨by decide +kernel, List.mem_filter.mpr ⟨by decide +kernel, rfl⟩⟩
theorem nms_fit : ∀ n ∈ ["java/lang/RuntimeException", "java/lang/Exception"], Jvm.Bundle.fit n = true := by decide +kernel
section Th
variable {p : Program} {l : Launch} {e : Env} {R : Room} {s : State} {mi : MethodId} {args : Array Value} {below : List Frame} {meth : Method} {c : Code} {D : va_G} {B : Nat} {fv : Value} {P : MP} {m d : Nat} {ρ0 ρ : Nat → Nat → Nat} {h0 : MH} {x : MO} {pc : Nat} {ls : List (Option MV)} {st : List MV} {h : MH}
theorem go_throw (C : mCx p l s mi args meth c m) (hf : fv = .null ∨ ∃ a, fv = .ref a) (hm : m < mNo) {n : Nat} {i9 : Int32} (hcd : mCode m pc = some (46, [n], i9)) (hch : mchT m pc n = true) (hX : mExt D B fv P ρ0 s s.heap) {k : Nat → List (Option MV) → List MV → MH → MX}
    (hcat : mcat st ≤ 8) (hRf : d + 9 ≤ R.frames) (hRl : 40 * d + 240 ≤ R.locals) (hRc : x.2.2.2.2.2.1 - h0.2.2.2.2.1 ≤ R.cells) (hRs : x.2.2.2.2.2.2 - h0.2.2.2.2.2 ≤ R.slots)
    (hq : mth (mHand m pc) n ls k (h.1, h.2.1, h.2.2.1, h.2.2.2.1, h.2.2.2.2.1 + 1, h.2.2.2.2.2 + 6) = some x) :
    mGo p l e R s mi args below meth c D B fv P m ρ0 h0 x pc ls st h := by
  unfold mchT at hch
  split at hch
  · rename_i ik is ic d0 d4 d6
    split at hch
    · rename_i d3 d9
      simp only [Bool.and_eq_true, decide_eq_true_eq] at hch
      obtain ⟨⟨⟨⟨hn, hsL⟩, hht⟩, hlk⟩, hat⟩ := hch
      have hho := hand_ok hm hcd
      rw [hht] at hho
      have hho' : mHand m pc = [] := hho
      rw [hho'] at hq
      cases Option.some.inj hq
      obtain ⟨j, hj⟩ := Option.isSome_iff_exists.mp hsL
      obtain ⟨tx, htx⟩ := hX.2.2.2.2.1 _ (sLk_ok hj)
      have htab : c.exceptionTable.toList = [] := by
        rw [C.2.2.2.2.2.2.2.2.1, hht]
        rfl
      have hgd := List.all_eq_true.mp (List.all_eq_true.mp thr_all m (List.mem_range.mpr hm)) pc (List.mem_range.mpr (mCode_lt hcd))
      unfold thOK at hgd
      rw [hcd] at hgd
      simp only [d6] at hgd
      have hlk' : Cond.classLink (clsN (mOw m)) ik (excN n) ∈ gTs := List.mem_filter.mpr ⟨List.mem_of_elem_eq_true hlk, rfl⟩
      have hatb : ∀ w ∈ vx_atS (clsN (mOw m)) ic (excN n) ["java/lang/RuntimeException", "java/lang/Exception"], w.before args s = true := by
        intro w hw
        have h1 := List.all_eq_true.mp hgd w hw
        have h2 := List.mem_of_elem_eq_true (List.all_eq_true.mp hat w hw)
        rw [Bool.and_eq_true, Bool.or_eq_true] at h1
        rcases h1.2 with h3 | h3
        · exact C.2.2.2.2.1 _ (List.mem_filter.mpr ⟨h2, h3⟩)
        · rw [Bool.and_eq_true] at h3
          have h4 : w ∈ nTs := List.mem_filter.mpr ⟨h2, h3.1⟩
          exact va_any h3.2 (hX.2.2.2.2.2.2.2.2.2.1 w h4)
      have hgood : ∀ w ∈ Cond.classLink (clsN (mOw m)) ik (excN n) :: Cond.initialized (excN n) :: vx_atS (clsN (mOw m)) ic (excN n) ["java/lang/RuntimeException", "java/lang/Exception"], vx_ot w = true := by
        intro w hw
        rcases List.mem_cons.mp hw with rfl | hw
        · exact Bool.or_eq_true_iff.mpr (Or.inr rfl)
        · rcases List.mem_cons.mp hw with rfl | hw
          · exact Bool.or_eq_true_iff.mpr (Or.inr rfl)
          · have h1 := List.all_eq_true.mp hgd w hw
            rw [Bool.and_eq_true] at h1
            exact h1.1
      refine ⟨Nat.le_succ _, Nat.le_add_right _ _, fun hC ρ hext H locs lr hD hS hL hs hl2 h1 h2 => ?_⟩
      have hRc' : h.2.2.2.2.1 + 1 - h0.2.2.2.2.1 ≤ R.cells := hRc
      have hRs' : h.2.2.2.2.2 + 6 - h0.2.2.2.2.2 ≤ R.slots := hRs
      refine vx_throwS (names := ["java/lang/RuntimeException", "java/lang/Exception"]) C.1 C.2.1 C.2.2.2.2.2.2.2.2.2 C.2.2.2.1 (exc_fit n hn.1 hn.2).1 nms_fit (C.2.2.2.2.1 _ hlk') (C.2.2.2.2.1 _ (exc_fit n hn.1 hn.2).2) htx hatb hgood hX.2.2.2.2.2.2.2.1 hX.2.2.2.2.2.2.2.2.1 hS (hL.1.1.trans C.2.2.1.symm) d0 d3 d4 d6 d9 (fun y hy => by rw [htab] at hy; cases hy) (by show 2 + 3 < R.frames; omega) ?_ (by omega) (by omega) C.2.2.2.2.2.2.1 (fun t hvm hz hkeep => ?_) hS.2.2 ?_ ?_
      · rw [mcat_map hf st]
        show mcat st + (13 * (2 + 1) + 43) ≤ R.locals
        omega
      · exact ⟨n, ρ, rfl, hn, rfl, hext, hC, mDyn_vm hvm (mDyn_keep hD rfl rfl rfl rfl hz hkeep), ⟨Nat.le_trans hS.1 hz, fun q g1 g2 => (hkeep q (Nat.lt_of_lt_of_le g1 hS.1)).trans (hS.2.1 q g1 g2)⟩⟩
      · show h.2.2.2.2.1 - h0.2.2.2.2.1 + 1 ≤ h.2.2.2.2.1 + 1 - h0.2.2.2.2.1
        omega
      · show h.2.2.2.2.2 - h0.2.2.2.2.2 + 6 ≤ h.2.2.2.2.2 + 6 - h0.2.2.2.2.2
        omega
    · cases hch
  · cases hch
end Th
