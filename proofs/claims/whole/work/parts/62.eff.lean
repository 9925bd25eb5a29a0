/-! ===== what a method may write: by its entries and those of the methods that it calls ===== -/
def lid (r i : Nat) : Nat := bif Nat.beq (rTag r) 0 then r * 128 + i else r * 128
/-- bit r * 128 + 127: makes objects of region r (r = 0: catches); bit 5: makes cells -/
def wck (mask m pc : Nat) (e : Nat × List Nat × Int32) : Bool := match e.1, e.2.1 with
  | 22, [_, ci, f, _] => Nat.blt ci 13 && mask.testBit ((ci + 10) * 128 + f)
  | 23, [_, ci, f] => Nat.blt ci 13 && mask.testBit ((ci + 10) * 128 + f)
  | 26, [_, t, r] => !Nat.beq t 0 && mask.testBit (r * 128)
  | 30, [_, r] => mask.testBit (r * 128)
  | 45, [_, r] => mask.testBit (r * 128)
  | 31, [_, r] => mask.testBit (r * 128 + 127) && mask.testBit 5 && Nat.blt 9 r
  | 32, [_, r] => mask.testBit (r * 128 + 127) && mask.testBit 5 && Nat.blt 9 r
  | 33, [_, r] => mask.testBit (r * 128 + 127) && mask.testBit 5 && Nat.blt 9 r
  | 37, [_, _, m', _, _, _] => Nat.blt m' mNo && (mEff m' &&& mask == mEff m') && ((mHand m pc).isEmpty || mask.testBit 127)
  | 46, _ => mask.testBit 5 && ((mHand m pc).isEmpty || mask.testBit 127)
  | 22, _ => false
  | 23, _ => false
  | 26, _ => false
  | 30, _ => false
  | 45, _ => false
  | 31, _ => false
  | 32, _ => false
  | 33, _ => false
  | 37, _ => false
  | _, _ => true
def wckA (m : Nat) : Bool := (List.range (mLen m)).all fun pc => match mCode m pc with
  | none => true
  | some e => wck (mEff m) m pc e
theorem wck_all : (List.range mNo).all wckA = true := by decide +kernel
theorem wck_at {m pc : Nat} {e : Nat × List Nat × Int32} (hm : m < mNo) (hc : mCode m pc = some e) : wck (mEff m) m pc e = true := by
  have h := List.all_eq_true.mp wck_all m (List.mem_range.mpr hm)
  have h2 := List.all_eq_true.mp h pc (List.mem_range.mpr (mCode_lt hc))
  rw [hc] at h2
  exact h2
def Fm (mask : Nat) (h h' : MH) : Prop :=
  (∀ r o i, mask.testBit (lid r i) = false → (o < h.2.2.2.1 r ∨ mask.testBit (r * 128 + 127) = false) → h'.1 r o i = h.1 r o i ∧ h'.2.1 r o i = h.2.1 r o i ∧ h'.2.2.1 r o i = h.2.2.1 r o i) ∧
  (∀ r, h.2.2.2.1 r ≤ h'.2.2.2.1 r) ∧ (∀ r, mask.testBit (r * 128 + 127) = false → h'.2.2.2.1 r = h.2.2.2.1 r) ∧
  (mask.testBit 5 = false → h'.2.2.2.2 = h.2.2.2.2)
/-- whatever comes, has Pr -/
def Al (Pr : MH → Prop) (F : MX) : Prop := ∀ x, F = some x → Pr x.2
abbrev Ef (mask : Nat) (h : MH) (F : MX) : Prop := Al (Fm mask h) F
theorem fm_rf (mask : Nat) (h : MH) : Fm mask h h := ⟨fun _ _ _ _ _ => ⟨rfl, rfl, rfl⟩, fun _ => Nat.le_refl _, fun _ _ => rfl, fun _ => rfl⟩
theorem fm_tr {mask : Nat} {h h1 h2 : MH} (a : Fm mask h h1) (b : Fm mask h1 h2) : Fm mask h h2 := by
  refine ⟨fun r o i h1' h2' => ?_, fun r => Nat.le_trans (a.2.1 r) (b.2.1 r), fun r hr => (b.2.2.1 r hr).trans (a.2.2.1 r hr), fun h5 => (b.2.2.2 h5).trans (a.2.2.2 h5)⟩
  have x := a.1 r o i h1' h2'
  have y := b.1 r o i h1' (h2'.imp (fun z => Nat.lt_of_lt_of_le z (a.2.1 r)) id)
  exact ⟨y.1.trans x.1, y.2.1.trans x.2.1, y.2.2.trans x.2.2⟩
theorem fm_sub {a b : Nat} (hs : (a &&& b == a) = true) {h h' : MH} (hf : Fm a h h') : Fm b h h' := by
  have hs' : a &&& b = a := eq_of_beq hs
  have key : ∀ n, b.testBit n = false → a.testBit n = false := by
    intro n hn
    rw [← hs', Nat.testBit_and, hn, Bool.and_false]
  exact ⟨fun r o i h1 h2 => hf.1 r o i (key _ h1) (h2.imp id (key _)), hf.2.1, fun r hr => hf.2.2.1 r (key _ hr), fun h5 => hf.2.2.2 (key _ h5)⟩
theorem ef_le {mask : Nat} {h h' : MH} {F : MX} (a : Fm mask h h') (b : Ef mask h' F) : Ef mask h F := fun x hx => fm_tr a (b x hx)
theorem tb_ne {mask a b : Nat} (h1 : mask.testBit a = true) (h2 : mask.testBit b = false) : b ≠ a := by
  rintro rfl
  rw [h1] at h2
  cases h2
/-- one place of ints -/
theorem fm_I {mask : Nat} {h : MH} {r j k : Nat} {v : Int32} (hb : mask.testBit (lid r k) = true) : Fm mask h (m3 h.1 r j k v, h.2) := by
  refine ⟨fun r' o' i' h1 _ => ⟨?_, rfl, rfl⟩, fun _ => Nat.le_refl _, fun _ _ => rfl, fun _ => rfl⟩
  show m3 h.1 r j k v r' o' i' = _
  unfold m3
  by_cases e1 : r' = r
  · by_cases e2 : o' = j
    · by_cases e3 : i' = k
      · subst e1; subst e3
        rw [hb] at h1
        cases h1
      · rw [if_pos e1, if_pos e2, if_neg e3]
    · rw [if_pos e1, if_neg e2]
  · rw [if_neg e1]
theorem fm_R {mask : Nat} {h : MH} {r j k : Nat} {v : Option Nat} (hb : mask.testBit (lid r k) = true) : Fm mask h (h.1, m3 h.2.1 r j k v, h.2.2) := by
  refine ⟨fun r' o' i' h1 _ => ⟨rfl, ?_, rfl⟩, fun _ => Nat.le_refl _, fun _ _ => rfl, fun _ => rfl⟩
  show m3 h.2.1 r j k v r' o' i' = _
  unfold m3
  by_cases e1 : r' = r
  · by_cases e2 : o' = j
    · by_cases e3 : i' = k
      · subst e1; subst e3
        rw [hb] at h1
        cases h1
      · rw [if_pos e1, if_pos e2, if_neg e3]
    · rw [if_pos e1, if_neg e2]
  · rw [if_neg e1]
theorem fm_J {mask : Nat} {h : MH} {r j k : Nat} {v : Int64} (hb : mask.testBit (lid r k) = true) : Fm mask h (h.1, h.2.1, m3 h.2.2.1 r j k v, h.2.2.2) := by
  refine ⟨fun r' o' i' h1 _ => ⟨rfl, rfl, ?_⟩, fun _ => Nat.le_refl _, fun _ _ => rfl, fun _ => rfl⟩
  show m3 h.2.2.1 r j k v r' o' i' = _
  unfold m3
  by_cases e1 : r' = r
  · by_cases e2 : o' = j
    · by_cases e3 : i' = k
      · subst e1; subst e3
        rw [hb] at h1
        cases h1
      · rw [if_pos e1, if_pos e2, if_neg e3]
    · rw [if_pos e1, if_neg e2]
  · rw [if_neg e1]
theorem lid_arr {r i : Nat} (h : rTag r ≠ 0) : lid r i = r * 128 := by
  unfold lid
  rw [beq_ne h]
  rfl
theorem lid_obj {r i : Nat} (h : rTag r = 0) : lid r i = r * 128 + i := by
  unfold lid
  rw [h]
  rfl
theorem fm_cp {mask : Nat} {h : MH} {r j : Nat} {g : Nat → Int32} {sp dp n : Nat} (ht : rTag r ≠ 0) (hb : mask.testBit (r * 128) = true) : Fm mask h (mcp h.1 r j g sp dp n, h.2) := by
  refine ⟨fun r' o' i' h1 _ => ⟨?_, rfl, rfl⟩, fun _ => Nat.le_refl _, fun _ _ => rfl, fun _ => rfl⟩
  have hr : r' ≠ r := by
    rintro rfl
    rw [lid_arr ht, hb] at h1
    cases h1
  show mcp h.1 r j g sp dp n r' o' i' = _
  exact mcp_ne (fun z => hr z.1)
theorem fm_new {mask : Nat} {h : MH} {r n : Nat} (hb : mask.testBit (r * 128 + 127) = true) (h5 : mask.testBit 5 = true) : Fm mask h (mnew h r n) := by
  have key : ∀ r' o', (o' < h.2.2.2.1 r' ∨ mask.testBit (r' * 128 + 127) = false) → ¬ (r' = r ∧ o' = h.2.2.2.1 r) := by
    rintro r' o' h2 ⟨rfl, rfl⟩
    rcases h2 with z | z
    · omega
    · rw [hb] at z; cases z
  refine ⟨fun r' o' i' _ h2 => ⟨m2_ne _ _ _ _ (key r' o' h2), m2_ne _ _ _ _ (key r' o' h2), m2_ne _ _ _ _ (key r' o' h2)⟩, fun q => m1_le h.2.2.2.1 r q, fun q hq => ?_, fun z => by rw [h5] at z; cases z⟩
  show m1 h.2.2.2.1 r (h.2.2.2.1 r + 1) q = _
  unfold m1
  rw [if_neg]
  rintro rfl
  rw [hb] at hq
  cases hq
