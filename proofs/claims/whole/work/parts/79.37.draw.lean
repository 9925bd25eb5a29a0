section Draw
variable {L : Nat} {xs : Nat → Int32} {d : Nat}
theorem k9 {kd : Nat} (h : kd ≤ 8) : kd = 0 ∨ kd = 1 ∨ kd = 2 ∨ kd = 3 ∨ kd = 4 ∨ kd = 5 ∨ kd = 6 ∨ kd = 7 ∨ kd = 8 := by omega
theorem mx1 {a b : Nat} (ha : a < 2 ^ 31) (hb : b < 2 ^ 31) : (if nI b < nI a then nI a else nI b) = nI (max a b) := by rw [nI_min hb ha, Nat.max_comm]
theorem nlt {a b : Nat} (ha : a < 2 ^ 31) (hb : b < 2 ^ 31) : (nI a < nI b) = (a < b) := propext (nI_ltI ha hb)
theorem nle {a b : Nat} (ha : a < 2 ^ 31) (hb : b < 2 ^ 31) : (nI a ≤ nI b) = (a ≤ b) := propext (nI_leI ha hb)
theorem nnE {a b : Nat} (ha : a < 2 ^ 31) (hb : b < 2 ^ 31) : (nI a = nI b) = (a = b) := propext (nI_eq ha hb)
theorem b_draw {f : MI} {g : MR} {u : MI} {r kd : Nat} (R : RM f g u r kd) {hc hr : MH} (e1 : hc.1 = f) (e2 : hr.1 = u) : ∃ k : Nat, k ≤ 3000 ∧ EL (mP L xs) (d + 2) 196 [rv 16 (some r)] hc = some (.inl (some (iv (nI k))), hc) ∧ EL (mP L xs) (d + 2) 232 [rv 22 (some 0), iv (nI r)] hr = some (.inl (some (iv (nI k))), hr) := by
  obtain ⟨s, s1, s2⟩ := R.rg.sp
  obtain ⟨a0, a1, a2⟩ := R.rg.n0
  obtain ⟨l0, l1, l2⟩ := R.rg.n2
  obtain ⟨w0, w1, w2⟩ := R.rg.n5
  obtain ⟨g0, g1, g2⟩ := R.rg.gw
  obtain ⟨v0, v1, v2⟩ := R.rg.vo
  have x1 : s * a0 ≤ 100 * 500 := Nat.mul_le_mul s1 a1
  have x2 : g0 * w0 ≤ 100 * 500 := Nat.mul_le_mul g1 w1
  have hlt := R.lt
  have cl : (nI r).toNatClampNeg = r := nI_clamp (show r < 2 ^ 31 by omega)
  have nn : ¬ ino (nI r) 12 := nin R.lt (by decide)
  have y1 := sz_abs s2 (by omega)
  have y2 := sz_size (sz_mul (m := a0) s2) (by omega)
  have y3 : nI (s * a0) / 100 = nI (s * a0 / 100) := nI_div (by omega) (by decide : 0 < 100) (by decide)
  have y4 : nI (g0 * w0) / 100 = nI (g0 * w0 / 100) := nI_div (by omega) (by decide : 0 < 100) (by decide)
  have y5 : nI v0 / 2 = nI (v0 / 2) := nI_div (by omega) (by decide : 0 < 2) (by decide)
  have y6 : nI (s * a0 / 100) / 2 = nI (s * a0 / 100 / 2) := nI_div (by omega) (by decide : 0 < 2) (by decide)
  obtain ⟨t1, t2, t3, t4, t5, t6, t7, t8, t9⟩ := R.mo
  have kc := R.kc
  have kr := R.kr
  have q0 := R.m0
  have q2 := R.m2
  have q5 := R.m5
  have z1 := R.rg.tu
  have z2 := R.rg.lf
  have z3 := R.rg.la
  have z4 := R.rg.so
  rw [← e1] at t1 t5 t7 t8 kc q0 q2 q5
  rw [← e2] at t1 t5 t7 t8 kr q0 q2 q5 a2 l2 w2 g2 v2 y1 y2 z1 z2 z3 z4
  obtain ⟨hh1, hh2, -, hh3, hh4⟩ := r_hasT (L := L) (xs := xs) (d := d) R e2
  have hm : ∃ mv : Bool, (0 < hr.1 77 0 r) = (mv = true) := by
    by_cases z : 0 < hr.1 77 0 r
    · exact ⟨true, by simp [z]⟩
    · exact ⟨false, by simp [z]⟩
  obtain ⟨mv, hm⟩ := hm
  have cc : ∀ n : Nat, n < 2 ^ 31 → (nI kd = nI n) = (kd = n) := fun n hn => nnE (by have := R.kl; omega) hn
  have c2 : (nI kd = 2) = (kd = 2) := cc 2 (by decide)
  have c7 : (nI kd = 7) = (kd = 7) := cc 7 (by decide)
  have c8 : (nI kd = 8) = (kd = 8) := cc 8 (by decide)
  have iz : ∀ k : Nat, k ≤ 500 → nI k = 0 → k = 0 := fun k hk z => (nI_eq (a := k) (b := 0) (by omega) (by decide)).mp z
  have zl : l0 = 0 ∨ aLi kd = true := by
    cases hx : aLi kd with
    | true => exact Or.inr rfl
    | false => exact Or.inl (iz _ l1 (l2.symm.trans (z2 hx).2.2.2.1))
  have za : a0 = 0 ∨ aTu kd = true := by
    cases hx : aTu kd with
    | true => exact Or.inr rfl
    | false => exact Or.inl (iz _ a1 (a2.symm.trans (z1 hx).2.2.1))
  have zg : g0 = 0 ∨ aLa kd = true := by
    cases hx : aLa kd with
    | true => exact Or.inr rfl
    | false => exact Or.inl (iz _ (by omega) (g2.symm.trans (z3 hx).1))
  have zv : v0 = 0 ∨ aSo kd = true := by
    cases hx : aSo kd with
    | true => exact Or.inr rfl
    | false => exact Or.inl (iz _ (by omega) (v2.symm.trans (z4 hx)))
  have i1 : (if mv = true then nI l0 else 0) = nI (if mv = true then l0 else 0) := by cases mv <;> rfl
  have i2 : (if mv = true then l0 else 0) ≤ 500 := by cases mv <;> simp <;> omega
  have i3 : l0 = 0 → (if mv = true then l0 else 0) = 0 := by intro z; cases mv <;> simp [z]
  generalize hB : (if mv = true then l0 else 0) = B at i1 i2 i3
  simp only [E_Ride_draw, E_Ride_turnsDraw, E_Ride_liftsDraw, E_Ride_lampsDraw, E_Ref_draw, K_Ref_draw_32, K_Ref_draw_61, K_Ref_draw_116, E_Ref_sizeOf, clI, clI_ite, ite_val, nn, if_false, hh1, hh2, hh3, hh4, kc, kr, cl, t1, t5, t7, t8, q0, q2, q5, a2, l2, w2, g2, v2, y1, y2, nI_mul, y3, y4, y5, hm, i1, nI_add, y6, c2, c7, c8]
  have hkl := R.kl
  clear z1 z2 z3 z4 hh1 hh2 hh3 hh4 cc kc kr R t1 t2 t3 t4 t5 t6 t7 t8 t9 q0 q2 q5 a2 l2 w2 g2 v2 y1 y2 y3 y4 y5 y6 hm i1 c2 c7 c8
  have j1 : s * a0 / 100 ≤ 500 := by omega
  have j2 : g0 * w0 / 100 ≤ 500 := by omega
  have j3 : v0 / 2 ≤ 50 := by omega
  have ja : a0 = 0 → s * a0 / 100 = 0 := by intro z; rw [z]; simp
  have jg : g0 = 0 → g0 * w0 / 100 = 0 := by intro z; rw [z]; simp
  have jv : v0 = 0 → v0 / 2 = 0 := by intro z; rw [z]
  have hbl : mv = true → B = l0 := fun z => by rw [← hB, if_pos z]
  have hb0 : mv = false → B = 0 := fun z => by rw [← hB, z]; rfl
  generalize s * a0 / 100 = A at j1 ja ⊢
  generalize g0 * w0 / 100 = C at j2 jg ⊢
  generalize v0 / 2 = D at j3 jv ⊢
  have m1 := nI_min (a := A) (b := B) (by omega) (by omega)
  have m2 := nI_min (a := C) (b := D) (by omega) (by omega)
  have m3 := mx1 (a := A) (b := B) (by omega) (by omega)
  have m4 := mx1 (a := C) (b := D) (by omega) (by omega)
  refine ⟨if kd = 2 then max A B else if kd = 7 then A + B + max C D else if kd = 8 then A / 2 else A + B + C + D, ?_, ?_, ?_⟩
  · split
    · omega
    · split
      · omega
      · split <;> omega
  · rw [m1, m2, nI_add]
    simp only [apply_ite nI, nI_div (a := A) (b := 2) (by omega) (by decide) (by decide)]
  · have p1 : nI 0 < nI B → 0 < B := fun z => (nI_ltI (by decide) (by omega)).mp z
    have p2 := nI_div (a := A) (b := 2) (by omega) (by decide) (by decide)
    have hA : aTu kd = false → A = 0 := fun z => ja (za.resolve_right (by rw [z]; decide))
    have hBz : aLi kd = false → B = 0 := fun z => i3 (zl.resolve_right (by rw [z]; decide))
    have hC : aLa kd = false → C = 0 := fun z => jg (zg.resolve_right (by rw [z]; decide))
    have hD : aSo kd = false → D = 0 := fun z => jv (zv.resolve_right (by rw [z]; decide))
    clear za zl zg zv ja jg jv i3 hB
    have p3 : nI A ≤ 0 → 0 = nI A := fun z => by
      have : A ≤ 0 := (nI_leI (b := 0) (by omega) (by decide)).mp z
      have : A = 0 := by omega
      rw [this]
      rfl
    have p4 : ∀ X : Nat, (if nI D < nI C then nI (X + C) else nI (X + D)) = nI (X + max C D) := fun X => by
      rw [← nI_add X (max C D), ← m4]
      split <;> rw [nI_add]
    rcases k9 hkl with rfl | rfl | rfl | rfl | rfl | rfl | rfl | rfl | rfl <;> cases mv <;> simp [aTu, aLi, aLa, aSo] at hA hBz hC hD hbl hb0 <;> subst_vars <;> simp [aTu, aLi, aLa, aSo, nI_0, nI_add, m3, m4, p4] <;> first | exact p2 | exact p3
/-- tear -/
theorem b_tear {f : MI} {g : MR} {u : MI} {r kd : Nat} (R : RM f g u r kd) {hc hr : MH} (e1 : hc.1 = f) (e2 : hr.1 = u) : ∃ k : Nat, k ≤ 300 ∧ EL (mP L xs) (d + 2) 205 [rv 16 (some r)] hc = some (.inl (some (iv (nI k))), hc) ∧ EL (mP L xs) (d + 2) 235 [rv 22 (some 0), iv (nI r)] hr = some (.inl (some (iv (nI k))), hr) := by
  obtain ⟨s, s1, s2⟩ := R.rg.sp
  have hlt := R.lt
  have cl : (nI r).toNatClampNeg = r := nI_clamp (show r < 2 ^ 31 by omega)
  have nn : ¬ ino (nI r) 12 := nin R.lt (by decide)
  have y1 := sz_abs s2 (by omega)
  have y2 := sz_size s2 (by omega)
  obtain ⟨t1, t2, t3, t4, t5, t6, t7, t8, t9⟩ := R.mo
  have kc := R.kc
  have kr := R.kr
  have z1 := R.rg.tu
  have z2 := R.rg.lf
  rw [← e1] at t1 t5 kc
  rw [← e2] at t1 t5 kr y1 y2 z1 z2 s2
  obtain ⟨hh1, hh2, -, hh3, hh4⟩ := r_hasT (L := L) (xs := xs) (d := d) R e2
  have hm : ∃ mv : Bool, (hr.1 77 0 r = 0) = (mv = true) := by
    by_cases z : hr.1 77 0 r = 0
    · exact ⟨true, by simp [z]⟩
    · exact ⟨false, by simp [z]⟩
  obtain ⟨mv, hm⟩ := hm
  have cc : ∀ n : Nat, n < 2 ^ 31 → (nI kd = nI n) = (kd = n) := fun n hn => nnE (by have := R.kl; omega) hn
  have c5 : (nI kd = 5) = (kd = 5) := cc 5 (by decide)
  have zs : s = 0 ∨ aTu kd = true := by
    cases hx : aTu kd with
    | true => exact Or.inr rfl
    | false => exact Or.inl (by have := sz_0 s2 (by omega); rw [(z1 hx).1] at this; simpa using this)
  have zm : aLi kd = false → mv = true := fun z => by
    have := (z2 z).2.2.1
    rwa [hm] at this
  simp only [E_Ride_tear, K_Ride_tear_13, E_Ref_tear, K_Ref_tear_47, E_Ref_sizeOf, clI, clI_ite, ite_val, nn, if_false, hh1, hh2, hh3, hh4, kc, kr, cl, t1, t5, y1, y2, hm, c5]
  have hkl := R.kl
  have l20 : (2 : Int32) * 10 = nI 20 := by decide
  have l10 : (10 : Int32) = nI 10 := by decide
  clear z1 z2 hh1 hh2 hh3 hh4 cc kc kr R t1 t2 t3 t4 t5 t6 t7 t8 t9 y1 y2 hm c5
  have hs : aTu kd = false → s = 0 := fun z => zs.resolve_right (by rw [z]; decide)
  refine ⟨if kd = 5 then (if mv = true then 0 else 20) else s + (if mv = true then 0 else 10), ?_, ?_, ?_⟩
  · split <;> split <;> omega
  · rcases k9 hkl with rfl | rfl | rfl | rfl | rfl | rfl | rfl | rfl | rfl <;> cases mv <;> simp [l20, nI_0] <;> rw [l10, nI_add]
  · rcases k9 hkl with rfl | rfl | rfl | rfl | rfl | rfl | rfl | rfl | rfl <;> cases mv <;> simp [aTu, aLi] at hs zm <;> subst_vars <;> simp [aTu, aLi, l20, nI_0] <;> first | rfl | rw [l10, nI_add]
theorem b_limit {f : MI} {g : MR} {u : MI} {r kd : Nat} (R : RM f g u r kd) {hc hr : MH} (e1 : hc.1 = f) (e2 : hr.1 = u) : ∃ v : Int32, EL (mP L xs) (d + 2) 203 [rv 16 (some r)] hc = some (.inl (some (iv v)), hc) ∧ EL (mP L xs) (d + 2) 234 [rv 22 (some 0), iv (nI r)] hr = some (.inl (some (iv v)), hr) := by
  have hlt := R.lt
  have cl : (nI r).toNatClampNeg = r := nI_clamp (show r < 2 ^ 31 by omega)
  have nn : ¬ ino (nI r) 12 := nin R.lt (by decide)
  have kc := R.kc
  have kr := R.kr
  rw [← e1] at kc
  rw [← e2] at kr
  obtain ⟨hh1, hh2, -⟩ := c_hasT (L := L) (xs := xs) (d := d) R e1
  have hkl := R.kl
  simp only [E_Ride_limit, E_Ref_limit, clI, clI_ite, ite_val, nn, if_false, hh1, hh2, kc, kr, cl]
  clear hh1 hh2 kc kr R
  refine ⟨_, rfl, ?_⟩
  rcases k9 hkl with rfl | rfl | rfl | rfl | rfl | rfl | rfl | rfl | rfl <;> rfl
theorem b_calm {f : MI} {g : MR} {u : MI} {r kd : Nat} (R : RM f g u r kd) {hc hr : MH} (e1 : hc.1 = f) (e2 : hr.1 = u) : ∃ b : Bool, EL (mP L xs) (d + 2) 170 [rv 16 (some r)] hc = some (.inl (some (iv (bif b then 1 else 0))), hc) ∧ EL (mP L xs) (d + 2) 219 [rv 22 (some 0), iv (nI r)] hr = some (.inl (some (iv (bif b then 1 else 0))), hr) := by
  have hlt := R.lt
  have cl : (nI r).toNatClampNeg = r := nI_clamp (show r < 2 ^ 31 by omega)
  have nn : ¬ ino (nI r) 12 := nin R.lt (by decide)
  obtain ⟨t1, t2, t3, t4, t5, t6, t7, t8, t9⟩ := R.mo
  have kc := R.kc
  have kr := R.kr
  have z1 := R.rg.tu
  have z2 := R.rg.lf
  have z4 := R.rg.so
  rw [← e1] at t1 t3 t7 t8 kc
  rw [← e2] at t1 t3 t7 t8 kr z1 z2 z4
  obtain ⟨hh1, hh2, -, hh3, hh4⟩ := r_hasT (L := L) (xs := xs) (d := d) R e2
  have hkl := R.kl
  simp only [E_Ride_isCalm, E_Ref_isCalm, K_Ref_isCalm_18, K_Ref_isCalm_47, K_Ref_isCalm_74, clI, clI_ite, ite_val, nn, if_false, hh1, hh2, hh3, hh4, kc, kr, cl, t1, t3, t7, t8]
  clear hh1 hh2 hh3 hh4 kc kr R t1 t2 t3 t4 t5 t6 t7 t8 t9
  generalize hr.1 73 0 r = sp at z1 ⊢
  generalize hr.1 75 0 r = he at z2 ⊢
  generalize hr.1 79 0 r = gw
  generalize hr.1 80 0 r = vo at z4 ⊢
  generalize hr.1 74 0 r = gl at z1 ⊢
  refine ⟨if kd = 3 then true else if kd = 5 then decide (he = 0) else if kd = 6 then !(decide (gw < 50)) && !(decide (50 < vo)) else if kd = 7 then decide (sp = 0) && (decide (he = 0) && !(decide (50 < vo)) && !(decide (gw < 20))) else decide (sp = 0) && decide (he = 0), ?_, ?_⟩
  · rcases k9 hkl with rfl | rfl | rfl | rfl | rfl | rfl | rfl | rfl | rfl <;> by_cases a1 : sp = 0 <;> by_cases a2 : he = 0 <;> by_cases a3 : gw < 50 <;> by_cases a4 : 50 < vo <;> by_cases a5 : gw < 20 <;> simp [a1, a2, a3, a4, a5, nI]
  · rcases k9 hkl with rfl | rfl | rfl | rfl | rfl | rfl | rfl | rfl | rfl <;> simp [aTu, aLi, aSo] at z1 z2 z4 <;> by_cases a1 : sp = 0 <;> by_cases a2 : he = 0 <;> by_cases a3 : gw < 50 <;> by_cases a4 : 50 < vo <;> by_cases a5 : gw < 20 <;> simp [a1, a2, a3, a4, a5, nI, aTu, aLi, aSo] <;> simp_all
end Draw
