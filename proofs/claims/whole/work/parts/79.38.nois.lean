section Noise
variable {L : Nat} {xs : Nat → Int32} {d : Nat}
theorem b_noise {f : MI} {g : MR} {u : MI} {r kd : Nat} (R : RM f g u r kd) {hc hr : MH} (e1 : hc.1 = f) (e2 : hr.1 = u) : ∃ k : Nat, k ≤ 300 ∧ EL (mP L xs) (d + 2) 242 [rv 16 (some r)] hc = some (.inl (some (iv (nI k))), hc) ∧ EL (mP L xs) (d + 2) 245 [rv 22 (some 0), iv (nI r)] hr = some (.inl (some (iv (nI k))), hr) := by
  obtain ⟨s, s1, s2⟩ := R.rg.sp
  obtain ⟨v0, v1, v2⟩ := R.rg.vo
  have hlt := R.lt
  have cl : (nI r).toNatClampNeg = r := nI_clamp (show r < 2 ^ 31 by omega)
  have nn : ¬ ino (nI r) 12 := nin R.lt (by decide)
  have y1 := sz_abs s2 (by omega)
  have y2 := sz_size s2 (by omega)
  have y3 : nI s / 2 = nI (s / 2) := nI_div (by omega) (by decide : 0 < 2) (by decide)
  have y5 : nI v0 / 2 = nI (v0 / 2) := nI_div (by omega) (by decide : 0 < 2) (by decide)
  obtain ⟨t1, t2, t3, t4, t5, t6, t7, t8, t9⟩ := R.mo
  have kc := R.kc
  have kr := R.kr
  have z1 := R.rg.tu
  have z2 := R.rg.lf
  have z4 := R.rg.so
  rw [← e1] at t1 t5 t8 kc
  rw [← e2] at t1 t5 t8 kr y1 y2 z1 z2 z4 s2 v2
  obtain ⟨hh1, hh2, -, hh3, hh4⟩ := r_hasT (L := L) (xs := xs) (d := d) R e2
  have hm : ∃ mv : Bool, (hr.1 77 0 r = 0) = (mv = true) := by
    by_cases z : hr.1 77 0 r = 0
    · exact ⟨true, by simp [z]⟩
    · exact ⟨false, by simp [z]⟩
  obtain ⟨mv, hm⟩ := hm
  have cc : ∀ n : Nat, n < 2 ^ 31 → (nI kd = nI n) = (kd = n) := fun n hn => nnE (by have := R.kl; omega) hn
  have c3 : (nI kd = 3) = (kd = 3) := cc 3 (by decide)
  have c6 : (nI kd = 6) = (kd = 6) := cc 6 (by decide)
  have c8 : (nI kd = 8) = (kd = 8) := cc 8 (by decide)
  have hs : aTu kd = false → s = 0 := fun hx => by have := sz_0 s2 (by omega); rw [(z1 hx).1] at this; simpa using this
  have hv : aSo kd = false → v0 = 0 := fun hx => (nI_eq (a := v0) (b := 0) (by omega) (by decide)).mp (v2.symm.trans (z4 hx))
  have zm : aLi kd = false → mv = true := fun z => by
    have := (z2 z).2.2.1
    rwa [hm] at this
  have s0 := sz_0 s2 (by omega)
  simp only [E_Ride_noise, E_Ref_noise, K_Ref_noise_24, K_Ref_noise_69, E_Ref_sizeOf, clI, clI_ite, ite_val, nn, if_false, hh1, hh2, hh3, hh4, kc, kr, cl, t1, t5, t8, y1, y2, y3, v2, y5, hm, c3, c6, c8, s0]
  have hkl := R.kl
  clear z1 z2 z4 hh1 hh2 hh3 hh4 cc kc kr R t1 t2 t3 t4 t5 t6 t7 t8 t9 y1 y2 y3 y5 hm c3 c6 c8 s0
  have l10 : (10 : Int32) = nI 10 := by decide
  have l5 : (5 : Int32) = nI 5 := by decide
  have l0 : (0 : Int32) = nI 0 := by decide
  refine ⟨if kd = 3 then (if s = 0 then v0 else v0 + 10) else if kd = 6 then v0 / 2 else if kd = 8 then 0 else max (max (s / 2) (if mv = true then 0 else 5)) v0, ?_, ?_, ?_⟩
  · split
    · split <;> omega
    · split
      · omega
      · split
        · omega
        · split <;> omega
  · have q0 : (if nI (s / 2) < 0 then 0 else nI (s / 2)) = nI (s / 2) := if_neg (nI_pos (by omega))
    have q5 : (if nI (s / 2) < 5 then 5 else nI (s / 2)) = nI (max (s / 2) 5) := nI_min (a := s / 2) (b := 5) (by omega) (by decide)
    have qa := nI_min (a := s / 2) (b := v0) (by omega) (by omega)
    have qb := nI_min (a := max (s / 2) 5) (b := v0) (by omega) (by omega)
    rw [q0, q5, qa, qb]
    by_cases z : s = 0 <;> rcases k9 hkl with rfl | rfl | rfl | rfl | rfl | rfl | rfl | rfl | rfl <;> cases mv <;> simp [z, nI_0] <;> rw [l10, nI_add]
  · have p0 : ¬ nI (s / 2) < 0 := nI_pos (by omega)
    have q5 : ¬ 5 < nI (s / 2) → max (s / 2) 5 = 5 := fun z => by
      have : ¬ 5 < s / 2 := fun y => z (nI_lt (a := 5) y (by omega))
      omega
    have q6 : 5 < nI (s / 2) → max (s / 2) 5 = s / 2 := fun z => by
      have : 5 < s / 2 := (nI_ltI (a := 5) (b := s / 2) (by decide) (by omega)).mp z
      omega
    have q7 : ¬ 0 < nI (s / 2) → s / 2 = 0 := fun z => by
      have : ¬ 0 < s / 2 := fun y => z (nI_lt (a := 0) y (by omega))
      omega
    have m1 := mx1 (a := s / 2) (b := v0) (by omega) (by omega)
    have m2 := mx1 (a := 5) (b := v0) (by omega) (by omega)
    have m3 := mx1 (a := 0) (b := v0) (by omega) (by omega)
    have m2' : (if nI v0 < 5 then 5 else nI v0) = nI (max 5 v0) := m2
    have m3' : (if nI v0 < 0 then 0 else nI v0) = nI (max 0 v0) := m3
    by_cases z : s = 0 <;> by_cases z5 : 5 < nI (s / 2) <;> by_cases z0 : 0 < nI (s / 2) <;> rcases k9 hkl with rfl | rfl | rfl | rfl | rfl | rfl | rfl | rfl | rfl <;> cases mv <;> simp [aTu, aLi, aSo] at hs hv zm <;> simp [aTu, aLi, aSo, z, z5, z0, q5, q6, q7, nI_0, m1, m2', m3', hs, hv] <;> first | rfl | rw [l10, nI_add]
end Noise
