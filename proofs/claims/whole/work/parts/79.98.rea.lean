/-! ===== read, whole ===== -/
/-- the reference ahead of a text -/
def R0 (u : MI) : Prop := (u 22 0 6 = 0) ∧ (u 22 0 12 = 0) ∧ (u 22 0 13 = -1) ∧ (u 22 0 18 = 0) ∧ (u 22 0 20 = 0) ∧ (u 22 0 21 = 0) ∧ (u 22 0 22 = 0) ∧ (u 22 0 23 = 9999) ∧ (u 22 0 24 = 0) ∧ (u 22 0 41 = 0) ∧ (u 22 0 45 = 0) ∧ (u 22 0 51 = 0)
theorem R0.k6 {u : MI} (x : R0 u) : u 22 0 6 = 0 := x.1
theorem R0.k12 {u : MI} (x : R0 u) : u 22 0 12 = 0 := x.2.1
theorem R0.k13 {u : MI} (x : R0 u) : u 22 0 13 = -1 := x.2.2.1
theorem R0.k18 {u : MI} (x : R0 u) : u 22 0 18 = 0 := x.2.2.2.1
theorem R0.k20 {u : MI} (x : R0 u) : u 22 0 20 = 0 := x.2.2.2.2.1
theorem R0.k21 {u : MI} (x : R0 u) : u 22 0 21 = 0 := x.2.2.2.2.2.1
theorem R0.k22 {u : MI} (x : R0 u) : u 22 0 22 = 0 := x.2.2.2.2.2.2.1
theorem R0.k23 {u : MI} (x : R0 u) : u 22 0 23 = 9999 := x.2.2.2.2.2.2.2.1
theorem R0.k24 {u : MI} (x : R0 u) : u 22 0 24 = 0 := x.2.2.2.2.2.2.2.2.1
theorem R0.k41 {u : MI} (x : R0 u) : u 22 0 41 = 0 := x.2.2.2.2.2.2.2.2.2.1
theorem R0.k45 {u : MI} (x : R0 u) : u 22 0 45 = 0 := x.2.2.2.2.2.2.2.2.2.2.1
theorem R0.k51 {u : MI} (x : R0 u) : u 22 0 51 = 0 := x.2.2.2.2.2.2.2.2.2.2.2
section Rea
variable {L : Nat} {xs : Nat → Int32} {g : MR} {X : ML × (Nat → Nat) × Nat × Nat} {Y : MR × ML × (Nat → Nat) × Nat × Nat} {N k A0 : Nat} {b : Nat → Nat} {sg : Nat → Int32} {f f3 u u3 : MI}
/-- what was told, as `begin` asks it -/
theorem TD_FS (H : FS N k b sg A0 f g u f3 u3) : ∃ (n s q : Nat) (rd ps en dp : Nat → Nat) (lp : Nat → Option Nat), TD n s q rd ps en dp lp f3 g u3 := by
  obtain ⟨cn, nt, ns, nn, n, sl, fl, t, c, q, s, kk, A, X, hn1, D, S⟩ := H.ex
  have P := D.gx.px
  have htk := P.tk
  have hkp := P.lc.kp
  have hcl := D.gx.cl
  have hn12 := D.n12
  have hf := H.ff
  have hu := S.fr
  obtain ⟨b0, b1, b2, b3, b4, b5, b6, b7, b8⟩ := D.ab
  obtain ⟨γ, hs⟩ := D.sc
  generalize hΓ : (fun a => if A0 ≤ a ∧ a < A then γ a else (100, 0, 0, 0, none) : Gh) = Γ
  have Γi : ∀ a, A0 ≤ a → a < A → Γ a = γ a := fun a h1 h2 => by rw [← hΓ]; exact if_pos ⟨h1, h2⟩
  have Γo : ∀ a, ¬ (A0 ≤ a ∧ a < A) → gR Γ a = 100 := fun a h => by
    unfold gR
    rw [← hΓ]
    show (if A0 ≤ a ∧ a < A then γ a else (100, 0, 0, 0, none)).1 = 100
    rw [if_neg h]
  have c3 : f3 10 0 3 = nI c := (hf 10 0 3 (by omega)).trans D.gx.cc
  have T := hs f3 g u3 Γ n sl fl ⟨Γi, fun a _ _ i _ => hf 19 a i (by omega), fun _ _ _ _ => rfl, fun R i h1 h2 _ => hu R 0 i (by omega), fun r _ => ⟨hu 49 0 r (by omega), hu 57 0 r (by omega), rfl⟩, fun y z w => FM_stl P.lc S D.gx.nz.df D.hr (by omega) c3 w, fun y z w => CD_stl P.lc S D.gx.nz.df D.hr (Nat.le_refl fl) D.fl8 (by omega) c3 w, Nat.le_refl _, Nat.le_refl _⟩
  have ST0 : ST f3 g u3 (gR Γ) (gP Γ) (gE Γ) (gD Γ) (gL Γ) n sl fl := by
    refine ⟨fun a ha => ?_, T.2⟩
    by_cases y : A0 ≤ a ∧ a < A
    · exact (T.1 a y.1 y.2).2.1
    · rw [Γo a y] at ha
      omega
  refine ⟨n, sl, fl, gR Γ, gP Γ, gE Γ, gD Γ, gL Γ, ⟨⟨hn1, hn12⟩, D.sl6, D.fl8, ⟨(hf 11 0 4 (by omega)).trans D.f4, (hu 22 0 20 (by omega)).trans D.u20⟩, ⟨(hf 11 0 5 (by omega)).trans D.f5, (hu 22 0 21 (by omega)).trans D.u21⟩, ⟨(hf 11 0 6 (by omega)).trans D.f6, (hu 22 0 22 (by omega)).trans D.u22⟩, ?_⟩, ⟨(hu 42 0 0 (by omega)).trans b0, (hu 42 0 1 (by omega)).trans b1, (hu 42 0 2 (by omega)).trans b2, (hu 42 0 3 (by omega)).trans b3, (hu 42 0 4 (by omega)).trans b4, (hu 42 0 5 (by omega)).trans b5, (hu 42 0 6 (by omega)).trans b6, (hu 42 0 7 (by omega)).trans b7, (hu 42 0 8 (by omega)).trans b8⟩, fun j hj => ?_, ?_, fun r hr => ?_⟩
  · rw [hf 11 0 8 (by omega), hu 22 0 23 (by omega)]
    exact D.pw
  · rw [hf 29 0 j (by omega), hu 58 0 j (by omega)]
    exact D.sa j hj
  · refine ST_cg (f := f3) (g := g) (u := u3) (fun _ => rfl) (fun _ => rfl) (fun _ => rfl) (fun _ => rfl) (fun _ => rfl) rfl (fun _ => rfl) (fun _ => rfl) (fun _ => rfl) (fun _ => rfl) (fun _ => rfl) (fun _ => rfl) (fun _ => rfl) (fun R k h => ?_) ST0
    have hR : R = 49 ∨ R = 57 ∨ R = 59 ∨ R = 60 ∨ R = 61 ∨ R = 62 ∨ R = 63 ∨ R = 64 ∨ R = 65 ∨ R = 66 ∨ R = 67 ∨ R = 68 ∨ R = 69 ∨ R = 70 ∨ R = 71 ∨ R = 72 := by omega
    rcases hR with rfl | rfl | rfl | rfl | rfl | rfl | rfl | rfl | rfl | rfl | rfl | rfl | rfl | rfl | rfl | rfl <;> rfl
  · obtain ⟨kd, K⟩ := D.rk r hr
    exact ⟨kd, K.fr (fun R x h => hf R r x (by omega)) rfl (fun R h1 h2 => hu R 0 r (by omega))⟩
theorem k_N (C : LC f N b k sg) : k ≤ N + 1 := by
  have h := C.kp
  by_cases z : k ≤ 1
  · omega
  · have h1 := (C.mid (k - 2) (by omega)).1
    have h2 := (tS_b (b := b) (N := N) (k - 2)).2 h1
    omega
/-- both read the whole text -/
theorem ex_read0 (hN : N ≤ 4000) (hb : ∀ i, b i < 256) (h40 : ∀ i, i < N → f 40 0 i = cb (b i)) (hix : ∀ r, r < 12 → f 16 r 0 = nI r) (T : TU u N b) (H : R0 u) (ha : R_abl u) :
    ∃ f3 g3 u3 X3, (∀ d, 135 ≤ d → EL (mP L xs) d 86 [rv 12 (some 0), iv (nI N)] (f, g, X) = some (.inl (some (iv (f3 20 0 7))), (f3, g3, X3))) ∧ (∀ d, 135 ≤ d → EL (mP L xs) d 128 [rv 22 (some 0)] (u, Y) = some (.inl none, (u3, Y))) ∧ (∃ A3, XR (X.2.1 19) A3 X X3 ∧ A3 - X.2.1 19 ≤ 2 * (N + 1)) ∧ (BAD f3 u3 ∨ (f3 20 0 7 = 0 ∧ u3 22 0 12 = 0 ∧ u3 22 0 13 = -1 ∧ ∃ (n s q : Nat) (rd ps en dp : Nat → Nat) (lp : Nat → Option Nat), TD n s q rd ps en dp lp f3 g3 u3)) := by
  obtain ⟨h6, h12, h13, h18, h20, h21, h22, h23, h24, h41, h45, h51⟩ := H
  obtain ⟨f1, k, sg, a1, a2, a3, a4, a5, a6⟩ := c_split (L := L) (xs := xs) (d := 0) (f := f) (g := g) (X := X) hN hb h40
  obtain ⟨u1, c1, c2, c3⟩ := r_cut (L := L) (xs := xs) (d := 0) (Y := Y) T (Nat.zero_le N) h6
  have hk := k_N a2
  have hkp := a2.kp
  generalize hf2 : m3 (m3 (m3 (m3 (m3 (m3 (m3 f1 14 0 4 0) 10 0 3 0) 11 0 4 0) 11 0 5 0) 11 0 6 0) 11 0 8 9999) 12 0 5 0 = f2
  have n2 : ∀ R o x, ¬ (R = 14 ∨ R = 10 ∨ R = 11 ∨ R = 12) → f2 R o x = f1 R o x := fun R o x h => by
    rw [← hf2, m3_no (by omega), m3_no (by omega), m3_no (by omega), m3_no (by omega), m3_no (by omega), m3_no (by omega), m3_no (by omega)]
  have u1f : ∀ R o x, ¬ (R = 22 ∧ 6 ≤ x ∧ x ≤ 11) → u1 R o x = u R o x := c2
  have hC : ∀ d, 135 ≤ d → EL (mP L xs) d 86 [rv 12 (some 0), iv (nI N)] (f, g, X) = RL (mP L xs) (d - 1) 86 36 [some (rv 12 (some 0)), some (iv (nI N)), some (iv (nI 0))] [] (f2, g, X) := fun d hd => by
    obtain ⟨d, rfl⟩ : ∃ d', d = d' + 2 := ⟨d - 2, by omega⟩
    have e1 := EL_up (d := d + 1) a1 (by omega)
    rw [E_FairReader_faultOf, e1, clV, E_Names_forget, clV, E_Code_forget, clV, E_Fair_forget, clV]
    show RL (mP L xs) (d + 1) 86 36 _ [] (m3 (m3 (m3 (m3 (m3 (m3 (m3 f1 14 0 4 0) 10 0 3 0) 11 0 4 0) 11 0 5 0) 11 0 6 0) 11 0 8 9999) 12 0 5 0, g, X) = _
    rw [hf2]
    rfl
  have hU : ∀ d, 135 ≤ d → EL (mP L xs) d 128 [rv 22 (some 0)] (u, Y) = RL (mP L xs) (d - 1) 128 4 [some (rv 22 (some 0)), none, none] [] (u1, Y) := fun d hd => by
    obtain ⟨d, rfl⟩ : ∃ d', d = d' + 2 := ⟨d - 2, by omega⟩
    have e1 := EL_up (d := d + 1) c1 (by omega)
    rw [E_Ref_fair, e1, clV]
    rfl
  obtain ⟨b0, b1, b2, b3, b4, b5, b6, b7, b8⟩ := ha
  have P : PX f2 u1 N k b sg 0 := ⟨LC_fr a2 (fun R o i h => n2 R o i (by omega)), ⟨T.nl, (u1f 22 0 5 (by omega)).trans T.ul, fun i hi => (u1f 44 0 i (by omega)).trans (T.ub i hi), T.bb⟩, by omega, (n2 20 0 6 (by omega)).trans a3, (n2 20 0 7 (by omega)).trans a4, (u1f 22 0 12 (by omega)).trans h12, (u1f 22 0 13 (by omega)).trans h13, c3⟩
  have D : DX N k b sg 0 (fun _ => 0) (fun _ => 0) (fun _ => 0) 0 0 0 (X.2.1 19) f2 g u1 X 0 0 0 0 0 (X.2.1 19) := by
    refine ⟨⟨P, ?_, Nat.le_refl _, (u1f 22 0 45 (by omega)).trans h45, Nat.le_refl _, ⟨Nat.zero_le _, ?_, fun j hj => absurd hj (Nat.not_lt_zero j)⟩, ⟨Nat.zero_le _, (u1f 22 0 18 (by omega)).trans h18, fun j hj => absurd hj (Nat.not_lt_zero j), fun j _ hj => absurd hj (Nat.not_lt_zero j)⟩⟩, (u1f 22 0 51 (by omega)).trans h51, Nat.le_refl _, (u1f 22 0 41 (by omega)).trans h41, Nat.le_refl _, rfl, Nat.le_refl _, Nat.zero_le _, ?_, (u1f 22 0 20 (by omega)).trans h20, Nat.zero_le _, ?_, (u1f 22 0 21 (by omega)).trans h21, Nat.zero_le _, ?_, (u1f 22 0 22 (by omega)).trans h22, rfl, fun i hi => absurd hi (Nat.not_lt_zero i), fun i hi => absurd hi (Nat.not_lt_zero i), fun i hi => absurd hi (Nat.not_lt_zero i), ?_, ?_, fun j hj => absurd hj (Nat.not_lt_zero j), ⟨(u1f 42 0 0 (by omega)).trans b0, (u1f 42 0 1 (by omega)).trans b1, (u1f 42 0 2 (by omega)).trans b2, (u1f 42 0 3 (by omega)).trans b3, (u1f 42 0 4 (by omega)).trans b4, (u1f 42 0 5 (by omega)).trans b5, (u1f 42 0 6 (by omega)).trans b6, (u1f 42 0 7 (by omega)).trans b7, (u1f 42 0 8 (by omega)).trans b8⟩, fun r hr => ?_, fun r hr => absurd hr (Nat.not_lt_zero r), ⟨rfl, fun i hi => absurd hi (Nat.not_lt_zero i)⟩, ⟨fun _ => (0, 0, 0, 0, none), fun F G U Γ n2 sF qF I => ⟨fun a x1 x2 => absurd x2 (by omega), fun r hr => absurd hr (Nat.not_lt_zero r)⟩⟩⟩
    · rw [← hf2]; rfl
    · rw [← hf2]; rfl
    · rw [← hf2]; rfl
    · rw [← hf2]; rfl
    · rw [← hf2]; rfl
    · rw [u1f 22 0 23 (by omega), h23, ← hf2]; rfl
    · rw [u1f 22 0 24 (by omega), h24, ← hf2]; rfl
    · rw [n2 16 r 0 (by omega), a6 16 r 0 (by omega)]
      exact hix r hr
  obtain ⟨f4, g4, u4, X4, i4, d1, d2, d3⟩ := fa_loop (L := L) (xs := xs) (Y := Y) k 0 0 f2 g u1 X 0 _ _ _ 0 0 0 0 0 0 0 _ (by omega) (Nat.le_refl _) D
  rcases d3 with ⟨cn', nt', ns', nn', n', sl', fl', t', c', q', s', kk', A', e1, e2, e3, e4, D'⟩ | ⟨⟨p, w, E, y1, y2⟩, A2, e2, e3⟩
  · obtain ⟨f5, u5, p1, p2, p3⟩ := fa_end (L := L) (xs := xs) (Y := Y) D' e1
    have ht' := D'.gx.px.tk
    refine ⟨f5, g4, u5, X4, fun d hd => ?_, fun d hd => ?_, ⟨A', e3, by omega⟩, ?_⟩
    · rw [hC d hd, d1 (d - 1) _ (by omega)]
      exact p1 (d - 1) g4 X4 _ _ (by omega)
    · rw [hU d hd, d2 (d - 1) _ _ (by omega)]
      exact p2 (d - 1) _ _ (by omega)
    · rcases p3 with ⟨H, -⟩ | B
      · exact Or.inr ⟨H.f7, H.u12, H.u13.trans D'.gx.px.f13, TD_FS H⟩
      · exact Or.inl B
  · refine ⟨f4, g4, u4, X4, fun d hd => ?_, fun d hd => ?_, ⟨A2, e2, by omega⟩, Or.inl ⟨p, w, E, y1, y2⟩⟩
    · obtain ⟨d, rfl⟩ : ∃ d', d = d' + 3 := ⟨d - 3, by omega⟩
      rw [hC (d + 3) hd, d1 (d + 3 - 1) _ (by omega)]
      exact ed_134 E
    · have hq : ¬ u4 22 0 12 = 0 := by rw [y1]; exact E.qn
      rw [hU d hd, d2 (d - 1) _ _ (by omega), K_Ref_fair_4, if_neg (show ¬ (u4, Y).1 22 0 12 = 0 from hq), if_neg (show ¬ (u4, Y).1 22 0 12 = 0 from hq), r_50e hq]
end Rea
