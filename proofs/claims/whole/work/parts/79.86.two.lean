/-! ===== read: steps of two blocks ===== -/
section Two
variable {L : Nat} {xs : Nat → Int32} {Y : MR × ML × (Nat → Nat) × Nat × Nat} {N k t c q s kk st A cn sl fl r kd m : Nat} {b : Nat → Nat} {sg : Nat → Int32} {f f2 u u2 : MI} {g g2 : MR} {X X2 : ML × (Nat → Nat) × Nat × Nat} {nt ns nn : Nat → Nat} {o gd l : Option Nat} {gv lv : Int32}
variable {A1 A2 k1 k2 : Nat} {fa ua fb ub ff uf : MI} {ga gb gf : MR} {nx1 nx2 gd1 : Option Nat} {gv1 : Int32} {Xa Xb : ML × (Nat → Nat) × Nat × Nat}
theorem bl_sm {C1 Q1 S1 C2 Q2 S2 C Q S : Nat} (hm : m ≤ 9) (hkd : kd ≤ 8) (hA1 : A + 1 ≤ A1) (hA2 : A1 ≤ A2) (hk1 : kk + 1 ≤ k1) (hk2 : k1 + 1 ≤ k2) (hk6 : k2 < 6100)
    (sm1 : ∃ γ : Gh, ∀ F G U Γ n sF qF, AGR N k b sg sl fl r kd (A + 1) A1 A1 (kk + 1) k1 C1 Q1 S1 γ fa ga ua F G U Γ n sF qF → FO F G Γ r (m + 1) (some A) gd1 l gv1 lv → EndG F G U Γ r (some A) k1 → (∀ a, A + 1 ≤ a → a < A1 → LocG F G U Γ n sF qF r a) ∧ NXT F G U Γ r (some A) nx1 (kk + 1))
    (sm2 : ∃ γ : Gh, ∀ F G U Γ n sF qF, AGR N k b sg sl fl r kd A1 A2 A2 (k1 + 1) k2 C2 Q2 S2 γ fb gb ub F G U Γ n sF qF → FO F G Γ r (m + 1) (some A) gd l gv lv → EndG F G U Γ r (some A) k2 → (∀ a, A1 ≤ a → a < A2 → LocG F G U Γ n sF qF r a) ∧ NXT F G U Γ r (some A) nx2 (k1 + 1))
    (f1 : ff 19 A 1 = uf 60 0 kk) (g2' : gf 19 A 2 = o) (g3 : gf 19 A 3 = gd) (g8 : gf 19 A 8 = nx1) (g9 : gf 19 A 9 = nx2) (g10 : gf 19 A 10 = none) (u64 : uf 64 0 kk = gv)
    (u59 : (ff 19 A 0 = 315 ∧ uf 59 0 kk = 19 ∧ CDp N k b sg ff uf C Q S fl (ff 19 A 4) (uf 61 0 kk) ∧ gd1 = gd ∧ gv1 = gv) ∨ (ff 19 A 0 = 316 ∧ uf 59 0 kk = 20 ∧ gd1 = some A ∧ gv1 = nI kk))
    (u62 : uf 62 0 kk = nI (k1 + 1)) (j59 : uf 59 0 k1 = 51) (j62 : uf 62 0 k1 = nI k2)
    (ea : ∀ a i, A + 1 ≤ a → a < A1 → ff 19 a i = fa 19 a i) (eb : ∀ a i, A1 ≤ a → a < A2 → ff 19 a i = fb 19 a i) (ga' : ∀ a i, A + 1 ≤ a → a < A1 → gf 19 a i = ga 19 a i) (gb' : ∀ a i, A1 ≤ a → a < A2 → gf 19 a i = gb 19 a i)
    (ua' : ∀ R i, 59 ≤ R → R ≤ 64 → kk + 1 ≤ i → i < k1 → uf R 0 i = ua R 0 i) (ub' : ∀ R i, 59 ≤ R → R ≤ 64 → k1 + 1 ≤ i → i < k2 → uf R 0 i = ub R 0 i)
    (ca : ∀ i, i < C1 → ff 32 0 i = fa 32 0 i) (cb : ∀ i, i < C2 → ff 32 0 i = fb 32 0 i) (hC1 : C1 ≤ C) (hC2 : C2 ≤ C) (qa : ∀ R i, (R = 65 ∨ R = 66 ∨ R = 67) → i < Q1 → uf R 0 i = ua R 0 i) (qb : ∀ R i, (R = 65 ∨ R = 66 ∨ R = 67) → i < Q2 → uf R 0 i = ub R 0 i) (hQ1 : Q1 ≤ Q) (hQ2 : Q2 ≤ Q) (sa : ∀ R i, 68 ≤ R → R ≤ 72 → i < S1 → uf R 0 i = ua R 0 i) (sb : ∀ R i, 68 ≤ R → R ≤ 72 → i < S2 → uf R 0 i = ub R 0 i) (hS1 : S1 ≤ S) (hS2 : S2 ≤ S) :
    ∃ γ : Gh, ∀ F G U Γ n sF qF, AGR N k b sg sl fl r kd A A2 A kk k2 C Q S γ ff gf uf F G U Γ n sF qF → FO F G Γ r m o gd l gv lv → NXT F G U Γ r o (G 19 A 7) k2 → (∀ a, A ≤ a → a < A2 → LocG F G U Γ n sF qF r a) ∧ gR Γ A = r ∧ gP Γ A = kk ∧ F 19 A 0 ≠ 401 ∧ G 19 A 2 = o := by
  obtain ⟨γ1, h1⟩ := sm1
  obtain ⟨γ2, h2⟩ := sm2
  refine ⟨fun a => if a = A then (r, kk, k2, m + 1, l) else if a < A1 then γ1 a else γ2 a, fun F G U Γ n sF qF P1 P2 P3 => ?_⟩
  have gA : Γ A = (r, kk, k2, m + 1, l) := (P1.gh A (Nat.le_refl A) (by omega)).trans (if_pos rfl)
  have fA : ∀ i, i ≠ 6 → F 19 A i = ff 19 A i := fun i hi => P1.fs A (Nat.le_refl A) (by omega) i hi
  have gg : ∀ i, i ≠ 7 → G 19 A i = gf 19 A i := fun i hi => P1.gs A (Nat.le_refl A) (by omega) i (fun y => hi y.2)
  have uk : ∀ R, 59 ≤ R → R ≤ 64 → U R 0 kk = uf R 0 kk := fun R x1 x2 => P1.os R kk x1 x2 (Nat.le_refl kk) (by omega)
  have uj : ∀ R, 59 ≤ R → R ≤ 64 → U R 0 k1 = uf R 0 k1 := fun R x1 x2 => P1.os R k1 x1 x2 (by omega) (by omega)
  have aP : gP Γ A = kk := by unfold gP; rw [gA]
  have aE : gE Γ A = k2 := by unfold gE; rw [gA]
  have aD : gD Γ A = m + 1 := by unfold gD; rw [gA]
  have aR : gR Γ A = r := by unfold gR; rw [gA]
  have aL : gL Γ A = l := by unfold gL; rw [gA]
  have fA0 := fA 0 (by decide)
  have gA2 : G 19 A 2 = o := (gg 2 (by decide)).trans g2'
  have gA3 : G 19 A 3 = gd := (gg 3 (by decide)).trans g3
  have hb : F 19 A 0 = 315 ∨ F 19 A 0 = 316 := u59.imp (fun y => fA0.trans y.1) (fun y => fA0.trans y.1)
  have hbk : blk (F 19 A 0) := hb.elim (fun y => Or.inr (Or.inr (Or.inl y))) (fun y => Or.inr (Or.inr (Or.inr y)))
  have n13 : ¬ (F 19 A 0 = 313 ∨ F 19 A 0 = 314) := by
    rcases hb with z | z <;> rw [z] <;> decide
  have hEnd : ∀ kx, kx < 6100 → ((U 59 0 kx = 51 ∧ U 62 0 kx = nI (gE Γ A)) ∨ kx = gE Γ A) → EndG F G U Γ r (some A) kx := fun kx h6 hx => by
    refine ⟨h6, fun h => (by cases h), fun b' hb' => ?_⟩
    have := Option.some.inj hb'
    subst this
    exact ⟨fun h => absurd (Or.inl h) n13, fun h => absurd (Or.inr h) n13, fun _ => hx⟩
  have hE1 := hEnd k1 (by omega) (Or.inl ⟨(uj 59 (by omega) (by omega)).trans j59, by rw [aE]; exact (uj 62 (by omega) (by omega)).trans j62⟩)
  have hE2 := hEnd k2 hk6 (Or.inr aE.symm)
  have hFO : ∀ gx gw, (gx = gd ∨ gx = some A) → ((gx = none ∧ gw = -1) ∨ ∃ b, gx = some b ∧ gR Γ b = r ∧ F 19 b 0 = 316 ∧ gw = nI (gP Γ b)) → FO F G Γ r (m + 1) (some A) gx l gw lv := fun gx gw x1 x2 =>
    ⟨Or.inr ⟨A, rfl, aR, hbk, aD.symm, by omega, x1.imp (fun y => y.trans gA3.symm) id, by rw [if_neg n13, aL]⟩, x2, P2.2.2⟩
  have hFO1 : FO F G Γ r (m + 1) (some A) gd1 l gv1 lv := by
    rcases u59 with ⟨-, -, -, z4, z5⟩ | ⟨z1, -, z4, z5⟩
    · exact hFO gd1 gv1 (Or.inl z4) (by rw [z4, z5]; exact P2.2.1)
    · exact hFO gd1 gv1 (Or.inr z4) (Or.inr ⟨A, z4, aR, fA0.trans z1, by rw [aP]; exact z5⟩)
  have hFO2 := hFO gd gv (Or.inl rfl) P2.2.1
  have QA := P1.sub (A1 := A + 1) (A2 := A1) (k1 := kk + 1) (k2 := k1) (C := C1) (Q := Q1) (S := S1) (γ1 := γ1) (f3 := fa) (g3 := ga) (u3 := ua) (by omega) (by omega) hA2 (by omega) (by omega) (fun a x1 x2 => (if_neg (by omega)).trans (if_pos x2)) ea ga' ua' ca hC1 qa hQ1 sa hS1
  have QB := P1.sub (A1 := A1) (A2 := A2) (k1 := k1 + 1) (k2 := k2) (C := C2) (Q := Q2) (S := S2) (γ1 := γ2) (f3 := fb) (g3 := gb) (u3 := ub) (by omega) (by omega) (Nat.le_refl A2) (by omega) (Nat.le_refl k2) (fun a x1 x2 => (if_neg (by omega)).trans (if_neg (by omega))) eb gb' ub' cb hC2 qb hQ2 sb hS2
  obtain ⟨L1, N1⟩ := h1 F G U Γ n sF qF QA hFO1 hE1
  obtain ⟨L2, N2⟩ := h2 F G U Γ n sF qF QB hFO2 hE2
  refine ⟨fun a x1 x2 => ?_, aR, aP, ?_, gA2⟩
  · by_cases y1 : a = A
    · subst y1
      refine Loc_of gA (by omega) hm ?_ gA2 gA3 ((uk 64 (by omega) (by omega)).trans u64) P1.kr hkd P2 P3 ?_ (Or.inr ?_)
      · rw [fA 1 (by decide), f1, uk 60 (by omega) (by omega)]
      · rcases hb with z | z <;> rw [z] <;> exact ⟨fun h => absurd h (by decide), fun h => absurd h (by decide), fun h => absurd h (by decide), fun h => absurd h (by decide)⟩
      · have gA8 : G 19 a 8 = nx1 := (gg 8 (by decide)).trans g8
        have gA9 : G 19 a 9 = nx2 := (gg 9 (by decide)).trans g9
        have gA10 : G 19 a 10 = none := (gg 10 (by decide)).trans g10
        have x62 : U 62 0 kk = nI (k1 + 1) := (uk 62 (by omega) (by omega)).trans u62
        have x61 := uk 61 (by omega) (by omega)
        have x59 := uk 59 (by omega) (by omega)
        unfold KdB BlkAt
        rw [aP, x59, x61, x62, gA8, gA9, gA10, fA0, fA 4 (by decide)]
        rcases u59 with ⟨z1, z2, z3, -, -⟩ | ⟨z1, z2, -, -⟩
        · exact Or.inr (Or.inr (Or.inl ⟨z1, z2, P1.cm _ _ z3, ⟨k1 + 1, rfl, N1, N2⟩, rfl⟩))
        · exact Or.inr (Or.inr (Or.inr ⟨z1, z2, ⟨k1 + 1, rfl, N1, N2⟩, rfl⟩))
    · by_cases y2 : a < A1
      · exact L1 a (by omega) y2
      · exact L2 a (by omega) x2
  · rcases hb with z | z <;> rw [z] <;> decide
end Two
/-- behind the first block, its JUMP put -/
def MID (N k : Nat) (b : Nat → Nat) (sg : Nat → Int32) (cn : Nat) (nt ns nn : Nat → Nat) (sl fl r kd m : Nat) (o gd l : Option Nat) (gv lv : Int32) (gd1 : Option Nat) (gv1 : Int32) (t c q s kk A : Nat) (f : MI) (g : MR) (u : MI) (X : ML × (Nat → Nat) × Nat × Nat) (fa : MI) (ga : MR) (ua : MI) (Xa : ML × (Nat → Nat) × Nat × Nat) (nx1 : Option Nat) (t3 c3 q3 s3 k1 st3 A1 : Nat) : Prop := (t < t3) ∧ (SX N k b sg cn nt ns nn sl fl r kd fa ua t3 c3 q3 s3 (k1 + 1) st3) ∧ (XR A A1 X Xa) ∧ (A + 1 ≤ A1) ∧ (A1 - A ≤ 2 * (t3 - t)) ∧ (c ≤ c3 ∧ q ≤ q3 ∧ s ≤ s3 ∧ kk + 1 ≤ k1) ∧ (k1 + 1 + t + 1 ≤ kk + t3) ∧ (FrK c A f fa) ∧ (FrG A none g ga) ∧ (FrU q s kk u ua) ∧ (ua 22 0 54 = lv) ∧ (fa 19 A 1 = ua 60 0 kk) ∧ (ga 19 A 2 = o) ∧ (ga 19 A 3 = gd) ∧ (ga 19 A 7 = none) ∧ (ga 19 A 8 = nx1) ∧ (ga 19 A 9 = none) ∧ (ga 19 A 10 = none) ∧ (ua 64 0 kk = gv) ∧ ((fa 19 A 0 = 315 ∧ ua 59 0 kk = 19 ∧ CDp N k b sg fa ua c3 q3 s3 fl (fa 19 A 4) (ua 61 0 kk) ∧ gd1 = gd ∧ gv1 = gv) ∨ (fa 19 A 0 = 316 ∧ ua 59 0 kk = 20 ∧ gd1 = some A ∧ gv1 = nI kk)) ∧ (ua 62 0 kk = nI (k1 + 1)) ∧ (ua 59 0 k1 = 51) ∧ (∃ γ : Gh, ∀ F G U Γ n sF qF, AGR N k b sg sl fl r kd (A + 1) A1 A1 (kk + 1) k1 c3 q3 s3 γ fa ga ua F G U Γ n sF qF → FO F G Γ r (m + 1) (some A) gd1 l gv1 lv → EndG F G U Γ r (some A) k1 → (∀ a, A + 1 ≤ a → a < A1 → LocG F G U Γ n sF qF r a) ∧ NXT F G U Γ r (some A) nx1 (kk + 1)) ∧ (NMI N k b sg f u c q → NMI N k b sg fa ua c3 q3)
theorem MID.tt {N k : Nat} {b : Nat → Nat} {sg : Nat → Int32} {cn : Nat} {nt ns nn : Nat → Nat} {sl fl r kd m : Nat} {o gd l : Option Nat} {gv lv : Int32} {gd1 : Option Nat} {gv1 : Int32} {t c q s kk A : Nat} {f : MI} {g : MR} {u : MI} {X : ML × (Nat → Nat) × Nat × Nat} {fa : MI} {ga : MR} {ua : MI} {Xa : ML × (Nat → Nat) × Nat × Nat} {nx1 : Option Nat} {t3 c3 q3 s3 k1 st3 A1 : Nat} (x : MID N k b sg cn nt ns nn sl fl r kd m o gd l gv lv gd1 gv1 t c q s kk A f g u X fa ga ua Xa nx1 t3 c3 q3 s3 k1 st3 A1) : t < t3 := x.1
theorem MID.sx {N k : Nat} {b : Nat → Nat} {sg : Nat → Int32} {cn : Nat} {nt ns nn : Nat → Nat} {sl fl r kd m : Nat} {o gd l : Option Nat} {gv lv : Int32} {gd1 : Option Nat} {gv1 : Int32} {t c q s kk A : Nat} {f : MI} {g : MR} {u : MI} {X : ML × (Nat → Nat) × Nat × Nat} {fa : MI} {ga : MR} {ua : MI} {Xa : ML × (Nat → Nat) × Nat × Nat} {nx1 : Option Nat} {t3 c3 q3 s3 k1 st3 A1 : Nat} (x : MID N k b sg cn nt ns nn sl fl r kd m o gd l gv lv gd1 gv1 t c q s kk A f g u X fa ga ua Xa nx1 t3 c3 q3 s3 k1 st3 A1) : SX N k b sg cn nt ns nn sl fl r kd fa ua t3 c3 q3 s3 (k1 + 1) st3 := x.2.1
theorem MID.xr {N k : Nat} {b : Nat → Nat} {sg : Nat → Int32} {cn : Nat} {nt ns nn : Nat → Nat} {sl fl r kd m : Nat} {o gd l : Option Nat} {gv lv : Int32} {gd1 : Option Nat} {gv1 : Int32} {t c q s kk A : Nat} {f : MI} {g : MR} {u : MI} {X : ML × (Nat → Nat) × Nat × Nat} {fa : MI} {ga : MR} {ua : MI} {Xa : ML × (Nat → Nat) × Nat × Nat} {nx1 : Option Nat} {t3 c3 q3 s3 k1 st3 A1 : Nat} (x : MID N k b sg cn nt ns nn sl fl r kd m o gd l gv lv gd1 gv1 t c q s kk A f g u X fa ga ua Xa nx1 t3 c3 q3 s3 k1 st3 A1) : XR A A1 X Xa := x.2.2.1
theorem MID.aA {N k : Nat} {b : Nat → Nat} {sg : Nat → Int32} {cn : Nat} {nt ns nn : Nat → Nat} {sl fl r kd m : Nat} {o gd l : Option Nat} {gv lv : Int32} {gd1 : Option Nat} {gv1 : Int32} {t c q s kk A : Nat} {f : MI} {g : MR} {u : MI} {X : ML × (Nat → Nat) × Nat × Nat} {fa : MI} {ga : MR} {ua : MI} {Xa : ML × (Nat → Nat) × Nat × Nat} {nx1 : Option Nat} {t3 c3 q3 s3 k1 st3 A1 : Nat} (x : MID N k b sg cn nt ns nn sl fl r kd m o gd l gv lv gd1 gv1 t c q s kk A f g u X fa ga ua Xa nx1 t3 c3 q3 s3 k1 st3 A1) : A + 1 ≤ A1 := x.2.2.2.1
theorem MID.al {N k : Nat} {b : Nat → Nat} {sg : Nat → Int32} {cn : Nat} {nt ns nn : Nat → Nat} {sl fl r kd m : Nat} {o gd l : Option Nat} {gv lv : Int32} {gd1 : Option Nat} {gv1 : Int32} {t c q s kk A : Nat} {f : MI} {g : MR} {u : MI} {X : ML × (Nat → Nat) × Nat × Nat} {fa : MI} {ga : MR} {ua : MI} {Xa : ML × (Nat → Nat) × Nat × Nat} {nx1 : Option Nat} {t3 c3 q3 s3 k1 st3 A1 : Nat} (x : MID N k b sg cn nt ns nn sl fl r kd m o gd l gv lv gd1 gv1 t c q s kk A f g u X fa ga ua Xa nx1 t3 c3 q3 s3 k1 st3 A1) : A1 - A ≤ 2 * (t3 - t) := x.2.2.2.2.1
theorem MID.mo {N k : Nat} {b : Nat → Nat} {sg : Nat → Int32} {cn : Nat} {nt ns nn : Nat → Nat} {sl fl r kd m : Nat} {o gd l : Option Nat} {gv lv : Int32} {gd1 : Option Nat} {gv1 : Int32} {t c q s kk A : Nat} {f : MI} {g : MR} {u : MI} {X : ML × (Nat → Nat) × Nat × Nat} {fa : MI} {ga : MR} {ua : MI} {Xa : ML × (Nat → Nat) × Nat × Nat} {nx1 : Option Nat} {t3 c3 q3 s3 k1 st3 A1 : Nat} (x : MID N k b sg cn nt ns nn sl fl r kd m o gd l gv lv gd1 gv1 t c q s kk A f g u X fa ga ua Xa nx1 t3 c3 q3 s3 k1 st3 A1) : c ≤ c3 ∧ q ≤ q3 ∧ s ≤ s3 ∧ kk + 1 ≤ k1 := x.2.2.2.2.2.1
theorem MID.kb {N k : Nat} {b : Nat → Nat} {sg : Nat → Int32} {cn : Nat} {nt ns nn : Nat → Nat} {sl fl r kd m : Nat} {o gd l : Option Nat} {gv lv : Int32} {gd1 : Option Nat} {gv1 : Int32} {t c q s kk A : Nat} {f : MI} {g : MR} {u : MI} {X : ML × (Nat → Nat) × Nat × Nat} {fa : MI} {ga : MR} {ua : MI} {Xa : ML × (Nat → Nat) × Nat × Nat} {nx1 : Option Nat} {t3 c3 q3 s3 k1 st3 A1 : Nat} (x : MID N k b sg cn nt ns nn sl fl r kd m o gd l gv lv gd1 gv1 t c q s kk A f g u X fa ga ua Xa nx1 t3 c3 q3 s3 k1 st3 A1) : k1 + 1 + t + 1 ≤ kk + t3 := x.2.2.2.2.2.2.1
theorem MID.fc {N k : Nat} {b : Nat → Nat} {sg : Nat → Int32} {cn : Nat} {nt ns nn : Nat → Nat} {sl fl r kd m : Nat} {o gd l : Option Nat} {gv lv : Int32} {gd1 : Option Nat} {gv1 : Int32} {t c q s kk A : Nat} {f : MI} {g : MR} {u : MI} {X : ML × (Nat → Nat) × Nat × Nat} {fa : MI} {ga : MR} {ua : MI} {Xa : ML × (Nat → Nat) × Nat × Nat} {nx1 : Option Nat} {t3 c3 q3 s3 k1 st3 A1 : Nat} (x : MID N k b sg cn nt ns nn sl fl r kd m o gd l gv lv gd1 gv1 t c q s kk A f g u X fa ga ua Xa nx1 t3 c3 q3 s3 k1 st3 A1) : FrK c A f fa := x.2.2.2.2.2.2.2.1
theorem MID.fg {N k : Nat} {b : Nat → Nat} {sg : Nat → Int32} {cn : Nat} {nt ns nn : Nat → Nat} {sl fl r kd m : Nat} {o gd l : Option Nat} {gv lv : Int32} {gd1 : Option Nat} {gv1 : Int32} {t c q s kk A : Nat} {f : MI} {g : MR} {u : MI} {X : ML × (Nat → Nat) × Nat × Nat} {fa : MI} {ga : MR} {ua : MI} {Xa : ML × (Nat → Nat) × Nat × Nat} {nx1 : Option Nat} {t3 c3 q3 s3 k1 st3 A1 : Nat} (x : MID N k b sg cn nt ns nn sl fl r kd m o gd l gv lv gd1 gv1 t c q s kk A f g u X fa ga ua Xa nx1 t3 c3 q3 s3 k1 st3 A1) : FrG A none g ga := x.2.2.2.2.2.2.2.2.1
theorem MID.fu {N k : Nat} {b : Nat → Nat} {sg : Nat → Int32} {cn : Nat} {nt ns nn : Nat → Nat} {sl fl r kd m : Nat} {o gd l : Option Nat} {gv lv : Int32} {gd1 : Option Nat} {gv1 : Int32} {t c q s kk A : Nat} {f : MI} {g : MR} {u : MI} {X : ML × (Nat → Nat) × Nat × Nat} {fa : MI} {ga : MR} {ua : MI} {Xa : ML × (Nat → Nat) × Nat × Nat} {nx1 : Option Nat} {t3 c3 q3 s3 k1 st3 A1 : Nat} (x : MID N k b sg cn nt ns nn sl fl r kd m o gd l gv lv gd1 gv1 t c q s kk A f g u X fa ga ua Xa nx1 t3 c3 q3 s3 k1 st3 A1) : FrU q s kk u ua := x.2.2.2.2.2.2.2.2.2.1
theorem MID.lv {N k : Nat} {b : Nat → Nat} {sg : Nat → Int32} {cn : Nat} {nt ns nn : Nat → Nat} {sl fl r kd m : Nat} {o gd l : Option Nat} {gv lv : Int32} {gd1 : Option Nat} {gv1 : Int32} {t c q s kk A : Nat} {f : MI} {g : MR} {u : MI} {X : ML × (Nat → Nat) × Nat × Nat} {fa : MI} {ga : MR} {ua : MI} {Xa : ML × (Nat → Nat) × Nat × Nat} {nx1 : Option Nat} {t3 c3 q3 s3 k1 st3 A1 : Nat} (x : MID N k b sg cn nt ns nn sl fl r kd m o gd l gv lv gd1 gv1 t c q s kk A f g u X fa ga ua Xa nx1 t3 c3 q3 s3 k1 st3 A1) : ua 22 0 54 = lv := x.2.2.2.2.2.2.2.2.2.2.1
theorem MID.f1 {N k : Nat} {b : Nat → Nat} {sg : Nat → Int32} {cn : Nat} {nt ns nn : Nat → Nat} {sl fl r kd m : Nat} {o gd l : Option Nat} {gv lv : Int32} {gd1 : Option Nat} {gv1 : Int32} {t c q s kk A : Nat} {f : MI} {g : MR} {u : MI} {X : ML × (Nat → Nat) × Nat × Nat} {fa : MI} {ga : MR} {ua : MI} {Xa : ML × (Nat → Nat) × Nat × Nat} {nx1 : Option Nat} {t3 c3 q3 s3 k1 st3 A1 : Nat} (x : MID N k b sg cn nt ns nn sl fl r kd m o gd l gv lv gd1 gv1 t c q s kk A f g u X fa ga ua Xa nx1 t3 c3 q3 s3 k1 st3 A1) : fa 19 A 1 = ua 60 0 kk := x.2.2.2.2.2.2.2.2.2.2.2.1
theorem MID.g2 {N k : Nat} {b : Nat → Nat} {sg : Nat → Int32} {cn : Nat} {nt ns nn : Nat → Nat} {sl fl r kd m : Nat} {o gd l : Option Nat} {gv lv : Int32} {gd1 : Option Nat} {gv1 : Int32} {t c q s kk A : Nat} {f : MI} {g : MR} {u : MI} {X : ML × (Nat → Nat) × Nat × Nat} {fa : MI} {ga : MR} {ua : MI} {Xa : ML × (Nat → Nat) × Nat × Nat} {nx1 : Option Nat} {t3 c3 q3 s3 k1 st3 A1 : Nat} (x : MID N k b sg cn nt ns nn sl fl r kd m o gd l gv lv gd1 gv1 t c q s kk A f g u X fa ga ua Xa nx1 t3 c3 q3 s3 k1 st3 A1) : ga 19 A 2 = o := x.2.2.2.2.2.2.2.2.2.2.2.2.1
theorem MID.g3 {N k : Nat} {b : Nat → Nat} {sg : Nat → Int32} {cn : Nat} {nt ns nn : Nat → Nat} {sl fl r kd m : Nat} {o gd l : Option Nat} {gv lv : Int32} {gd1 : Option Nat} {gv1 : Int32} {t c q s kk A : Nat} {f : MI} {g : MR} {u : MI} {X : ML × (Nat → Nat) × Nat × Nat} {fa : MI} {ga : MR} {ua : MI} {Xa : ML × (Nat → Nat) × Nat × Nat} {nx1 : Option Nat} {t3 c3 q3 s3 k1 st3 A1 : Nat} (x : MID N k b sg cn nt ns nn sl fl r kd m o gd l gv lv gd1 gv1 t c q s kk A f g u X fa ga ua Xa nx1 t3 c3 q3 s3 k1 st3 A1) : ga 19 A 3 = gd := x.2.2.2.2.2.2.2.2.2.2.2.2.2.1
theorem MID.g7 {N k : Nat} {b : Nat → Nat} {sg : Nat → Int32} {cn : Nat} {nt ns nn : Nat → Nat} {sl fl r kd m : Nat} {o gd l : Option Nat} {gv lv : Int32} {gd1 : Option Nat} {gv1 : Int32} {t c q s kk A : Nat} {f : MI} {g : MR} {u : MI} {X : ML × (Nat → Nat) × Nat × Nat} {fa : MI} {ga : MR} {ua : MI} {Xa : ML × (Nat → Nat) × Nat × Nat} {nx1 : Option Nat} {t3 c3 q3 s3 k1 st3 A1 : Nat} (x : MID N k b sg cn nt ns nn sl fl r kd m o gd l gv lv gd1 gv1 t c q s kk A f g u X fa ga ua Xa nx1 t3 c3 q3 s3 k1 st3 A1) : ga 19 A 7 = none := x.2.2.2.2.2.2.2.2.2.2.2.2.2.2.1
theorem MID.g8 {N k : Nat} {b : Nat → Nat} {sg : Nat → Int32} {cn : Nat} {nt ns nn : Nat → Nat} {sl fl r kd m : Nat} {o gd l : Option Nat} {gv lv : Int32} {gd1 : Option Nat} {gv1 : Int32} {t c q s kk A : Nat} {f : MI} {g : MR} {u : MI} {X : ML × (Nat → Nat) × Nat × Nat} {fa : MI} {ga : MR} {ua : MI} {Xa : ML × (Nat → Nat) × Nat × Nat} {nx1 : Option Nat} {t3 c3 q3 s3 k1 st3 A1 : Nat} (x : MID N k b sg cn nt ns nn sl fl r kd m o gd l gv lv gd1 gv1 t c q s kk A f g u X fa ga ua Xa nx1 t3 c3 q3 s3 k1 st3 A1) : ga 19 A 8 = nx1 := x.2.2.2.2.2.2.2.2.2.2.2.2.2.2.2.1
theorem MID.g9 {N k : Nat} {b : Nat → Nat} {sg : Nat → Int32} {cn : Nat} {nt ns nn : Nat → Nat} {sl fl r kd m : Nat} {o gd l : Option Nat} {gv lv : Int32} {gd1 : Option Nat} {gv1 : Int32} {t c q s kk A : Nat} {f : MI} {g : MR} {u : MI} {X : ML × (Nat → Nat) × Nat × Nat} {fa : MI} {ga : MR} {ua : MI} {Xa : ML × (Nat → Nat) × Nat × Nat} {nx1 : Option Nat} {t3 c3 q3 s3 k1 st3 A1 : Nat} (x : MID N k b sg cn nt ns nn sl fl r kd m o gd l gv lv gd1 gv1 t c q s kk A f g u X fa ga ua Xa nx1 t3 c3 q3 s3 k1 st3 A1) : ga 19 A 9 = none := x.2.2.2.2.2.2.2.2.2.2.2.2.2.2.2.2.1
theorem MID.g10 {N k : Nat} {b : Nat → Nat} {sg : Nat → Int32} {cn : Nat} {nt ns nn : Nat → Nat} {sl fl r kd m : Nat} {o gd l : Option Nat} {gv lv : Int32} {gd1 : Option Nat} {gv1 : Int32} {t c q s kk A : Nat} {f : MI} {g : MR} {u : MI} {X : ML × (Nat → Nat) × Nat × Nat} {fa : MI} {ga : MR} {ua : MI} {Xa : ML × (Nat → Nat) × Nat × Nat} {nx1 : Option Nat} {t3 c3 q3 s3 k1 st3 A1 : Nat} (x : MID N k b sg cn nt ns nn sl fl r kd m o gd l gv lv gd1 gv1 t c q s kk A f g u X fa ga ua Xa nx1 t3 c3 q3 s3 k1 st3 A1) : ga 19 A 10 = none := x.2.2.2.2.2.2.2.2.2.2.2.2.2.2.2.2.2.1
theorem MID.u64 {N k : Nat} {b : Nat → Nat} {sg : Nat → Int32} {cn : Nat} {nt ns nn : Nat → Nat} {sl fl r kd m : Nat} {o gd l : Option Nat} {gv lv : Int32} {gd1 : Option Nat} {gv1 : Int32} {t c q s kk A : Nat} {f : MI} {g : MR} {u : MI} {X : ML × (Nat → Nat) × Nat × Nat} {fa : MI} {ga : MR} {ua : MI} {Xa : ML × (Nat → Nat) × Nat × Nat} {nx1 : Option Nat} {t3 c3 q3 s3 k1 st3 A1 : Nat} (x : MID N k b sg cn nt ns nn sl fl r kd m o gd l gv lv gd1 gv1 t c q s kk A f g u X fa ga ua Xa nx1 t3 c3 q3 s3 k1 st3 A1) : ua 64 0 kk = gv := x.2.2.2.2.2.2.2.2.2.2.2.2.2.2.2.2.2.2.1
theorem MID.u59 {N k : Nat} {b : Nat → Nat} {sg : Nat → Int32} {cn : Nat} {nt ns nn : Nat → Nat} {sl fl r kd m : Nat} {o gd l : Option Nat} {gv lv : Int32} {gd1 : Option Nat} {gv1 : Int32} {t c q s kk A : Nat} {f : MI} {g : MR} {u : MI} {X : ML × (Nat → Nat) × Nat × Nat} {fa : MI} {ga : MR} {ua : MI} {Xa : ML × (Nat → Nat) × Nat × Nat} {nx1 : Option Nat} {t3 c3 q3 s3 k1 st3 A1 : Nat} (x : MID N k b sg cn nt ns nn sl fl r kd m o gd l gv lv gd1 gv1 t c q s kk A f g u X fa ga ua Xa nx1 t3 c3 q3 s3 k1 st3 A1) : (fa 19 A 0 = 315 ∧ ua 59 0 kk = 19 ∧ CDp N k b sg fa ua c3 q3 s3 fl (fa 19 A 4) (ua 61 0 kk) ∧ gd1 = gd ∧ gv1 = gv) ∨ (fa 19 A 0 = 316 ∧ ua 59 0 kk = 20 ∧ gd1 = some A ∧ gv1 = nI kk) := x.2.2.2.2.2.2.2.2.2.2.2.2.2.2.2.2.2.2.2.1
theorem MID.u62 {N k : Nat} {b : Nat → Nat} {sg : Nat → Int32} {cn : Nat} {nt ns nn : Nat → Nat} {sl fl r kd m : Nat} {o gd l : Option Nat} {gv lv : Int32} {gd1 : Option Nat} {gv1 : Int32} {t c q s kk A : Nat} {f : MI} {g : MR} {u : MI} {X : ML × (Nat → Nat) × Nat × Nat} {fa : MI} {ga : MR} {ua : MI} {Xa : ML × (Nat → Nat) × Nat × Nat} {nx1 : Option Nat} {t3 c3 q3 s3 k1 st3 A1 : Nat} (x : MID N k b sg cn nt ns nn sl fl r kd m o gd l gv lv gd1 gv1 t c q s kk A f g u X fa ga ua Xa nx1 t3 c3 q3 s3 k1 st3 A1) : ua 62 0 kk = nI (k1 + 1) := x.2.2.2.2.2.2.2.2.2.2.2.2.2.2.2.2.2.2.2.2.1
theorem MID.j59 {N k : Nat} {b : Nat → Nat} {sg : Nat → Int32} {cn : Nat} {nt ns nn : Nat → Nat} {sl fl r kd m : Nat} {o gd l : Option Nat} {gv lv : Int32} {gd1 : Option Nat} {gv1 : Int32} {t c q s kk A : Nat} {f : MI} {g : MR} {u : MI} {X : ML × (Nat → Nat) × Nat × Nat} {fa : MI} {ga : MR} {ua : MI} {Xa : ML × (Nat → Nat) × Nat × Nat} {nx1 : Option Nat} {t3 c3 q3 s3 k1 st3 A1 : Nat} (x : MID N k b sg cn nt ns nn sl fl r kd m o gd l gv lv gd1 gv1 t c q s kk A f g u X fa ga ua Xa nx1 t3 c3 q3 s3 k1 st3 A1) : ua 59 0 k1 = 51 := x.2.2.2.2.2.2.2.2.2.2.2.2.2.2.2.2.2.2.2.2.2.1
theorem MID.sm {N k : Nat} {b : Nat → Nat} {sg : Nat → Int32} {cn : Nat} {nt ns nn : Nat → Nat} {sl fl r kd m : Nat} {o gd l : Option Nat} {gv lv : Int32} {gd1 : Option Nat} {gv1 : Int32} {t c q s kk A : Nat} {f : MI} {g : MR} {u : MI} {X : ML × (Nat → Nat) × Nat × Nat} {fa : MI} {ga : MR} {ua : MI} {Xa : ML × (Nat → Nat) × Nat × Nat} {nx1 : Option Nat} {t3 c3 q3 s3 k1 st3 A1 : Nat} (x : MID N k b sg cn nt ns nn sl fl r kd m o gd l gv lv gd1 gv1 t c q s kk A f g u X fa ga ua Xa nx1 t3 c3 q3 s3 k1 st3 A1) : ∃ γ : Gh, ∀ F G U Γ n sF qF, AGR N k b sg sl fl r kd (A + 1) A1 A1 (kk + 1) k1 c3 q3 s3 γ fa ga ua F G U Γ n sF qF → FO F G Γ r (m + 1) (some A) gd1 l gv1 lv → EndG F G U Γ r (some A) k1 → (∀ a, A + 1 ≤ a → a < A1 → LocG F G U Γ n sF qF r a) ∧ NXT F G U Γ r (some A) nx1 (kk + 1) := x.2.2.2.2.2.2.2.2.2.2.2.2.2.2.2.2.2.2.2.2.2.2.1
theorem MID.nm {N k : Nat} {b : Nat → Nat} {sg : Nat → Int32} {cn : Nat} {nt ns nn : Nat → Nat} {sl fl r kd m : Nat} {o gd l : Option Nat} {gv lv : Int32} {gd1 : Option Nat} {gv1 : Int32} {t c q s kk A : Nat} {f : MI} {g : MR} {u : MI} {X : ML × (Nat → Nat) × Nat × Nat} {fa : MI} {ga : MR} {ua : MI} {Xa : ML × (Nat → Nat) × Nat × Nat} {nx1 : Option Nat} {t3 c3 q3 s3 k1 st3 A1 : Nat} (x : MID N k b sg cn nt ns nn sl fl r kd m o gd l gv lv gd1 gv1 t c q s kk A f g u X fa ga ua Xa nx1 t3 c3 q3 s3 k1 st3 A1) : NMI N k b sg f u c q → NMI N k b sg fa ua c3 q3 := x.2.2.2.2.2.2.2.2.2.2.2.2.2.2.2.2.2.2.2.2.2.2.2
section Tw2
variable {L : Nat} {xs : Nat → Int32} {Y : MR × ML × (Nat → Nat) × Nat × Nat} {N k t c q s kk st A cn sl fl r kd m : Nat} {b : Nat → Nat} {sg : Nat → Int32} {f f2 u u2 : MI} {g g2 : MR} {X X2 : ML × (Nat → Nat) × Nat × Nat} {nt ns nn : Nat → Nat} {o gd l : Option Nat} {gv lv : Int32}
variable {A1 A2 k1 k2 t3 c3 q3 s3 st3 : Nat} {fa ua fb ub ff uf : MI} {ga gb gf : MR} {nx1 nx2 gd1 : Option Nat} {gv1 : Int32} {Xa Xb : ML × (Nat → Nat) × Nat × Nat}
/-- without a second block -/
theorem bl_one (hm : m ≤ 9) (M : MID N k b sg cn nt ns nn sl fl r kd m o gd l gv lv gd1 gv1 t c q s kk A f g u X fa ga ua Xa nx1 t3 c3 q3 s3 k1 st3 A1) : PGd N k b sg cn nt ns nn sl fl r kd m o gd l gv lv t c q s kk A f g u X fa ga (m3 ua 62 0 k1 (nI (k1 + 1))) Xa t3 c3 q3 s3 (k1 + 1) st3 A1 := by
  have h1 := M.tt
  have h2 := M.mo
  have h3 := M.kb
  have h4 := M.al
  have h5 := M.aA
  have htk := M.sx.gx.px.tk
  have hkp := M.sx.gx.px.lc.kp
  have hkl := M.sx.kl
  have uu : ∀ R o i, ¬ (R = 62 ∧ i = k1) → m3 ua 62 0 k1 (nI (k1 + 1)) R o i = ua R o i := fun R o i h => m3_no (fun w => h ⟨w.1, w.2.2⟩)
  have P : PX fa (m3 ua 62 0 k1 (nI (k1 + 1))) N k b sg t3 := M.sx.gx.px.fr (fun _ _ _ _ => rfl) (fun R o i z => uu R o i (by omega))
  refine ⟨h1, SX.mw M.sx P M.sx.gx.cc M.sx.gx.cl ((uu _ _ _ (by omega)).trans M.sx.gx.qu) M.sx.gx.ql ((uu _ _ _ (by omega)).trans M.sx.su) M.sx.sl ((uu _ _ _ (by omega)).trans M.sx.ku) M.sx.kl M.sx.sc ((uu _ _ _ (by omega)).trans M.sx.sr) M.sx.sb (fun _ _ _ _ => rfl) (fun R o i z => uu R o i (by omega)), M.xr, by omega, h4, by omega, by omega, M.fc, M.fg, fun R o i z => (uu R o i (by omega)).trans (M.fu R o i z), (uu _ _ _ (by omega)).trans M.lv, M.g7, ?_, fun nm => NMI_cg (M.nm nm) (fun _ _ => rfl) (fun R i hR _ => uu R 0 i (by omega))⟩
  · refine bl_sm (C1 := c3) (Q1 := q3) (S1 := s3) (C2 := c3) (Q2 := q3) (S2 := s3) (fa := fa) (ua := ua) (ga := ga) (fb := fa) (ub := ua) (gb := ga) (k1 := k1) (gd1 := gd1) (gv1 := gv1) (nx1 := nx1) (nx2 := none) hm M.sx.kd h5 (Nat.le_refl A1) (by omega) (Nat.le_refl _) (by omega) M.sm ⟨fun _ => (0, 0, 0, 0, none), fun F G U Γ n sF qF a1 a2 a3 => ⟨fun a x1 x2 => by omega, fun x hx => (by cases hx), fun _ => a3⟩⟩ (M.f1.trans (uu _ _ _ (by omega)).symm) M.g2 M.g3 M.g8 M.g9 M.g10 ((uu _ _ _ (by omega)).trans M.u64) ?_ ((uu _ _ _ (by omega)).trans M.u62) ((uu _ _ _ (by omega)).trans M.j59) m3_eq (fun _ _ _ _ => rfl) (fun _ _ _ _ => rfl) (fun _ _ _ _ => rfl) (fun _ _ _ _ => rfl) (fun R i x1 x2 x3 x4 => uu _ _ _ (by omega)) (fun R i x1 x2 x3 x4 => by omega) (fun _ _ => rfl) (fun _ _ => rfl) (Nat.le_refl _) (Nat.le_refl _) (fun R i x1 x2 => uu _ _ _ (by omega)) (fun R i x1 x2 => uu _ _ _ (by omega)) (Nat.le_refl _) (Nat.le_refl _) (fun R i x1 x2 x3 => uu _ _ _ (by omega)) (fun R i x1 x2 x3 => uu _ _ _ (by omega)) (Nat.le_refl _) (Nat.le_refl _)
    rw [uu 59 0 kk (by omega), uu 61 0 kk (by omega)]
    rcases M.u59 with ⟨z1, z2, z3, z4⟩ | z
    · exact Or.inl ⟨z1, z2, CDp.mv (f := fa) (u := ua) (fun _ _ => rfl) (Nat.le_refl _) (fun R i x1 x2 => uu _ _ _ (by omega)) (Nat.le_refl _) (fun R i x1 x2 x3 => uu _ _ _ (by omega)) (Nat.le_refl _) (Nat.le_refl _) z3, z4⟩
    · exact Or.inr z
theorem bl_mid {F3 U3 ua0 : MI} {ga0 : MR} {t2 c2 q2 s2 : Nat} (H : SX N k b sg cn nt ns nn sl fl r kd f u t c q s kk st) (hA : X.2.1 19 = A) (hm : m ≤ 9) (ht : t < t2) (hc : c ≤ c2) (hq : q ≤ q2) (hs : s ≤ s2) (hFF : FrK c A f F3) (hUU : FrU q s kk u U3) (e1 : F3 19 A 1 = U3 60 0 kk) (e64 : U3 64 0 kk = gv) (hN : NMI N k b sg f u c q → NMI N k b sg F3 U3 c2 q2)
    (e59 : (F3 19 A 0 = 315 ∧ U3 59 0 kk = 19 ∧ CDp N k b sg F3 U3 c2 q2 s2 fl (F3 19 A 4) (U3 61 0 kk) ∧ gd1 = gd ∧ gv1 = gv) ∨ (F3 19 A 0 = 316 ∧ U3 59 0 kk = 20 ∧ gd1 = some A ∧ gv1 = nI kk))
    (K : KGd N k b sg cn nt ns nn sl fl r kd (m + 1) (some A) gd1 l gv1 lv (t2 + 1) c2 q2 s2 (kk + 1) (A + 1) none F3 (NG g A o gd) U3 (NX X A) fa ga0 ua0 Xa nx1 t3 c3 q3 s3 k1 st3 A1) :
    MID N k b sg cn nt ns nn sl fl r kd m o gd l gv lv gd1 gv1 t c q s kk A f g u X fa (m3 ga0 19 A 8 nx1) (m3 (NW ua0 k1 51 (nI (tS b N t)) 0 0 0 gv) 62 0 kk (nI (k1 + 1))) Xa nx1 t3 c3 q3 s3 k1 st3 A1 := by
  have X1 := XR.new hA
  have h1 := K.tt
  have h2 := K.mo
  have h3 := K.kb
  have h4 := K.al
  have h5 := K.xr.le
  have hkl := H.kl
  obtain ⟨n1, -, -, -, -, -, n7⟩ := NW_v (u := ua0) (k2 := k1) (p0 := 51) (p1 := nI (tS b N t)) (p2 := 0) (p3 := 0) (p4 := 0) (p5 := gv)
  generalize hU5 : m3 (NW ua0 k1 51 (nI (tS b N t)) 0 0 0 gv) 62 0 kk (nI (k1 + 1)) = U5
  have uu : ∀ R o i, ¬ (59 ≤ R ∧ R ≤ 64 ∧ (i = k1 ∨ i = kk)) → ¬ (R = 22 ∧ i = 41) → U5 R o i = ua0 R o i := fun R o i x1 x2 => by rw [← hU5, m3_no (by omega), NW_no (by omega) (by omega)]
  have uk : ∀ R, 59 ≤ R → R ≤ 64 → R ≠ 62 → U5 R 0 kk = U3 R 0 kk := fun R x1 x2 x3 => by rw [← hU5, m3_no (by omega), NW_no (by omega) (by omega), K.fu R 0 kk (by omega)]
  have u62 : U5 62 0 kk = nI (k1 + 1) := by rw [← hU5, m3_eq]
  have u59 : U5 59 0 k1 = 51 := by rw [← hU5, m3_no (by omega), n1]
  have u41 : U5 22 0 41 = nI (k1 + 1) := by rw [← hU5, m3_no (by omega), n7]
  have P : PX fa U5 N k b sg t3 := K.sx.gx.px.fr (fun _ _ _ _ => rfl) (fun R o i z => uu R o i (by omega) (by omega))
  have gg : ∀ i, i ≠ 8 → m3 ga0 19 A 8 nx1 19 A i = (NG g A o gd) 19 A i := fun i hi => (m3_no (by omega)).trans (K.fg 19 A i (fun w => w.2.elim (fun y => by omega) (fun y => by cases y.1)))
  refine ⟨by omega, SX.mw K.sx P K.sx.gx.cc K.sx.gx.cl ((uu _ _ _ (by omega) (by omega)).trans K.sx.gx.qu) K.sx.gx.ql ((uu _ _ _ (by omega) (by omega)).trans K.sx.su) K.sx.sl u41 (by omega) K.sx.sc ((uu _ _ _ (by omega) (by omega)).trans K.sx.sr) K.sx.sb (fun _ _ _ _ => rfl) (fun R o i z => uu R o i (by omega) (by omega)), X1.tr K.xr, by omega, by omega, by omega, by omega, hFF.tr K.fc hc (by omega), fun R o i z => ?_, fun R o i z => (uu R o i (by omega) (by omega)).trans (hUU.tr K.fu hq hs (by omega) R o i z), (uu _ _ _ (by omega) (by omega)).trans K.lv, ?_, (gg 2 (by decide)).trans NG_2, (gg 3 (by decide)).trans NG_3, (gg 7 (by decide)).trans (NG_i (by decide) (by decide)), m3_eq, (gg 9 (by decide)).trans (NG_i (by decide) (by decide)), (gg 10 (by decide)).trans (NG_i (by decide) (by decide)), (uk 64 (by omega) (by omega) (by omega)).trans e64, ?_, u62, u59, ?_, fun nm => NMI_cg (K.nm (hN nm)) (fun _ _ => rfl) (fun R i hR _ => uu R 0 i (by omega) (by omega))⟩
  · rw [m3_no (fun w => z ⟨w.1, Or.inl (by omega)⟩), K.fg R o i (fun w => z ⟨w.1, w.2.elim (fun y => Or.inl (by omega)) Or.inr⟩)]
    exact NG_o (fun w => z ⟨w.1, Or.inl (by omega)⟩)
  · rw [K.fc 19 A 1 (by omega), e1, uk 60 (by omega) (by omega) (by omega)]
  · rw [K.fc 19 A 0 (by omega), K.fc 19 A 4 (by omega), uk 59 (by omega) (by omega) (by omega), uk 61 (by omega) (by omega) (by omega)]
    rcases e59 with ⟨z1, z2, z3, z4⟩ | z
    · exact Or.inl ⟨z1, z2, CDp.mv (f := F3) (u := U3) (fun i hi => K.fc 32 0 i (by omega)) (by omega) (fun R i x1 x2 => (uu R 0 i (by omega) (by omega)).trans (K.fu R 0 i (by omega))) (by omega) (fun R i x1 x2 x3 => (uu R 0 i (by omega) (by omega)).trans (K.fu R 0 i (by omega))) (by omega) (Nat.le_refl fl) z3, z4⟩
    · exact Or.inr z
  · obtain ⟨γ1, h⟩ := K.sm
    refine ⟨γ1, fun F G U Γ n sF qF Q1 Q2 Q3 => ?_⟩
    have T := h F G U Γ n sF qF (Q1.sub (A1 := A + 1) (A2 := A1) (k1 := kk + 1) (k2 := k1) (C := c3) (Q := q3) (S := s3) (γ1 := γ1) (f3 := fa) (g3 := ga0) (u3 := ua0) (Or.inr (Nat.le_refl A1)) (Nat.le_refl _) (Nat.le_refl _) (Nat.le_refl _) (Nat.le_refl _) (fun _ _ _ => rfl) (fun _ _ _ _ => rfl) (fun a i x1 x2 => m3_no (by omega)) (fun R i x1 x2 x3 x4 => uu R 0 i (by omega) (by omega)) (fun _ _ => rfl) (Nat.le_refl _) (fun R i x1 x2 => uu R 0 i (by omega) (by omega)) (Nat.le_refl _) (fun R i x1 x2 x3 => uu R 0 i (by omega) (by omega)) (Nat.le_refl _)) Q2 Q3
    exact ⟨T.1, T.2.1⟩
/-- the second block -/
theorem bl_two (hm : m ≤ 9) (hch : CH A f g m o l) (hlv : (lv = -1) = (l = none)) (M : MID N k b sg cn nt ns nn sl fl r kd m o gd l gv lv gd1 gv1 t c q s kk A f g u X fa ga ua Xa nx1 t3 c3 q3 s3 k1 st3 A1) (n0 : sg t3 ≠ 0) (n1 : sg t3 ≠ 1) (IH : ∀ t1, t < t1 → BLKs L xs Y N k b sg cn nt ns nn sl fl r kd t1) :
    ∃ u5 fb gb ub Xb nx2 w2, EL (mP L xs) 7 101 [rv 22 (some 0)] (ua, Y) = some (.inl none, (u5, Y)) ∧ (∀ d g X, EL (mP L xs) (d + 1) 42 [rv 20 (some 0)] (fa, g, X) = some (.inl none, (m3 fa 20 0 6 (nI (t3 + 1)), g, X))) ∧ (∀ d, 78 + 3 * (11 - m) ≤ d → EL (mP L xs) d 81 [rv 12 (some 0), iv (nI (m + 1 + 1)), rv 19 (some A), rv 19 gd, rv 16 (some r)] (m3 fa 20 0 6 (nI (t3 + 1)), ga, Xa) = some (.inl (some (rv 19 nx2)), (fb, gb, Xb))) ∧ (∀ d, 78 + 3 * (11 - m) ≤ d → EL (mP L xs) d 125 [rv 22 (some 0), iv (nI (m + 1 + 1)), iv gv] (u5, Y) = some (.inl (some (iv w2)), (ub, Y))) ∧ ((∃ t' c' q' s' kk' st' A', PGd N k b sg cn nt ns nn sl fl r kd m o gd l gv lv t c q s kk A f g u X fb (m3 gb 19 A 9 nx2) (m3 ub 62 0 k1 (ub 22 0 41)) Xb t' c' q' s' kk' st' A') ∨ SB k t c q s kk A none f g u X fb (m3 gb 19 A 9 nx2) (m3 ub 62 0 k1 (ub 22 0 41)) Xb) := by
  have h1 := M.tt
  have h2 := M.mo
  have h3 := M.kb
  have h4 := M.al
  have h5 := M.aA
  have htk := M.sx.gx.px.tk
  have hkp := M.sx.gx.px.lc.kp
  obtain ⟨b1, u5, b2, b3, b4⟩ := px_adv (L := L) (xs := xs) (Y := Y) M.sx.gx.px n0 n1
  have H5 := M.sx.adv b4 b3
  have e20 : ∀ R o i, R ≠ 20 → m3 fa 20 0 6 (nI (t3 + 1)) R o i = fa R o i := fun R o i h => m3_r h
  have n13 : ¬ (fa 19 A 0 = 313 ∨ fa 19 A 0 = 314) := by
    rcases M.u59 with ⟨z, -⟩ | ⟨z, -⟩ <;> rw [z] <;> decide
  have hch5 : CH A1 (m3 fa 20 0 6 (nI (t3 + 1))) ga (m + 1) (some A) l := by
    refine ⟨A, rfl, by omega, Or.inr ⟨by rw [e20 19 A 0 (by decide)]; exact n13, ?_⟩⟩
    rw [M.g2]
    exact hch.fr (by omega) (fun a ha => ⟨(e20 19 a 0 (by decide)).trans (M.fc 19 a 0 (by omega)), M.fg 19 a 2 (fun w => w.2.elim (fun y => by omega) (fun y => by cases y.1))⟩)
  obtain ⟨fb, gb, ub, Xb, nx2, w2, d1, d2, d3⟩ := IH (t3 + 1) (by omega) (m + 1) (some A) gd l gv lv (m3 fa 20 0 6 (nI (t3 + 1))) ga u5 Xa c3 q3 s3 (k1 + 1) st3 A1 (by omega) H5 M.xr.c1 hch5 ((b3 22 0 54 (by omega)).trans M.lv) hlv
  have hGG : FrG A1 none ga gb → FrG A none g (m3 gb 19 A 9 nx2) := fun h R o i z => by
    rw [m3_no (fun w => z ⟨w.1, Or.inl (by omega)⟩), h R o i (fun w => z ⟨w.1, w.2.elim (fun y => Or.inl (by omega)) Or.inr⟩)]
    exact M.fg R o i z
  have hFF : FrK c3 A1 (m3 fa 20 0 6 (nI (t3 + 1))) fb → FrK c3 A1 fa fb := fun h R o i z => (h R o i z).trans (e20 R o i (by omega))
  have hUU : FrU q3 s3 (k1 + 1) u5 ub → FrU q3 s3 (k1 + 1) ua ub := fun h R o i z => (h R o i z).trans (b3 R o i (by omega))
  refine ⟨u5, fb, gb, ub, Xb, nx2, w2, b2, b1, fun d hd => d1 d (by omega), fun d hd => d2 d (by omega), ?_⟩
  rcases d3 with ⟨-, t4, c4, q4, s4, k2, st4, A2, K⟩ | ⟨-, K⟩
  · have e1 := K.tt
    have e2 := K.mo
    have e3 := K.kb
    have e4 := K.al
    have e5 := K.xr.le
    have e6 := K.sx.kl
    have e7 := K.sx.gx.px.tk
    have kF := hFF K.fc
    have kU := hUU K.fu
    rw [K.sx.ku]
    have uu : ∀ R o i, ¬ (R = 62 ∧ i = k1) → m3 ub 62 0 k1 (nI k2) R o i = ub R o i := fun R o i h => m3_no (fun w => h ⟨w.1, w.2.2⟩)
    have ux : ∀ R i, 59 ≤ R → R ≤ 64 → i < k1 + 1 → ¬ (R = 62 ∧ i = k1) → m3 ub 62 0 k1 (nI k2) R 0 i = ua R 0 i := fun R i x1 x2 x3 x4 => (uu R 0 i x4).trans (kU R 0 i (by omega))
    have P : PX fb (m3 ub 62 0 k1 (nI k2)) N k b sg t4 := K.sx.gx.px.fr (fun _ _ _ _ => rfl) (fun R o i z => uu R o i (by omega))
    have gx : ∀ a i, a < A1 → ¬ (a = A ∧ i = 9) → m3 gb 19 A 9 nx2 19 a i = ga 19 a i := fun a i x1 x2 => (m3_no (by omega)).trans (K.fg 19 a i (fun w => w.2.elim (fun y => by omega) (fun y => by cases y.1)))
    obtain ⟨γ2, h⟩ := K.sm
    refine Or.inl ⟨t4, c4, q4, s4, k2, st4, A2, ⟨by omega, SX.mw K.sx P K.sx.gx.cc K.sx.gx.cl ((uu _ _ _ (by omega)).trans K.sx.gx.qu) K.sx.gx.ql ((uu _ _ _ (by omega)).trans K.sx.su) K.sx.sl ((uu _ _ _ (by omega)).trans K.sx.ku) K.sx.kl K.sx.sc ((uu _ _ _ (by omega)).trans K.sx.sr) K.sx.sb (fun _ _ _ _ => rfl) (fun R o i z => uu R o i (by omega)), M.xr.tr K.xr, by omega, by omega, by omega, by omega, M.fc.tr kF (by omega) (by omega), hGG K.fg, fun R o i z => (uu R o i (by omega)).trans (M.fu.tr kU (by omega) (by omega) (by omega) R o i z), (uu _ _ _ (by omega)).trans K.lv, (gx A 7 (by omega) (by omega)).trans M.g7, ?_, fun nm => NMI_cg (K.nm (NMI_cg (M.nm nm) (fun i _ => e20 32 0 i (by decide)) (fun R i hR _ => b3 R 0 i (by omega)))) (fun _ _ => rfl) (fun R i hR _ => uu R 0 i (by omega))⟩⟩
    refine bl_sm (C1 := c3) (Q1 := q3) (S1 := s3) (C2 := c4) (Q2 := q4) (S2 := s4) (fa := fa) (ua := ua) (ga := ga) (fb := fb) (ub := ub) (gb := gb) (k1 := k1) (gd1 := gd1) (gv1 := gv1) (nx1 := nx1) (nx2 := nx2) hm K.sx.kd h5 e5 (by omega) (by omega) (by omega) M.sm ⟨γ2, fun F G U Γ n sF qF a1 a2 a3 => ⟨(h F G U Γ n sF qF a1 a2 a3).1, (h F G U Γ n sF qF a1 a2 a3).2.1⟩⟩ ?_ ((gx A 2 (by omega) (by omega)).trans M.g2) ((gx A 3 (by omega) (by omega)).trans M.g3) ((gx A 8 (by omega) (by omega)).trans M.g8) m3_eq ((gx A 10 (by omega) (by omega)).trans M.g10) ((ux 64 kk (by omega) (by omega) (by omega) (by omega)).trans M.u64) ?_ ((ux 62 kk (by omega) (by omega) (by omega) (by omega)).trans M.u62) ((ux 59 k1 (by omega) (by omega) (by omega) (by omega)).trans M.j59) m3_eq (fun a i x1 x2 => kF 19 a i (by omega)) (fun _ _ _ _ => rfl) (fun a i x1 x2 => gx a i x2 (by omega)) (fun a i x1 x2 => m3_no (by omega)) (fun R i x1 x2 x3 x4 => ux R i x1 x2 (by omega) (by omega)) (fun R i x1 x2 x3 x4 => uu R 0 i (by omega)) (fun i hi => kF 32 0 i (by omega)) (fun _ _ => rfl) (by omega) (Nat.le_refl _) (fun R i x1 x2 => (uu R 0 i (by omega)).trans (kU R 0 i (by omega))) (fun R i x1 x2 => uu R 0 i (by omega)) (by omega) (Nat.le_refl _) (fun R i x1 x2 x3 => (uu R 0 i (by omega)).trans (kU R 0 i (by omega))) (fun R i x1 x2 x3 => uu R 0 i (by omega)) (by omega) (Nat.le_refl _)
    · rw [kF 19 A 1 (by omega), M.f1, ux 60 kk (by omega) (by omega) (by omega) (by omega)]
    · rw [kF 19 A 0 (by omega), kF 19 A 4 (by omega), ux 59 kk (by omega) (by omega) (by omega) (by omega), ux 61 kk (by omega) (by omega) (by omega) (by omega)]
      rcases M.u59 with ⟨z1, z2, z3, z4⟩ | z
      · exact Or.inl ⟨z1, z2, CDp.mv (f := fa) (u := ua) (fun i hi => kF 32 0 i (by omega)) (by omega) (fun R i x1 x2 => (uu R 0 i (by omega)).trans (kU R 0 i (by omega))) (by omega) (fun R i x1 x2 x3 => (uu R 0 i (by omega)).trans (kU R 0 i (by omega))) (by omega) (Nat.le_refl fl) z3, z4⟩
      · exact Or.inr z
  · obtain ⟨p, w, E, y1, y2⟩ := K.bd
    obtain ⟨c5, z1, z2, z3⟩ := K.cc
    obtain ⟨A5, x1, x2⟩ := K.xr
    have := x1.le
    have kF := hFF K.fc
    have kU := hUU K.fu
    exact Or.inr ⟨⟨p, w, E, (m3_r (by decide)).trans y1, (m3_r (by decide)).trans y2⟩, ⟨c5, by omega, z2, z3⟩, ⟨A5, M.xr.tr x1, by omega⟩, M.fc.tr kF (by omega) (by omega), hGG K.fg, fun R o i z => (m3_no (by omega)).trans (M.fu.tr kU (by omega) (by omega) (by omega) R o i z)⟩
end Tw2
