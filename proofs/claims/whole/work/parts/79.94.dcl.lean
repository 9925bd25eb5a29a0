/-! ===== read: what is told so far ===== -/
def AGS (N k : Nat) (b : Nat → Nat) (sg : Nat → Int32) (sl fl n A0 A1 k1 C Q S : Nat) (γ : Gh) (f : MI) (g : MR) (u : MI) (F : MI) (G : MR) (U : MI) (Γ : Gh) (n2 s q : Nat) : Prop := (∀ a, A0 ≤ a → a < A1 → Γ a = γ a) ∧ (∀ a, A0 ≤ a → a < A1 → ∀ i, i ≠ 6 → F 19 a i = f 19 a i) ∧ (∀ a, A0 ≤ a → a < A1 → ∀ i, G 19 a i = g 19 a i) ∧ (∀ R i, 59 ≤ R → R ≤ 64 → i < k1 → U R 0 i = u R 0 i) ∧ (∀ r, r < n → U 49 0 r = u 49 0 r ∧ U 57 0 r = u 57 0 r ∧ G 18 r 2 = g 18 r 2) ∧ (∀ y z, FMp N k b sg f u C Q y z → FMx F U n2 y z) ∧ (∀ y z, CDp N k b sg f u C Q S fl y z → CDx F U n2 q y z) ∧ (sl ≤ s) ∧ (fl ≤ q)
theorem AGS.gh {N k : Nat} {b : Nat → Nat} {sg : Nat → Int32} {sl fl n A0 A1 k1 C Q S : Nat} {γ : Gh} {f : MI} {g : MR} {u : MI} {F : MI} {G : MR} {U : MI} {Γ : Gh} {n2 s q : Nat} (x : AGS N k b sg sl fl n A0 A1 k1 C Q S γ f g u F G U Γ n2 s q) : ∀ a, A0 ≤ a → a < A1 → Γ a = γ a := x.1
theorem AGS.fs {N k : Nat} {b : Nat → Nat} {sg : Nat → Int32} {sl fl n A0 A1 k1 C Q S : Nat} {γ : Gh} {f : MI} {g : MR} {u : MI} {F : MI} {G : MR} {U : MI} {Γ : Gh} {n2 s q : Nat} (x : AGS N k b sg sl fl n A0 A1 k1 C Q S γ f g u F G U Γ n2 s q) : ∀ a, A0 ≤ a → a < A1 → ∀ i, i ≠ 6 → F 19 a i = f 19 a i := x.2.1
theorem AGS.gs {N k : Nat} {b : Nat → Nat} {sg : Nat → Int32} {sl fl n A0 A1 k1 C Q S : Nat} {γ : Gh} {f : MI} {g : MR} {u : MI} {F : MI} {G : MR} {U : MI} {Γ : Gh} {n2 s q : Nat} (x : AGS N k b sg sl fl n A0 A1 k1 C Q S γ f g u F G U Γ n2 s q) : ∀ a, A0 ≤ a → a < A1 → ∀ i, G 19 a i = g 19 a i := x.2.2.1
theorem AGS.os {N k : Nat} {b : Nat → Nat} {sg : Nat → Int32} {sl fl n A0 A1 k1 C Q S : Nat} {γ : Gh} {f : MI} {g : MR} {u : MI} {F : MI} {G : MR} {U : MI} {Γ : Gh} {n2 s q : Nat} (x : AGS N k b sg sl fl n A0 A1 k1 C Q S γ f g u F G U Γ n2 s q) : ∀ R i, 59 ≤ R → R ≤ 64 → i < k1 → U R 0 i = u R 0 i := x.2.2.2.1
theorem AGS.kr {N k : Nat} {b : Nat → Nat} {sg : Nat → Int32} {sl fl n A0 A1 k1 C Q S : Nat} {γ : Gh} {f : MI} {g : MR} {u : MI} {F : MI} {G : MR} {U : MI} {Γ : Gh} {n2 s q : Nat} (x : AGS N k b sg sl fl n A0 A1 k1 C Q S γ f g u F G U Γ n2 s q) : ∀ r, r < n → U 49 0 r = u 49 0 r ∧ U 57 0 r = u 57 0 r ∧ G 18 r 2 = g 18 r 2 := x.2.2.2.2.1
theorem AGS.fm {N k : Nat} {b : Nat → Nat} {sg : Nat → Int32} {sl fl n A0 A1 k1 C Q S : Nat} {γ : Gh} {f : MI} {g : MR} {u : MI} {F : MI} {G : MR} {U : MI} {Γ : Gh} {n2 s q : Nat} (x : AGS N k b sg sl fl n A0 A1 k1 C Q S γ f g u F G U Γ n2 s q) : ∀ y z, FMp N k b sg f u C Q y z → FMx F U n2 y z := x.2.2.2.2.2.1
theorem AGS.cm {N k : Nat} {b : Nat → Nat} {sg : Nat → Int32} {sl fl n A0 A1 k1 C Q S : Nat} {γ : Gh} {f : MI} {g : MR} {u : MI} {F : MI} {G : MR} {U : MI} {Γ : Gh} {n2 s q : Nat} (x : AGS N k b sg sl fl n A0 A1 k1 C Q S γ f g u F G U Γ n2 s q) : ∀ y z, CDp N k b sg f u C Q S fl y z → CDx F U n2 q y z := x.2.2.2.2.2.2.1
theorem AGS.sl {N k : Nat} {b : Nat → Nat} {sg : Nat → Int32} {sl fl n A0 A1 k1 C Q S : Nat} {γ : Gh} {f : MI} {g : MR} {u : MI} {F : MI} {G : MR} {U : MI} {Γ : Gh} {n2 s q : Nat} (x : AGS N k b sg sl fl n A0 A1 k1 C Q S γ f g u F G U Γ n2 s q) : sl ≤ s := x.2.2.2.2.2.2.2.1
theorem AGS.fl {N k : Nat} {b : Nat → Nat} {sg : Nat → Int32} {sl fl n A0 A1 k1 C Q S : Nat} {γ : Gh} {f : MI} {g : MR} {u : MI} {F : MI} {G : MR} {U : MI} {Γ : Gh} {n2 s q : Nat} (x : AGS N k b sg sl fl n A0 A1 k1 C Q S γ f g u F G U Γ n2 s q) : fl ≤ q := x.2.2.2.2.2.2.2.2
def SCR (N k : Nat) (b : Nat → Nat) (sg : Nat → Int32) (sl fl n A0 A1 k1 C Q S : Nat) (f : MI) (g : MR) (u : MI) : Prop := ∃ γ : Gh, ∀ F G U Γ n2 sF qF, AGS N k b sg sl fl n A0 A1 k1 C Q S γ f g u F G U Γ n2 sF qF →
  (∀ a, A0 ≤ a → a < A1 → gR Γ a < n ∧ LocG F G U Γ n2 sF qF (gR Γ a) a) ∧ ∀ r, r < n → (∀ a, g 18 r 2 = some a → gR Γ a = r ∧ U 57 0 r = nI (gP Γ a) ∧ F 19 a 0 ≠ 401 ∧ G 19 a 2 = none) ∧ (g 18 r 2 = none → ∃ kx : Nat, kx < 6100 ∧ U 57 0 r = nI kx ∧ U 59 0 kx = 54 ∧ U 64 0 kx = -1)
theorem SCR.mv {N k sl fl n A0 A1 k1 C Q S sl2 fl2 k2 C2 Q2 S2 : Nat} {b : Nat → Nat} {sg : Nat → Int32} {f u f2 u2 : MI} {g g2 : MR} (H : SCR N k b sg sl fl n A0 A1 k1 C Q S f g u) (hf : ∀ a i, a < A1 → i ≠ 6 → f2 19 a i = f 19 a i) (hg : ∀ a i, a < A1 → g2 19 a i = g 19 a i) (hu : ∀ R i, 59 ≤ R → R ≤ 64 → i < k1 → u2 R 0 i = u R 0 i) (hk : ∀ r, r < n → u2 49 0 r = u 49 0 r ∧ u2 57 0 r = u 57 0 r ∧ g2 18 r 2 = g 18 r 2) (k12 : k1 ≤ k2) (h32 : ∀ i, i < C → f2 32 0 i = f 32 0 i) (hC : C ≤ C2) (h65 : ∀ R i, (R = 65 ∨ R = 66 ∨ R = 67) → i < Q → u2 R 0 i = u R 0 i) (hQ : Q ≤ Q2) (h68 : ∀ R i, 68 ≤ R → R ≤ 72 → i < S → u2 R 0 i = u R 0 i) (hS : S ≤ S2) (hsl : sl ≤ sl2) (hfl : fl ≤ fl2) : SCR N k b sg sl2 fl2 n A0 A1 k2 C2 Q2 S2 f2 g2 u2 := by
  obtain ⟨γ, h⟩ := H
  refine ⟨γ, fun F G U Γ n2 sF qF I => ?_⟩
  have T := h F G U Γ n2 sF qF ⟨I.gh, fun a x1 x2 i hi => (I.fs a x1 x2 i hi).trans (hf a i x2 hi), fun a x1 x2 i => (I.gs a x1 x2 i).trans (hg a i x2), fun R i x1 x2 x3 => (I.os R i x1 x2 (by omega)).trans (hu R i x1 x2 x3), fun r hr => ⟨(I.kr r hr).1.trans (hk r hr).1, (I.kr r hr).2.1.trans (hk r hr).2.1, (I.kr r hr).2.2.trans (hk r hr).2.2⟩, fun y z w => I.fm y z (FMp.mv h32 hC h65 hQ w), fun y z w => I.cm y z (CDp.mv h32 hC h65 hQ h68 hS hfl w), Nat.le_trans hsl I.sl, Nat.le_trans hfl I.fl⟩
  refine ⟨T.1, fun r hr => ?_⟩
  rw [(hk r hr).2.2]
  exact T.2 r hr
/-- a ride's script more -/
theorem SCR.add {N k sl fl n kd A0 A A' kk kk' C Q S : Nat} {b : Nat → Nat} {sg : Nat → Int32} {f u : MI} {g : MR} {nx : Option Nat} (H : SCR N k b sg sl fl n A0 A kk' C Q S f g u) (hA0 : A0 ≤ A) (hA : A ≤ A') (hk6 : kk' < 6100) (hkk : kk ≤ kk') (h49 : u 49 0 n = nI kd) (h57 : u 57 0 n = nI kk) (h59 : u 59 0 kk' = 54) (h64 : u 64 0 kk' = -1) (hg : g 18 n 2 = nx)
    (sm : ∃ γ : Gh, ∀ F G U Γ n2 sF qF, AGR N k b sg sl fl n kd A A' A' kk kk' C Q S γ f g u F G U Γ n2 sF qF → FO F G Γ n 0 none none none (-1) (-1) → EndG F G U Γ n none kk' → (∀ a, A ≤ a → a < A' → LocG F G U Γ n2 sF qF n a) ∧ NXT F G U Γ n none nx kk ∧ (nx = none → kk' = kk)) : SCR N k b sg sl fl (n + 1) A0 A' (kk' + 1) C Q S f g u := by
  obtain ⟨γ1, h1⟩ := H
  obtain ⟨γ2, h2⟩ := sm
  refine ⟨fun a => if a < A then γ1 a else γ2 a, fun F G U Γ n2 sF qF I => ?_⟩
  have T1 := h1 F G U Γ n2 sF qF ⟨fun a x1 x2 => (I.gh a x1 (by omega)).trans (if_pos x2), fun a x1 x2 => I.fs a x1 (by omega), fun a x1 x2 => I.gs a x1 (by omega), fun R i x1 x2 x3 => I.os R i x1 x2 (by omega), fun r hr => I.kr r (by omega), I.fm, I.cm, I.sl, I.fl⟩
  have u59 : U 59 0 kk' = 54 := (I.os 59 kk' (by omega) (by omega) (by omega)).trans h59
  have u64 : U 64 0 kk' = -1 := (I.os 64 kk' (by omega) (by omega) (by omega)).trans h64
  have In := I.kr n (by omega)
  have T2 := h2 F G U Γ n2 sF qF ⟨fun a x1 x2 => (I.gh a (by omega) x2).trans (if_neg (by omega)), fun a x1 x2 => I.fs a (by omega) x2, fun a x1 x2 i _ => I.gs a (by omega) x2 i, fun R i x1 x2 _ x3 => I.os R i x1 x2 (by omega), In.1.trans h49, I.fm, I.cm, I.sl, I.fl⟩ ⟨Or.inl ⟨rfl, rfl, rfl, rfl⟩, Or.inl ⟨rfl, rfl⟩, fun b h => by cases h⟩ ⟨hk6, fun _ => u59, fun b h => by cases h⟩
  refine ⟨fun a x1 x2 => ?_, fun r hr => ?_⟩
  · by_cases y : a < A
    · have := T1.1 a x1 y
      exact ⟨by omega, this.2⟩
    · have L := T2.1 a (by omega) x2
      have e : gR Γ a = n := L.2
      rw [e]
      exact ⟨by omega, L⟩
  · by_cases y : r < n
    · have z := T1.2 r y
      exact z
    · have e : r = n := by omega
      subst e
      rw [hg]
      refine ⟨fun a ha => ?_, fun ha => ?_⟩
      · obtain ⟨z1, z2, z3, z4⟩ := T2.2.1.1 a ha
        refine ⟨z1, ?_, z3, z4⟩
        rw [z2]
        exact In.2.1.trans h57
      · have e := T2.2.2 ha
        subst e
        exact ⟨kk', hk6, In.2.1.trans h57, u59, u64⟩
/-- both between the declarations -/
def DX (N k : Nat) (b : Nat → Nat) (sg : Nat → Int32) (cn : Nat) (nt ns nn : Nat → Nat) (n sl fl A0 : Nat) (f : MI) (g : MR) (u : MI) (X : ML × (Nat → Nat) × Nat × Nat) (t c q s kk A : Nat) : Prop := (GX N k b sg cn nt ns nn f u t c q) ∧ (u 22 0 51 = nI s) ∧ (2 * s ≤ t) ∧ (u 22 0 41 = nI kk) ∧ (kk ≤ t) ∧ (X.2.1 19 = A) ∧ (A0 ≤ A) ∧ (n ≤ 12) ∧ (f 11 0 4 = nI n) ∧ (u 22 0 20 = nI n) ∧ (sl ≤ 6) ∧ (f 11 0 5 = nI sl) ∧ (u 22 0 21 = nI sl) ∧ (fl ≤ 8) ∧ (f 11 0 6 = nI fl) ∧ (u 22 0 22 = nI fl) ∧ (cn = n + sl + fl) ∧ (∀ i, i < cn → ns i = 0 → nn i < sl) ∧ (∀ i, i < cn → ns i = 1 → nn i < fl) ∧ (∀ i, i < cn → ns i = 2 → nn i < n) ∧ (f 11 0 8 = u 22 0 23) ∧ (f 12 0 5 = u 22 0 24) ∧ (∀ j, j < sl → f 29 0 j = u 58 0 j ∧ Upto (u 58 0 j) 9) ∧ (R_abl u) ∧ (∀ r, r < 12 → f 16 r 0 = nI r) ∧ (∀ r, r < n → ∃ kd : Nat, RK f g u r kd) ∧ (NMI N k b sg f u c q) ∧ (SCR N k b sg sl fl n A0 A kk c q s f g u)
theorem DX.gx {N k : Nat} {b : Nat → Nat} {sg : Nat → Int32} {cn : Nat} {nt ns nn : Nat → Nat} {n sl fl A0 : Nat} {f : MI} {g : MR} {u : MI} {X : ML × (Nat → Nat) × Nat × Nat} {t c q s kk A : Nat} (x : DX N k b sg cn nt ns nn n sl fl A0 f g u X t c q s kk A) : GX N k b sg cn nt ns nn f u t c q := x.1
theorem DX.su {N k : Nat} {b : Nat → Nat} {sg : Nat → Int32} {cn : Nat} {nt ns nn : Nat → Nat} {n sl fl A0 : Nat} {f : MI} {g : MR} {u : MI} {X : ML × (Nat → Nat) × Nat × Nat} {t c q s kk A : Nat} (x : DX N k b sg cn nt ns nn n sl fl A0 f g u X t c q s kk A) : u 22 0 51 = nI s := x.2.1
theorem DX.s2 {N k : Nat} {b : Nat → Nat} {sg : Nat → Int32} {cn : Nat} {nt ns nn : Nat → Nat} {n sl fl A0 : Nat} {f : MI} {g : MR} {u : MI} {X : ML × (Nat → Nat) × Nat × Nat} {t c q s kk A : Nat} (x : DX N k b sg cn nt ns nn n sl fl A0 f g u X t c q s kk A) : 2 * s ≤ t := x.2.2.1
theorem DX.ku {N k : Nat} {b : Nat → Nat} {sg : Nat → Int32} {cn : Nat} {nt ns nn : Nat → Nat} {n sl fl A0 : Nat} {f : MI} {g : MR} {u : MI} {X : ML × (Nat → Nat) × Nat × Nat} {t c q s kk A : Nat} (x : DX N k b sg cn nt ns nn n sl fl A0 f g u X t c q s kk A) : u 22 0 41 = nI kk := x.2.2.2.1
theorem DX.kl {N k : Nat} {b : Nat → Nat} {sg : Nat → Int32} {cn : Nat} {nt ns nn : Nat → Nat} {n sl fl A0 : Nat} {f : MI} {g : MR} {u : MI} {X : ML × (Nat → Nat) × Nat × Nat} {t c q s kk A : Nat} (x : DX N k b sg cn nt ns nn n sl fl A0 f g u X t c q s kk A) : kk ≤ t := x.2.2.2.2.1
theorem DX.xa {N k : Nat} {b : Nat → Nat} {sg : Nat → Int32} {cn : Nat} {nt ns nn : Nat → Nat} {n sl fl A0 : Nat} {f : MI} {g : MR} {u : MI} {X : ML × (Nat → Nat) × Nat × Nat} {t c q s kk A : Nat} (x : DX N k b sg cn nt ns nn n sl fl A0 f g u X t c q s kk A) : X.2.1 19 = A := x.2.2.2.2.2.1
theorem DX.aa {N k : Nat} {b : Nat → Nat} {sg : Nat → Int32} {cn : Nat} {nt ns nn : Nat → Nat} {n sl fl A0 : Nat} {f : MI} {g : MR} {u : MI} {X : ML × (Nat → Nat) × Nat × Nat} {t c q s kk A : Nat} (x : DX N k b sg cn nt ns nn n sl fl A0 f g u X t c q s kk A) : A0 ≤ A := x.2.2.2.2.2.2.1
theorem DX.n12 {N k : Nat} {b : Nat → Nat} {sg : Nat → Int32} {cn : Nat} {nt ns nn : Nat → Nat} {n sl fl A0 : Nat} {f : MI} {g : MR} {u : MI} {X : ML × (Nat → Nat) × Nat × Nat} {t c q s kk A : Nat} (x : DX N k b sg cn nt ns nn n sl fl A0 f g u X t c q s kk A) : n ≤ 12 := x.2.2.2.2.2.2.2.1
theorem DX.f4 {N k : Nat} {b : Nat → Nat} {sg : Nat → Int32} {cn : Nat} {nt ns nn : Nat → Nat} {n sl fl A0 : Nat} {f : MI} {g : MR} {u : MI} {X : ML × (Nat → Nat) × Nat × Nat} {t c q s kk A : Nat} (x : DX N k b sg cn nt ns nn n sl fl A0 f g u X t c q s kk A) : f 11 0 4 = nI n := x.2.2.2.2.2.2.2.2.1
theorem DX.u20 {N k : Nat} {b : Nat → Nat} {sg : Nat → Int32} {cn : Nat} {nt ns nn : Nat → Nat} {n sl fl A0 : Nat} {f : MI} {g : MR} {u : MI} {X : ML × (Nat → Nat) × Nat × Nat} {t c q s kk A : Nat} (x : DX N k b sg cn nt ns nn n sl fl A0 f g u X t c q s kk A) : u 22 0 20 = nI n := x.2.2.2.2.2.2.2.2.2.1
theorem DX.sl6 {N k : Nat} {b : Nat → Nat} {sg : Nat → Int32} {cn : Nat} {nt ns nn : Nat → Nat} {n sl fl A0 : Nat} {f : MI} {g : MR} {u : MI} {X : ML × (Nat → Nat) × Nat × Nat} {t c q s kk A : Nat} (x : DX N k b sg cn nt ns nn n sl fl A0 f g u X t c q s kk A) : sl ≤ 6 := x.2.2.2.2.2.2.2.2.2.2.1
theorem DX.f5 {N k : Nat} {b : Nat → Nat} {sg : Nat → Int32} {cn : Nat} {nt ns nn : Nat → Nat} {n sl fl A0 : Nat} {f : MI} {g : MR} {u : MI} {X : ML × (Nat → Nat) × Nat × Nat} {t c q s kk A : Nat} (x : DX N k b sg cn nt ns nn n sl fl A0 f g u X t c q s kk A) : f 11 0 5 = nI sl := x.2.2.2.2.2.2.2.2.2.2.2.1
theorem DX.u21 {N k : Nat} {b : Nat → Nat} {sg : Nat → Int32} {cn : Nat} {nt ns nn : Nat → Nat} {n sl fl A0 : Nat} {f : MI} {g : MR} {u : MI} {X : ML × (Nat → Nat) × Nat × Nat} {t c q s kk A : Nat} (x : DX N k b sg cn nt ns nn n sl fl A0 f g u X t c q s kk A) : u 22 0 21 = nI sl := x.2.2.2.2.2.2.2.2.2.2.2.2.1
theorem DX.fl8 {N k : Nat} {b : Nat → Nat} {sg : Nat → Int32} {cn : Nat} {nt ns nn : Nat → Nat} {n sl fl A0 : Nat} {f : MI} {g : MR} {u : MI} {X : ML × (Nat → Nat) × Nat × Nat} {t c q s kk A : Nat} (x : DX N k b sg cn nt ns nn n sl fl A0 f g u X t c q s kk A) : fl ≤ 8 := x.2.2.2.2.2.2.2.2.2.2.2.2.2.1
theorem DX.f6 {N k : Nat} {b : Nat → Nat} {sg : Nat → Int32} {cn : Nat} {nt ns nn : Nat → Nat} {n sl fl A0 : Nat} {f : MI} {g : MR} {u : MI} {X : ML × (Nat → Nat) × Nat × Nat} {t c q s kk A : Nat} (x : DX N k b sg cn nt ns nn n sl fl A0 f g u X t c q s kk A) : f 11 0 6 = nI fl := x.2.2.2.2.2.2.2.2.2.2.2.2.2.2.1
theorem DX.u22 {N k : Nat} {b : Nat → Nat} {sg : Nat → Int32} {cn : Nat} {nt ns nn : Nat → Nat} {n sl fl A0 : Nat} {f : MI} {g : MR} {u : MI} {X : ML × (Nat → Nat) × Nat × Nat} {t c q s kk A : Nat} (x : DX N k b sg cn nt ns nn n sl fl A0 f g u X t c q s kk A) : u 22 0 22 = nI fl := x.2.2.2.2.2.2.2.2.2.2.2.2.2.2.2.1
theorem DX.cs {N k : Nat} {b : Nat → Nat} {sg : Nat → Int32} {cn : Nat} {nt ns nn : Nat → Nat} {n sl fl A0 : Nat} {f : MI} {g : MR} {u : MI} {X : ML × (Nat → Nat) × Nat × Nat} {t c q s kk A : Nat} (x : DX N k b sg cn nt ns nn n sl fl A0 f g u X t c q s kk A) : cn = n + sl + fl := x.2.2.2.2.2.2.2.2.2.2.2.2.2.2.2.2.1
theorem DX.hs {N k : Nat} {b : Nat → Nat} {sg : Nat → Int32} {cn : Nat} {nt ns nn : Nat → Nat} {n sl fl A0 : Nat} {f : MI} {g : MR} {u : MI} {X : ML × (Nat → Nat) × Nat × Nat} {t c q s kk A : Nat} (x : DX N k b sg cn nt ns nn n sl fl A0 f g u X t c q s kk A) : ∀ i, i < cn → ns i = 0 → nn i < sl := x.2.2.2.2.2.2.2.2.2.2.2.2.2.2.2.2.2.1
theorem DX.hf {N k : Nat} {b : Nat → Nat} {sg : Nat → Int32} {cn : Nat} {nt ns nn : Nat → Nat} {n sl fl A0 : Nat} {f : MI} {g : MR} {u : MI} {X : ML × (Nat → Nat) × Nat × Nat} {t c q s kk A : Nat} (x : DX N k b sg cn nt ns nn n sl fl A0 f g u X t c q s kk A) : ∀ i, i < cn → ns i = 1 → nn i < fl := x.2.2.2.2.2.2.2.2.2.2.2.2.2.2.2.2.2.2.1
theorem DX.hr {N k : Nat} {b : Nat → Nat} {sg : Nat → Int32} {cn : Nat} {nt ns nn : Nat → Nat} {n sl fl A0 : Nat} {f : MI} {g : MR} {u : MI} {X : ML × (Nat → Nat) × Nat × Nat} {t c q s kk A : Nat} (x : DX N k b sg cn nt ns nn n sl fl A0 f g u X t c q s kk A) : ∀ i, i < cn → ns i = 2 → nn i < n := x.2.2.2.2.2.2.2.2.2.2.2.2.2.2.2.2.2.2.2.1
theorem DX.pw {N k : Nat} {b : Nat → Nat} {sg : Nat → Int32} {cn : Nat} {nt ns nn : Nat → Nat} {n sl fl A0 : Nat} {f : MI} {g : MR} {u : MI} {X : ML × (Nat → Nat) × Nat × Nat} {t c q s kk A : Nat} (x : DX N k b sg cn nt ns nn n sl fl A0 f g u X t c q s kk A) : f 11 0 8 = u 22 0 23 := x.2.2.2.2.2.2.2.2.2.2.2.2.2.2.2.2.2.2.2.2.1
theorem DX.pt {N k : Nat} {b : Nat → Nat} {sg : Nat → Int32} {cn : Nat} {nt ns nn : Nat → Nat} {n sl fl A0 : Nat} {f : MI} {g : MR} {u : MI} {X : ML × (Nat → Nat) × Nat × Nat} {t c q s kk A : Nat} (x : DX N k b sg cn nt ns nn n sl fl A0 f g u X t c q s kk A) : f 12 0 5 = u 22 0 24 := x.2.2.2.2.2.2.2.2.2.2.2.2.2.2.2.2.2.2.2.2.2.1
theorem DX.sa {N k : Nat} {b : Nat → Nat} {sg : Nat → Int32} {cn : Nat} {nt ns nn : Nat → Nat} {n sl fl A0 : Nat} {f : MI} {g : MR} {u : MI} {X : ML × (Nat → Nat) × Nat × Nat} {t c q s kk A : Nat} (x : DX N k b sg cn nt ns nn n sl fl A0 f g u X t c q s kk A) : ∀ j, j < sl → f 29 0 j = u 58 0 j ∧ Upto (u 58 0 j) 9 := x.2.2.2.2.2.2.2.2.2.2.2.2.2.2.2.2.2.2.2.2.2.2.1
theorem DX.ab {N k : Nat} {b : Nat → Nat} {sg : Nat → Int32} {cn : Nat} {nt ns nn : Nat → Nat} {n sl fl A0 : Nat} {f : MI} {g : MR} {u : MI} {X : ML × (Nat → Nat) × Nat × Nat} {t c q s kk A : Nat} (x : DX N k b sg cn nt ns nn n sl fl A0 f g u X t c q s kk A) : R_abl u := x.2.2.2.2.2.2.2.2.2.2.2.2.2.2.2.2.2.2.2.2.2.2.2.1
theorem DX.ix {N k : Nat} {b : Nat → Nat} {sg : Nat → Int32} {cn : Nat} {nt ns nn : Nat → Nat} {n sl fl A0 : Nat} {f : MI} {g : MR} {u : MI} {X : ML × (Nat → Nat) × Nat × Nat} {t c q s kk A : Nat} (x : DX N k b sg cn nt ns nn n sl fl A0 f g u X t c q s kk A) : ∀ r, r < 12 → f 16 r 0 = nI r := x.2.2.2.2.2.2.2.2.2.2.2.2.2.2.2.2.2.2.2.2.2.2.2.2.1
theorem DX.rk {N k : Nat} {b : Nat → Nat} {sg : Nat → Int32} {cn : Nat} {nt ns nn : Nat → Nat} {n sl fl A0 : Nat} {f : MI} {g : MR} {u : MI} {X : ML × (Nat → Nat) × Nat × Nat} {t c q s kk A : Nat} (x : DX N k b sg cn nt ns nn n sl fl A0 f g u X t c q s kk A) : ∀ r, r < n → ∃ kd : Nat, RK f g u r kd := x.2.2.2.2.2.2.2.2.2.2.2.2.2.2.2.2.2.2.2.2.2.2.2.2.2.1
theorem DX.nm {N k : Nat} {b : Nat → Nat} {sg : Nat → Int32} {cn : Nat} {nt ns nn : Nat → Nat} {n sl fl A0 : Nat} {f : MI} {g : MR} {u : MI} {X : ML × (Nat → Nat) × Nat × Nat} {t c q s kk A : Nat} (x : DX N k b sg cn nt ns nn n sl fl A0 f g u X t c q s kk A) : NMI N k b sg f u c q := x.2.2.2.2.2.2.2.2.2.2.2.2.2.2.2.2.2.2.2.2.2.2.2.2.2.2.1
theorem DX.sc {N k : Nat} {b : Nat → Nat} {sg : Nat → Int32} {cn : Nat} {nt ns nn : Nat → Nat} {n sl fl A0 : Nat} {f : MI} {g : MR} {u : MI} {X : ML × (Nat → Nat) × Nat × Nat} {t c q s kk A : Nat} (x : DX N k b sg cn nt ns nn n sl fl A0 f g u X t c q s kk A) : SCR N k b sg sl fl n A0 A kk c q s f g u := x.2.2.2.2.2.2.2.2.2.2.2.2.2.2.2.2.2.2.2.2.2.2.2.2.2.2.2
def DB (k t A : Nat) (X : ML × (Nat → Nat) × Nat × Nat) (f2 u2 : MI) (X2 : ML × (Nat → Nat) × Nat × Nat) : Prop := BAD f2 u2 ∧ ∃ A2, XR A A2 X X2 ∧ A2 - A ≤ 2 * (k - t)
/-- what a declaration leaves -/
def DO (N k : Nat) (b : Nat → Nat) (sg : Nat → Int32) (A0 : Nat) (X : ML × (Nat → Nat) × Nat × Nat) (t A : Nat) (f2 : MI) (g2 : MR) (u2 : MI) (X2 : ML × (Nat → Nat) × Nat × Nat) : Prop :=
  (∃ (cn : Nat) (nt ns nn : Nat → Nat) (n sl fl t2 c q s kk A2 : Nat), t < t2 ∧ XR A A2 X X2 ∧ A2 - A ≤ 2 * (t2 - t) ∧ DX N k b sg cn nt ns nn n sl fl A0 f2 g2 u2 X2 t2 c q s kk A2) ∨ DB k t A X f2 u2 X2
theorem RK.fr {f f2 u u2 : MI} {g g2 : MR} {r kd : Nat} (K : RK f g u r kd) (hf : ∀ R x, R = 16 ∨ R = 27 → f2 R r x = f R r x) (hg : g2 16 r 6 = g 16 r 6) (hu : ∀ R, 49 ≤ R → R ≤ 56 → u2 R 0 r = u R 0 r) : RK f2 g2 u2 r kd := by
  unfold RK at K ⊢
  rw [hf 16 4 (Or.inl rfl), hf 16 5 (Or.inl rfl), hf 16 0 (Or.inl rfl), hf 27 0 (Or.inr rfl), hf 27 1 (Or.inr rfl), hf 27 2 (Or.inr rfl), hf 27 3 (Or.inr rfl), hf 27 4 (Or.inr rfl), hf 27 5 (Or.inr rfl), hg, hu 49 (by omega) (by omega), hu 50 (by omega) (by omega), hu 51 (by omega) (by omega), hu 52 (by omega) (by omega), hu 53 (by omega) (by omega), hu 54 (by omega) (by omega), hu 55 (by omega) (by omega), hu 56 (by omega) (by omega)]
  exact K
section Dcl
variable {L : Nat} {xs : Nat → Int32} {g : MR} {X : ML × (Nat → Nat) × Nat × Nat} {Y : MR × ML × (Nat → Nat) × Nat × Nat} {N k t c q s kk A A0 cn n sl fl kd t0 : Nat} {b : Nat → Nat} {sg : Nat → Int32} {f f2 u u2 : MI} {nt ns nn : Nat → Nat}
theorem c_tell {d c1 : Nat} {v1 v2 v3 : Int32} (h4 : f 14 0 4 = nI c1) (hc : c1 < 26) : EL (mP L xs) (d + 1) 53 [rv 14 (some 0), iv v1, iv v2, iv v3] (f, g, X) = some (.inl none, (m3 (m3 (m3 (m3 f 37 0 c1 v1) 38 0 c1 v2) 39 0 c1 v3) 14 0 4 (nI (c1 + 1)), g, X)) := by
  have hin := nin hc (show 26 < 2 ^ 31 by decide)
  have hcl := nI_clamp (show c1 < 2 ^ 31 by omega)
  have a1 : ∀ v, (m3 f 37 0 c1 v) 14 0 4 = nI c1 := fun v => (m3_r (by decide)).trans h4
  have a2 : ∀ v w, (m3 (m3 f 37 0 c1 v) 38 0 c1 w) 14 0 4 = nI c1 := fun v w => (m3_r (by decide)).trans (a1 v)
  have a3 : ∀ v w x, (m3 (m3 (m3 f 37 0 c1 v) 38 0 c1 w) 39 0 c1 x) 14 0 4 = nI c1 := fun v w x => (m3_r (by decide)).trans (a2 v w)
  rw [E_Names_tell]
  simp only [h4, if_pos (show nI c1 < 26 from nI_lt (b := 26) hc (by decide)), if_neg hin, hcl, a1, a2, a3, nI_1]
theorem tell_no {c1 : Nat} {v1 v2 v3 v4 : Int32} {R o x : Nat} (h : ¬ ((R = 37 ∨ R = 38 ∨ R = 39) ∧ x = c1)) (h2 : ¬ (R = 14 ∧ x = 4)) : m3 (m3 (m3 (m3 f 37 0 c1 v1) 38 0 c1 v2) 39 0 c1 v3) 14 0 4 v4 R o x = f R o x := by
  rw [m3_no (by omega), m3_no (by omega), m3_no (by omega), m3_no (by omega)]
theorem NC_tell {c1 tk s1 n1 : Nat} (M : NC f k sg c1 nt ns nn) (hc : c1 < 26) (ht : tk < k) (h3 : sg tk = 300) (hs : s1 ≤ 2) (hn : n1 < 100) : NC (m3 (m3 (m3 (m3 f 37 0 c1 (nI tk)) 38 0 c1 (nI s1)) 39 0 c1 (nI n1)) 14 0 4 (nI (c1 + 1))) k sg (c1 + 1) (ext nt c1 tk) (ext ns c1 s1) (ext nn c1 n1) := by
  refine ⟨by omega, m3_eq, fun j hj => ?_⟩
  by_cases y : j = c1
  · subst y
    rw [ext_eq, ext_eq, ext_eq]
    refine ⟨ht, h3, hs, hn, ?_, ?_, ?_⟩
    · rw [m3_r (by decide), m3_r (by decide), m3_r (by decide), m3_eq]
    · rw [m3_r (by decide), m3_r (by decide), m3_eq]
    · rw [m3_r (by decide), m3_eq]
  · rw [ext_ne y, ext_ne y, ext_ne y, tell_no (by omega) (by omega), tell_no (by omega) (by omega), tell_no (by omega) (by omega)]
    exact M.ar j (by omega)
/-- a ride's block, behind its head -/
theorem rd_blk {f8 u8 : MI} {g8 : MR} {t8 tk : Nat} (D : DX N k b sg cn nt ns nn n sl fl A0 f g u X t c q s kk A) (hn : n < 12) (P : PX f8 u8 N k b sg t8) (ht : t + 3 ≤ t8) (hk3 : sg tk = 300) (hkt : tk < k) (K8 : RK f8 g8 u8 n kd) (Z : NU u8 N k b sg (cn + 1) (ext nt cn tk) (ext ns cn 2) (ext nn cn n))
    (hF : ∀ R o x, ¬ (R = 20 ∨ R = 34 ∨ (R = 27 ∧ o = n) ∨ (R = 16 ∧ o = n)) → f8 R o x = f R o x) (hG : ∀ R o x, ¬ (R = 16 ∧ o = n ∧ x = 6) → g8 R o x = g R o x) (hU : ∀ R o x, ¬ ((R = 22 ∧ ((6 ≤ x ∧ x ≤ 13) ∨ x = 18)) ∨ (45 ≤ R ∧ R ≤ 48) ∨ (49 ≤ R ∧ R ≤ 56 ∧ x = n)) → u8 R o x = u R o x) :
    ∃ f2 g2 u2 X2, (∀ d v4 v5, 116 ≤ d → RL (mP L xs) d 82 161 [some (rv 12 (some 0)), some (iv (nI n)), some (rv 16 (some n)), some (iv (nI tk)), some (iv v4), some (iv v5)] [] (f8, g8, X) = some (.inl none, (f2, g2, X2))) ∧ (∀ d v2, 116 ≤ d → RL (mP L xs) d 126 288 [some (rv 22 (some 0)), some (iv (nI n)), some (iv v2)] [] (u8, Y) = some (.inl none, (u2, Y))) ∧ DO N k b sg A0 X t A f2 g2 u2 X2 := by
  have hcs := D.cs
  have hsl6 := D.sl6
  have hfl8 := D.fl8
  have h8k := P.tk
  have hkp := P.lc.kp
  have hkl := D.kl
  have hs2 := D.s2
  have hcl := D.gx.cl
  have hql := D.gx.ql
  have M8 : NC f8 k sg cn nt ns nn := D.gx.nc.fr (fun R o x h => hF R o x (by omega))
  have hc26 : cn < 26 := by omega
  have M9 := NC_tell M8 hc26 hkt hk3 (s1 := 2) (n1 := n) (by decide) (by omega)
  have ctell := fun d => c_tell (L := L) (xs := xs) (d := d) (g := g8) (X := X) (v1 := nI tk) (v2 := nI 2) (v3 := nI n) M8.cc hc26
  generalize hf9 : m3 (m3 (m3 (m3 f8 37 0 cn (nI tk)) 38 0 cn (nI 2)) 39 0 cn (nI n)) 14 0 4 (nI (cn + 1)) = f9 at M9 ctell
  have n9 : ∀ R o x, ¬ (R = 37 ∨ R = 38 ∨ R = 39 ∨ R = 14) → f9 R o x = f8 R o x := fun R o x h => by rw [← hf9]; exact tell_no (by omega) (by omega)
  generalize hF3 : m3 (m3 f9 11 0 4 (nI (n + 1))) 12 0 6 0 = F3
  have n3 : ∀ R o x, ¬ (R = 37 ∨ R = 38 ∨ R = 39 ∨ R = 14 ∨ (R = 11 ∧ x = 4) ∨ (R = 12 ∧ x = 6)) → F3 R o x = f8 R o x := fun R o x h => by rw [← hF3, m3_no (by omega), m3_no (by omega)]; exact n9 R o x (by omega)
  have M3 : NC F3 k sg (cn + 1) (ext nt cn tk) (ext ns cn 2) (ext nn cn n) := M9.fr (fun R o x h => by rw [← hF3, m3_no (by omega), m3_no (by omega)])
  generalize hU3 : m3 (m3 (m3 (m3 (m3 u8 22 0 20 (nI (n + 1))) 22 0 52 (nI n)) 22 0 53 0) 22 0 54 (-1)) 57 0 n (nI kk) = U3
  have m3' : ∀ R o x, ¬ (R = 22 ∧ (x = 20 ∨ x = 52 ∨ x = 53 ∨ x = 54)) → ¬ (R = 57 ∧ x = n) → U3 R o x = u8 R o x := fun R o x h h' => by rw [← hU3, m3_no (by omega), m3_no (by omega), m3_no (by omega), m3_no (by omega), m3_no (by omega)]
  have U20 : U3 22 0 20 = nI (n + 1) := by rw [← hU3, m3_r (by decide), m3_i (by decide), m3_i (by decide), m3_i (by decide), m3_eq]
  have U52 : U3 22 0 52 = nI n := by rw [← hU3, m3_r (by decide), m3_i (by decide), m3_i (by decide), m3_eq]
  have U53 : U3 22 0 53 = 0 := by rw [← hU3, m3_r (by decide), m3_i (by decide), m3_eq]
  have U54 : U3 22 0 54 = -1 := by rw [← hU3, m3_r (by decide), m3_eq]
  have U57 : U3 57 0 n = nI kk := by rw [← hU3, m3_eq]
  have fF : ∀ R o x, ¬ (R = 20 ∨ R = 34 ∨ (R = 27 ∧ o = n) ∨ (R = 16 ∧ o = n) ∨ R = 37 ∨ R = 38 ∨ R = 39 ∨ R = 14 ∨ (R = 11 ∧ x = 4) ∨ (R = 12 ∧ x = 6)) → F3 R o x = f R o x := fun R o x h => (n3 R o x (by omega)).trans (hF R o x (by omega))
  have uF : ∀ R o x, ¬ ((R = 22 ∧ ((6 ≤ x ∧ x ≤ 13) ∨ x = 18 ∨ x = 20 ∨ x = 52 ∨ x = 53 ∨ x = 54)) ∨ (45 ≤ R ∧ R ≤ 48) ∨ (49 ≤ R ∧ R ≤ 57 ∧ x = n)) → U3 R o x = u R o x := fun R o x h => (m3' R o x (by omega) (by omega)).trans (hU R o x (by omega))
  have P3 : PX F3 U3 N k b sg t8 := P.fr (fun R o x h => n3 R o x (by omega)) (fun R o x h => m3' R o x (by omega) (by omega))
  obtain ⟨b0, b1, b2, b3, b4, b5, b6, b7, b8⟩ := D.ab
  have H3 : SX N k b sg (cn + 1) (ext nt cn tk) (ext ns cn 2) (ext nn cn n) sl fl n kd F3 U3 t8 c q s kk 0 := by
    refine ⟨⟨P3, (fF 10 0 3 (by omega)).trans D.gx.cc, by omega, (uF 22 0 45 (by omega)).trans D.gx.qu, by omega, M3, Z.fr (fun R o x h => m3' R o x (by omega) (by omega))⟩, (uF 22 0 51 (by omega)).trans D.su, by omega, (uF 22 0 41 (by omega)).trans D.ku, by omega, ?_, U53, by omega, fun i hi h => ?_, fun i hi h => ?_, hn, K8.kl, U52, (m3' 49 0 n (by omega) (by omega)).trans K8.kr, (n3 16 n 5 (by omega)).trans K8.ac, ⟨(uF 42 0 0 (by omega)).trans b0, (uF 42 0 1 (by omega)).trans b1, (uF 42 0 2 (by omega)).trans b2, (uF 42 0 3 (by omega)).trans b3, (uF 42 0 4 (by omega)).trans b4, (uF 42 0 5 (by omega)).trans b5, (uF 42 0 6 (by omega)).trans b6, (uF 42 0 7 (by omega)).trans b7, (uF 42 0 8 (by omega)).trans b8⟩⟩
    · rw [← hF3, m3_eq]
      rfl
    · by_cases y : i = cn
      · rw [y, ext_eq] at h
        cases h
      · rw [ext_ne y] at h ⊢
        exact D.hf i (by omega) h
    · by_cases y : i = cn
      · rw [y, ext_eq] at h
        cases h
      · rw [ext_ne y] at h ⊢
        exact D.hs i (by omega) h
  obtain ⟨f4, g4, u4, X4, nx, w, d1, d2, d3⟩ := ex_blks (L := L) (xs := xs) (Y := Y) (k := k) t8 0 none none none (-1) (-1) F3 g8 U3 X c q s kk 0 A (by omega) H3 D.xa ⟨rfl, rfl⟩ U54 (propext ⟨fun _ => rfl, fun _ => rfl⟩)
  have cC : ∀ d v4 v5, 116 ≤ d → RL (mP L xs) d 82 161 [some (rv 12 (some 0)), some (iv (nI n)), some (rv 16 (some n)), some (iv (nI tk)), some (iv v4), some (iv v5)] [] (f8, g8, X) = some (.inl none, (f4, m3 g4 18 n 2 nx, X4)) := fun d v4 v5 hd => by
    have h1 : EL (mP L xs) d 81 [rv 12 (some 0), iv 1, rv 19 none, rv 19 none, rv 16 (some n)] (F3, g8, X) = some (.inl (some (rv 19 nx)), (f4, g4, X4)) := d1 d (by omega)
    obtain ⟨d, rfl⟩ : ∃ d', d = d' + 1 := ⟨d - 1, by omega⟩
    have h2 : EL (mP L xs) (d + 1) 53 [rv 14 (some 0), iv (nI tk), iv 2, iv (nI n)] (f8, g8, X) = some (.inl none, (f9, g8, X)) := ctell d
    rw [K_FairReader_ride_161, h2, clV, onS_s]
    have e4 : (f9, g8, X).1 11 0 4 + 1 = nI (n + 1) := by
      show f9 11 0 4 + 1 = nI (n + 1)
      rw [n9 11 0 4 (by omega), hF 11 0 4 (by omega), D.f4, nI_1]
    rw [e4]
    show mclR (EL (mP L xs) (d + 1) 81 [rv 12 (some 0), iv 1, rv 19 none, rv 19 none, rv 16 (some n)] (m3 (m3 f9 11 0 4 (nI (n + 1))) 12 0 6 0, g8, X)) 19 _ _ = _
    rw [hF3, h1, clR]
  have u20' : u8 22 0 20 = nI n := (hU 22 0 20 (by omega)).trans D.u20
  have u41' : u8 22 0 41 = nI kk := (hU 22 0 41 (by omega)).trans D.ku
  have e41 : ∀ v w x y : Int32, (m3 (m3 (m3 (m3 u8 22 0 20 v) 22 0 52 w) 22 0 53 x) 22 0 54 y) 22 0 41 = nI kk := fun v w x y => by
    rw [m3_i (by decide), m3_i (by decide), m3_i (by decide), m3_i (by decide)]
    exact u41'
  have cU : ∀ d v2, 116 ≤ d → RL (mP L xs) d 126 288 [some (rv 22 (some 0)), some (iv (nI n)), some (iv v2)] [] (u8, Y) = if w = 0 then (some (.inl none, (u4, Y))) else (mclI (EL (mP L xs) d 119 [rv 22 (some 0), iv 54, iv (u4 22 0 8), iv 0, iv 0, iv 0, iv (-1)] (u4, Y)) (fun x4 h3 => some (.inl none, h3)) (fun e h => some (.inr e, h))) := fun d v2 hd => by
    have h1 : EL (mP L xs) d 125 [rv 22 (some 0), iv 1, iv (-1)] (U3, Y) = some (.inl (some (iv w)), (u4, Y)) := d2 d (by omega)
    rw [K_Ref_ride_288]
    simp only [P.fu, if_true, if_neg (nin hn (show 12 < 2 ^ 31 by decide)), nI_clamp (show n < 2 ^ 31 by omega), u20', nI_1, e41, hU3, h1, clI]
  rcases d3 with ⟨rfl, t', c', q', s', kk', st', A', K⟩ | ⟨rfl, K⟩
  · have k1 := K.tt
    have k2 := K.mo
    have k3 := K.kb
    have k4 := K.al
    have k5 := K.xr.le
    have k6 := K.sx.kl
    have k7 := K.sx.gx.px.tk
    have k8 := K.sx.gx.cl
    have haa := D.aa
    have k41 : u4 22 0 41 = nI kk' := K.sx.ku
    obtain ⟨w1, w2, w3, w4, w5, w6, w7⟩ := NW_v (u := u4) (k2 := kk') (p0 := 54) (p1 := u4 22 0 8) (p2 := 0) (p3 := 0) (p4 := 0) (p5 := -1)
    generalize hU6 : NW u4 kk' 54 (u4 22 0 8) 0 0 0 (-1) = U6 at w1 w2 w3 w4 w5 w6 w7
    have n6 : ∀ R o x, ¬ (59 ≤ R ∧ R ≤ 64 ∧ x = kk') → ¬ (R = 22 ∧ x = 41) → U6 R o x = u4 R o x := fun R o x h h' => by rw [← hU6]; exact NW_no (by omega) h'
    have gg : ∀ R o x, ¬ (R = 18 ∧ o = n ∧ x = 2) → m3 g4 18 n 2 nx R o x = g4 R o x := fun R o x h => m3_no h
    have g4f : ∀ R o x, ¬ (R = 19 ∧ A ≤ o) → g4 R o x = g8 R o x := fun R o x h => K.fg R o x (fun w => w.2.elim (fun y => h ⟨w.1, y⟩) (fun y => by cases y.1))
    have fK : ∀ R o x, ¬ (R = 20 ∨ R = 34 ∨ (R = 32 ∧ c ≤ x) ∨ (R = 10 ∧ x = 3) ∨ (R = 12 ∧ x = 6) ∨ (R = 19 ∧ A ≤ o)) → f4 R o x = F3 R o x := K.fc
    have uK : ∀ R o x, ¬ ((R = 22 ∧ ((6 ≤ x ∧ x ≤ 13) ∨ x = 41 ∨ x = 45 ∨ x = 51 ∨ x = 53 ∨ x = 54 ∨ x = 55)) ∨ (59 ≤ R ∧ R ≤ 64 ∧ kk ≤ x) ∨ ((R = 65 ∨ R = 66 ∨ R = 67) ∧ q ≤ x) ∨ (68 ≤ R ∧ R ≤ 72 ∧ s ≤ x)) → U6 R o x = U3 R o x := fun R o x h => (n6 R o x (by omega) (by omega)).trans (K.fu R o x h)
    have P6 : PX f4 U6 N k b sg t' := K.sx.gx.px.fr (fun _ _ _ _ => rfl) (fun R o x h => n6 R o x (by omega) (by omega))
    refine ⟨f4, m3 g4 18 n 2 nx, U6, X4, cC, fun d v2 hd => ?_, Or.inl ⟨cn + 1, ext nt cn tk, ext ns cn 2, ext nn cn n, n + 1, sl, fl, t', c', q', s', kk' + 1, A', by omega, K.xr, by omega, ⟨⟨P6, K.sx.gx.cc, K.sx.gx.cl, (n6 22 0 45 (by omega) (by omega)).trans K.sx.gx.qu, K.sx.gx.ql, K.sx.gx.nc, K.sx.gx.nz.fr (fun R o x h => n6 R o x (by omega) (by omega))⟩, (n6 22 0 51 (by omega) (by omega)).trans K.sx.su, K.sx.sl, w7, by omega, K.xr.c1, by omega, by omega, ?_, (uK 22 0 20 (by omega)).trans U20, D.sl6, ?_, (uK 22 0 21 (by omega)).trans ((uF 22 0 21 (by omega)).trans D.u21), D.fl8, ?_, (uK 22 0 22 (by omega)).trans ((uF 22 0 22 (by omega)).trans D.u22), by omega, H3.hs, H3.hf, fun i hi h => ?_, ?_, ?_, fun j hj => ?_, ?_, fun r hr => ?_, fun r hr => ?_, ?_, ?_⟩⟩⟩
    · obtain ⟨d, rfl⟩ : ∃ d', d = d' + 1 := ⟨d - 1, by omega⟩
      rw [cU (d + 1) v2 hd, if_neg (by decide), r_op k41 (by omega), clI, hU6]
    · rw [fK 11 0 4 (by omega), ← hF3, m3_r (by decide), m3_eq]
    · rw [fK 11 0 5 (by omega), fF 11 0 5 (by omega)]; exact D.f5
    · rw [fK 11 0 6 (by omega), fF 11 0 6 (by omega)]; exact D.f6
    · by_cases y : i = cn
      · rw [y, ext_eq]; omega
      · rw [ext_ne y] at h ⊢
        have := D.hr i (by omega) h
        omega
    · rw [fK 11 0 8 (by omega), fF 11 0 8 (by omega), uK 22 0 23 (by omega), uF 22 0 23 (by omega)]
      exact D.pw
    · rw [fK 12 0 5 (by omega), fF 12 0 5 (by omega), uK 22 0 24 (by omega), uF 22 0 24 (by omega)]
      exact D.pt
    · rw [fK 29 0 j (by omega), fF 29 0 j (by omega), uK 58 0 j (by omega), uF 58 0 j (by omega)]
      exact D.sa j hj
    · have e : ∀ j, U6 42 0 j = u 42 0 j := fun j => (uK 42 0 j (by omega)).trans (uF 42 0 j (by omega))
      exact ⟨(e 0).trans b0, (e 1).trans b1, (e 2).trans b2, (e 3).trans b3, (e 4).trans b4, (e 5).trans b5, (e 6).trans b6, (e 7).trans b7, (e 8).trans b8⟩
    · by_cases y : r = n
      · subst y
        rw [fK 16 r 0 (by omega), n3 16 r 0 (by omega)]
        exact K8.ix
      · rw [fK 16 r 0 (by omega), fF 16 r 0 (by omega)]
        exact D.ix r hr
    · by_cases y : r = n
      · subst y
        refine ⟨kd, K8.fr (fun R x h => ?_) ?_ (fun R h1 h2 => ?_)⟩
        · rw [fK R r x (by omega), n3 R r x (by omega)]
        · rw [gg 16 r 6 (by omega), g4f 16 r 6 (by omega)]
        · rw [uK R 0 r (by omega), m3' R 0 r (by omega) (by omega)]
      · obtain ⟨kd', K'⟩ := D.rk r (by omega)
        refine ⟨kd', K'.fr (fun R x h => ?_) ?_ (fun R h1 h2 => ?_)⟩
        · rw [fK R r x (by omega), fF R r x (by omega)]
        · rw [gg 16 r 6 (by omega), g4f 16 r 6 (by omega), hG 16 r 6 (by omega)]
        · rw [uK R 0 r (by omega), uF R 0 r (by omega)]
    · exact NMI_cg (K.nm (NMI_cg D.nm (fun i _ => fF 32 0 i (by omega)) (fun R i hR _ => uF R 0 i (by omega)))) (fun _ _ => rfl) (fun R i hR _ => n6 R 0 i (by omega) (by omega))
    · have S1 : SCR N k b sg sl fl n A0 A kk' c' q' s' f4 (m3 g4 18 n 2 nx) U6 := by
        refine D.sc.mv (fun a i ha hi => ?_) (fun a i ha => ?_) (fun R i x1 x2 x3 => ?_) (fun r hr => ⟨?_, ?_, ?_⟩) (by omega) (fun i hi => ?_) (by omega) (fun R i hR hi => ?_) (by omega) (fun R i x1 x2 hi => ?_) (by omega) (Nat.le_refl _) (Nat.le_refl _)
        · rw [fK 19 a i (by omega), fF 19 a i (by omega)]
        · rw [gg 19 a i (by omega), g4f 19 a i (by omega), hG 19 a i (by omega)]
        · rw [uK R 0 i (by omega), uF R 0 i (by omega)]
        · rw [uK 49 0 r (by omega), uF 49 0 r (by omega)]
        · rw [uK 57 0 r (by omega), uF 57 0 r (by omega)]
        · rw [gg 18 r 2 (by omega), g4f 18 r 2 (by omega), hG 18 r 2 (by omega)]
        · rw [fK 32 0 i (by omega), fF 32 0 i (by omega)]
        · rw [uK R 0 i (by omega), uF R 0 i (by omega)]
        · rw [uK R 0 i (by omega), uF R 0 i (by omega)]
      obtain ⟨γ1, hsm⟩ := K.sm
      refine S1.add haa k5 (by omega) (by omega) (kk := kk) (nx := nx) ?_ ?_ w1 w6 m3_eq ⟨γ1, fun F G U Γ n2 sF qF I => ?_⟩ (kd := kd)
      · rw [uK 49 0 n (by omega), m3' 49 0 n (by omega) (by omega)]
        exact K8.kr
      · rw [uK 57 0 n (by omega)]
        exact U57
      · exact hsm F G U Γ n2 sF qF ⟨I.gh, I.fs, fun a x1 x2 i h => (I.gs a x1 x2 i h).trans (gg 19 a i (by omega)), fun R i x1 x2 x3 x4 => (I.os R i x1 x2 x3 x4).trans (n6 R 0 i (by omega) (by omega)), I.kr, fun y z w => I.fm y z (FMp.mv (fun _ _ => rfl) (Nat.le_refl _) (fun R i hR _ => n6 R 0 i (by omega) (by omega)) (Nat.le_refl _) w), fun y z w => I.cm y z (CDp.mv (fun _ _ => rfl) (Nat.le_refl _) (fun R i hR _ => n6 R 0 i (by omega) (by omega)) (Nat.le_refl _) (fun R i x1 x2 _ => n6 R 0 i (by omega) (by omega)) (Nat.le_refl _) (Nat.le_refl _) w), I.sl, I.fl⟩
  · obtain ⟨A5, x1, x2⟩ := K.xr
    exact ⟨f4, m3 g4 18 n 2 nx, u4, X4, cC, fun d v2 hd => by rw [cU d v2 hd, if_pos rfl], Or.inr ⟨K.bd, A5, x1, by omega⟩⟩
end Dcl
