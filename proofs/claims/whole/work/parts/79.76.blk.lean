/-! ===== read: steps and blocks, what is said of them ===== -/
abbrev Gh := Nat → Nat × Nat × Nat × Nat × Option Nat
def gR (γ : Gh) (a : Nat) : Nat := (γ a).1
def gP (γ : Gh) (a : Nat) : Nat := (γ a).2.1
def gE (γ : Gh) (a : Nat) : Nat := (γ a).2.2.1
def gD (γ : Gh) (a : Nat) : Nat := (γ a).2.2.2.1
def gL (γ : Gh) (a : Nat) : Option Nat := (γ a).2.2.2.2
def FMp (N k : Nat) (b : Nat → Nat) (sg : Nat → Int32) (f u : MI) (C Q : Nat) (x y : Int32) : Prop := ∃ (c ka c1 : Nat) (lc lr : PL), x = nI c ∧ y = nI ka ∧ FEp N k b sg f u c c1 ka lc lr ∧ f 32 0 c1 = 0 ∧ c1 < C ∧ ka + lr.length < Q
def CDp (N k : Nat) (b : Nat → Nat) (sg : Nat → Int32) (f u : MI) (C Q S fl : Nat) (x y : Int32) : Prop := ∃ c s m e : Nat, x = nI c ∧ y = nI s ∧ CMp N k b sg f u fl Q e m c s ∧ e < C ∧ s + m < S
def LocG (F : MI) (G : MR) (U : MI) (Γ : Gh) (n s q r a : Nat) : Prop := Loc F G U (gR Γ) (gP Γ) (gE Γ) (gD Γ) (gL Γ) n s q r a ∧ gR Γ a = r
def EndG (F : MI) (G : MR) (U : MI) (Γ : Gh) (r : Nat) (o : Option Nat) (k : Nat) : Prop := EndAt F G U (gR Γ) (gP Γ) (gE Γ) (gD Γ) r o k
/-- the end of all: steps of [A0, A1) (their next but for x's), ops of [k0, k1) as they stand, formulas settled -/
def AGR (N k : Nat) (b : Nat → Nat) (sg : Nat → Int32) (sl fl r kd A0 A1 ex k0 k1 C Q S : Nat) (γ : Gh) (f : MI) (g : MR) (u : MI) (F : MI) (G : MR) (U : MI) (Γ : Gh) (n s q : Nat) : Prop := (∀ a, A0 ≤ a → a < A1 → Γ a = γ a) ∧ (∀ a, A0 ≤ a → a < A1 → ∀ i, i ≠ 6 → F 19 a i = f 19 a i) ∧ (∀ a, A0 ≤ a → a < A1 → ∀ i, ¬ (a = ex ∧ i = 7) → G 19 a i = g 19 a i) ∧ (∀ R i, 59 ≤ R → R ≤ 64 → k0 ≤ i → i < k1 → U R 0 i = u R 0 i) ∧ (U 49 0 r = nI kd) ∧ (∀ y z, FMp N k b sg f u C Q y z → FMx F U n y z) ∧ (∀ y z, CDp N k b sg f u C Q S fl y z → CDx F U n q y z) ∧ (sl ≤ s) ∧ (fl ≤ q)
theorem AGR.gh {N k : Nat} {b : Nat → Nat} {sg : Nat → Int32} {sl fl r kd A0 A1 ex k0 k1 C Q S : Nat} {γ : Gh} {f : MI} {g : MR} {u : MI} {F : MI} {G : MR} {U : MI} {Γ : Gh} {n s q : Nat} (x : AGR N k b sg sl fl r kd A0 A1 ex k0 k1 C Q S γ f g u F G U Γ n s q) : ∀ a, A0 ≤ a → a < A1 → Γ a = γ a := x.1
theorem AGR.fs {N k : Nat} {b : Nat → Nat} {sg : Nat → Int32} {sl fl r kd A0 A1 ex k0 k1 C Q S : Nat} {γ : Gh} {f : MI} {g : MR} {u : MI} {F : MI} {G : MR} {U : MI} {Γ : Gh} {n s q : Nat} (x : AGR N k b sg sl fl r kd A0 A1 ex k0 k1 C Q S γ f g u F G U Γ n s q) : ∀ a, A0 ≤ a → a < A1 → ∀ i, i ≠ 6 → F 19 a i = f 19 a i := x.2.1
theorem AGR.gs {N k : Nat} {b : Nat → Nat} {sg : Nat → Int32} {sl fl r kd A0 A1 ex k0 k1 C Q S : Nat} {γ : Gh} {f : MI} {g : MR} {u : MI} {F : MI} {G : MR} {U : MI} {Γ : Gh} {n s q : Nat} (x : AGR N k b sg sl fl r kd A0 A1 ex k0 k1 C Q S γ f g u F G U Γ n s q) : ∀ a, A0 ≤ a → a < A1 → ∀ i, ¬ (a = ex ∧ i = 7) → G 19 a i = g 19 a i := x.2.2.1
theorem AGR.os {N k : Nat} {b : Nat → Nat} {sg : Nat → Int32} {sl fl r kd A0 A1 ex k0 k1 C Q S : Nat} {γ : Gh} {f : MI} {g : MR} {u : MI} {F : MI} {G : MR} {U : MI} {Γ : Gh} {n s q : Nat} (x : AGR N k b sg sl fl r kd A0 A1 ex k0 k1 C Q S γ f g u F G U Γ n s q) : ∀ R i, 59 ≤ R → R ≤ 64 → k0 ≤ i → i < k1 → U R 0 i = u R 0 i := x.2.2.2.1
theorem AGR.kr {N k : Nat} {b : Nat → Nat} {sg : Nat → Int32} {sl fl r kd A0 A1 ex k0 k1 C Q S : Nat} {γ : Gh} {f : MI} {g : MR} {u : MI} {F : MI} {G : MR} {U : MI} {Γ : Gh} {n s q : Nat} (x : AGR N k b sg sl fl r kd A0 A1 ex k0 k1 C Q S γ f g u F G U Γ n s q) : U 49 0 r = nI kd := x.2.2.2.2.1
theorem AGR.fm {N k : Nat} {b : Nat → Nat} {sg : Nat → Int32} {sl fl r kd A0 A1 ex k0 k1 C Q S : Nat} {γ : Gh} {f : MI} {g : MR} {u : MI} {F : MI} {G : MR} {U : MI} {Γ : Gh} {n s q : Nat} (x : AGR N k b sg sl fl r kd A0 A1 ex k0 k1 C Q S γ f g u F G U Γ n s q) : ∀ y z, FMp N k b sg f u C Q y z → FMx F U n y z := x.2.2.2.2.2.1
theorem AGR.cm {N k : Nat} {b : Nat → Nat} {sg : Nat → Int32} {sl fl r kd A0 A1 ex k0 k1 C Q S : Nat} {γ : Gh} {f : MI} {g : MR} {u : MI} {F : MI} {G : MR} {U : MI} {Γ : Gh} {n s q : Nat} (x : AGR N k b sg sl fl r kd A0 A1 ex k0 k1 C Q S γ f g u F G U Γ n s q) : ∀ y z, CDp N k b sg f u C Q S fl y z → CDx F U n q y z := x.2.2.2.2.2.2.1
theorem AGR.sl {N k : Nat} {b : Nat → Nat} {sg : Nat → Int32} {sl fl r kd A0 A1 ex k0 k1 C Q S : Nat} {γ : Gh} {f : MI} {g : MR} {u : MI} {F : MI} {G : MR} {U : MI} {Γ : Gh} {n s q : Nat} (x : AGR N k b sg sl fl r kd A0 A1 ex k0 k1 C Q S γ f g u F G U Γ n s q) : sl ≤ s := x.2.2.2.2.2.2.2.1
theorem AGR.fl {N k : Nat} {b : Nat → Nat} {sg : Nat → Int32} {sl fl r kd A0 A1 ex k0 k1 C Q S : Nat} {γ : Gh} {f : MI} {g : MR} {u : MI} {F : MI} {G : MR} {U : MI} {Γ : Gh} {n s q : Nat} (x : AGR N k b sg sl fl r kd A0 A1 ex k0 k1 C Q S γ f g u F G U Γ n s q) : fl ≤ q := x.2.2.2.2.2.2.2.2
/-- owner, guard and loop at the end of all -/
def FO (F : MI) (G : MR) (Γ : Gh) (r m : Nat) (o gd l : Option Nat) (gv lv : Int32) : Prop :=
  ((o = none ∧ m = 0 ∧ gd = none ∧ l = none) ∨ ∃ b, o = some b ∧ gR Γ b = r ∧ blk (F 19 b 0) ∧ m = gD Γ b ∧ m ≤ 10 ∧ (gd = G 19 b 3 ∨ gd = some b) ∧ l = (if F 19 b 0 = 313 ∨ F 19 b 0 = 314 then some b else gL Γ b)) ∧
  ((gd = none ∧ gv = -1) ∨ ∃ b, gd = some b ∧ gR Γ b = r ∧ F 19 b 0 = 316 ∧ gv = nI (gP Γ b)) ∧ (∀ b, l = some b → lv = nI (gP Γ b))
def FrK (c A : Nat) (f f2 : MI) : Prop := ∀ R o i, ¬ (R = 20 ∨ R = 34 ∨ (R = 32 ∧ c ≤ i) ∨ (R = 10 ∧ i = 3) ∨ (R = 12 ∧ i = 6) ∨ (R = 19 ∧ A ≤ o)) → f2 R o i = f R o i
def FrG (A : Nat) (v : Option Nat) (g g2 : MR) : Prop := ∀ R o i, ¬ (R = 19 ∧ (A ≤ o ∨ (v = some o ∧ i = 7))) → g2 R o i = g R o i
def FrU (q s kk : Nat) (u u2 : MI) : Prop := ∀ R o i, ¬ ((R = 22 ∧ ((6 ≤ i ∧ i ≤ 13) ∨ i = 41 ∨ i = 45 ∨ i = 51 ∨ i = 53 ∨ i = 54 ∨ i = 55)) ∨ (59 ≤ R ∧ R ≤ 64 ∧ kk ≤ i) ∨ ((R = 65 ∨ R = 66 ∨ R = 67) ∧ q ≤ i) ∨ (68 ≤ R ∧ R ≤ 72 ∧ s ≤ i)) → u2 R o i = u R o i
def XR (A A2 : Nat) (X X2 : ML × (Nat → Nat) × Nat × Nat) : Prop := (A ≤ A2) ∧ (X.2.1 19 = A) ∧ (X2.2.1 19 = A2) ∧ (∀ R, R ≠ 19 → X2.2.1 R = X.2.1 R) ∧ (X2.2.2.1 = X.2.2.1 + (A2 - A)) ∧ (X2.2.2.2 = X.2.2.2 + 11 * (A2 - A)) ∧ (∀ R o i, R ≠ 19 → X2.1 R o i = X.1 R o i)
theorem XR.le {A A2 : Nat} {X X2 : ML × (Nat → Nat) × Nat × Nat} (x : XR A A2 X X2) : A ≤ A2 := x.1
theorem XR.c0 {A A2 : Nat} {X X2 : ML × (Nat → Nat) × Nat × Nat} (x : XR A A2 X X2) : X.2.1 19 = A := x.2.1
theorem XR.c1 {A A2 : Nat} {X X2 : ML × (Nat → Nat) × Nat × Nat} (x : XR A A2 X X2) : X2.2.1 19 = A2 := x.2.2.1
theorem XR.cr {A A2 : Nat} {X X2 : ML × (Nat → Nat) × Nat × Nat} (x : XR A A2 X X2) : ∀ R, R ≠ 19 → X2.2.1 R = X.2.1 R := x.2.2.2.1
theorem XR.ce {A A2 : Nat} {X X2 : ML × (Nat → Nat) × Nat × Nat} (x : XR A A2 X X2) : X2.2.2.1 = X.2.2.1 + (A2 - A) := x.2.2.2.2.1
theorem XR.sl {A A2 : Nat} {X X2 : ML × (Nat → Nat) × Nat × Nat} (x : XR A A2 X X2) : X2.2.2.2 = X.2.2.2 + 11 * (A2 - A) := x.2.2.2.2.2.1
theorem XR.ml {A A2 : Nat} {X X2 : ML × (Nat → Nat) × Nat × Nat} (x : XR A A2 X X2) : ∀ R o i, R ≠ 19 → X2.1 R o i = X.1 R o i := x.2.2.2.2.2.2
/-- both in a script -/
def SX (N k : Nat) (b : Nat → Nat) (sg : Nat → Int32) (cn : Nat) (nt ns nn : Nat → Nat) (sl fl r kd : Nat) (f : MI) (u : MI) (t c q s kk st : Nat) : Prop := (GX N k b sg cn nt ns nn f u t c q) ∧ (u 22 0 51 = nI s) ∧ (2 * s ≤ t) ∧ (u 22 0 41 = nI kk) ∧ (kk ≤ t) ∧ (f 12 0 6 = nI st) ∧ (u 22 0 53 = nI st) ∧ (st ≤ 150) ∧ (∀ i, i < cn → ns i = 1 → nn i < fl) ∧ (∀ i, i < cn → ns i = 0 → nn i < sl) ∧ (r < 12) ∧ (kd ≤ 8) ∧ (u 22 0 52 = nI r) ∧ (u 49 0 r = nI kd) ∧ (f 16 r 5 = tabB 4 kd) ∧ (R_abl u)
theorem SX.gx {N k : Nat} {b : Nat → Nat} {sg : Nat → Int32} {cn : Nat} {nt ns nn : Nat → Nat} {sl fl r kd : Nat} {f : MI} {u : MI} {t c q s kk st : Nat} (x : SX N k b sg cn nt ns nn sl fl r kd f u t c q s kk st) : GX N k b sg cn nt ns nn f u t c q := x.1
theorem SX.su {N k : Nat} {b : Nat → Nat} {sg : Nat → Int32} {cn : Nat} {nt ns nn : Nat → Nat} {sl fl r kd : Nat} {f : MI} {u : MI} {t c q s kk st : Nat} (x : SX N k b sg cn nt ns nn sl fl r kd f u t c q s kk st) : u 22 0 51 = nI s := x.2.1
theorem SX.sl {N k : Nat} {b : Nat → Nat} {sg : Nat → Int32} {cn : Nat} {nt ns nn : Nat → Nat} {sl fl r kd : Nat} {f : MI} {u : MI} {t c q s kk st : Nat} (x : SX N k b sg cn nt ns nn sl fl r kd f u t c q s kk st) : 2 * s ≤ t := x.2.2.1
theorem SX.ku {N k : Nat} {b : Nat → Nat} {sg : Nat → Int32} {cn : Nat} {nt ns nn : Nat → Nat} {sl fl r kd : Nat} {f : MI} {u : MI} {t c q s kk st : Nat} (x : SX N k b sg cn nt ns nn sl fl r kd f u t c q s kk st) : u 22 0 41 = nI kk := x.2.2.2.1
theorem SX.kl {N k : Nat} {b : Nat → Nat} {sg : Nat → Int32} {cn : Nat} {nt ns nn : Nat → Nat} {sl fl r kd : Nat} {f : MI} {u : MI} {t c q s kk st : Nat} (x : SX N k b sg cn nt ns nn sl fl r kd f u t c q s kk st) : kk ≤ t := x.2.2.2.2.1
theorem SX.sc {N k : Nat} {b : Nat → Nat} {sg : Nat → Int32} {cn : Nat} {nt ns nn : Nat → Nat} {sl fl r kd : Nat} {f : MI} {u : MI} {t c q s kk st : Nat} (x : SX N k b sg cn nt ns nn sl fl r kd f u t c q s kk st) : f 12 0 6 = nI st := x.2.2.2.2.2.1
theorem SX.sr {N k : Nat} {b : Nat → Nat} {sg : Nat → Int32} {cn : Nat} {nt ns nn : Nat → Nat} {sl fl r kd : Nat} {f : MI} {u : MI} {t c q s kk st : Nat} (x : SX N k b sg cn nt ns nn sl fl r kd f u t c q s kk st) : u 22 0 53 = nI st := x.2.2.2.2.2.2.1
theorem SX.sb {N k : Nat} {b : Nat → Nat} {sg : Nat → Int32} {cn : Nat} {nt ns nn : Nat → Nat} {sl fl r kd : Nat} {f : MI} {u : MI} {t c q s kk st : Nat} (x : SX N k b sg cn nt ns nn sl fl r kd f u t c q s kk st) : st ≤ 150 := x.2.2.2.2.2.2.2.1
theorem SX.hf {N k : Nat} {b : Nat → Nat} {sg : Nat → Int32} {cn : Nat} {nt ns nn : Nat → Nat} {sl fl r kd : Nat} {f : MI} {u : MI} {t c q s kk st : Nat} (x : SX N k b sg cn nt ns nn sl fl r kd f u t c q s kk st) : ∀ i, i < cn → ns i = 1 → nn i < fl := x.2.2.2.2.2.2.2.2.1
theorem SX.hs {N k : Nat} {b : Nat → Nat} {sg : Nat → Int32} {cn : Nat} {nt ns nn : Nat → Nat} {sl fl r kd : Nat} {f : MI} {u : MI} {t c q s kk st : Nat} (x : SX N k b sg cn nt ns nn sl fl r kd f u t c q s kk st) : ∀ i, i < cn → ns i = 0 → nn i < sl := x.2.2.2.2.2.2.2.2.2.1
theorem SX.rl {N k : Nat} {b : Nat → Nat} {sg : Nat → Int32} {cn : Nat} {nt ns nn : Nat → Nat} {sl fl r kd : Nat} {f : MI} {u : MI} {t c q s kk st : Nat} (x : SX N k b sg cn nt ns nn sl fl r kd f u t c q s kk st) : r < 12 := x.2.2.2.2.2.2.2.2.2.2.1
theorem SX.kd {N k : Nat} {b : Nat → Nat} {sg : Nat → Int32} {cn : Nat} {nt ns nn : Nat → Nat} {sl fl r kd : Nat} {f : MI} {u : MI} {t c q s kk st : Nat} (x : SX N k b sg cn nt ns nn sl fl r kd f u t c q s kk st) : kd ≤ 8 := x.2.2.2.2.2.2.2.2.2.2.2.1
theorem SX.h5 {N k : Nat} {b : Nat → Nat} {sg : Nat → Int32} {cn : Nat} {nt ns nn : Nat → Nat} {sl fl r kd : Nat} {f : MI} {u : MI} {t c q s kk st : Nat} (x : SX N k b sg cn nt ns nn sl fl r kd f u t c q s kk st) : u 22 0 52 = nI r := x.2.2.2.2.2.2.2.2.2.2.2.2.1
theorem SX.h4 {N k : Nat} {b : Nat → Nat} {sg : Nat → Int32} {cn : Nat} {nt ns nn : Nat → Nat} {sl fl r kd : Nat} {f : MI} {u : MI} {t c q s kk st : Nat} (x : SX N k b sg cn nt ns nn sl fl r kd f u t c q s kk st) : u 49 0 r = nI kd := x.2.2.2.2.2.2.2.2.2.2.2.2.2.1
theorem SX.ac {N k : Nat} {b : Nat → Nat} {sg : Nat → Int32} {cn : Nat} {nt ns nn : Nat → Nat} {sl fl r kd : Nat} {f : MI} {u : MI} {t c q s kk st : Nat} (x : SX N k b sg cn nt ns nn sl fl r kd f u t c q s kk st) : f 16 r 5 = tabB 4 kd := x.2.2.2.2.2.2.2.2.2.2.2.2.2.2.1
theorem SX.ab {N k : Nat} {b : Nat → Nat} {sg : Nat → Int32} {cn : Nat} {nt ns nn : Nat → Nat} {sl fl r kd : Nat} {f : MI} {u : MI} {t c q s kk st : Nat} (x : SX N k b sg cn nt ns nn sl fl r kd f u t c q s kk st) : R_abl u := x.2.2.2.2.2.2.2.2.2.2.2.2.2.2.2
/-- what holds behind a fault -/
def SB (k t c q s kk A : Nat) (v : Option Nat) (f : MI) (g : MR) (u : MI) (X : ML × (Nat → Nat) × Nat × Nat) (f2 : MI) (g2 : MR) (u2 : MI) (X2 : ML × (Nat → Nat) × Nat × Nat) : Prop := (BAD f2 u2) ∧ (∃ c2 : Nat, c ≤ c2 ∧ c2 ≤ 4001 ∧ f2 10 0 3 = nI c2) ∧ (∃ A2 : Nat, XR A A2 X X2 ∧ A2 - A ≤ 2 * (k - t)) ∧ (FrK c A f f2) ∧ (FrG A v g g2) ∧ (FrU q s kk u u2)
theorem SB.bd {k t c q s kk A : Nat} {v : Option Nat} {f : MI} {g : MR} {u : MI} {X : ML × (Nat → Nat) × Nat × Nat} {f2 : MI} {g2 : MR} {u2 : MI} {X2 : ML × (Nat → Nat) × Nat × Nat} (x : SB k t c q s kk A v f g u X f2 g2 u2 X2) : BAD f2 u2 := x.1
theorem SB.cc {k t c q s kk A : Nat} {v : Option Nat} {f : MI} {g : MR} {u : MI} {X : ML × (Nat → Nat) × Nat × Nat} {f2 : MI} {g2 : MR} {u2 : MI} {X2 : ML × (Nat → Nat) × Nat × Nat} (x : SB k t c q s kk A v f g u X f2 g2 u2 X2) : ∃ c2 : Nat, c ≤ c2 ∧ c2 ≤ 4001 ∧ f2 10 0 3 = nI c2 := x.2.1
theorem SB.xr {k t c q s kk A : Nat} {v : Option Nat} {f : MI} {g : MR} {u : MI} {X : ML × (Nat → Nat) × Nat × Nat} {f2 : MI} {g2 : MR} {u2 : MI} {X2 : ML × (Nat → Nat) × Nat × Nat} (x : SB k t c q s kk A v f g u X f2 g2 u2 X2) : ∃ A2 : Nat, XR A A2 X X2 ∧ A2 - A ≤ 2 * (k - t) := x.2.2.1
theorem SB.fc {k t c q s kk A : Nat} {v : Option Nat} {f : MI} {g : MR} {u : MI} {X : ML × (Nat → Nat) × Nat × Nat} {f2 : MI} {g2 : MR} {u2 : MI} {X2 : ML × (Nat → Nat) × Nat × Nat} (x : SB k t c q s kk A v f g u X f2 g2 u2 X2) : FrK c A f f2 := x.2.2.2.1
theorem SB.fg {k t c q s kk A : Nat} {v : Option Nat} {f : MI} {g : MR} {u : MI} {X : ML × (Nat → Nat) × Nat × Nat} {f2 : MI} {g2 : MR} {u2 : MI} {X2 : ML × (Nat → Nat) × Nat × Nat} (x : SB k t c q s kk A v f g u X f2 g2 u2 X2) : FrG A v g g2 := x.2.2.2.2.1
theorem SB.fu {k t c q s kk A : Nat} {v : Option Nat} {f : MI} {g : MR} {u : MI} {X : ML × (Nat → Nat) × Nat × Nat} {f2 : MI} {g2 : MR} {u2 : MI} {X2 : ML × (Nat → Nat) × Nat × Nat} (x : SB k t c q s kk A v f g u X f2 g2 u2 X2) : FrU q s kk u u2 := x.2.2.2.2.2
section Blk
variable {L : Nat} {xs : Nat → Int32} {d : Nat} {g g2 g3 : MR} {X X2 X3 : ML × (Nat → Nat) × Nat × Nat} {Y : MR × ML × (Nat → Nat) × Nat × Nat} {N k t c q s kk A A2 A3 : Nat} {b : Nat → Nat} {sg : Nat → Int32} {f f2 f3 u u2 u3 : MI}
theorem FMp.mv {C C2 Q Q2 : Nat} {x y : Int32} (hf : ∀ i, i < C → f2 32 0 i = f 32 0 i) (hC : C ≤ C2) (hu : ∀ R i, (R = 65 ∨ R = 66 ∨ R = 67) → i < Q → u2 R 0 i = u R 0 i) (hQ : Q ≤ Q2) (h : FMp N k b sg f u C Q x y) : FMp N k b sg f2 u2 C2 Q2 x y := by
  obtain ⟨c, ka, c1, lc, lr, h1, h2, h3, h4, h5, h6⟩ := h
  exact ⟨c, ka, c1, lc, lr, h1, h2, h3.mv hf (by omega) hu h6, (hf c1 h5).trans h4, by omega, by omega⟩
theorem CDp.mv {C C2 Q Q2 S S2 fl fl2 : Nat} {x y : Int32} (hf : ∀ i, i < C → f2 32 0 i = f 32 0 i) (hC : C ≤ C2) (hu : ∀ R i, (R = 65 ∨ R = 66 ∨ R = 67) → i < Q → u2 R 0 i = u R 0 i) (hQ : Q ≤ Q2) (hs : ∀ R i, 68 ≤ R → R ≤ 72 → i < S → u2 R 0 i = u R 0 i) (hS : S ≤ S2) (hfl : fl ≤ fl2) (h : CDp N k b sg f u C Q S fl x y) : CDp N k b sg f2 u2 C2 Q2 S2 fl2 x y := by
  obtain ⟨c, s, m, e, h1, h2, h3, h4, h5⟩ := h
  exact ⟨c, s, m, e, h1, h2, CMp.mv hf h4 hu hQ hfl hs h5 h3, by omega, by omega⟩
theorem XR.rf (h : X.2.1 19 = A) : XR A A X X := ⟨Nat.le_refl A, h, h, fun _ _ => rfl, by omega, by omega, fun _ _ _ _ => rfl⟩
theorem XR.tr (h1 : XR A A2 X X2) (h2 : XR A2 A3 X2 X3) : XR A A3 X X3 := by
  have a1 := h1.le
  have a2 := h2.le
  exact ⟨by omega, h1.c0, h2.c1, fun R h => (h2.cr R h).trans (h1.cr R h), by rw [h2.ce, h1.ce]; omega, by rw [h2.sl, h1.sl]; omega, fun R o i h => (h2.ml R o i h).trans (h1.ml R o i h)⟩
theorem XR.new (h : X.2.1 19 = A) : XR A (A + 1) X (NX X A) := by
  refine ⟨by omega, h, ?_, fun R hR => ?_, ?_, ?_, fun R o i hR => ?_⟩
  · show m1 X.2.1 19 (A + 1) 19 = A + 1
    unfold m1
    rw [if_pos rfl]
  · show m1 X.2.1 19 (A + 1) R = X.2.1 R
    unfold m1
    rw [if_neg hR]
  · show X.2.2.1 + 1 = X.2.2.1 + (A + 1 - A)
    omega
  · show X.2.2.2 + 11 = X.2.2.2 + 11 * (A + 1 - A)
    omega
  · show m2 X.1 19 A 0 R o i = X.1 R o i
    unfold m2
    rw [if_neg hR]
theorem NF_o {A : Nat} {kd pl : Int32} {R o i : Nat} (h : ¬ (R = 19 ∧ o = A)) : NF f A kd pl R o i = f R o i := by
  unfold NF
  rw [m3_no (by omega), m3_no (by omega)]
  unfold m2
  by_cases y : R = 19
  · rw [if_pos y, if_neg (fun e => h ⟨y, e⟩)]
  · rw [if_neg y]
theorem NF_0 {A : Nat} {kd pl : Int32} : NF f A kd pl 19 A 0 = kd := by
  unfold NF
  rw [m3_i (by decide), m3_eq]
theorem NF_1 {A : Nat} {kd pl : Int32} : NF f A kd pl 19 A 1 = pl := by
  unfold NF
  rw [m3_eq]
theorem NG_o {A : Nat} {o1 o2 : Option Nat} {R o i : Nat} (h : ¬ (R = 19 ∧ o = A)) : NG g A o1 o2 R o i = g R o i := by
  unfold NG
  rw [m3_no (by omega), m3_no (by omega)]
  unfold m2
  by_cases y : R = 19
  · rw [if_pos y, if_neg (fun e => h ⟨y, e⟩)]
  · rw [if_neg y]
theorem NG_2 {A : Nat} {o1 o2 : Option Nat} : NG g A o1 o2 19 A 2 = o1 := by
  unfold NG
  rw [m3_i (by decide), m3_eq]
theorem NG_3 {A : Nat} {o1 o2 : Option Nat} : NG g A o1 o2 19 A 3 = o2 := by
  unfold NG
  rw [m3_eq]
theorem NG_i {A : Nat} {o1 o2 : Option Nat} {i : Nat} (h2 : i ≠ 2) (h3 : i ≠ 3) : NG g A o1 o2 19 A i = none := by
  unfold NG
  rw [m3_i h3, m3_i h2]
  unfold m2
  rw [if_pos rfl, if_pos rfl]
theorem FrK.rf : FrK c A f f := fun _ _ _ _ => rfl
theorem FrG.rf {v : Option Nat} : FrG A v g g := fun _ _ _ _ => rfl
theorem FrU.rf : FrU q s kk u u := fun _ _ _ _ => rfl
theorem FrK.tr {c2 : Nat} (h1 : FrK c A f f2) (h2 : FrK c2 A2 f2 f3) (hc : c ≤ c2) (hA : A ≤ A2) : FrK c A f f3 := fun R o i z => (h2 R o i (by omega)).trans (h1 R o i z)
theorem FrK.oc (h : FrC c f f2) : FrK c A f f2 := fun R o i z => h R o i (by omega)
theorem FrU.tr {q2 s2 k2 : Nat} (h1 : FrU q s kk u u2) (h2 : FrU q2 s2 k2 u2 u3) (hq : q ≤ q2) (hs : s ≤ s2) (hk : kk ≤ k2) : FrU q s kk u u3 := fun R o i z => (h2 R o i (by omega)).trans (h1 R o i z)
theorem FrU.oq (h : FrQ q u u2) : FrU q s kk u u2 := fun R o i z => h R o i (by omega)
theorem FrU.oa (h : FrA q s u u2) : FrU q s kk u u2 := fun R o i z => h R o i (by omega)
theorem FrU.f6 (h : Fr6 u u2) : FrU q s kk u u2 := fun R o i z => h R o i (by omega)
theorem FrU.b6 (h : FB f f2 u u2) : FrU q s kk u u2 := fun R o i z => h.2 R o i (by omega)
theorem FrU.nw {k2 : Nat} {p0 p1 p2 p3 p4 p5 : Int32} (h : kk ≤ k2) : FrU q s kk u (NW u k2 p0 p1 p2 p3 p4 p5) := fun R o i z => by
  unfold NW
  rw [m3_no (by omega), m3_no (by omega), m3_no (by omega), m3_no (by omega), m3_no (by omega), m3_no (by omega), m3_no (by omega)]
theorem FrG.tr {v : Option Nat} (h1 : FrG A v g g2) (h2 : FrG A2 none g2 g3) (hA : A ≤ A2) : FrG A v g g3 := fun R o i z => (h2 R o i (fun ⟨y1, y2⟩ => by
  rcases y2 with y2 | ⟨y2, -⟩
  · exact z ⟨y1, Or.inl (by omega)⟩
  · cases y2)).trans (h1 R o i z)
/-! the class behind a fault -/
theorem ed_block {p0 q0 p1 : Int32} {o1 o2 o3 : Option Nat} (E : ED f p0 q0) : EL (mP L xs) (d + 2) 81 [rv 12 (some 0), iv p1, rv 19 o1, rv 19 o2, rv 16 o3] (f, g, X) = some (.inl (some (rv 19 none)), (f, g, X)) := by
  rw [E_FairReader_block, ed_sort E, clI, if_neg (by decide), ed_ref E, clV]
theorem ed_told {p0 q0 p1 : Int32} (E : ED f p0 q0) : EL (mP L xs) (d + 3) 76 [rv 14 (some 0), iv p1] (f, g, X) = some (.inl (some (iv (-1))), (f, g, X)) := by
  rw [E_Names_readTold, ed_isWord E, clI, if_pos rfl, ed_ref E, clV]
theorem ED.m19 {p0 q0 v : Int32} {a i : Nat} (E : ED f p0 q0) : ED (m3 f 19 a i v) p0 q0 := E.fr (m3_r (by decide)) (m3_r (by decide)) (m3_r (by decide)) (m3_r (by decide)) (m3_r (by decide))
theorem ED.m2 {p0 q0 : Int32} {a : Nat} {kd pl : Int32} (E : ED f p0 q0) : ED (NF f a kd pl) p0 q0 := E.fr (NF_o (by omega)) (NF_o (by omega)) (NF_o (by omega)) (NF_o (by omega)) (NF_o (by omega))
end Blk
