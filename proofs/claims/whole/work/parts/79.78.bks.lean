/-! ===== read: blocks, step by step ===== -/
def NXT (F : MI) (G : MR) (U : MI) (Γ : Gh) (r : Nat) (o nx : Option Nat) (k : Nat) : Prop := (∀ x, nx = some x → gR Γ x = r ∧ gP Γ x = k ∧ F 19 x 0 ≠ 401 ∧ G 19 x 2 = o) ∧ (nx = none → EndG F G U Γ r o k)
def lkN (v : Option Nat) (g : MR) (A : Nat) : MR := match v with
  | none => g
  | some j => m3 g 19 j 7 (some A)
/-- a step, read well -/
def PGd (N k : Nat) (b : Nat → Nat) (sg : Nat → Int32) (cn : Nat) (nt ns nn : Nat → Nat) (sl fl r kd m : Nat) (o gd l : Option Nat) (gv lv : Int32) (t c q s kk A : Nat) (f : MI) (g : MR) (u : MI) (X : ML × (Nat → Nat) × Nat × Nat) (f2 : MI) (g2 : MR) (u2 : MI) (X2 : ML × (Nat → Nat) × Nat × Nat) (t' c' q' s' kk' st' A' : Nat) : Prop := (t < t') ∧ (SX N k b sg cn nt ns nn sl fl r kd f2 u2 t' c' q' s' kk' st') ∧ (XR A A' X X2) ∧ (A < A') ∧ (A' - A ≤ 2 * (t' - t)) ∧ (c ≤ c' ∧ q ≤ q' ∧ s ≤ s' ∧ kk < kk') ∧ (kk' + t ≤ kk + t') ∧ (FrK c A f f2) ∧ (FrG A none g g2) ∧ (FrU q s kk u u2) ∧ (u2 22 0 54 = lv) ∧ (g2 19 A 7 = none) ∧ (∃ γ : Gh, ∀ F G U Γ n sF qF, AGR N k b sg sl fl r kd A A' A kk kk' c' q' s' γ f2 g2 u2 F G U Γ n sF qF → FO F G Γ r m o gd l gv lv → NXT F G U Γ r o (G 19 A 7) kk' → (∀ a, A ≤ a → a < A' → LocG F G U Γ n sF qF r a) ∧ gR Γ A = r ∧ gP Γ A = kk ∧ F 19 A 0 ≠ 401 ∧ G 19 A 2 = o) ∧ (NMI N k b sg f u c q → NMI N k b sg f2 u2 c' q')
theorem PGd.tt {N k : Nat} {b : Nat → Nat} {sg : Nat → Int32} {cn : Nat} {nt ns nn : Nat → Nat} {sl fl r kd m : Nat} {o gd l : Option Nat} {gv lv : Int32} {t c q s kk A : Nat} {f : MI} {g : MR} {u : MI} {X : ML × (Nat → Nat) × Nat × Nat} {f2 : MI} {g2 : MR} {u2 : MI} {X2 : ML × (Nat → Nat) × Nat × Nat} {t' c' q' s' kk' st' A' : Nat} (x : PGd N k b sg cn nt ns nn sl fl r kd m o gd l gv lv t c q s kk A f g u X f2 g2 u2 X2 t' c' q' s' kk' st' A') : t < t' := x.1
theorem PGd.sx {N k : Nat} {b : Nat → Nat} {sg : Nat → Int32} {cn : Nat} {nt ns nn : Nat → Nat} {sl fl r kd m : Nat} {o gd l : Option Nat} {gv lv : Int32} {t c q s kk A : Nat} {f : MI} {g : MR} {u : MI} {X : ML × (Nat → Nat) × Nat × Nat} {f2 : MI} {g2 : MR} {u2 : MI} {X2 : ML × (Nat → Nat) × Nat × Nat} {t' c' q' s' kk' st' A' : Nat} (x : PGd N k b sg cn nt ns nn sl fl r kd m o gd l gv lv t c q s kk A f g u X f2 g2 u2 X2 t' c' q' s' kk' st' A') : SX N k b sg cn nt ns nn sl fl r kd f2 u2 t' c' q' s' kk' st' := x.2.1
theorem PGd.xr {N k : Nat} {b : Nat → Nat} {sg : Nat → Int32} {cn : Nat} {nt ns nn : Nat → Nat} {sl fl r kd m : Nat} {o gd l : Option Nat} {gv lv : Int32} {t c q s kk A : Nat} {f : MI} {g : MR} {u : MI} {X : ML × (Nat → Nat) × Nat × Nat} {f2 : MI} {g2 : MR} {u2 : MI} {X2 : ML × (Nat → Nat) × Nat × Nat} {t' c' q' s' kk' st' A' : Nat} (x : PGd N k b sg cn nt ns nn sl fl r kd m o gd l gv lv t c q s kk A f g u X f2 g2 u2 X2 t' c' q' s' kk' st' A') : XR A A' X X2 := x.2.2.1
theorem PGd.aA {N k : Nat} {b : Nat → Nat} {sg : Nat → Int32} {cn : Nat} {nt ns nn : Nat → Nat} {sl fl r kd m : Nat} {o gd l : Option Nat} {gv lv : Int32} {t c q s kk A : Nat} {f : MI} {g : MR} {u : MI} {X : ML × (Nat → Nat) × Nat × Nat} {f2 : MI} {g2 : MR} {u2 : MI} {X2 : ML × (Nat → Nat) × Nat × Nat} {t' c' q' s' kk' st' A' : Nat} (x : PGd N k b sg cn nt ns nn sl fl r kd m o gd l gv lv t c q s kk A f g u X f2 g2 u2 X2 t' c' q' s' kk' st' A') : A < A' := x.2.2.2.1
theorem PGd.al {N k : Nat} {b : Nat → Nat} {sg : Nat → Int32} {cn : Nat} {nt ns nn : Nat → Nat} {sl fl r kd m : Nat} {o gd l : Option Nat} {gv lv : Int32} {t c q s kk A : Nat} {f : MI} {g : MR} {u : MI} {X : ML × (Nat → Nat) × Nat × Nat} {f2 : MI} {g2 : MR} {u2 : MI} {X2 : ML × (Nat → Nat) × Nat × Nat} {t' c' q' s' kk' st' A' : Nat} (x : PGd N k b sg cn nt ns nn sl fl r kd m o gd l gv lv t c q s kk A f g u X f2 g2 u2 X2 t' c' q' s' kk' st' A') : A' - A ≤ 2 * (t' - t) := x.2.2.2.2.1
theorem PGd.mo {N k : Nat} {b : Nat → Nat} {sg : Nat → Int32} {cn : Nat} {nt ns nn : Nat → Nat} {sl fl r kd m : Nat} {o gd l : Option Nat} {gv lv : Int32} {t c q s kk A : Nat} {f : MI} {g : MR} {u : MI} {X : ML × (Nat → Nat) × Nat × Nat} {f2 : MI} {g2 : MR} {u2 : MI} {X2 : ML × (Nat → Nat) × Nat × Nat} {t' c' q' s' kk' st' A' : Nat} (x : PGd N k b sg cn nt ns nn sl fl r kd m o gd l gv lv t c q s kk A f g u X f2 g2 u2 X2 t' c' q' s' kk' st' A') : c ≤ c' ∧ q ≤ q' ∧ s ≤ s' ∧ kk < kk' := x.2.2.2.2.2.1
theorem PGd.kb {N k : Nat} {b : Nat → Nat} {sg : Nat → Int32} {cn : Nat} {nt ns nn : Nat → Nat} {sl fl r kd m : Nat} {o gd l : Option Nat} {gv lv : Int32} {t c q s kk A : Nat} {f : MI} {g : MR} {u : MI} {X : ML × (Nat → Nat) × Nat × Nat} {f2 : MI} {g2 : MR} {u2 : MI} {X2 : ML × (Nat → Nat) × Nat × Nat} {t' c' q' s' kk' st' A' : Nat} (x : PGd N k b sg cn nt ns nn sl fl r kd m o gd l gv lv t c q s kk A f g u X f2 g2 u2 X2 t' c' q' s' kk' st' A') : kk' + t ≤ kk + t' := x.2.2.2.2.2.2.1
theorem PGd.fc {N k : Nat} {b : Nat → Nat} {sg : Nat → Int32} {cn : Nat} {nt ns nn : Nat → Nat} {sl fl r kd m : Nat} {o gd l : Option Nat} {gv lv : Int32} {t c q s kk A : Nat} {f : MI} {g : MR} {u : MI} {X : ML × (Nat → Nat) × Nat × Nat} {f2 : MI} {g2 : MR} {u2 : MI} {X2 : ML × (Nat → Nat) × Nat × Nat} {t' c' q' s' kk' st' A' : Nat} (x : PGd N k b sg cn nt ns nn sl fl r kd m o gd l gv lv t c q s kk A f g u X f2 g2 u2 X2 t' c' q' s' kk' st' A') : FrK c A f f2 := x.2.2.2.2.2.2.2.1
theorem PGd.fg {N k : Nat} {b : Nat → Nat} {sg : Nat → Int32} {cn : Nat} {nt ns nn : Nat → Nat} {sl fl r kd m : Nat} {o gd l : Option Nat} {gv lv : Int32} {t c q s kk A : Nat} {f : MI} {g : MR} {u : MI} {X : ML × (Nat → Nat) × Nat × Nat} {f2 : MI} {g2 : MR} {u2 : MI} {X2 : ML × (Nat → Nat) × Nat × Nat} {t' c' q' s' kk' st' A' : Nat} (x : PGd N k b sg cn nt ns nn sl fl r kd m o gd l gv lv t c q s kk A f g u X f2 g2 u2 X2 t' c' q' s' kk' st' A') : FrG A none g g2 := x.2.2.2.2.2.2.2.2.1
theorem PGd.fu {N k : Nat} {b : Nat → Nat} {sg : Nat → Int32} {cn : Nat} {nt ns nn : Nat → Nat} {sl fl r kd m : Nat} {o gd l : Option Nat} {gv lv : Int32} {t c q s kk A : Nat} {f : MI} {g : MR} {u : MI} {X : ML × (Nat → Nat) × Nat × Nat} {f2 : MI} {g2 : MR} {u2 : MI} {X2 : ML × (Nat → Nat) × Nat × Nat} {t' c' q' s' kk' st' A' : Nat} (x : PGd N k b sg cn nt ns nn sl fl r kd m o gd l gv lv t c q s kk A f g u X f2 g2 u2 X2 t' c' q' s' kk' st' A') : FrU q s kk u u2 := x.2.2.2.2.2.2.2.2.2.1
theorem PGd.lv {N k : Nat} {b : Nat → Nat} {sg : Nat → Int32} {cn : Nat} {nt ns nn : Nat → Nat} {sl fl r kd m : Nat} {o gd l : Option Nat} {gv lv : Int32} {t c q s kk A : Nat} {f : MI} {g : MR} {u : MI} {X : ML × (Nat → Nat) × Nat × Nat} {f2 : MI} {g2 : MR} {u2 : MI} {X2 : ML × (Nat → Nat) × Nat × Nat} {t' c' q' s' kk' st' A' : Nat} (x : PGd N k b sg cn nt ns nn sl fl r kd m o gd l gv lv t c q s kk A f g u X f2 g2 u2 X2 t' c' q' s' kk' st' A') : u2 22 0 54 = lv := x.2.2.2.2.2.2.2.2.2.2.1
theorem PGd.n7 {N k : Nat} {b : Nat → Nat} {sg : Nat → Int32} {cn : Nat} {nt ns nn : Nat → Nat} {sl fl r kd m : Nat} {o gd l : Option Nat} {gv lv : Int32} {t c q s kk A : Nat} {f : MI} {g : MR} {u : MI} {X : ML × (Nat → Nat) × Nat × Nat} {f2 : MI} {g2 : MR} {u2 : MI} {X2 : ML × (Nat → Nat) × Nat × Nat} {t' c' q' s' kk' st' A' : Nat} (x : PGd N k b sg cn nt ns nn sl fl r kd m o gd l gv lv t c q s kk A f g u X f2 g2 u2 X2 t' c' q' s' kk' st' A') : g2 19 A 7 = none := x.2.2.2.2.2.2.2.2.2.2.2.1
theorem PGd.sm {N k : Nat} {b : Nat → Nat} {sg : Nat → Int32} {cn : Nat} {nt ns nn : Nat → Nat} {sl fl r kd m : Nat} {o gd l : Option Nat} {gv lv : Int32} {t c q s kk A : Nat} {f : MI} {g : MR} {u : MI} {X : ML × (Nat → Nat) × Nat × Nat} {f2 : MI} {g2 : MR} {u2 : MI} {X2 : ML × (Nat → Nat) × Nat × Nat} {t' c' q' s' kk' st' A' : Nat} (x : PGd N k b sg cn nt ns nn sl fl r kd m o gd l gv lv t c q s kk A f g u X f2 g2 u2 X2 t' c' q' s' kk' st' A') : ∃ γ : Gh, ∀ F G U Γ n sF qF, AGR N k b sg sl fl r kd A A' A kk kk' c' q' s' γ f2 g2 u2 F G U Γ n sF qF → FO F G Γ r m o gd l gv lv → NXT F G U Γ r o (G 19 A 7) kk' → (∀ a, A ≤ a → a < A' → LocG F G U Γ n sF qF r a) ∧ gR Γ A = r ∧ gP Γ A = kk ∧ F 19 A 0 ≠ 401 ∧ G 19 A 2 = o := x.2.2.2.2.2.2.2.2.2.2.2.2.1
theorem PGd.nm {N k : Nat} {b : Nat → Nat} {sg : Nat → Int32} {cn : Nat} {nt ns nn : Nat → Nat} {sl fl r kd m : Nat} {o gd l : Option Nat} {gv lv : Int32} {t c q s kk A : Nat} {f : MI} {g : MR} {u : MI} {X : ML × (Nat → Nat) × Nat × Nat} {f2 : MI} {g2 : MR} {u2 : MI} {X2 : ML × (Nat → Nat) × Nat × Nat} {t' c' q' s' kk' st' A' : Nat} (x : PGd N k b sg cn nt ns nn sl fl r kd m o gd l gv lv t c q s kk A f g u X f2 g2 u2 X2 t' c' q' s' kk' st' A') : NMI N k b sg f u c q → NMI N k b sg f2 u2 c' q' := x.2.2.2.2.2.2.2.2.2.2.2.2.2
/-- steps up to the block's end, read well -/
def KGd (N k : Nat) (b : Nat → Nat) (sg : Nat → Int32) (cn : Nat) (nt ns nn : Nat → Nat) (sl fl r kd m : Nat) (o gd l : Option Nat) (gv lv : Int32) (t c q s kk A : Nat) (v : Option Nat) (f : MI) (g : MR) (u : MI) (X : ML × (Nat → Nat) × Nat × Nat) (f2 : MI) (g2 : MR) (u2 : MI) (X2 : ML × (Nat → Nat) × Nat × Nat) (nx : Option Nat) (t' c' q' s' kk' st' A' : Nat) : Prop := (t < t') ∧ (SX N k b sg cn nt ns nn sl fl r kd f2 u2 t' c' q' s' kk' st') ∧ (XR A A' X X2) ∧ (A' - A ≤ 2 * (t' - t)) ∧ (c ≤ c' ∧ q ≤ q' ∧ s ≤ s' ∧ kk ≤ kk') ∧ (kk' + t + 1 ≤ kk + t') ∧ (FrK c A f f2) ∧ (FrG A v g g2) ∧ (FrU q s kk u u2) ∧ (u2 22 0 54 = lv) ∧ (∀ j, v = some j → g2 19 j 7 = nx) ∧ (∃ γ : Gh, ∀ F G U Γ n sF qF, AGR N k b sg sl fl r kd A A' A' kk kk' c' q' s' γ f2 g2 u2 F G U Γ n sF qF → FO F G Γ r m o gd l gv lv → EndG F G U Γ r o kk' → (∀ a, A ≤ a → a < A' → LocG F G U Γ n sF qF r a) ∧ NXT F G U Γ r o nx kk ∧ (nx = none → kk' = kk)) ∧ (NMI N k b sg f u c q → NMI N k b sg f2 u2 c' q')
theorem KGd.tt {N k : Nat} {b : Nat → Nat} {sg : Nat → Int32} {cn : Nat} {nt ns nn : Nat → Nat} {sl fl r kd m : Nat} {o gd l : Option Nat} {gv lv : Int32} {t c q s kk A : Nat} {v : Option Nat} {f : MI} {g : MR} {u : MI} {X : ML × (Nat → Nat) × Nat × Nat} {f2 : MI} {g2 : MR} {u2 : MI} {X2 : ML × (Nat → Nat) × Nat × Nat} {nx : Option Nat} {t' c' q' s' kk' st' A' : Nat} (x : KGd N k b sg cn nt ns nn sl fl r kd m o gd l gv lv t c q s kk A v f g u X f2 g2 u2 X2 nx t' c' q' s' kk' st' A') : t < t' := x.1
theorem KGd.sx {N k : Nat} {b : Nat → Nat} {sg : Nat → Int32} {cn : Nat} {nt ns nn : Nat → Nat} {sl fl r kd m : Nat} {o gd l : Option Nat} {gv lv : Int32} {t c q s kk A : Nat} {v : Option Nat} {f : MI} {g : MR} {u : MI} {X : ML × (Nat → Nat) × Nat × Nat} {f2 : MI} {g2 : MR} {u2 : MI} {X2 : ML × (Nat → Nat) × Nat × Nat} {nx : Option Nat} {t' c' q' s' kk' st' A' : Nat} (x : KGd N k b sg cn nt ns nn sl fl r kd m o gd l gv lv t c q s kk A v f g u X f2 g2 u2 X2 nx t' c' q' s' kk' st' A') : SX N k b sg cn nt ns nn sl fl r kd f2 u2 t' c' q' s' kk' st' := x.2.1
theorem KGd.xr {N k : Nat} {b : Nat → Nat} {sg : Nat → Int32} {cn : Nat} {nt ns nn : Nat → Nat} {sl fl r kd m : Nat} {o gd l : Option Nat} {gv lv : Int32} {t c q s kk A : Nat} {v : Option Nat} {f : MI} {g : MR} {u : MI} {X : ML × (Nat → Nat) × Nat × Nat} {f2 : MI} {g2 : MR} {u2 : MI} {X2 : ML × (Nat → Nat) × Nat × Nat} {nx : Option Nat} {t' c' q' s' kk' st' A' : Nat} (x : KGd N k b sg cn nt ns nn sl fl r kd m o gd l gv lv t c q s kk A v f g u X f2 g2 u2 X2 nx t' c' q' s' kk' st' A') : XR A A' X X2 := x.2.2.1
theorem KGd.al {N k : Nat} {b : Nat → Nat} {sg : Nat → Int32} {cn : Nat} {nt ns nn : Nat → Nat} {sl fl r kd m : Nat} {o gd l : Option Nat} {gv lv : Int32} {t c q s kk A : Nat} {v : Option Nat} {f : MI} {g : MR} {u : MI} {X : ML × (Nat → Nat) × Nat × Nat} {f2 : MI} {g2 : MR} {u2 : MI} {X2 : ML × (Nat → Nat) × Nat × Nat} {nx : Option Nat} {t' c' q' s' kk' st' A' : Nat} (x : KGd N k b sg cn nt ns nn sl fl r kd m o gd l gv lv t c q s kk A v f g u X f2 g2 u2 X2 nx t' c' q' s' kk' st' A') : A' - A ≤ 2 * (t' - t) := x.2.2.2.1
theorem KGd.mo {N k : Nat} {b : Nat → Nat} {sg : Nat → Int32} {cn : Nat} {nt ns nn : Nat → Nat} {sl fl r kd m : Nat} {o gd l : Option Nat} {gv lv : Int32} {t c q s kk A : Nat} {v : Option Nat} {f : MI} {g : MR} {u : MI} {X : ML × (Nat → Nat) × Nat × Nat} {f2 : MI} {g2 : MR} {u2 : MI} {X2 : ML × (Nat → Nat) × Nat × Nat} {nx : Option Nat} {t' c' q' s' kk' st' A' : Nat} (x : KGd N k b sg cn nt ns nn sl fl r kd m o gd l gv lv t c q s kk A v f g u X f2 g2 u2 X2 nx t' c' q' s' kk' st' A') : c ≤ c' ∧ q ≤ q' ∧ s ≤ s' ∧ kk ≤ kk' := x.2.2.2.2.1
theorem KGd.kb {N k : Nat} {b : Nat → Nat} {sg : Nat → Int32} {cn : Nat} {nt ns nn : Nat → Nat} {sl fl r kd m : Nat} {o gd l : Option Nat} {gv lv : Int32} {t c q s kk A : Nat} {v : Option Nat} {f : MI} {g : MR} {u : MI} {X : ML × (Nat → Nat) × Nat × Nat} {f2 : MI} {g2 : MR} {u2 : MI} {X2 : ML × (Nat → Nat) × Nat × Nat} {nx : Option Nat} {t' c' q' s' kk' st' A' : Nat} (x : KGd N k b sg cn nt ns nn sl fl r kd m o gd l gv lv t c q s kk A v f g u X f2 g2 u2 X2 nx t' c' q' s' kk' st' A') : kk' + t + 1 ≤ kk + t' := x.2.2.2.2.2.1
theorem KGd.fc {N k : Nat} {b : Nat → Nat} {sg : Nat → Int32} {cn : Nat} {nt ns nn : Nat → Nat} {sl fl r kd m : Nat} {o gd l : Option Nat} {gv lv : Int32} {t c q s kk A : Nat} {v : Option Nat} {f : MI} {g : MR} {u : MI} {X : ML × (Nat → Nat) × Nat × Nat} {f2 : MI} {g2 : MR} {u2 : MI} {X2 : ML × (Nat → Nat) × Nat × Nat} {nx : Option Nat} {t' c' q' s' kk' st' A' : Nat} (x : KGd N k b sg cn nt ns nn sl fl r kd m o gd l gv lv t c q s kk A v f g u X f2 g2 u2 X2 nx t' c' q' s' kk' st' A') : FrK c A f f2 := x.2.2.2.2.2.2.1
theorem KGd.fg {N k : Nat} {b : Nat → Nat} {sg : Nat → Int32} {cn : Nat} {nt ns nn : Nat → Nat} {sl fl r kd m : Nat} {o gd l : Option Nat} {gv lv : Int32} {t c q s kk A : Nat} {v : Option Nat} {f : MI} {g : MR} {u : MI} {X : ML × (Nat → Nat) × Nat × Nat} {f2 : MI} {g2 : MR} {u2 : MI} {X2 : ML × (Nat → Nat) × Nat × Nat} {nx : Option Nat} {t' c' q' s' kk' st' A' : Nat} (x : KGd N k b sg cn nt ns nn sl fl r kd m o gd l gv lv t c q s kk A v f g u X f2 g2 u2 X2 nx t' c' q' s' kk' st' A') : FrG A v g g2 := x.2.2.2.2.2.2.2.1
theorem KGd.fu {N k : Nat} {b : Nat → Nat} {sg : Nat → Int32} {cn : Nat} {nt ns nn : Nat → Nat} {sl fl r kd m : Nat} {o gd l : Option Nat} {gv lv : Int32} {t c q s kk A : Nat} {v : Option Nat} {f : MI} {g : MR} {u : MI} {X : ML × (Nat → Nat) × Nat × Nat} {f2 : MI} {g2 : MR} {u2 : MI} {X2 : ML × (Nat → Nat) × Nat × Nat} {nx : Option Nat} {t' c' q' s' kk' st' A' : Nat} (x : KGd N k b sg cn nt ns nn sl fl r kd m o gd l gv lv t c q s kk A v f g u X f2 g2 u2 X2 nx t' c' q' s' kk' st' A') : FrU q s kk u u2 := x.2.2.2.2.2.2.2.2.1
theorem KGd.lv {N k : Nat} {b : Nat → Nat} {sg : Nat → Int32} {cn : Nat} {nt ns nn : Nat → Nat} {sl fl r kd m : Nat} {o gd l : Option Nat} {gv lv : Int32} {t c q s kk A : Nat} {v : Option Nat} {f : MI} {g : MR} {u : MI} {X : ML × (Nat → Nat) × Nat × Nat} {f2 : MI} {g2 : MR} {u2 : MI} {X2 : ML × (Nat → Nat) × Nat × Nat} {nx : Option Nat} {t' c' q' s' kk' st' A' : Nat} (x : KGd N k b sg cn nt ns nn sl fl r kd m o gd l gv lv t c q s kk A v f g u X f2 g2 u2 X2 nx t' c' q' s' kk' st' A') : u2 22 0 54 = lv := x.2.2.2.2.2.2.2.2.2.1
theorem KGd.nx {N k : Nat} {b : Nat → Nat} {sg : Nat → Int32} {cn : Nat} {nt ns nn : Nat → Nat} {sl fl r kd m : Nat} {o gd l : Option Nat} {gv lv : Int32} {t c q s kk A : Nat} {v : Option Nat} {f : MI} {g : MR} {u : MI} {X : ML × (Nat → Nat) × Nat × Nat} {f2 : MI} {g2 : MR} {u2 : MI} {X2 : ML × (Nat → Nat) × Nat × Nat} {nx : Option Nat} {t' c' q' s' kk' st' A' : Nat} (x : KGd N k b sg cn nt ns nn sl fl r kd m o gd l gv lv t c q s kk A v f g u X f2 g2 u2 X2 nx t' c' q' s' kk' st' A') : ∀ j, v = some j → g2 19 j 7 = nx := x.2.2.2.2.2.2.2.2.2.2.1
theorem KGd.sm {N k : Nat} {b : Nat → Nat} {sg : Nat → Int32} {cn : Nat} {nt ns nn : Nat → Nat} {sl fl r kd m : Nat} {o gd l : Option Nat} {gv lv : Int32} {t c q s kk A : Nat} {v : Option Nat} {f : MI} {g : MR} {u : MI} {X : ML × (Nat → Nat) × Nat × Nat} {f2 : MI} {g2 : MR} {u2 : MI} {X2 : ML × (Nat → Nat) × Nat × Nat} {nx : Option Nat} {t' c' q' s' kk' st' A' : Nat} (x : KGd N k b sg cn nt ns nn sl fl r kd m o gd l gv lv t c q s kk A v f g u X f2 g2 u2 X2 nx t' c' q' s' kk' st' A') : ∃ γ : Gh, ∀ F G U Γ n sF qF, AGR N k b sg sl fl r kd A A' A' kk kk' c' q' s' γ f2 g2 u2 F G U Γ n sF qF → FO F G Γ r m o gd l gv lv → EndG F G U Γ r o kk' → (∀ a, A ≤ a → a < A' → LocG F G U Γ n sF qF r a) ∧ NXT F G U Γ r o nx kk ∧ (nx = none → kk' = kk) := x.2.2.2.2.2.2.2.2.2.2.2.1
theorem KGd.nm {N k : Nat} {b : Nat → Nat} {sg : Nat → Int32} {cn : Nat} {nt ns nn : Nat → Nat} {sl fl r kd m : Nat} {o gd l : Option Nat} {gv lv : Int32} {t c q s kk A : Nat} {v : Option Nat} {f : MI} {g : MR} {u : MI} {X : ML × (Nat → Nat) × Nat × Nat} {f2 : MI} {g2 : MR} {u2 : MI} {X2 : ML × (Nat → Nat) × Nat × Nat} {nx : Option Nat} {t' c' q' s' kk' st' A' : Nat} (x : KGd N k b sg cn nt ns nn sl fl r kd m o gd l gv lv t c q s kk A v f g u X f2 g2 u2 X2 nx t' c' q' s' kk' st' A') : NMI N k b sg f u c q → NMI N k b sg f2 u2 c' q' := x.2.2.2.2.2.2.2.2.2.2.2.2
def STEPs (L : Nat) (xs : Nat → Int32) (Y : MR × ML × (Nat → Nat) × Nat × Nat) (N k : Nat) (b : Nat → Nat) (sg : Nat → Int32) (cn : Nat) (nt ns nn : Nat → Nat) (sl fl r kd : Nat) (t : Nat) : Prop := ∀ (m : Nat) (o gd l : Option Nat) (gv lv : Int32) (f : MI) (g : MR) (u : MI) (X : ML × (Nat → Nat) × Nat × Nat) (c q s kk st A : Nat), m ≤ 9 → SX N k b sg cn nt ns nn sl fl r kd f u t c q s kk st → X.2.1 19 = A → CH A f g m o l → u 22 0 54 = lv → (lv = -1) = (l = none) →
  ∃ f2 g2 u2 X2, (∀ d, 80 + 3 * (11 - m) ≤ d → EL (mP L xs) d 80 [rv 12 (some 0), iv (nI (m + 1)), rv 19 o, rv 19 gd, rv 16 (some r)] (f, g, X) = some (.inl (some (rv 19 (some A))), (f2, g2, X2))) ∧ (∀ d, 80 + 3 * (11 - m) ≤ d → EL (mP L xs) d 124 [rv 22 (some 0), iv (nI (m + 1)), iv gv] (u, Y) = some (.inl none, (u2, Y))) ∧ ((∃ t' c' q' s' kk' st' A', PGd N k b sg cn nt ns nn sl fl r kd m o gd l gv lv t c q s kk A f g u X f2 g2 u2 X2 t' c' q' s' kk' st' A') ∨ SB k t c q s kk A none f g u X f2 g2 u2 X2)
def BLKs (L : Nat) (xs : Nat → Int32) (Y : MR × ML × (Nat → Nat) × Nat × Nat) (N k : Nat) (b : Nat → Nat) (sg : Nat → Int32) (cn : Nat) (nt ns nn : Nat → Nat) (sl fl r kd : Nat) (t : Nat) : Prop := ∀ (m : Nat) (o gd l : Option Nat) (gv lv : Int32) (f : MI) (g : MR) (u : MI) (X : ML × (Nat → Nat) × Nat × Nat) (c q s kk st A : Nat), m ≤ 10 → SX N k b sg cn nt ns nn sl fl r kd f u t c q s kk st → X.2.1 19 = A → CH A f g m o l → u 22 0 54 = lv → (lv = -1) = (l = none) →
  ∃ f2 g2 u2 X2 nx w, (∀ d, 81 + 3 * (11 - m) ≤ d → EL (mP L xs) d 81 [rv 12 (some 0), iv (nI (m + 1)), rv 19 o, rv 19 gd, rv 16 (some r)] (f, g, X) = some (.inl (some (rv 19 nx)), (f2, g2, X2))) ∧ (∀ d, 81 + 3 * (11 - m) ≤ d → EL (mP L xs) d 125 [rv 22 (some 0), iv (nI (m + 1)), iv gv] (u, Y) = some (.inl (some (iv w)), (u2, Y))) ∧ ((w = 1 ∧ ∃ t' c' q' s' kk' st' A', KGd N k b sg cn nt ns nn sl fl r kd m o gd l gv lv (t + 1) c q s kk A none f g u X f2 g2 u2 X2 nx t' c' q' s' kk' st' A') ∨ (w = 0 ∧ SB k t c q s kk A none f g u X f2 g2 u2 X2))
section Bks
variable {L : Nat} {xs : Nat → Int32} {Y : MR × ML × (Nat → Nat) × Nat × Nat} {N k t c q s kk st A cn sl fl r kd m : Nat} {b : Nat → Nat} {sg : Nat → Int32} {f f2 u u2 : MI} {g g2 : MR} {X X2 : ML × (Nat → Nat) × Nat × Nat} {nt ns nn : Nat → Nat} {o gd l : Option Nat} {gv lv : Int32}
theorem AGR.fst {A1 A' kk1 kk' c1 q1 s1 c' q' s' n sF qF : Nat} {γ1 γ2 Γ : Gh} {f1 u1 F U : MI} {g1 g1' G : MR} (H : AGR N k b sg sl fl r kd A A' A' kk kk' c' q' s' (fun a => if a < A1 then γ1 a else γ2 a) f2 g2 u2 F G U Γ n sF qF) (h1 : A1 ≤ A') (hk : kk1 ≤ kk') (hF : FrK c1 A1 f1 f2) (hG : FrG A1 (some A) g1' g2) (hU : FrU q1 s1 kk1 u1 u2) (hg : ∀ a i, A ≤ a → g1' 19 a i = g1 19 a i) (hc : c1 ≤ c') (hq : q1 ≤ q') (hs : s1 ≤ s') : AGR N k b sg sl fl r kd A A1 A kk kk1 c1 q1 s1 γ1 f1 g1 u1 F G U Γ n sF qF := by
  refine ⟨fun a x1 x2 => (H.gh a x1 (by omega)).trans (if_pos x2), fun a x1 x2 i hi => (H.fs a x1 (by omega) i hi).trans (hF 19 a i (by omega)), fun a x1 x2 i hi => ?_, fun R i y1 y2 y3 y4 => (H.os R i y1 y2 y3 (by omega)).trans (hU R 0 i (by omega)), H.kr, fun y z w => H.fm y z (FMp.mv (fun i hi => hF 32 0 i (by omega)) hc (fun R i hR hi => hU R 0 i (by omega)) hq w), fun y z w => H.cm y z (CDp.mv (fun i hi => hF 32 0 i (by omega)) hc (fun R i hR hi => hU R 0 i (by omega)) hq (fun R i x1 x2 hi => hU R 0 i (by omega)) hs (Nat.le_refl fl) w), H.sl, H.fl⟩
  rw [H.gs a x1 (by omega) i (by omega), hG 19 a i, hg a i x1]
  rintro ⟨-, y | ⟨y1, y2⟩⟩
  · omega
  · exact hi ⟨(Option.some.inj y1).symm, y2⟩
theorem AGR.snd {A1 A' kk1 kk' c' q' s' n sF qF : Nat} {γ1 γ2 Γ : Gh} {F U : MI} {G : MR} (H : AGR N k b sg sl fl r kd A A' A' kk kk' c' q' s' (fun a => if a < A1 then γ1 a else γ2 a) f2 g2 u2 F G U Γ n sF qF) (h1 : A ≤ A1) (hk : kk ≤ kk1) : AGR N k b sg sl fl r kd A1 A' A' kk1 kk' c' q' s' γ2 f2 g2 u2 F G U Γ n sF qF :=
  ⟨fun a x1 x2 => (H.gh a (by omega) x2).trans (if_neg (by omega)), fun a x1 x2 => H.fs a (by omega) x2, fun a x1 x2 => H.gs a (by omega) x2, fun R i y1 y2 y3 y4 => H.os R i y1 y2 (by omega) y4, H.kr, H.fm, H.cm, H.sl, H.fl⟩
theorem SX.adv {u' : MI} (H : SX N k b sg cn nt ns nn sl fl r kd f u t c q s kk st) (P : PX (m3 f 20 0 6 (nI (t + 1))) u' N k b sg (t + 1)) (h : Fr6 u u') : SX N k b sg cn nt ns nn sl fl r kd (m3 f 20 0 6 (nI (t + 1))) u' (t + 1) c q s kk st := by
  have h1 := H.gx.cl
  have h2 := H.gx.ql
  have h3 := H.sl
  have h4 := H.kl
  obtain ⟨a0, a1, a2, a3, a4, a5, a6, a7, a8⟩ := H.ab
  exact ⟨⟨P, (m3_r (by decide)).trans H.gx.cc, by omega, (h 22 0 45 (by omega)).trans H.gx.qu, by omega, H.gx.nc.fr (fun R o i z => m3_no (by omega)), H.gx.nz.fr (fun R o i z => h R o i (by omega))⟩, (h 22 0 51 (by omega)).trans H.su, by omega, (h 22 0 41 (by omega)).trans H.ku, by omega, (m3_r (by decide)).trans H.sc, (h 22 0 53 (by omega)).trans H.sr, H.sb, H.hf, H.hs, H.rl, H.kd, (h 22 0 52 (by omega)).trans H.h5, (h 49 0 r (by omega)).trans H.h4, (m3_r (by decide)).trans H.ac, ⟨(h 42 0 0 (by omega)).trans a0, (h 42 0 1 (by omega)).trans a1, (h 42 0 2 (by omega)).trans a2, (h 42 0 3 (by omega)).trans a3, (h 42 0 4 (by omega)).trans a4, (h 42 0 5 (by omega)).trans a5, (h 42 0 6 (by omega)).trans a6, (h 42 0 7 (by omega)).trans a7, (h 42 0 8 (by omega)).trans a8⟩⟩
theorem bl_loop (hm : m ≤ 9) (hlv : (lv = -1) = (l = none)) {t0 : Nat} (IH : ∀ t1, t0 < t1 → STEPs L xs Y N k b sg cn nt ns nn sl fl r kd t1) : ∀ (R t i : Nat) (f : MI) (g : MR) (u : MI) (X : ML × (Nat → Nat) × Nat × Nat) (c q s kk st A : Nat) (v5 v6 : Option Nat), k ≤ t + R → t0 < t → i < t → SX N k b sg cn nt ns nn sl fl r kd f u t c q s kk st → X.2.1 19 = A → CH A f g m o l → u 22 0 54 = lv → (v6 = none → v5 = none) → (∀ j, v6 = some j → j < A ∧ g 19 j 7 = none) →
    ∃ f2 g2 u2 X2 nx w, (∀ d z8, 80 + 3 * (11 - m) ≤ d → RL (mP L xs) d 81 54 [some (rv 12 (some 0)), some (iv (nI (m + 1))), some (rv 19 o), some (rv 19 gd), some (rv 16 (some r)), some (rv 19 v5), some (rv 19 v6), some (iv (nI i)), z8] [] (f, g, X) = some (.inl (some (rv 19 (if v6 = none then nx else v5))), (f2, g2, X2))) ∧ (∀ d, 80 + 3 * (11 - m) ≤ d → RL (mP L xs) d 125 49 [some (rv 22 (some 0)), some (iv (nI (m + 1))), some (iv gv)] [] (u, Y) = some (.inl (some (iv w)), (u2, Y))) ∧ ((w = 1 ∧ ∃ t' c' q' s' kk' st' A', KGd N k b sg cn nt ns nn sl fl r kd m o gd l gv lv t c q s kk A v6 f g u X f2 g2 u2 X2 nx t' c' q' s' kk' st' A') ∨ (w = 0 ∧ SB k t c q s kk A v6 f g u X f2 g2 u2 X2))
  | R, t, i, f, g, u, X, c, q, s, kk, st, A, v5, v6, hR, ht0, hi, H, hA, hch, hl54, hv5, hv6 => by
    have P := H.gx.px
    have htk := P.tk
    have hkp := P.lc.kp
    have hi4 : nI i < 4000 := nI_lt (b := 4000) (by omega) (by decide)
    have isg : ∀ d, EL (mP L xs) (d + 1) 108 [rv 22 (some 0), iv 125] (u, Y) = some (.inl (some (iv (if sg t = 125 then 1 else 0))), (u, Y)) := fun d => px_isSign (L := L) (xs := xs) (d := d) (Y := Y) P (c := 125) (by decide) (by decide)
    by_cases z : sg t = 125
    · obtain ⟨b1, u2, b2, b3, b4⟩ := px_adv (L := L) (xs := xs) (Y := Y) P (by rw [z]; decide) (by rw [z]; decide)
      refine ⟨m3 f 20 0 6 (nI (t + 1)), g, u2, X, none, 1, fun d z8 hd => ?_, fun d hd => ?_, Or.inl ⟨rfl, t + 1, c, q, s, kk, st, A, ⟨by omega, H.adv b4 b3, XR.rf hA, by omega, by omega, by omega, fun R o i y => m3_no (by omega), FrG.rf, FrU.f6 b3, (b3 22 0 54 (by omega)).trans hl54, fun j hj => (hv6 j hj).2, ⟨fun _ => (0, 0, 0, 0, none), fun F G U Γ n sF qF a1 a2 a3 => ⟨fun a x1 x2 => by omega, ⟨fun x hx => (by cases hx), fun _ => a3⟩, fun _ => rfl⟩⟩, fun nm => NMI_cg nm (fun i _ => m3_r (by decide)) (fun R i hR _ => b3 R 0 i (by omega))⟩⟩⟩
      · obtain ⟨d, rfl⟩ : ∃ d', d = d' + 2 := ⟨d - 2, by omega⟩
        rw [K_FairReader_block_54, if_pos hi4, px_sort P, clI, if_pos z, E_Text_expect, px_sort P, clI, if_pos z, b1, clV, clV]
        by_cases y : v6 = none
        · rw [if_pos y, hv5 y]
        · rw [if_neg y]
      · have h2 : EL (mP L xs) d 101 [rv 22 (some 0)] (u, Y) = some (.inl none, (u2, Y)) := EL_mono (by omega) b2
        obtain ⟨d, rfl⟩ : ∃ d', d = d' + 1 := ⟨d - 1, by omega⟩
        rw [K_Ref_block_49, if_pos P.fu, isg, clI, if_pos z, if_neg (by decide), if_pos P.fu, h2, clV, if_pos b4.fu]
    · obtain ⟨f1, g1, u1, X1, a1, a2, a3⟩ := IH t ht0 m o gd l gv lv f g u X c q s kk st A hm H hA hch hl54 hlv
      have kC : ∀ d z8, 80 + 3 * (11 - m) ≤ d → RL (mP L xs) d 81 54 [some (rv 12 (some 0)), some (iv (nI (m + 1))), some (rv 19 o), some (rv 19 gd), some (rv 16 (some r)), some (rv 19 v5), some (rv 19 v6), some (iv (nI i)), z8] [] (f, g, X) = RL (mP L xs) d 81 54 [some (rv 12 (some 0)), some (iv (nI (m + 1))), some (rv 19 o), some (rv 19 gd), some (rv 16 (some r)), some (rv 19 (if v6 = none then some A else v5)), some (rv 19 (some A)), some (iv (nI (i + 1))), some (rv 19 (some A))] [] (f1, lkN v6 g1 A, X1) := fun d z8 hd => by
        have h1 := a1 d hd
        obtain ⟨d, rfl⟩ : ∃ d', d = d' + 1 := ⟨d - 1, by omega⟩
        rw [K_FairReader_block_54, if_pos hi4, px_sort P, clI, if_neg z, if_pos P.fc, h1, clR, nI_1]
        cases v6 with
        | none => rw [if_pos rfl, if_pos rfl]; rfl
        | some j => rw [if_neg (by intro e; cases e), onS_s, if_neg (by intro e; cases e)]; rfl
      have kU : ∀ d, 80 + 3 * (11 - m) ≤ d → RL (mP L xs) d 125 49 [some (rv 22 (some 0)), some (iv (nI (m + 1))), some (iv gv)] [] (u, Y) = RL (mP L xs) d 125 49 [some (rv 22 (some 0)), some (iv (nI (m + 1))), some (iv gv)] [] (u1, Y) := fun d hd => by
        have h1 := a2 d hd
        obtain ⟨d, rfl⟩ : ∃ d', d = d' + 1 := ⟨d - 1, by omega⟩
        rw [K_Ref_block_49, if_pos P.fu, isg, clI, if_neg z, if_pos rfl, h1, clV]
      generalize hg1 : lkN v6 g1 A = g1' at kC
      have hgA : ∀ a i, A ≤ a → g1' 19 a i = g1 19 a i := fun a i ha => by
        rw [← hg1]
        cases v6 with
        | none => rfl
        | some j =>
          have := (hv6 j rfl).1
          show m3 g1 19 j 7 (some A) 19 a i = g1 19 a i
          exact m3_no (by omega)
      have hgl : ∀ R a i, ¬ (R = 19 ∧ v6 = some a ∧ i = 7) → g1' R a i = g1 R a i := fun R a i ha => by
        rw [← hg1]
        cases v6 with
        | none => rfl
        | some j => exact m3_no (f := g1) (R := 19) (o := j) (i := 7) (fun h => ha ⟨h.1, congrArg some h.2.1.symm, h.2.2⟩)
      have hgj : ∀ j, v6 = some j → g1' 19 j 7 = some A := fun j hj => by
        rw [← hg1]
        subst hj
        exact m3_eq
      rcases a3 with ⟨t1, c1, q1, s1, k1, st1, A1, E⟩ | E
      · have ett := E.tt
        have emo := E.mo
        have ekb := E.kb
        have eal := E.al
        have eaA := E.aA
        have etk := E.sx.gx.px.tk
        match R, hR with
        | 0, hR => omega
        | R + 1, hR =>
          have hch1 : CH A1 f1 g1' m o l := hch.fr (by omega) (fun a ha => ⟨E.fc 19 a 0 (by omega), by
            rw [hgl 19 a 2 (fun h => by omega)]
            exact E.fg 19 a 2 (fun h => h.2.elim (fun y => by omega) (fun y => by omega))⟩)
          obtain ⟨f2, g2, u2, X2, nx, w, d1, d2, d3⟩ := bl_loop hm hlv IH R t1 (i + 1) f1 g1' u1 X1 c1 q1 s1 k1 st1 A1 (if v6 = none then some A else v5) (some A) (by omega) (by omega) (by omega) E.sx E.xr.c1 hch1 E.lv (fun y => by cases y) (fun j hj => by
            have := Option.some.inj hj
            subst this
            exact ⟨eaA, (hgA A 7 (Nat.le_refl A)).trans E.n7⟩)
          refine ⟨f2, g2, u2, X2, some A, w, fun d z8 hd => ?_, fun d hd => ?_, ?_⟩
          · rw [kC d z8 hd, d1 d _ hd, if_neg (by intro e; cases e)]
          · rw [kU d hd, d2 d hd]
          · have fgg : ∀ {g2 : MR}, FrG A1 (some A) g1' g2 → FrG A v6 g g2 := fun h R o i y => by
              rw [h R o i (fun w => y ⟨w.1, w.2.elim (fun v => Or.inl (by omega)) (fun v => Or.inl (by have := Option.some.inj v.1; omega))⟩), hgl R o i (fun w => y ⟨w.1, Or.inr w.2⟩)]
              exact E.fg R o i (fun w => y ⟨w.1, w.2.elim Or.inl (fun v => by cases v.1)⟩)
            rcases d3 with ⟨hw, t', c', q', s', kk', st', A', K⟩ | ⟨hw, K⟩
            · have ktt := K.tt
              have kmo := K.mo
              have kkb := K.kb
              have kal := K.al
              have kxr := K.xr.le
              obtain ⟨γ1, e1⟩ := E.sm
              obtain ⟨γ2, e2⟩ := K.sm
              refine Or.inl ⟨hw, t', c', q', s', kk', st', A', ⟨by omega, K.sx, E.xr.tr K.xr, by omega, by omega, by omega, E.fc.tr K.fc (by omega) (by omega), fgg K.fg, E.fu.tr K.fu (by omega) (by omega) (by omega), K.lv, fun j hj => ?_, ⟨fun a => if a < A1 then γ1 a else γ2 a, fun F G U Γ n sF qF H1 H2 H3 => ?_⟩, fun nm => K.nm (NMI_cg (E.nm nm) (fun _ _ => rfl) (fun _ _ _ _ => rfl))⟩⟩
              · have := (hv6 j hj).1
                rw [K.fg 19 j 7 (fun y => y.2.elim (fun v => by omega) (fun v => by have := Option.some.inj v.1; omega))]
                exact hgj j hj
              · have T := e2 F G U Γ n sF qF (H1.snd (by omega) (by omega)) H2 H3
                have hn : G 19 A 7 = nx := (H1.gs A (Nat.le_refl A) (by omega) 7 (by omega)).trans (K.nx A rfl)
                have Q := e1 F G U Γ n sF qF (H1.fst (by omega) (by omega) K.fc K.fg K.fu hgA (by omega) (by omega) (by omega)) H2 (by rw [hn]; exact T.2.1)
                refine ⟨fun a x1 x2 => ?_, ⟨fun x hx => ?_, fun y => by cases y⟩, fun y => by cases y⟩
                · by_cases y : a < A1
                  · exact Q.1 a x1 y
                  · exact T.1 a (by omega) x2
                · have := Option.some.inj hx
                  subst this
                  exact Q.2
            · obtain ⟨A3, x1, x2⟩ := K.xr
              obtain ⟨c3, y1, y2, y3⟩ := K.cc
              have := x1.le
              exact Or.inr ⟨hw, ⟨K.bd, ⟨c3, by omega, y2, y3⟩, ⟨A3, E.xr.tr x1, by omega⟩, E.fc.tr K.fc (by omega) (by omega), fgg K.fg, E.fu.tr K.fu (by omega) (by omega) (by omega)⟩⟩
      · obtain ⟨p0, q0, E2, y1, y2⟩ := E.bd
        refine ⟨f1, g1', u1, X1, some A, 0, fun d z8 hd => ?_, fun d hd => ?_, Or.inr ⟨rfl, ⟨⟨p0, q0, E2, y1, y2⟩, E.cc, E.xr, E.fc, fun R o i y => ?_, E.fu⟩⟩⟩
        · rw [kC d z8 hd]
          obtain ⟨d, rfl⟩ : ∃ d', d = d' + 2 := ⟨d - 2, by omega⟩
          rw [K_FairReader_block_54]
          by_cases y : nI (i + 1) < 4000
          · rw [if_pos y, ed_sort E2, clI, if_neg (by decide), if_neg (show ¬ f1 20 0 7 = 0 by rw [E2.fa]; exact E2.qn), ed_exp E2 (by decide), clV]
          · rw [if_neg y, ed_exp E2 (by decide), clV]
        · have n0 : ¬ u1 22 0 12 = 0 := by rw [y1]; exact E2.qn
          rw [kU d hd, K_Ref_block_49, if_neg n0, if_neg n0, if_neg n0]
        · rw [hgl R o i (fun w => y ⟨w.1, Or.inr w.2⟩)]
          exact E.fg R o i (fun w => y ⟨w.1, w.2.elim Or.inl (fun v => by cases v.1)⟩)
  termination_by R => R
end Bks
