/-! ===== begin: what was told, and all at its start ===== -/
def RK (f : MI) (g : MR) (u : MI) (r kd : Nat) : Prop := (r < 12) ∧ (kd ≤ 8) ∧ (f 16 r 4 = nI kd) ∧ (u 49 0 r = nI kd) ∧ (f 16 r 5 = tabB 4 kd) ∧ (f 16 r 0 = nI r) ∧ (f 27 r 0 = u 51 0 r) ∧ (f 27 r 1 = u 52 0 r) ∧ (f 27 r 2 = u 53 0 r) ∧ (f 27 r 3 = u 54 0 r) ∧ (f 27 r 4 = u 55 0 r) ∧ (f 27 r 5 = u 56 0 r) ∧ (kd = 8 → ∃ l : Nat, l < r ∧ g 16 r 6 = some l ∧ u 50 0 r = nI l) ∧ (kd ≠ 8 → g 16 r 6 = none) ∧ (Upto (u 51 0 r) 500) ∧ (Upto (u 52 0 r) 50) ∧ (Upto (u 53 0 r) 500) ∧ (Upto (u 54 0 r) 200) ∧ (Upto (u 55 0 r) 60) ∧ (Upto (u 56 0 r) 500) ∧ (aTu kd = false → u 51 0 r = 0 ∧ u 52 0 r = 0) ∧ (aTu kd = true → u 52 0 r ≠ 0) ∧ (aLi kd = false → u 53 0 r = 0 ∧ u 54 0 r = 0) ∧ (aLa kd = false → u 56 0 r = 0)
theorem RK.lt {f : MI} {g : MR} {u : MI} {r kd : Nat} (x : RK f g u r kd) : r < 12 := x.1
theorem RK.kl {f : MI} {g : MR} {u : MI} {r kd : Nat} (x : RK f g u r kd) : kd ≤ 8 := x.2.1
theorem RK.kc {f : MI} {g : MR} {u : MI} {r kd : Nat} (x : RK f g u r kd) : f 16 r 4 = nI kd := x.2.2.1
theorem RK.kr {f : MI} {g : MR} {u : MI} {r kd : Nat} (x : RK f g u r kd) : u 49 0 r = nI kd := x.2.2.2.1
theorem RK.ac {f : MI} {g : MR} {u : MI} {r kd : Nat} (x : RK f g u r kd) : f 16 r 5 = tabB 4 kd := x.2.2.2.2.1
theorem RK.ix {f : MI} {g : MR} {u : MI} {r kd : Nat} (x : RK f g u r kd) : f 16 r 0 = nI r := x.2.2.2.2.2.1
theorem RK.m0 {f : MI} {g : MR} {u : MI} {r kd : Nat} (x : RK f g u r kd) : f 27 r 0 = u 51 0 r := x.2.2.2.2.2.2.1
theorem RK.m1 {f : MI} {g : MR} {u : MI} {r kd : Nat} (x : RK f g u r kd) : f 27 r 1 = u 52 0 r := x.2.2.2.2.2.2.2.1
theorem RK.m2 {f : MI} {g : MR} {u : MI} {r kd : Nat} (x : RK f g u r kd) : f 27 r 2 = u 53 0 r := x.2.2.2.2.2.2.2.2.1
theorem RK.m3 {f : MI} {g : MR} {u : MI} {r kd : Nat} (x : RK f g u r kd) : f 27 r 3 = u 54 0 r := x.2.2.2.2.2.2.2.2.2.1
theorem RK.m4 {f : MI} {g : MR} {u : MI} {r kd : Nat} (x : RK f g u r kd) : f 27 r 4 = u 55 0 r := x.2.2.2.2.2.2.2.2.2.2.1
theorem RK.m5 {f : MI} {g : MR} {u : MI} {r kd : Nat} (x : RK f g u r kd) : f 27 r 5 = u 56 0 r := x.2.2.2.2.2.2.2.2.2.2.2.1
theorem RK.t8 {f : MI} {g : MR} {u : MI} {r kd : Nat} (x : RK f g u r kd) : kd = 8 → ∃ l : Nat, l < r ∧ g 16 r 6 = some l ∧ u 50 0 r = nI l := x.2.2.2.2.2.2.2.2.2.2.2.2.1
theorem RK.tx {f : MI} {g : MR} {u : MI} {r kd : Nat} (x : RK f g u r kd) : kd ≠ 8 → g 16 r 6 = none := x.2.2.2.2.2.2.2.2.2.2.2.2.2.1
theorem RK.n0 {f : MI} {g : MR} {u : MI} {r kd : Nat} (x : RK f g u r kd) : Upto (u 51 0 r) 500 := x.2.2.2.2.2.2.2.2.2.2.2.2.2.2.1
theorem RK.n1 {f : MI} {g : MR} {u : MI} {r kd : Nat} (x : RK f g u r kd) : Upto (u 52 0 r) 50 := x.2.2.2.2.2.2.2.2.2.2.2.2.2.2.2.1
theorem RK.n2 {f : MI} {g : MR} {u : MI} {r kd : Nat} (x : RK f g u r kd) : Upto (u 53 0 r) 500 := x.2.2.2.2.2.2.2.2.2.2.2.2.2.2.2.2.1
theorem RK.n3 {f : MI} {g : MR} {u : MI} {r kd : Nat} (x : RK f g u r kd) : Upto (u 54 0 r) 200 := x.2.2.2.2.2.2.2.2.2.2.2.2.2.2.2.2.2.1
theorem RK.n4 {f : MI} {g : MR} {u : MI} {r kd : Nat} (x : RK f g u r kd) : Upto (u 55 0 r) 60 := x.2.2.2.2.2.2.2.2.2.2.2.2.2.2.2.2.2.2.1
theorem RK.n5 {f : MI} {g : MR} {u : MI} {r kd : Nat} (x : RK f g u r kd) : Upto (u 56 0 r) 500 := x.2.2.2.2.2.2.2.2.2.2.2.2.2.2.2.2.2.2.2.1
theorem RK.tu {f : MI} {g : MR} {u : MI} {r kd : Nat} (x : RK f g u r kd) : aTu kd = false → u 51 0 r = 0 ∧ u 52 0 r = 0 := x.2.2.2.2.2.2.2.2.2.2.2.2.2.2.2.2.2.2.2.2.1
theorem RK.tn {f : MI} {g : MR} {u : MI} {r kd : Nat} (x : RK f g u r kd) : aTu kd = true → u 52 0 r ≠ 0 := x.2.2.2.2.2.2.2.2.2.2.2.2.2.2.2.2.2.2.2.2.2.1
theorem RK.lf {f : MI} {g : MR} {u : MI} {r kd : Nat} (x : RK f g u r kd) : aLi kd = false → u 53 0 r = 0 ∧ u 54 0 r = 0 := x.2.2.2.2.2.2.2.2.2.2.2.2.2.2.2.2.2.2.2.2.2.2.1
theorem RK.la {f : MI} {g : MR} {u : MI} {r kd : Nat} (x : RK f g u r kd) : aLa kd = false → u 56 0 r = 0 := x.2.2.2.2.2.2.2.2.2.2.2.2.2.2.2.2.2.2.2.2.2.2.2
/-- what was told -/
def TD (n s q : Nat) (rd ps en dp : Nat → Nat) (lp : Nat → Option Nat) (f : MI) (g : MR) (u : MI) : Prop := (R_cnt f u n s q) ∧ (R_abl u) ∧ (∀ k, k < s → f 29 0 k = u 58 0 k ∧ Upto (u 58 0 k) 9) ∧ (ST (mk stC f) (mkG stG g) (mk stU u) rd ps en dp lp n s q) ∧ (∀ r, r < n → ∃ kd : Nat, RK f g u r kd)
theorem TD.cn {n s q : Nat} {rd ps en dp : Nat → Nat} {lp : Nat → Option Nat} {f : MI} {g : MR} {u : MI} (x : TD n s q rd ps en dp lp f g u) : R_cnt f u n s q := x.1
theorem TD.ar {n s q : Nat} {rd ps en dp : Nat → Nat} {lp : Nat → Option Nat} {f : MI} {g : MR} {u : MI} (x : TD n s q rd ps en dp lp f g u) : R_abl u := x.2.1
theorem TD.sa {n s q : Nat} {rd ps en dp : Nat → Nat} {lp : Nat → Option Nat} {f : MI} {g : MR} {u : MI} (x : TD n s q rd ps en dp lp f g u) : ∀ k, k < s → f 29 0 k = u 58 0 k ∧ Upto (u 58 0 k) 9 := x.2.2.1
theorem TD.st {n s q : Nat} {rd ps en dp : Nat → Nat} {lp : Nat → Option Nat} {f : MI} {g : MR} {u : MI} (x : TD n s q rd ps en dp lp f g u) : ST (mk stC f) (mkG stG g) (mk stU u) rd ps en dp lp n s q := x.2.2.2.1
theorem TD.rk {n s q : Nat} {rd ps en dp : Nat → Nat} {lp : Nat → Option Nat} {f : MI} {g : MR} {u : MI} (x : TD n s q rd ps en dp lp f g u) : ∀ r, r < n → ∃ kd : Nat, RK f g u r kd := x.2.2.2.2
section Beg
variable {L : Nat} {xs : Nat → Int32} {d : Nat} {X : ML × (Nat → Nat) × Nat × Nat} {Y : MR × ML × (Nat → Nat) × Nat × Nat}
variable {B B' n s q i : Nat} {rd ps en dp : Nat → Nat} {lp : Nat → Option Nat} {f f1 f2 f' : MI} {g g' : MR} {u u1 u2 u' : MI} {r a b : Nat}
def rb1 (f : MI) (r : Nat) : MI := m3 (m3 (m3 (m3 (m3 (m3 (m3 (m3 (m3 (m3 (m3 (m3 f 16 r 7 0) 16 r 8 0) 16 r 9 0) 16 r 10 0) 16 r 11 0) 16 r 12 0) 16 r 13 0) 16 r 14 0) 16 r 15 0) 15 r 2 0) 15 r 3 0) 15 r 4 0
def rb2 (f : MI) (r : Nat) : MI := m3 (m3 (m3 (m3 (m3 (m3 (m3 (m3 (m3 (m3 f 25 r 0 0) 25 r 1 0) 25 r 2 0) 25 r 3 0) 26 r 0 0) 26 r 1 0) 26 r 2 0) 26 r 3 0) 26 r 4 0) 26 r 5 0
def rb3 (f : MI) (r : Nat) : MI := m3 (m3 (m3 (m3 (m3 f 18 r 4 0) 18 r 5 0) 18 r 6 0) 18 r 7 0) 18 r 8 0
theorem c_rbeg {X : ML × (Nat → Nat) × Nat × Nat} : EL (mP L xs) (d + 3) 91 [rv 16 (some r)] (f, g, X) = some (.inl none, (rb3 (rb2 (rb1 f r) r) r, m3 g 18 r 3 (g 18 r 2), X)) := by
  have k1 : ∀ (h : MH), RL (mP L xs) (d + 1) 90 2 [some (rv 18 (some r)), some (iv 0)] [] h = RL (mP L xs) (d + 1) 90 26 [some (rv 18 (some r)), some (iv 0)] [] (m3 (m3 (m3 (m3 h.1 25 r 0 0) 25 r 1 0) 25 r 2 0) 25 r 3 0, h.2) := fun h => by
    rw [K_Script_begin_2, if_pos (by decide), if_neg (by decide), K_Script_begin_2, if_pos (by decide), if_neg (by decide), K_Script_begin_2, if_pos (by decide), if_neg (by decide), K_Script_begin_2, if_pos (by decide), if_neg (by decide), K_Script_begin_2, if_neg (by decide)]
    rfl
  have k2 : ∀ (h : MH), RL (mP L xs) (d + 1) 90 26 [some (rv 18 (some r)), some (iv 0)] [] h = some (.inl none, (rb3 (m3 (m3 (m3 (m3 (m3 (m3 h.1 26 r 0 0) 26 r 1 0) 26 r 2 0) 26 r 3 0) 26 r 4 0) 26 r 5 0) r, m3 h.2.1 18 r 3 (h.2.1 18 r 2), h.2.2)) := fun h => by
    rw [K_Script_begin_26, if_pos (by decide), if_neg (by decide), K_Script_begin_26, if_pos (by decide), if_neg (by decide), K_Script_begin_26, if_pos (by decide), if_neg (by decide), K_Script_begin_26, if_pos (by decide), if_neg (by decide), K_Script_begin_26, if_pos (by decide), if_neg (by decide), K_Script_begin_26, if_pos (by decide), if_neg (by decide), K_Script_begin_26, if_neg (by decide), E_Script_goOn, clV]
    rfl
  rw [E_Ride_begin, E_Queue_clear, clV, E_Script_begin, k1, k2, clV]
  rfl
def Zc (f : MI) (g : MR) (r : Nat) : Prop := (∀ i, 7 ≤ i → i ≤ 15 → f 16 r i = 0) ∧ f 15 r 2 = 0 ∧ f 15 r 3 = 0 ∧ (∀ k, k < 4 → f 25 r k = 0) ∧ (∀ k, k < 6 → f 26 r k = 0) ∧ (∀ i, 4 ≤ i → i ≤ 8 → f 18 r i = 0) ∧ g 18 r 3 = g 18 r 2
theorem rb_o {R o i : Nat} (h : o ≠ r) : rb3 (rb2 (rb1 f r) r) r R o i = f R o i := by
  unfold rb3 rb2 rb1
  simp only [m3_o h]
theorem rb_R {R o i : Nat} (h : R ≠ 15 ∧ R ≠ 16 ∧ R ≠ 18 ∧ R ≠ 25 ∧ R ≠ 26) : rb3 (rb2 (rb1 f r) r) r R o i = f R o i := by
  obtain ⟨h1, h2, h3, h4, h5⟩ := h
  unfold rb3 rb2 rb1
  simp only [m3_r h1, m3_r h2, m3_r h3, m3_r h4, m3_r h5]
theorem rb_z : Zc (rb3 (rb2 (rb1 f r) r) r) (m3 g 18 r 3 (g 18 r 2)) r := by
  refine ⟨fun i h1 h2 => ?_, ?_, ?_, fun k hk => ?_, fun k hk => ?_, fun i h1 h2 => ?_, ?_⟩
  · have e : ∀ (F : MI) (j : Nat), rb3 (rb2 F r) r 16 r j = F 16 r j := fun F j => by
      unfold rb3 rb2
      simp only [m3_r (show 16 ≠ 18 by decide), m3_r (show 16 ≠ 25 by decide), m3_r (show 16 ≠ 26 by decide)]
    rw [e]
    unfold rb1
    have : i = 7 ∨ i = 8 ∨ i = 9 ∨ i = 10 ∨ i = 11 ∨ i = 12 ∨ i = 13 ∨ i = 14 ∨ i = 15 := by omega
    rcases this with rfl | rfl | rfl | rfl | rfl | rfl | rfl | rfl | rfl <;> (repeat first | exact m3_eq | rw [m3_i (by decide)] | rw [m3_r (by decide)])
  · unfold rb3 rb2 rb1
    repeat first | exact m3_eq | rw [m3_i (by decide)] | rw [m3_r (by decide)]
  · unfold rb3 rb2 rb1
    repeat first | exact m3_eq | rw [m3_i (by decide)] | rw [m3_r (by decide)]
  · unfold rb3 rb2
    have : k = 0 ∨ k = 1 ∨ k = 2 ∨ k = 3 := by omega
    rcases this with rfl | rfl | rfl | rfl <;> (repeat first | exact m3_eq | rw [m3_i (by decide)] | rw [m3_r (by decide)])
  · unfold rb3 rb2
    have : k = 0 ∨ k = 1 ∨ k = 2 ∨ k = 3 ∨ k = 4 ∨ k = 5 := by omega
    rcases this with rfl | rfl | rfl | rfl | rfl | rfl <;> (repeat first | exact m3_eq | rw [m3_i (by decide)] | rw [m3_r (by decide)])
  · unfold rb3
    have : i = 4 ∨ i = 5 ∨ i = 6 ∨ i = 7 ∨ i = 8 := by omega
    rcases this with rfl | rfl | rfl | rfl | rfl <;> (repeat first | exact m3_eq | rw [m3_i (by decide)] | rw [m3_r (by decide)])
  · rw [m3_eq, m3_i (by decide)]
theorem Zc_o {r' : Nat} (h : r' ≠ r) (Z : Zc f g r') : Zc (rb3 (rb2 (rb1 f r) r) r) (m3 g 18 r 3 (g 18 r 2)) r' := by
  obtain ⟨z1, z2, z3, z4, z5, z6, z7⟩ := Z
  refine ⟨fun i h1 h2 => (rb_o h).trans (z1 i h1 h2), (rb_o h).trans z2, (rb_o h).trans z3, fun k hk => (rb_o h).trans (z4 k hk), fun k hk => (rb_o h).trans (z5 k hk), fun i h1 h2 => (rb_o h).trans (z6 i h1 h2), ?_⟩
  rw [m3_o h, m3_o h]
  exact z7
theorem bg_c (hn : n ≤ 12) : ∀ (j r : Nat) (f : MI) (g : MR), r + j = n → f 11 0 4 = nI n → (∀ r', r' < r → Zc f g r') → ∃ f2 g2, (∀ d X, RL (mP L xs) (d + 3) 92 17 [some (rv 11 (some 0)), some (iv (nI r))] [] (f, g, X) = RL (mP L xs) (d + 3) 92 46 [some (rv 11 (some 0)), some (iv (nI n))] [] (f2, g2, X)) ∧ (∀ r', r' < n → Zc f2 g2 r') ∧ f2 30 = f 30
  | 0, r, f, g, hj, h4, hZ => by
    have e : r = n := by omega
    subst e
    refine ⟨f, g, fun d X => ?_, hZ, rfl⟩
    rw [K_Fair_begin_17]
    simp only [h4]
    rw [if_neg (nI_nlt (Nat.le_refl r) (by omega))]
  | j + 1, r, f, g, hj, h4, hZ => by
    obtain ⟨f2, g2, e1, e2, e3⟩ := bg_c hn j (r + 1) (rb3 (rb2 (rb1 f r) r) r) (m3 g 18 r 3 (g 18 r 2)) (by omega) ((rb_R (by decide)).trans h4) (fun r' hr' => by
      by_cases z : r' = r
      · rw [z]; exact rb_z
      · exact Zc_o z (hZ r' (by omega)))
    refine ⟨f2, g2, fun d X => ?_, e2, e3.trans ?_⟩
    · rw [K_Fair_begin_17]
      simp only [h4, if_pos (nI_lt (show r < n by omega) (show n < 2 ^ 31 by omega)), if_pos (show nI r < 12 from nI_lt (b := 12) (by omega) (by decide)), if_neg (nin (show r < 12 by omega) (show 12 < 2 ^ 31 by decide)), nI_clamp (show r < 2 ^ 31 by omega), c_rbeg, clV, nI_1]
      exact e1 d X
    · funext o i
      exact rb_R (by decide)
def ub (u : MI) (k : Nat) : MI := m3 (m3 (m3 (m3 (m3 (m3 (m3 (m3 (m3 (m3 (m3 (m3 (m3 (m3 (m3 (m3 u 73 0 k 0) 74 0 k 0) 75 0 k 0) 76 0 k 0) 77 0 k 0) 78 0 k 0) 79 0 k 0) 80 0 k 0) 81 0 k 0) 82 0 k 0) 83 0 k 0) 84 0 k (u 57 0 k)) 85 0 k 0) 86 0 k 0) 87 0 k 0) 93 0 k 0
theorem ub_no {k R o i : Nat} (h : ¬ (o = 0 ∧ i = k ∧ ((73 ≤ R ∧ R ≤ 87) ∨ R = 93))) : ub u k R o i = u R o i := by
  unfold ub
  rw [m3_no (by omega), m3_no (by omega), m3_no (by omega), m3_no (by omega), m3_no (by omega), m3_no (by omega), m3_no (by omega), m3_no (by omega), m3_no (by omega), m3_no (by omega), m3_no (by omega), m3_no (by omega), m3_no (by omega), m3_no (by omega), m3_no (by omega), m3_no (by omega)]
theorem ub_z {k R : Nat} (h : (73 ≤ R ∧ R ≤ 87 ∧ R ≠ 84) ∨ R = 93) : ub u k R 0 k = 0 := by
  have : R = 73 ∨ R = 74 ∨ R = 75 ∨ R = 76 ∨ R = 77 ∨ R = 78 ∨ R = 79 ∨ R = 80 ∨ R = 81 ∨ R = 82 ∨ R = 83 ∨ R = 85 ∨ R = 86 ∨ R = 87 ∨ R = 93 := by omega
  unfold ub
  rcases this with rfl | rfl | rfl | rfl | rfl | rfl | rfl | rfl | rfl | rfl | rfl | rfl | rfl | rfl | rfl <;> (repeat first | exact m3_eq | rw [m3_r (by decide)])
theorem ub_84 {k : Nat} : ub u k 84 0 k = u 57 0 k := by
  unfold ub
  repeat first | exact m3_eq | rw [m3_r (by decide)]
theorem bg_u1 : ∀ (j k : Nat) (u : MI), k + j = 12 → ∃ u2, (∀ d Y, RL (mP L xs) d 129 2 [some (rv 22 (some 0)), some (iv (nI k))] [] (u, Y) = RL (mP L xs) d 129 133 [some (rv 22 (some 0)), some (iv 0)] [] (u2, Y)) ∧
    (∀ R o i, ¬ (o = 0 ∧ k ≤ i ∧ ((73 ≤ R ∧ R ≤ 87) ∨ R = 93)) → u2 R o i = u R o i) ∧ (∀ R r, k ≤ r → r < 12 → (73 ≤ R ∧ R ≤ 87 ∧ R ≠ 84) ∨ R = 93 → u2 R 0 r = 0) ∧ (∀ r, k ≤ r → r < 12 → u2 84 0 r = u 57 0 r)
  | 0, k, u, hk => by
    have e : k = 12 := by omega
    subst e
    exact ⟨u, fun d Y => by rw [K_Ref_begin_2, if_neg (by decide)], fun _ _ _ _ => rfl, fun R r h1 h2 => absurd h2 (by omega), fun r h1 h2 => absurd h2 (by omega)⟩
  | j + 1, k, u, hk => by
    obtain ⟨u2, e1, e2, e3, e4⟩ := bg_u1 j (k + 1) (ub u k) (by omega)
    have e57 : (m3 (m3 (m3 (m3 (m3 (m3 (m3 (m3 (m3 (m3 (m3 u 73 0 k 0) 74 0 k 0) 75 0 k 0) 76 0 k 0) 77 0 k 0) 78 0 k 0) 79 0 k 0) 80 0 k 0) 81 0 k 0) 82 0 k 0) 83 0 k 0) 57 0 k = u 57 0 k := rfl
    refine ⟨u2, fun d Y => ?_, fun R o i h => ?_, fun R r h1 h2 h3 => ?_, fun r h1 h2 => ?_⟩
    · rw [K_Ref_begin_2, if_pos (show nI k < 12 from nI_lt (b := 12) (by omega) (by decide))]
      simp only [if_neg (nin (show k < 12 by omega) (show 12 < 2 ^ 31 by decide)), nI_clamp (show k < 2 ^ 31 by omega), nI_1, e57]
      exact e1 d Y
    · rw [e2 R o i (by omega), ub_no (by omega)]
    · by_cases z : r = k
      · subst z
        rw [e2 R 0 r (by omega), ub_z h3]
      · exact e3 R r (by omega) h2 h3
    · by_cases z : r = k
      · subst z
        rw [e2 84 0 r (by omega), ub_84]
      · rw [e4 r (by omega) h2, ub_no (by omega)]
theorem bg_u2 : ∀ (j k : Nat) (u : MI), k + j = 48 → ∃ u2, (∀ d Y, RL (mP L xs) d 129 133 [some (rv 22 (some 0)), some (iv (nI k))] [] (u, Y) = RL (mP L xs) d 129 154 [some (rv 22 (some 0)), some (iv 0)] [] (u2, Y)) ∧ (∀ R o i, ¬ (R = 88 ∧ k ≤ i) → u2 R o i = u R o i) ∧ (∀ i, k ≤ i → i < 48 → u2 88 0 i = 0)
  | 0, k, u, hk => by
    have e : k = 48 := by omega
    subst e
    exact ⟨u, fun d Y => by rw [K_Ref_begin_133, if_neg (by decide)], fun _ _ _ _ => rfl, fun i h1 h2 => absurd h2 (by omega)⟩
  | j + 1, k, u, hk => by
    obtain ⟨u2, e1, e2, e3⟩ := bg_u2 j (k + 1) (m3 u 88 0 k 0) (by omega)
    refine ⟨u2, fun d Y => ?_, fun R o i h => ?_, fun i h1 h2 => ?_⟩
    · rw [K_Ref_begin_133, if_pos (show nI k < 48 from nI_lt (b := 48) (by omega) (by decide)), if_neg (nin (show k < 48 by omega) (by decide)), nI_clamp (show k < 2 ^ 31 by omega), nI_1]
      exact e1 d Y
    · rw [e2 R o i (by omega), m3_no (by omega)]
    · by_cases z : i = k
      · subst z
        rw [e2 88 0 i (by omega), m3_eq]
      · exact e3 i (by omega) h2
theorem bg_u3 : ∀ (j k : Nat) (u : MI), k + j = 72 → ∃ u2, (∀ d Y, RL (mP L xs) d 129 154 [some (rv 22 (some 0)), some (iv (nI k))] [] (u, Y) = RL (mP L xs) d 129 175 [some (rv 22 (some 0)), some (iv 0)] [] (u2, Y)) ∧ (∀ R o i, ¬ (R = 90 ∧ k ≤ i) → u2 R o i = u R o i) ∧ (∀ i, k ≤ i → i < 72 → u2 90 0 i = 0)
  | 0, k, u, hk => by
    have e : k = 72 := by omega
    subst e
    exact ⟨u, fun d Y => by rw [K_Ref_begin_154, if_neg (by decide)], fun _ _ _ _ => rfl, fun i h1 h2 => absurd h2 (by omega)⟩
  | j + 1, k, u, hk => by
    obtain ⟨u2, e1, e2, e3⟩ := bg_u3 j (k + 1) (m3 u 90 0 k 0) (by omega)
    refine ⟨u2, fun d Y => ?_, fun R o i h => ?_, fun i h1 h2 => ?_⟩
    · rw [K_Ref_begin_154, if_pos (show nI k < 72 from nI_lt (b := 72) (by omega) (by decide)), if_neg (nin (show k < 72 by omega) (by decide)), nI_clamp (show k < 2 ^ 31 by omega), nI_1]
      exact e1 d Y
    · rw [e2 R o i (by omega), m3_no (by omega)]
    · by_cases z : i = k
      · subst z
        rw [e2 90 0 i (by omega), m3_eq]
      · exact e3 i (by omega) h2
theorem bg_u4 : ∀ (j k : Nat) (u : MI), k + j = 6 → ∃ u2, (∀ d Y, RL (mP L xs) d 129 175 [some (rv 22 (some 0)), some (iv (nI k))] [] (u, Y) = RL (mP L xs) d 129 201 [some (rv 22 (some 0)), some (iv 0)] [] (u2, Y)) ∧ (∀ R o i, ¬ (R = 91 ∧ k ≤ i) → u2 R o i = u R o i) ∧ (∀ i, k ≤ i → i < 6 → u2 91 0 i = u 58 0 i)
  | 0, k, u, hk => by
    have e : k = 6 := by omega
    subst e
    exact ⟨u, fun d Y => by rw [K_Ref_begin_175, if_neg (by decide)], fun _ _ _ _ => rfl, fun i h1 h2 => absurd h2 (by omega)⟩
  | j + 1, k, u, hk => by
    obtain ⟨u2, e1, e2, e3⟩ := bg_u4 j (k + 1) (m3 u 91 0 k (u 58 0 k)) (by omega)
    refine ⟨u2, fun d Y => ?_, fun R o i h => ?_, fun i h1 h2 => ?_⟩
    · rw [K_Ref_begin_175, if_pos (show nI k < 6 from nI_lt (b := 6) (by omega) (by decide)), if_neg (nin (show k < 6 by omega) (by decide)), if_neg (nin (show k < 6 by omega) (by decide)), nI_1]
      simp only [nI_clamp (show k < 2 ^ 31 by omega)]
      exact e1 d Y
    · rw [e2 R o i (by omega), m3_no (by omega)]
    · by_cases z : i = k
      · subst z
        rw [e2 91 0 i (by omega), m3_eq]
      · rw [e3 i (by omega) h2, m3_r (by decide)]
theorem bg_u5 : ∀ (j k : Nat) (u : MI), k + j = 8 → ∃ u2, (∀ d Y, RL (mP L xs) d 129 201 [some (rv 22 (some 0)), some (iv (nI k))] [] (u, Y) = some (.inl none, (m3 (m3 (m3 (m3 (m3 (m3 u2 22 0 79 0) 22 0 80 0) 22 0 81 0) 22 0 82 0) 22 0 83 0) 22 0 84 0, Y))) ∧ (∀ R o i, ¬ (R = 92 ∧ k ≤ i) → u2 R o i = u R o i) ∧ (∀ i, k ≤ i → i < 8 → u2 92 0 i = 0)
  | 0, k, u, hk => by
    have e : k = 8 := by omega
    subst e
    exact ⟨u, fun d Y => by rw [K_Ref_begin_201, if_neg (by decide)], fun _ _ _ _ => rfl, fun i h1 h2 => absurd h2 (by omega)⟩
  | j + 1, k, u, hk => by
    obtain ⟨u2, e1, e2, e3⟩ := bg_u5 j (k + 1) (m3 u 92 0 k (0 &&& 1)) (by omega)
    refine ⟨u2, fun d Y => ?_, fun R o i h => ?_, fun i h1 h2 => ?_⟩
    · rw [K_Ref_begin_201, if_pos (show nI k < 8 from nI_lt (b := 8) (by omega) (by decide)), if_neg (nin (show k < 8 by omega) (by decide)), nI_clamp (show k < 2 ^ 31 by omega), nI_1]
      exact e1 d Y
    · rw [e2 R o i (by omega), m3_no (by omega)]
    · by_cases z : i = k
      · subst z
        rw [e2 92 0 i (by omega), m3_eq]
        decide
      · exact e3 i (by omega) h2
theorem sN_0 : ∀ n, sN (fun _ => 0) n = 0
  | 0 => rfl
  | n + 1 => by
    show sN (fun _ => 0) n + 0 = 0
    rw [sN_0 n]
theorem p_begin (T : TD n s q rd ps en dp lp f g u) : ∃ f2 g2 u2, (∀ d X, EL (mP L xs) (d + 4) 92 [rv 11 (some 0)] (f, g, X) = some (.inl none, (f2, g2, X))) ∧ (∀ d Y, EL (mP L xs) (d + 1) 129 [rv 22 (some 0)] (u, Y) = some (.inl none, (u2, Y))) ∧ TT 0 n s q rd ps en dp lp f2 g2 u2 ∧ (∀ k, u2 58 0 k = u 58 0 k) := by
  have hn : n ≤ 12 := T.cn.1.2
  have hs6 : s ≤ 6 := T.cn.2.1
  have hq8 : q ≤ 8 := T.cn.2.2.1
  have h4 : f 11 0 4 = nI n := T.cn.2.2.2.1.1
  obtain ⟨f1, g1, a1, a2, a3⟩ := bg_c (L := L) (xs := xs) hn n 0 (mcp f 30 0 (rdI (mP L xs) f 29 0) 0 0 6) g (by omega) ((mcp_ne (fun z => absurd z.1 (by decide))).trans h4) (fun r hr => absurd hr (Nat.not_lt_zero r))
  obtain ⟨u1, b1, b2, b3, b4⟩ := bg_u1 (L := L) (xs := xs) 12 0 u rfl
  obtain ⟨u2, c1, c2, c3⟩ := bg_u2 (L := L) (xs := xs) 48 0 u1 rfl
  obtain ⟨u3, d1, d2, d3⟩ := bg_u3 (L := L) (xs := xs) 72 0 u2 rfl
  obtain ⟨u4, e1, e2, e3⟩ := bg_u4 (L := L) (xs := xs) 6 0 u3 rfl
  obtain ⟨u5, h1, h2, h3⟩ := bg_u5 (L := L) (xs := xs) 8 0 u4 rfl
  rw [nI_0] at a1 b1 c1 d1 e1 h1
  generalize hF : m3 (m3 (m3 (m3 (m3 (m3 (m3 f1 11 0 7 0) 11 0 9 0) 11 0 10 0) 11 0 11 0) 11 0 12 0) 11 0 13 0) 11 0 14 0 = F
  generalize hU : m3 (m3 (m3 (m3 (m3 (m3 u5 22 0 79 0) 22 0 80 0) 22 0 81 0) 22 0 82 0) 22 0 83 0) 22 0 84 0 = U at h1
  have hC : ∀ d X, EL (mP L xs) (d + 4) 92 [rv 11 (some 0)] (f, g, X) = some (.inl none, (F, g1, X)) := fun d X => by
    rw [E_Fair_begin, if_neg (by decide), if_neg (by decide), if_neg (by decide), if_neg (by decide), if_neg (by decide)]
    rw [a1 d X, K_Fair_begin_46]
    simp only [hF]
  have hE : ∀ d Y, EL (mP L xs) (d + 1) 129 [rv 22 (some 0)] (u, Y) = some (.inl none, (U, Y)) := fun d Y => by
    rw [E_Ref_begin, b1, c1, d1, e1, h1]
  have FC := EL_fm (show 92 < mNo by decide +kernel) (hC 0 (fun _ _ _ => 0, fun _ => 0, 0, 0))
  have FU := EL_fm (show 129 < mNo by decide +kernel) (hE 0 (fun _ _ _ => none, fun _ _ _ => 0, fun _ => 0, 0, 0))
  have fG : ∀ R o i, (mEff 92).testBit (lid R i) = false → (mEff 92).testBit (R * 128 + 127) = false → F R o i = f R o i ∧ g1 R o i = g R o i := fun R o i x y => ⟨(FC.1 R o i x (Or.inr y)).1, (FC.1 R o i x (Or.inr y)).2.1⟩
  have uG : ∀ R o i, (mEff 129).testBit (lid R i) = false → (mEff 129).testBit (R * 128 + 127) = false → U R o i = u R o i := fun R o i x y => (FU.1 R o i x (Or.inr y)).1
  have uA : ∀ R, rTag R ≠ 0 → (mEff 129).testBit (R * 128) = false → (mEff 129).testBit (R * 128 + 127) = false → ∀ i, U R 0 i = u R 0 i := fun R h x y i => uG R 0 i (by rw [lid_arr h]; exact x) y
  have fA : ∀ R o, rTag R ≠ 0 → (mEff 92).testBit (R * 128) = false → (mEff 92).testBit (R * 128 + 127) = false → ∀ i, F R o i = f R o i := fun R o h x y i => (fG R o i (by rw [lid_arr h]; exact x) y).1
  -- the class's zeros
  have F1 : ∀ R o i, R ≠ 11 → F R o i = f1 R o i := fun R o i h => by rw [← hF, m3_r h, m3_r h, m3_r h, m3_r h, m3_r h, m3_r h, m3_r h]
  have Z : ∀ r, r < n → Zc F g1 r := fun r hr => by
    obtain ⟨z1, z2, z3, z4, z5, z6, z7⟩ := a2 r hr
    exact ⟨fun i x y => (F1 16 r i (by decide)).trans (z1 i x y), (F1 15 r 2 (by decide)).trans z2, (F1 15 r 3 (by decide)).trans z3, fun k x => (F1 25 r k (by decide)).trans (z4 k x), fun k x => (F1 26 r k (by decide)).trans (z5 k x), fun i x y => (F1 18 r i (by decide)).trans (z6 i x y), z7⟩
  have F30 : ∀ k, k < 6 → F 30 0 k = f 29 0 k := fun k hk => by
    rw [F1 30 0 k (by decide), a3]
    show mcp f 30 0 (rdI (mP L xs) f 29 0) 0 0 6 30 0 k = f 29 0 k
    unfold mcp
    rw [if_pos rfl, if_pos rfl, if_pos ⟨Nat.zero_le _, by omega⟩, Nat.zero_add, Nat.sub_zero]
    rfl
  -- the reference's
  have U1 : ∀ R o i, R ≠ 22 → U R o i = u5 R o i := fun R o i h => by rw [← hU, m3_r h, m3_r h, m3_r h, m3_r h, m3_r h, m3_r h]
  have Ur : ∀ R r, r < 12 → (73 ≤ R ∧ R ≤ 87 ∧ R ≠ 84) ∨ R = 93 → U R 0 r = 0 := fun R r hr hR => by
    rw [U1 R 0 r (by omega), h2 R 0 r (by omega), e2 R 0 r (by omega), d2 R 0 r (by omega), c2 R 0 r (by omega), b3 R r (by omega) hr hR]
  have U84 : ∀ r, r < 12 → U 84 0 r = u 57 0 r := fun r hr => by
    rw [U1 84 0 r (by omega), h2 84 0 r (by omega), e2 84 0 r (by omega), d2 84 0 r (by omega), c2 84 0 r (by omega), b4 r (by omega) hr]
  have U88 : ∀ k, k < 48 → U 88 0 k = 0 := fun k hk => by
    rw [U1 88 0 k (by omega), h2 88 0 k (by omega), e2 88 0 k (by omega), d2 88 0 k (by omega), c3 k (by omega) hk]
  have U90 : ∀ k, k < 72 → U 90 0 k = 0 := fun k hk => by
    rw [U1 90 0 k (by omega), h2 90 0 k (by omega), e2 90 0 k (by omega), d3 k (by omega) hk]
  have U58 : ∀ k, U 58 0 k = u 58 0 k := uA 58 (by decide +kernel) (by decide +kernel) (by decide +kernel)
  have U91 : ∀ k, k < 6 → U 91 0 k = u 58 0 k := fun k hk => by
    rw [U1 91 0 k (by omega), h2 91 0 k (by omega), e3 k (by omega) hk, d2 58 0 k (by omega), c2 58 0 k (by omega), b2 58 0 k (by omega)]
  have U92 : ∀ k, k < 8 → U 92 0 k = 0 := fun k hk => by
    rw [U1 92 0 k (by omega), h3 k (by omega) hk]
  have g11 : ∀ i, i = 4 ∨ i = 5 ∨ i = 6 ∨ i = 8 → F 11 0 i = f 11 0 i := fun i hi => by
    rcases hi with rfl | rfl | rfl | rfl <;> exact (fG 11 0 _ (by decide +kernel) (by decide +kernel)).1
  have g22 : ∀ i, i = 20 ∨ i = 21 ∨ i = 22 ∨ i = 23 → U 22 0 i = u 22 0 i := fun i hi => by
    rcases hi with rfl | rfl | rfl | rfl <;> exact uG 22 0 _ (by decide +kernel) (by decide +kernel)
  have ST2 : ST (mk stC F) (mkG stG g1) (mk stU U) rd ps en dp lp n s q := by
    have fg := fun a i x y => fG 19 a i x y
    refine ST_cg (f := mk stC f) (g := mkG stG g) (u := mk stU u) (fun a => (fg a 0 (by decide +kernel) (by decide +kernel)).1) (fun a => (fg a 1 (by decide +kernel) (by decide +kernel)).1) (fun a => (fg a 4 (by decide +kernel) (by decide +kernel)).1) (fun a => (fg a 5 (by decide +kernel) (by decide +kernel)).1) (fA 32 0 (by decide +kernel) (by decide +kernel) (by decide +kernel)) (fG 10 0 3 (by decide +kernel) (by decide +kernel)).1 (fun a => (fg a 2 (by decide +kernel) (by decide +kernel)).2) (fun a => (fg a 3 (by decide +kernel) (by decide +kernel)).2) (fun a => (fg a 7 (by decide +kernel) (by decide +kernel)).2) (fun a => (fg a 8 (by decide +kernel) (by decide +kernel)).2) (fun a => (fg a 9 (by decide +kernel) (by decide +kernel)).2) (fun a => (fg a 10 (by decide +kernel) (by decide +kernel)).2) (fun r => (fG 18 r 2 (by decide +kernel) (by decide +kernel)).2) (fun R k h => ?_) T.st
    have hR : R = 49 ∨ R = 57 ∨ R = 59 ∨ R = 60 ∨ R = 61 ∨ R = 62 ∨ R = 63 ∨ R = 64 ∨ R = 65 ∨ R = 66 ∨ R = 67 ∨ R = 68 ∨ R = 69 ∨ R = 70 ∨ R = 71 ∨ R = 72 := by omega
    rcases hR with rfl | rfl | rfl | rfl | rfl | rfl | rfl | rfl | rfl | rfl | rfl | rfl | rfl | rfl | rfl | rfl <;> exact uA _ (by decide +kernel) (by decide +kernel) (by decide +kernel) k
  refine ⟨F, g1, U, hC, hE, ⟨?_, ?_, ⟨0, Nat.le_refl 0, ?_, fun k _ h => absurd h (by omega)⟩, fun k hk => ⟨?_, ?_⟩, fun k hk => ?_, fun k hk => ?_, ST2, fun r hr => ?_⟩, U58⟩
  · have h := T.cn
    unfold R_cnt at h ⊢
    rw [g11 4 (by omega), g11 5 (by omega), g11 6 (by omega), g11 8 (by omega), g22 20 (by omega), g22 21 (by omega), g22 22 (by omega), g22 23 (by omega)]
    exact h
  · rw [← hF, ← hU]
    exact ⟨rfl, rfl, rfl, rfl, rfl, rfl⟩
  · rw [← hU]
    rfl
  · rw [F30 k (by omega), U91 k (by omega)]
    exact (T.sa k hk).1
  · rw [fA 29 0 (by decide +kernel) (by decide +kernel) (by decide +kernel) k, U58]
    exact (T.sa k hk).1
  · obtain ⟨x, x1, x2⟩ := (T.sa k hk).2
    refine ⟨x, fun _ => 0, (U91 k (by omega)).trans x2, fun r hr => ⟨(U90 _ (by omega)).trans rfl, Nat.zero_le _⟩, ?_⟩
    rw [sN_0]
    omega
  · have f7 : F 11 0 7 = 0 := by rw [← hF]; rfl
    rw [U92 k (by omega), f7]
    have : ∀ k : Nat, k < 8 → (0 : Int32) = ((0 : Int32) >>> (nI k &&& 31)) &&& 1 := by decide
    exact this k (by omega)
  · obtain ⟨kd, K⟩ := T.rk r hr
    obtain ⟨z1, z2, z3, z4, z5, z6, z7⟩ := Z r hr
    have hr12 : r < 12 := by omega
    have f16 := fun i x y => (fG 16 r i x y).1
    have f27 := fA 27 r (by decide +kernel) (by decide +kernel) (by decide +kernel)
    have uu := fun R (h : 49 ≤ R ∧ R ≤ 56) => (show U R 0 r = u R 0 r by
      have hR : R = 49 ∨ R = 50 ∨ R = 51 ∨ R = 52 ∨ R = 53 ∨ R = 54 ∨ R = 55 ∨ R = 56 := by omega
      rcases hR with rfl | rfl | rfl | rfl | rfl | rfl | rfl | rfl <;> exact uA _ (by decide +kernel) (by decide +kernel) (by decide +kernel) r)
    have u42 := uA 42 (by decide +kernel) (by decide +kernel) (by decide +kernel)
    have up0 : ∀ N x, x = (0 : Int32) → Upto x N := fun N x h => ⟨0, Nat.zero_le _, h.trans rfl⟩
    refine ⟨⟨kd, K.lt, K.kl, ?_, ?_, ?_, ?_, ?_, ?_, ?_, ?_, ?_, ?_, ?_, ?_, ?_, ?_, ?_⟩, ⟨0, Nat.zero_le _, ?_, ?_, fun k hk => absurd hk (Nat.not_lt_zero k), ?_, fun k hk => absurd hk (Nat.not_lt_zero k)⟩, ⟨?_, ?_, ?_, fun k hk => ?_, fun k hk => ?_⟩, ?_⟩
    · exact (f16 4 (by decide +kernel) (by decide +kernel)).trans K.kc
    · exact (uu 49 (by omega)).trans K.kr
    · exact (f16 5 (by decide +kernel) (by decide +kernel)).trans K.ac
    · exact (f16 0 (by decide +kernel) (by decide +kernel)).trans K.ix
    · have h := T.ar
      unfold R_abl at h ⊢
      simp only [u42]
      exact h
    · exact (f27 0).trans (K.m0.trans (uu 51 (by omega)).symm)
    · exact (f27 1).trans (K.m1.trans (uu 52 (by omega)).symm)
    · exact (f27 2).trans (K.m2.trans (uu 53 (by omega)).symm)
    · exact (f27 3).trans (K.m3.trans (uu 54 (by omega)).symm)
    · exact (f27 4).trans (K.m4.trans (uu 55 (by omega)).symm)
    · exact (f27 5).trans (K.m5.trans (uu 56 (by omega)).symm)
    · intro h8
      obtain ⟨l, l1, l2, l3⟩ := K.t8 h8
      exact ⟨l, l1, (fG 16 r 6 (by decide +kernel) (by decide +kernel)).2.trans l2, (uu 50 (by omega)).trans l3⟩
    · intro h8
      exact (fG 16 r 6 (by decide +kernel) (by decide +kernel)).2.trans (K.tx h8)
    · refine ⟨?_, ?_, ?_, ?_, ?_, ?_, ?_, ?_, ?_⟩
      · rw [z1 7 (by omega) (by omega), Ur 73 r hr12 (by omega)]
      · rw [z1 8 (by omega) (by omega), Ur 74 r hr12 (by omega)]
      · rw [z1 9 (by omega) (by omega), Ur 75 r hr12 (by omega)]
      · rw [z1 10 (by omega) (by omega), Ur 76 r hr12 (by omega)]
      · rw [z1 11 (by omega) (by omega), Ur 77 r hr12 (by omega)]
      · rw [z1 12 (by omega) (by omega), Ur 78 r hr12 (by omega)]
      · rw [z1 13 (by omega) (by omega), Ur 79 r hr12 (by omega)]
      · rw [z1 14 (by omega) (by omega), Ur 80 r hr12 (by omega)]
      · rw [z1 15 (by omega) (by omega), Ur 81 r hr12 (by omega)]
    · have w73 := Ur 73 r hr12 (by omega)
      have w74 := Ur 74 r hr12 (by omega)
      have w75 := Ur 75 r hr12 (by omega)
      have w76 := Ur 76 r hr12 (by omega)
      have w77 := Ur 77 r hr12 (by omega)
      have w78 := Ur 78 r hr12 (by omega)
      have w79 := Ur 79 r hr12 (by omega)
      have w80 := Ur 80 r hr12 (by omega)
      have w81 := Ur 81 r hr12 (by omega)
      have k51 := uu 51 (by omega)
      have k52 := uu 52 (by omega)
      have k53 := uu 53 (by omega)
      have k54 := uu 54 (by omega)
      have k55 := uu 55 (by omega)
      have k56 := uu 56 (by omega)
      obtain ⟨p4, p5, p6⟩ := K.n4
      refine ⟨⟨0, by omega, Or.inl (w73.trans rfl)⟩, ⟨0, by omega, Or.inl (w74.trans rfl)⟩, up0 _ _ w75, up0 _ _ w76, ⟨0, p4, by omega, p5, w78.trans rfl, k55.trans p6⟩, up0 _ _ w79, up0 _ _ w80, up0 _ _ w81, by rw [k51]; exact K.n0, by rw [k52]; exact K.n1, by rw [k53]; exact K.n2, by rw [k54]; exact K.n3, by rw [k56]; exact K.n5, fun h => ⟨w73, w74, k51.trans (K.tu h).1, k52.trans (K.tu h).2⟩, fun h => by rw [k52]; exact K.tn h, fun h => ⟨w75, w76, w77, k53.trans (K.lf h).1, k54.trans (K.lf h).2⟩, fun h => ⟨w79, k56.trans (K.la h)⟩, fun h => w80⟩
    · rw [z2]; rfl
    · rw [Ur 93 r hr12 (by omega)]; rfl
    · rw [z3]; rfl
    · rw [z6 6 (by omega) (by omega), Ur 82 r hr12 (by omega)]
    · rw [z6 7 (by omega) (by omega), Ur 83 r hr12 (by omega)]
    · rw [z6 8 (by omega) (by omega), Ur 85 r hr12 (by omega)]
    · rw [z4 k hk, U88 _ (by omega)]
    · rw [z5 k hk, U90 _ (by omega)]
    · have hg2 : g1 18 r 2 = g 18 r 2 := (fG 18 r 2 (by decide +kernel) (by decide +kernel)).2
      have S2 := T.st.2 r hr
      cases hg : g 18 r 2 with
      | some a =>
        obtain ⟨s1, s2, s3, s4⟩ := S2.1 a hg
        have s2' : u 57 0 r = nI (ps a) := s2
        have s3' : f 19 a 0 ≠ 401 := s3
        have s4' : g 19 a 2 = none := s4
        have e2 : g1 19 a 2 = none := (fG 19 a 2 (by decide +kernel) (by decide +kernel)).2.trans s4'
        have e0 : F 19 a 0 = f 19 a 0 := (fG 19 a 0 (by decide +kernel) (by decide +kernel)).1
        refine Or.inl ⟨a, z7.trans (hg2.trans hg), s1, (U84 r hr12).trans s2', Ur 82 r hr12 (by omega), ?_, fun h => absurd (e0.symm.trans h) s3', ?_, Or.inl (Ur 87 r hr12 (by omega))⟩
        · intro j b hb
          rw [e2, up_none] at hb
          cases hb
        · rw [z6 4 (by omega) (by omega), Ur 87 r hr12 (by omega)]
      | none =>
        obtain ⟨k, k1, k2, k3, k4⟩ := S2.2 hg
        have k2' : u 57 0 r = nI k := k2
        have k3' : u 59 0 k = 54 := k3
        have k4' : u 64 0 k = -1 := k4
        exact Or.inr (Or.inr ⟨z7.trans (hg2.trans hg), Ur 82 r hr12 (by omega), k, k1, (U84 r hr12).trans k2', (uA 59 (by decide +kernel) (by decide +kernel) (by decide +kernel) k).trans k3', (uA 64 (by decide +kernel) (by decide +kernel) (by decide +kernel) k).trans k4'⟩)
end Beg
