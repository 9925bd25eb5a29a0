/-! ===== masks ===== -/
def mk (b : Nat → Nat → Bool) (f : MI) : MI := fun R o i => bif b R i then f R o i else 0
def mkG (b : Nat → Nat → Bool) (g : MR) : MR := fun R o i => bif b R i then g R o i else none
theorem mk_m3 {b : Nat → Nat → Bool} {f : MI} {R o i : Nat} {v : Int32} (h : b R i = false) : mk b (m3 f R o i v) = mk b f := by
  funext R' o' i'
  unfold mk m3
  by_cases e1 : R' = R
  · by_cases e3 : i' = i
    · subst e1; subst e3
      rw [h]
      rfl
    · simp [e1, e3]
  · simp [e1]
/-- rows: the index doesn't matter -/
theorem mk_a3 {b : Nat → Nat → Bool} {f : MI} {R o i : Nat} {v : Int32} (h : ∀ j, b R j = false) : mk b (m3 f R o i v) = mk b f := mk_m3 (h i)
theorem mkG_m3 {b : Nat → Nat → Bool} {f : MR} {R o i : Nat} {v : Option Nat} (h : b R i = false) : mkG b (m3 f R o i v) = mkG b f := by
  funext R' o' i'
  unfold mkG m3
  by_cases e1 : R' = R
  · by_cases e3 : i' = i
    · subst e1; subst e3
      rw [h]
      rfl
    · simp [e1, e3]
  · simp [e1]
theorem mk_at {b : Nat → Nat → Bool} {f f' : MI} (e : mk b f' = mk b f) (R o i : Nat) (h : b R i = true) : f' R o i = f R o i := by
  have := congrFun (congrFun (congrFun e R) o) i
  unfold mk at this
  rw [h] at this
  exact this
theorem mk_sub {b c : Nat → Nat → Bool} {f f' : MI} (hb : ∀ R i, c R i = true → b R i = true) (e : mk b f' = mk b f) : mk c f' = mk c f := by
  funext R o i
  unfold mk
  cases hc : c R i with
  | false => rfl
  | true => exact mk_at e R o i (hb R i hc)
/-- not the class's scratch; not the reference's -/
def nsC (R i : Nat) : Bool := !((Nat.beq R 10 && (Nat.beq i 4 || Nat.beq i 5)) || Nat.beq R 33)
def nsU (R i : Nat) : Bool := !((Nat.beq R 22 && (Nat.beq i 88 || Nat.beq i 89)) || Nat.beq R 98 || Nat.beq R 97)
/-- what is told of scripts -/
def stC (R i : Nat) : Bool := (Nat.beq R 19 && !Nat.beq i 6) || Nat.beq R 32 || (Nat.beq R 10 && Nat.beq i 3)
def stG (R i : Nat) : Bool := Nat.beq R 19 || (Nat.beq R 18 && Nat.beq i 2)
def stU (R _i : Nat) : Bool := (Nat.beq R 57 || Nat.beq R 49) || (Nat.blt 58 R && Nat.blt R 73)
/-! ===== formulas ===== -/
abbrev PL : Type := List (Nat × Nat)
def bop (w : Nat) (x y : Int32) : Int32 := if w = 9 then x + y else if w = 10 then x - y else if w = 11 then x * y else x / y
def ev (μ : Nat × Nat → Int32) : PL → List Int32 → Option (List Int32)
  | [], st => some st
  | c :: l, st => if c.1 ≤ 4 then ev μ l (μ c :: st) else if c.1 = 5 then (match st with
      | x :: s => ev μ l (-x :: s)
      | [] => none) else (match st with
      | y :: x :: s => if c.1 = 12 ∧ y = 0 then none else ev μ l (bop c.1 x y :: s)
      | _ => none)
/-- the stack stays below N -/
def Hi (N : Nat) : PL → Nat → Prop
  | [], _ => True
  | c :: l, t => if c.1 ≤ 4 then t < N ∧ Hi N l (t + 1) else if c.1 = 5 then 1 ≤ t ∧ Hi N l t else 2 ≤ t ∧ Hi N l (t - 1)
def okc (n : Nat) (x : Nat × Nat) : Prop := (x.1 = 1 ∧ x.2 < 10000) ∨ (x.1 = 2 ∧ x.2 ≤ 13) ∨ (x.1 = 3 ∧ x.2 / 32 < n ∧ 7 ≤ x.2 % 32 ∧ x.2 % 32 ≤ 13) ∨ (x.1 = 5 ∧ x.2 = 0) ∨ (9 ≤ x.1 ∧ x.1 ≤ 12 ∧ x.2 = 0)
/-- cells that spell a list; the reference's codes likewise -/
def Sp (f : MI) : Nat → PL → Prop
  | _, [] => True
  | c, x :: l => f 32 0 c = nI (x.1 + 32 * x.2) ∧ Sp f (c + 1) l
def mz (a : Nat) : Int32 := if a = 7 then 6 else if a = 8 then 0 else if a = 9 then 1 else if a = 10 then 2 else if a = 11 then 4 else if a = 12 then 5 else 3
def RC (u : MI) (k : Nat) (x : Nat × Nat) : Prop := (x.1 = 1 ∧ u 65 0 k = 1 ∧ u 66 0 k = nI x.2) ∨
  (x.1 = 2 ∧ x.2 ≤ 3 ∧ u 65 0 k = 2 ∧ u 66 0 k = nI x.2) ∨ (x.1 = 2 ∧ x.2 = 4 ∧ u 65 0 k = 3) ∨ (x.1 = 2 ∧ x.2 = 5 ∧ u 65 0 k = 4) ∨ (x.1 = 2 ∧ x.2 = 6 ∧ u 65 0 k = 5) ∨
  (x.1 = 2 ∧ 7 ≤ x.2 ∧ u 65 0 k = 6 ∧ u 66 0 k = mz x.2) ∨ (x.1 = 3 ∧ u 65 0 k = 7 ∧ u 66 0 k = nI (x.2 / 32) ∧ u 67 0 k = mz (x.2 % 32)) ∨
  (x.1 = 5 ∧ u 65 0 k = 8) ∨ (9 ≤ x.1 ∧ u 65 0 k = nI x.1)
def Rp (u : MI) : Nat → PL → Prop
  | _, [] => True
  | k, x :: l => RC u k x ∧ Rp u (k + 1) l
/-- two lists that say the same -/
def Same (lc lr : PL) : Prop := ∃ φ : (Nat × Nat → Int32) → Option Int32, ∀ μ st, ev μ lc st = (φ μ).map (fun v => v :: st) ∧ ev μ lr st = (φ μ).map (fun v => v :: st)
def FE (f u : MI) (n c c' k : Nat) (lc lr : PL) : Prop := (Sp f c lc) ∧ (c' = c + lc.length) ∧ (Rp u k lr) ∧ (u 65 0 (k + lr.length) = 0) ∧ (k + lr.length < 9000) ∧ (∀ x ∈ lc, okc n x) ∧ (∀ x ∈ lr, okc n x) ∧ (Same lc lr) ∧ (Hi 62 lc 0) ∧ (Hi 62 lr 0)
theorem FE.sp {f u : MI} {n c c' k : Nat} {lc lr : PL} (x : FE f u n c c' k lc lr) : Sp f c lc := x.1
theorem FE.cc {f u : MI} {n c c' k : Nat} {lc lr : PL} (x : FE f u n c c' k lc lr) : c' = c + lc.length := x.2.1
theorem FE.rp {f u : MI} {n c c' k : Nat} {lc lr : PL} (x : FE f u n c c' k lc lr) : Rp u k lr := x.2.2.1
theorem FE.ed {f u : MI} {n c c' k : Nat} {lc lr : PL} (x : FE f u n c c' k lc lr) : u 65 0 (k + lr.length) = 0 := x.2.2.2.1
theorem FE.kl {f u : MI} {n c c' k : Nat} {lc lr : PL} (x : FE f u n c c' k lc lr) : k + lr.length < 9000 := x.2.2.2.2.1
theorem FE.oc {f u : MI} {n c c' k : Nat} {lc lr : PL} (x : FE f u n c c' k lc lr) : ∀ x ∈ lc, okc n x := x.2.2.2.2.2.1
theorem FE.ok {f u : MI} {n c c' k : Nat} {lc lr : PL} (x : FE f u n c c' k lc lr) : ∀ x ∈ lr, okc n x := x.2.2.2.2.2.2.1
theorem FE.sm {f u : MI} {n c c' k : Nat} {lc lr : PL} (x : FE f u n c c' k lc lr) : Same lc lr := x.2.2.2.2.2.2.2.1
theorem FE.hc {f u : MI} {n c c' k : Nat} {lc lr : PL} (x : FE f u n c c' k lc lr) : Hi 62 lc 0 := x.2.2.2.2.2.2.2.2.1
theorem FE.hr {f u : MI} {n c c' k : Nat} {lc lr : PL} (x : FE f u n c c' k lc lr) : Hi 62 lr 0 := x.2.2.2.2.2.2.2.2.2
/-- an E: cells from c, codes from k -/
def FM (f u : MI) (n c k : Nat) : Prop := ∃ (c' cn : Nat) (lc lr : PL), FE f u n c c' k lc lr ∧ f 32 0 c' = 0 ∧ c' < cn ∧ cn ≤ 4001 ∧ f 10 0 3 = nI cn
def FMx (f u : MI) (n : Nat) (x y : Int32) : Prop := ∃ c k : Nat, x = nI c ∧ y = nI k ∧ FM f u n c k
def sgw (w : Nat) : Int32 := if w = 13 then 60 else if w = 14 then 316 else if w = 15 then 62 else if w = 16 then 318 else if w = 17 then 317 else 289
/-- a question: cells c to c', the reference's k -/
def Qn (f u : MI) (n q c c' k : Nat) : Prop := k < 2100 ∧ ∃ (nt : Bool) (c2 : Nat), u 68 0 k = (bif nt then 1 else 0) ∧ c' = c2 + 1 + (bif nt then 1 else 0) ∧ (nt = true → f 32 0 (c2 + 1) = 6) ∧
  ((∃ j : Nat, j < q ∧ u 69 0 k = 0 ∧ u 70 0 k = nI j ∧ f 32 0 c2 = nI (4 + 32 * j) ∧ c2 = c) ∨
  (∃ (c1 ka kb w : Nat) (lc1 lr1 lc2 lr2 : PL), 13 ≤ w ∧ w ≤ 18 ∧ u 69 0 k = sgw w ∧ u 70 0 k = nI ka ∧ u 71 0 k = nI kb ∧ FE f u n c c1 ka lc1 lr1 ∧ FE f u n c1 c2 kb lc2 lr2 ∧ f 32 0 c2 = nI w))
def CM (f u : MI) (n q e : Nat) : Nat → Nat → Nat → Prop
  | 0, c, k => ∃ c' : Nat, Qn f u n q c c' k ∧ u 72 0 k = -1 ∧ f 32 0 c' = 0 ∧ c' ≤ e
  | m + 1, c, k => ∃ (c' : Nat) (jn : Bool), Qn f u n q c c' k ∧ u 72 0 k = (bif jn then 48 else 49) ∧ f 32 0 c' = (bif jn then 7 else 8) ∧ c' < e ∧ CM f u n q e m (c' + 1) (k + 1)
def CDx (f u : MI) (n q : Nat) (x y : Int32) : Prop := ∃ c k m e cn : Nat, x = nI c ∧ y = nI k ∧ CM f u n q e m c k ∧ e < cn ∧ cn ≤ 4001 ∧ f 10 0 3 = nI cn
/-! ===== abilities of the kinds ===== -/
def aTu (k : Nat) : Bool := [true, false, true, true, false, false, false, true, true].getD k false
def aLi (k : Nat) : Bool := [false, true, true, false, false, true, false, true, false].getD k false
def aSe (k : Nat) : Bool := [true, true, true, false, false, false, true, true, true].getD k false
def aLa (k : Nat) : Bool := [false, false, false, false, true, true, true, true, false].getD k false
def aSo (k : Nat) : Bool := [false, false, false, true, false, true, true, true, false].getD k false
/-! ===== scripts: what is told ===== -/
section Scripts
variable (f : MI) (g : MR) (u : MI) (rd ps en dp : Nat → Nat) (lp : Nat → Option Nat) (n s q : Nat) (r : Nat)
/-- place k of the ops is the end of a block of o -/
def EndAt (o : Option Nat) (k : Nat) : Prop := k < 6100 ∧ (o = none → u 59 0 k = 54) ∧ ∀ b, o = some b →
  (f 19 b 0 = 313 → u 59 0 k = 52 ∧ u 63 0 k = nI (dp b) ∧ en b = k + 1 ∧ ∃ c, g 19 b 10 = some c ∧ rd c = r ∧ ps c = k ∧ f 19 c 0 = 401 ∧ g 19 c 2 = some b) ∧
  (f 19 b 0 = 314 → u 59 0 k = 53 ∧ ∃ c, g 19 b 10 = some c ∧ rd c = r ∧ ps c = k ∧ f 19 c 0 = 401 ∧ g 19 c 2 = some b) ∧
  (f 19 b 0 = 315 ∨ f 19 b 0 = 316 → (u 59 0 k = 51 ∧ u 62 0 k = nI (en b)) ∨ k = en b)
/-- a block of b that begins with o (none: empty), at place k -/
def BlkAt (b : Nat) (o : Option Nat) (k : Nat) : Prop := (∀ c, o = some c → rd c = r ∧ ps c = k ∧ f 19 c 0 ≠ 401 ∧ g 19 c 2 = some b) ∧ (o = none → EndAt f g u rd ps en dp r (some b) k)
def KdA (a : Nat) : Prop := en a = ps a + 1 ∧ (
  ((f 19 a 0 = 301 ∧ u 59 0 (ps a) = 4 ∨ f 19 a 0 = 302 ∧ u 59 0 (ps a) = 5 ∨ f 19 a 0 = 319 ∧ u 59 0 (ps a) = 6 ∨ f 19 a 0 = 303 ∧ u 59 0 (ps a) = 7) ∧ FMx f u n (f 19 a 4) (u 61 0 (ps a))) ∨
  ((f 19 a 0 = 304 ∧ u 59 0 (ps a) = 8 ∨ f 19 a 0 = 306 ∧ u 59 0 (ps a) = 10 ∨ f 19 a 0 = 307 ∧ u 59 0 (ps a) = 11) ∧ FMx f u n (f 19 a 4) (u 61 0 (ps a))) ∨
  (f 19 a 0 = 305 ∧ u 59 0 (ps a) = 9) ∨ (f 19 a 0 = 318 ∧ u 59 0 (ps a) = 22) ∨
  (f 19 a 0 = 308 ∧ u 59 0 (ps a) = 12 ∧ CDx f u n q (f 19 a 4) (u 61 0 (ps a))) ∨
  ((f 19 a 0 = 309 ∧ u 59 0 (ps a) = 13 ∨ f 19 a 0 = 310 ∧ u 59 0 (ps a) = 14) ∧ ∃ k : Nat, k < s ∧ f 19 a 5 = nI k ∧ u 61 0 (ps a) = nI k) ∨
  ((f 19 a 0 = 311 ∧ u 59 0 (ps a) = 15 ∨ f 19 a 0 = 312 ∧ u 59 0 (ps a) = 16) ∧ ∃ k : Nat, k < q ∧ f 19 a 5 = nI k ∧ u 61 0 (ps a) = nI k) ∨
  (f 19 a 0 = 400 ∧ u 59 0 (ps a) = 50 ∧ FMx f u n (f 19 a 4) (u 61 0 (ps a)) ∧ ∃ k : Nat, k < 4 ∧ f 19 a 5 = nI k ∧ u 62 0 (ps a) = nI k) ∨
  (f 19 a 0 = 317 ∧ u 59 0 (ps a) = 21 ∧ ∃ b, lp a = some b ∧ u 61 0 (ps a) = nI (ps b)))
def KdB (a : Nat) : Prop := 
  (f 19 a 0 = 313 ∧ u 59 0 (ps a) = 17 ∧ FMx f u n (f 19 a 4) (u 61 0 (ps a)) ∧ u 62 0 (ps a) = nI (en a) ∧ u 63 0 (ps a) = nI (dp a) ∧ BlkAt f g u rd ps en dp r a (g 19 a 8) (ps a + 1) ∧ g 19 a 10 ≠ none) ∨
  (f 19 a 0 = 314 ∧ u 59 0 (ps a) = 18 ∧ u 62 0 (ps a) = nI (en a) ∧ BlkAt f g u rd ps en dp r a (g 19 a 8) (ps a + 1) ∧ g 19 a 10 ≠ none) ∨
  (f 19 a 0 = 315 ∧ u 59 0 (ps a) = 19 ∧ CDx f u n q (f 19 a 4) (u 61 0 (ps a)) ∧ (∃ j : Nat, u 62 0 (ps a) = nI j ∧ BlkAt f g u rd ps en dp r a (g 19 a 8) (ps a + 1) ∧ BlkAt f g u rd ps en dp r a (g 19 a 9) j) ∧ g 19 a 10 = none) ∨
  (f 19 a 0 = 316 ∧ u 59 0 (ps a) = 20 ∧ (∃ j : Nat, u 62 0 (ps a) = nI j ∧ BlkAt f g u rd ps en dp r a (g 19 a 8) (ps a + 1) ∧ BlkAt f g u rd ps en dp r a (g 19 a 9) j) ∧ g 19 a 10 = none)
def KdT (a : Nat) : Prop := f 19 a 0 = 401 ∧ ∃ b, g 19 a 2 = some b ∧ (f 19 b 0 = 313 ∧ u 59 0 (ps a) = 52 ∨ f 19 b 0 = 314 ∧ u 59 0 (ps a) = 53) ∧ u 61 0 (ps a) = nI (ps b) ∧ u 63 0 (ps a) = nI (dp b)
def blk (x : Int32) : Prop := x = 313 ∨ x = 314 ∨ x = 315 ∨ x = 316
end Scripts
def Loc (f : MI) (g : MR) (u : MI) (rd ps en dp : Nat → Nat) (lp : Nat → Option Nat) (n s q r a : Nat) : Prop := (ps a < 6100) ∧ (f 19 a 1 = u 60 0 (ps a)) ∧ ((g 19 a 3 = none ∧ u 64 0 (ps a) = -1) ∨ ∃ b, g 19 a 3 = some b ∧ rd b = r ∧ f 19 b 0 = 316 ∧ u 64 0 (ps a) = nI (ps b)) ∧ ((g 19 a 2 = none ∧ dp a = 1 ∧ g 19 a 3 = none ∧ lp a = none) ∨ ∃ b, g 19 a 2 = some b ∧ rd b = r ∧ blk (f 19 b 0) ∧ dp a = dp b + 1 ∧ dp b ≤ 10 ∧ (g 19 a 3 = g 19 b 3 ∨ g 19 a 3 = some b) ∧ lp a = (if f 19 b 0 = 313 ∨ f 19 b 0 = 314 then some b else lp b)) ∧ (f 19 a 0 ≠ 401 → (∀ c, g 19 a 7 = some c → rd c = r ∧ ps c = en a ∧ f 19 c 0 ≠ 401 ∧ g 19 c 2 = g 19 a 2) ∧ (g 19 a 7 = none → EndAt f g u rd ps en dp r (g 19 a 2) (en a))) ∧ (f 19 a 0 ≠ 401 → dp a ≤ 10) ∧ (∀ kd : Nat, kd ≤ 8 → u 49 0 r = nI kd → (f 19 a 0 = 301 → aTu kd = true) ∧ (f 19 a 0 = 302 → aLi kd = true) ∧ (f 19 a 0 = 319 → aLa kd = true) ∧ (f 19 a 0 = 303 → aSo kd = true)) ∧ (KdA f u ps en lp n s q a ∨ KdB f g u rd ps en dp n q r a ∨ KdT f g u ps dp a)
theorem Loc.pl {f : MI} {g : MR} {u : MI} {rd ps en dp : Nat → Nat} {lp : Nat → Option Nat} {n s q r a : Nat} (x : Loc f g u rd ps en dp lp n s q r a) : ps a < 6100 := x.1
theorem Loc.at_ {f : MI} {g : MR} {u : MI} {rd ps en dp : Nat → Nat} {lp : Nat → Option Nat} {n s q r a : Nat} (x : Loc f g u rd ps en dp lp n s q r a) : f 19 a 1 = u 60 0 (ps a) := x.2.1
theorem Loc.gd {f : MI} {g : MR} {u : MI} {rd ps en dp : Nat → Nat} {lp : Nat → Option Nat} {n s q r a : Nat} (x : Loc f g u rd ps en dp lp n s q r a) : (g 19 a 3 = none ∧ u 64 0 (ps a) = -1) ∨ ∃ b, g 19 a 3 = some b ∧ rd b = r ∧ f 19 b 0 = 316 ∧ u 64 0 (ps a) = nI (ps b) := x.2.2.1
theorem Loc.ow {f : MI} {g : MR} {u : MI} {rd ps en dp : Nat → Nat} {lp : Nat → Option Nat} {n s q r a : Nat} (x : Loc f g u rd ps en dp lp n s q r a) : (g 19 a 2 = none ∧ dp a = 1 ∧ g 19 a 3 = none ∧ lp a = none) ∨ ∃ b, g 19 a 2 = some b ∧ rd b = r ∧ blk (f 19 b 0) ∧ dp a = dp b + 1 ∧ dp b ≤ 10 ∧ (g 19 a 3 = g 19 b 3 ∨ g 19 a 3 = some b) ∧ lp a = (if f 19 b 0 = 313 ∨ f 19 b 0 = 314 then some b else lp b) := x.2.2.2.1
theorem Loc.nx {f : MI} {g : MR} {u : MI} {rd ps en dp : Nat → Nat} {lp : Nat → Option Nat} {n s q r a : Nat} (x : Loc f g u rd ps en dp lp n s q r a) : f 19 a 0 ≠ 401 → (∀ c, g 19 a 7 = some c → rd c = r ∧ ps c = en a ∧ f 19 c 0 ≠ 401 ∧ g 19 c 2 = g 19 a 2) ∧ (g 19 a 7 = none → EndAt f g u rd ps en dp r (g 19 a 2) (en a)) := x.2.2.2.2.1
theorem Loc.de {f : MI} {g : MR} {u : MI} {rd ps en dp : Nat → Nat} {lp : Nat → Option Nat} {n s q r a : Nat} (x : Loc f g u rd ps en dp lp n s q r a) : f 19 a 0 ≠ 401 → dp a ≤ 10 := x.2.2.2.2.2.1
theorem Loc.ft {f : MI} {g : MR} {u : MI} {rd ps en dp : Nat → Nat} {lp : Nat → Option Nat} {n s q r a : Nat} (x : Loc f g u rd ps en dp lp n s q r a) : ∀ kd : Nat, kd ≤ 8 → u 49 0 r = nI kd → (f 19 a 0 = 301 → aTu kd = true) ∧ (f 19 a 0 = 302 → aLi kd = true) ∧ (f 19 a 0 = 319 → aLa kd = true) ∧ (f 19 a 0 = 303 → aSo kd = true) := x.2.2.2.2.2.2.1
theorem Loc.kd {f : MI} {g : MR} {u : MI} {rd ps en dp : Nat → Nat} {lp : Nat → Option Nat} {n s q r a : Nat} (x : Loc f g u rd ps en dp lp n s q r a) : KdA f u ps en lp n s q a ∨ KdB f g u rd ps en dp n q r a ∨ KdT f g u ps dp a := x.2.2.2.2.2.2.2
/-- every script -/
def ST (f : MI) (g : MR) (u : MI) (rd ps en dp : Nat → Nat) (lp : Nat → Option Nat) (n s q : Nat) : Prop := (∀ a, rd a < n → Loc f g u rd ps en dp lp n s q (rd a) a) ∧
  ∀ r, r < n → (∀ a, g 18 r 2 = some a → rd a = r ∧ u 57 0 r = nI (ps a) ∧ f 19 a 0 ≠ 401 ∧ g 19 a 2 = none) ∧ (g 18 r 2 = none → ∃ k : Nat, k < 6100 ∧ u 57 0 r = nI k ∧ u 59 0 k = 54 ∧ u 64 0 k = -1)
/-! ===== scripts: how they stand ===== -/
def up (g : MR) : Nat → Option Nat → Option Nat
  | 0, o => o
  | j + 1, o => up g j (o.bind (fun a => g 19 a 2))
/-- the turns that are left of a repeat -/
def Tr (f u : MI) (dp : Nat → Nat) (r b : Nat) : Prop := ∃ t : Nat, 1 ≤ t ∧ t < 2 ^ 31 ∧ u 89 0 (11 * r + dp b) = nI t ∧ f 19 b 6 = nI (t - 1)
def AT (f : MI) (g : MR) (u : MI) (dp : Nat → Nat) (r : Nat) (o : Option Nat) : Prop := ∀ j b, up g j o = some b → f 19 b 0 = 313 → Tr f u dp r b
def Live (f : MI) (g : MR) (u : MI) (rd ps dp : Nat → Nat) (r a : Nat) : Prop := (g 18 r 3 = some a) ∧ (rd a = r) ∧ (u 84 0 r = nI (ps a)) ∧ (u 82 0 r = 0) ∧ (AT f g u dp r (g 19 a 2)) ∧ (f 19 a 0 = 401 → ∀ b, g 19 a 2 = some b → f 19 b 0 = 313 → 0 < f 19 b 6) ∧ (f 18 r 4 = u 87 0 r) ∧ (u 87 0 r = 0 ∨ (u 87 0 r = 1 ∧ ∃ t : Nat, 1 ≤ t ∧ t < 2 ^ 31 ∧ u 86 0 r = nI t ∧ f 18 r 5 = nI t))
theorem Live.sp {f : MI} {g : MR} {u : MI} {rd ps dp : Nat → Nat} {r a : Nat} (x : Live f g u rd ps dp r a) : g 18 r 3 = some a := x.1
theorem Live.rd {f : MI} {g : MR} {u : MI} {rd ps dp : Nat → Nat} {r a : Nat} (x : Live f g u rd ps dp r a) : rd a = r := x.2.1
theorem Live.nx {f : MI} {g : MR} {u : MI} {rd ps dp : Nat → Nat} {r a : Nat} (x : Live f g u rd ps dp r a) : u 84 0 r = nI (ps a) := x.2.2.1
theorem Live.st {f : MI} {g : MR} {u : MI} {rd ps dp : Nat → Nat} {r a : Nat} (x : Live f g u rd ps dp r a) : u 82 0 r = 0 := x.2.2.2.1
theorem Live.tn {f : MI} {g : MR} {u : MI} {rd ps dp : Nat → Nat} {r a : Nat} (x : Live f g u rd ps dp r a) : AT f g u dp r (g 19 a 2) := x.2.2.2.2.1
theorem Live.ag {f : MI} {g : MR} {u : MI} {rd ps dp : Nat → Nat} {r a : Nat} (x : Live f g u rd ps dp r a) : f 19 a 0 = 401 → ∀ b, g 19 a 2 = some b → f 19 b 0 = 313 → 0 < f 19 b 6 := x.2.2.2.2.2.1
theorem Live.bg {f : MI} {g : MR} {u : MI} {rd ps dp : Nat → Nat} {r a : Nat} (x : Live f g u rd ps dp r a) : f 18 r 4 = u 87 0 r := x.2.2.2.2.2.2.1
theorem Live.lf {f : MI} {g : MR} {u : MI} {rd ps dp : Nat → Nat} {r a : Nat} (x : Live f g u rd ps dp r a) : u 87 0 r = 0 ∨ (u 87 0 r = 1 ∧ ∃ t : Nat, 1 ≤ t ∧ t < 2 ^ 31 ∧ u 86 0 r = nI t ∧ f 18 r 5 = nI t) := x.2.2.2.2.2.2.2
def PosR (f : MI) (g : MR) (u : MI) (rd ps dp : Nat → Nat) (r : Nat) : Prop := (∃ a, Live f g u rd ps dp r a) ∨ (g 18 r 3 = none ∧ (u 82 0 r = 1 ∨ u 82 0 r = 2)) ∨
  (g 18 r 3 = none ∧ u 82 0 r = 0 ∧ ∃ k : Nat, k < 6100 ∧ u 84 0 r = nI k ∧ u 59 0 k = 54 ∧ u 64 0 k = -1)
/-! ===== rides ===== -/
/-- the reference's row of abilities -/
def R_abl (u : MI) : Prop := u 42 0 0 = 5 ∧ u 42 0 1 = 6 ∧ u 42 0 2 = 7 ∧ u 42 0 3 = 17 ∧ u 42 0 4 = 8 ∧ u 42 0 5 = 26 ∧ u 42 0 6 = 28 ∧ u 42 0 7 = 31 ∧ u 42 0 8 = 5
def Upto (x : Int32) (n : Nat) : Prop := ∃ k : Nat, k ≤ n ∧ x = nI k
def Rng (u : MI) (r kd : Nat) : Prop := (∃ s : Nat, s ≤ 100 ∧ Sz (u 73 0 r) s) ∧ (∃ s : Nat, s ≤ 100 ∧ Sz (u 74 0 r) s) ∧ (Upto (u 75 0 r) 1000) ∧ (Upto (u 76 0 r) 1000) ∧ (∃ a b : Nat, a ≤ b ∧ b ≤ 60 ∧ u 78 0 r = nI a ∧ u 55 0 r = nI b) ∧ (Upto (u 79 0 r) 100) ∧ (Upto (u 80 0 r) 100) ∧ (Upto (u 81 0 r) 9999) ∧ (Upto (u 51 0 r) 500) ∧ (Upto (u 52 0 r) 50) ∧ (Upto (u 53 0 r) 500) ∧ (Upto (u 54 0 r) 200) ∧ (Upto (u 56 0 r) 500) ∧ (aTu kd = false → u 73 0 r = 0 ∧ u 74 0 r = 0 ∧ u 51 0 r = 0 ∧ u 52 0 r = 0) ∧ (aTu kd = true → u 52 0 r ≠ 0) ∧ (aLi kd = false → u 75 0 r = 0 ∧ u 76 0 r = 0 ∧ u 77 0 r = 0 ∧ u 53 0 r = 0 ∧ u 54 0 r = 0) ∧ (aLa kd = false → u 79 0 r = 0 ∧ u 56 0 r = 0) ∧ (aSo kd = false → u 80 0 r = 0)
theorem Rng.sp {u : MI} {r kd : Nat} (x : Rng u r kd) : ∃ s : Nat, s ≤ 100 ∧ Sz (u 73 0 r) s := x.1
theorem Rng.gl {u : MI} {r kd : Nat} (x : Rng u r kd) : ∃ s : Nat, s ≤ 100 ∧ Sz (u 74 0 r) s := x.2.1
theorem Rng.he {u : MI} {r kd : Nat} (x : Rng u r kd) : Upto (u 75 0 r) 1000 := x.2.2.1
theorem Rng.li {u : MI} {r kd : Nat} (x : Rng u r kd) : Upto (u 76 0 r) 1000 := x.2.2.2.1
theorem Rng.ab {u : MI} {r kd : Nat} (x : Rng u r kd) : ∃ a b : Nat, a ≤ b ∧ b ≤ 60 ∧ u 78 0 r = nI a ∧ u 55 0 r = nI b := x.2.2.2.2.1
theorem Rng.gw {u : MI} {r kd : Nat} (x : Rng u r kd) : Upto (u 79 0 r) 100 := x.2.2.2.2.2.1
theorem Rng.vo {u : MI} {r kd : Nat} (x : Rng u r kd) : Upto (u 80 0 r) 100 := x.2.2.2.2.2.2.1
theorem Rng.we {u : MI} {r kd : Nat} (x : Rng u r kd) : Upto (u 81 0 r) 9999 := x.2.2.2.2.2.2.2.1
theorem Rng.n0 {u : MI} {r kd : Nat} (x : Rng u r kd) : Upto (u 51 0 r) 500 := x.2.2.2.2.2.2.2.2.1
theorem Rng.n1 {u : MI} {r kd : Nat} (x : Rng u r kd) : Upto (u 52 0 r) 50 := x.2.2.2.2.2.2.2.2.2.1
theorem Rng.n2 {u : MI} {r kd : Nat} (x : Rng u r kd) : Upto (u 53 0 r) 500 := x.2.2.2.2.2.2.2.2.2.2.1
theorem Rng.n3 {u : MI} {r kd : Nat} (x : Rng u r kd) : Upto (u 54 0 r) 200 := x.2.2.2.2.2.2.2.2.2.2.2.1
theorem Rng.n5 {u : MI} {r kd : Nat} (x : Rng u r kd) : Upto (u 56 0 r) 500 := x.2.2.2.2.2.2.2.2.2.2.2.2.1
theorem Rng.tu {u : MI} {r kd : Nat} (x : Rng u r kd) : aTu kd = false → u 73 0 r = 0 ∧ u 74 0 r = 0 ∧ u 51 0 r = 0 ∧ u 52 0 r = 0 := x.2.2.2.2.2.2.2.2.2.2.2.2.2.1
theorem Rng.tn {u : MI} {r kd : Nat} (x : Rng u r kd) : aTu kd = true → u 52 0 r ≠ 0 := x.2.2.2.2.2.2.2.2.2.2.2.2.2.2.1
theorem Rng.lf {u : MI} {r kd : Nat} (x : Rng u r kd) : aLi kd = false → u 75 0 r = 0 ∧ u 76 0 r = 0 ∧ u 77 0 r = 0 ∧ u 53 0 r = 0 ∧ u 54 0 r = 0 := x.2.2.2.2.2.2.2.2.2.2.2.2.2.2.2.1
theorem Rng.la {u : MI} {r kd : Nat} (x : Rng u r kd) : aLa kd = false → u 79 0 r = 0 ∧ u 56 0 r = 0 := x.2.2.2.2.2.2.2.2.2.2.2.2.2.2.2.2.1
theorem Rng.so {u : MI} {r kd : Nat} (x : Rng u r kd) : aSo kd = false → u 80 0 r = 0 := x.2.2.2.2.2.2.2.2.2.2.2.2.2.2.2.2.2
/-- the class's half and the reference's, of ride r, as far as what a ride says asks them -/
def RM (f : MI) (g : MR) (u : MI) (r kd : Nat) : Prop := (r < 12) ∧ (kd ≤ 8) ∧ (f 16 r 4 = nI kd) ∧ (u 49 0 r = nI kd) ∧ (f 16 r 5 = tabB 4 kd) ∧ (f 16 r 0 = nI r) ∧ (R_abl u) ∧ (f 27 r 0 = u 51 0 r) ∧ (f 27 r 1 = u 52 0 r) ∧ (f 27 r 2 = u 53 0 r) ∧ (f 27 r 3 = u 54 0 r) ∧ (f 27 r 4 = u 55 0 r) ∧ (f 27 r 5 = u 56 0 r) ∧ (kd = 8 → ∃ l : Nat, l < r ∧ g 16 r 6 = some l ∧ u 50 0 r = nI l) ∧ (kd ≠ 8 → g 16 r 6 = none) ∧ (R_mot f u r) ∧ (Rng u r kd)
theorem RM.lt {f : MI} {g : MR} {u : MI} {r kd : Nat} (x : RM f g u r kd) : r < 12 := x.1
theorem RM.kl {f : MI} {g : MR} {u : MI} {r kd : Nat} (x : RM f g u r kd) : kd ≤ 8 := x.2.1
theorem RM.kc {f : MI} {g : MR} {u : MI} {r kd : Nat} (x : RM f g u r kd) : f 16 r 4 = nI kd := x.2.2.1
theorem RM.kr {f : MI} {g : MR} {u : MI} {r kd : Nat} (x : RM f g u r kd) : u 49 0 r = nI kd := x.2.2.2.1
theorem RM.ac {f : MI} {g : MR} {u : MI} {r kd : Nat} (x : RM f g u r kd) : f 16 r 5 = tabB 4 kd := x.2.2.2.2.1
theorem RM.ix {f : MI} {g : MR} {u : MI} {r kd : Nat} (x : RM f g u r kd) : f 16 r 0 = nI r := x.2.2.2.2.2.1
theorem RM.ar {f : MI} {g : MR} {u : MI} {r kd : Nat} (x : RM f g u r kd) : R_abl u := x.2.2.2.2.2.2.1
theorem RM.m0 {f : MI} {g : MR} {u : MI} {r kd : Nat} (x : RM f g u r kd) : f 27 r 0 = u 51 0 r := x.2.2.2.2.2.2.2.1
theorem RM.m1 {f : MI} {g : MR} {u : MI} {r kd : Nat} (x : RM f g u r kd) : f 27 r 1 = u 52 0 r := x.2.2.2.2.2.2.2.2.1
theorem RM.m2 {f : MI} {g : MR} {u : MI} {r kd : Nat} (x : RM f g u r kd) : f 27 r 2 = u 53 0 r := x.2.2.2.2.2.2.2.2.2.1
theorem RM.m3 {f : MI} {g : MR} {u : MI} {r kd : Nat} (x : RM f g u r kd) : f 27 r 3 = u 54 0 r := x.2.2.2.2.2.2.2.2.2.2.1
theorem RM.m4 {f : MI} {g : MR} {u : MI} {r kd : Nat} (x : RM f g u r kd) : f 27 r 4 = u 55 0 r := x.2.2.2.2.2.2.2.2.2.2.2.1
theorem RM.m5 {f : MI} {g : MR} {u : MI} {r kd : Nat} (x : RM f g u r kd) : f 27 r 5 = u 56 0 r := x.2.2.2.2.2.2.2.2.2.2.2.2.1
theorem RM.t8 {f : MI} {g : MR} {u : MI} {r kd : Nat} (x : RM f g u r kd) : kd = 8 → ∃ l : Nat, l < r ∧ g 16 r 6 = some l ∧ u 50 0 r = nI l := x.2.2.2.2.2.2.2.2.2.2.2.2.2.1
theorem RM.tx {f : MI} {g : MR} {u : MI} {r kd : Nat} (x : RM f g u r kd) : kd ≠ 8 → g 16 r 6 = none := x.2.2.2.2.2.2.2.2.2.2.2.2.2.2.1
theorem RM.mo {f : MI} {g : MR} {u : MI} {r kd : Nat} (x : RM f g u r kd) : R_mot f u r := x.2.2.2.2.2.2.2.2.2.2.2.2.2.2.2.1
theorem RM.rg {f : MI} {g : MR} {u : MI} {r kd : Nat} (x : RM f g u r kd) : Rng u r kd := x.2.2.2.2.2.2.2.2.2.2.2.2.2.2.2.2
def RQ (f u : MI) (r m : Nat) : Prop := (m ≤ 30) ∧ (f 15 r 2 = nI m) ∧ (u 93 0 r = nI m) ∧ (∀ k, k < m → f 23 r k = u 94 0 (30 * r + k) ∧ f 24 r k = u 95 0 (30 * r + k)) ∧ (f 15 r 3 = sumN (f 23 r) m) ∧ (∀ k, k < m → Upto (u 94 0 (30 * r + k)) 100)
theorem RQ.ml {f u : MI} {r m : Nat} (x : RQ f u r m) : m ≤ 30 := x.1
theorem RQ.mc {f u : MI} {r m : Nat} (x : RQ f u r m) : f 15 r 2 = nI m := x.2.1
theorem RQ.mr {f u : MI} {r m : Nat} (x : RQ f u r m) : u 93 0 r = nI m := x.2.2.1
theorem RQ.rw {f u : MI} {r m : Nat} (x : RQ f u r m) : ∀ k, k < m → f 23 r k = u 94 0 (30 * r + k) ∧ f 24 r k = u 95 0 (30 * r + k) := x.2.2.2.1
theorem RQ.sm {f u : MI} {r m : Nat} (x : RQ f u r m) : f 15 r 3 = sumN (f 23 r) m := x.2.2.2.2.1
theorem RQ.rg {f u : MI} {r m : Nat} (x : RQ f u r m) : ∀ k, k < m → Upto (u 94 0 (30 * r + k)) 100 := x.2.2.2.2.2
def RR (f : MI) (g : MR) (u : MI) (rd ps dp : Nat → Nat) (r : Nat) : Prop := (∃ kd : Nat, RM f g u r kd) ∧ (∃ m : Nat, RQ f u r m) ∧ (R_sta f u r) ∧ (PosR f g u rd ps dp r)
theorem RR.rm {f : MI} {g : MR} {u : MI} {rd ps dp : Nat → Nat} {r : Nat} (x : RR f g u rd ps dp r) : ∃ kd : Nat, RM f g u r kd := x.1
theorem RR.rq {f : MI} {g : MR} {u : MI} {rd ps dp : Nat → Nat} {r : Nat} (x : RR f g u rd ps dp r) : ∃ m : Nat, RQ f u r m := x.2.1
theorem RR.ra {f : MI} {g : MR} {u : MI} {rd ps dp : Nat → Nat} {r : Nat} (x : RR f g u rd ps dp r) : R_sta f u r := x.2.2.1
theorem RR.po {f : MI} {g : MR} {u : MI} {rd ps dp : Nat → Nat} {r : Nat} (x : RR f g u rd ps dp r) : PosR f g u rd ps dp r := x.2.2.2
def sN (H : Nat → Nat) : Nat → Nat
  | 0 => 0
  | n + 1 => sN H n + H n
/-- staff: those who are free and those who are held are at most 9 -/
def Stf (u : MI) (n s : Nat) : Prop := ∀ k, k < s → ∃ (i : Nat) (H : Nat → Nat), u 91 0 k = nI i ∧ (∀ r, r < n → u 90 0 (6 * r + k) = nI (H r) ∧ H r ≤ 2) ∧ i + sN H n ≤ 9
/-- what both sides share while the fair runs -/
def TT (B n s q : Nat) (rd ps en dp : Nat → Nat) (lp : Nat → Option Nat) (f : MI) (g : MR) (u : MI) : Prop := (R_cnt f u n s q) ∧ (R_glb f u) ∧ (∃ l : Nat, l ≤ B ∧ u 22 0 84 = nI l ∧ ∀ k, k < 1600 → k < 4 * l → f 31 0 k = u 96 0 k) ∧ (R_stf f u s) ∧ (Stf u n s) ∧ (R_flg f u q) ∧ (ST (mk stC f) (mkG stG g) (mk stU u) rd ps en dp lp n s q) ∧ (∀ r, r < n → RR f g u rd ps dp r)
theorem TT.cn {B n s q : Nat} {rd ps en dp : Nat → Nat} {lp : Nat → Option Nat} {f : MI} {g : MR} {u : MI} (x : TT B n s q rd ps en dp lp f g u) : R_cnt f u n s q := x.1
theorem TT.gb {B n s q : Nat} {rd ps en dp : Nat → Nat} {lp : Nat → Option Nat} {f : MI} {g : MR} {u : MI} (x : TT B n s q rd ps en dp lp f g u) : R_glb f u := x.2.1
theorem TT.lg {B n s q : Nat} {rd ps en dp : Nat → Nat} {lp : Nat → Option Nat} {f : MI} {g : MR} {u : MI} (x : TT B n s q rd ps en dp lp f g u) : ∃ l : Nat, l ≤ B ∧ u 22 0 84 = nI l ∧ ∀ k, k < 1600 → k < 4 * l → f 31 0 k = u 96 0 k := x.2.2.1
theorem TT.sf {B n s q : Nat} {rd ps en dp : Nat → Nat} {lp : Nat → Option Nat} {f : MI} {g : MR} {u : MI} (x : TT B n s q rd ps en dp lp f g u) : R_stf f u s := x.2.2.2.1
theorem TT.ss {B n s q : Nat} {rd ps en dp : Nat → Nat} {lp : Nat → Option Nat} {f : MI} {g : MR} {u : MI} (x : TT B n s q rd ps en dp lp f g u) : Stf u n s := x.2.2.2.2.1
theorem TT.fl {B n s q : Nat} {rd ps en dp : Nat → Nat} {lp : Nat → Option Nat} {f : MI} {g : MR} {u : MI} (x : TT B n s q rd ps en dp lp f g u) : R_flg f u q := x.2.2.2.2.2.1
theorem TT.st {B n s q : Nat} {rd ps en dp : Nat → Nat} {lp : Nat → Option Nat} {f : MI} {g : MR} {u : MI} (x : TT B n s q rd ps en dp lp f g u) : ST (mk stC f) (mkG stG g) (mk stU u) rd ps en dp lp n s q := x.2.2.2.2.2.2.1
theorem TT.rr {B n s q : Nat} {rd ps en dp : Nat → Nat} {lp : Nat → Option Nat} {f : MI} {g : MR} {u : MI} (x : TT B n s q rd ps en dp lp f g u) : ∀ r, r < n → RR f g u rd ps dp r := x.2.2.2.2.2.2.2
