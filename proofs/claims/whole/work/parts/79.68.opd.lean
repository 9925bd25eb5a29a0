/-! ===== read: operands ===== -/
def FrC (c : Nat) (f f2 : MI) : Prop := ∀ R o i, ¬ (R = 20 ∨ R = 34 ∨ (R = 32 ∧ c ≤ i) ∨ (R = 10 ∧ i = 3)) → f2 R o i = f R o i
def FrQ (q : Nat) (u u2 : MI) : Prop := ∀ R o i, ¬ ((R = 22 ∧ ((6 ≤ i ∧ i ≤ 13) ∨ i = 45 ∨ i = 55)) ∨ ((R = 65 ∨ R = 66 ∨ R = 67) ∧ q ≤ i)) → u2 R o i = u R o i
/-- both in a formula -/
def FX (N k : Nat) (b : Nat → Nat) (sg : Nat → Int32) (cn : Nat) (nt ns nn : Nat → Nat) (f u : MI) (t c q n : Nat) : Prop := (PX f u N k b sg t) ∧ (f 10 0 3 = nI c) ∧ (c ≤ t) ∧ (u 22 0 45 = nI q) ∧ (q ≤ 2 * t) ∧ (u 22 0 55 = nI n) ∧ (n ≤ 12) ∧ (NC f k sg cn nt ns nn) ∧ (NU u N k b sg cn nt ns nn)
theorem FX.px {N k : Nat} {b : Nat → Nat} {sg : Nat → Int32} {cn : Nat} {nt ns nn : Nat → Nat} {f u : MI} {t c q n : Nat} (x : FX N k b sg cn nt ns nn f u t c q n) : PX f u N k b sg t := x.1
theorem FX.cc {N k : Nat} {b : Nat → Nat} {sg : Nat → Int32} {cn : Nat} {nt ns nn : Nat → Nat} {f u : MI} {t c q n : Nat} (x : FX N k b sg cn nt ns nn f u t c q n) : f 10 0 3 = nI c := x.2.1
theorem FX.cl {N k : Nat} {b : Nat → Nat} {sg : Nat → Int32} {cn : Nat} {nt ns nn : Nat → Nat} {f u : MI} {t c q n : Nat} (x : FX N k b sg cn nt ns nn f u t c q n) : c ≤ t := x.2.2.1
theorem FX.qu {N k : Nat} {b : Nat → Nat} {sg : Nat → Int32} {cn : Nat} {nt ns nn : Nat → Nat} {f u : MI} {t c q n : Nat} (x : FX N k b sg cn nt ns nn f u t c q n) : u 22 0 45 = nI q := x.2.2.2.1
theorem FX.ql {N k : Nat} {b : Nat → Nat} {sg : Nat → Int32} {cn : Nat} {nt ns nn : Nat → Nat} {f u : MI} {t c q n : Nat} (x : FX N k b sg cn nt ns nn f u t c q n) : q ≤ 2 * t := x.2.2.2.2.1
theorem FX.nu {N k : Nat} {b : Nat → Nat} {sg : Nat → Int32} {cn : Nat} {nt ns nn : Nat → Nat} {f u : MI} {t c q n : Nat} (x : FX N k b sg cn nt ns nn f u t c q n) : u 22 0 55 = nI n := x.2.2.2.2.2.1
theorem FX.nl {N k : Nat} {b : Nat → Nat} {sg : Nat → Int32} {cn : Nat} {nt ns nn : Nat → Nat} {f u : MI} {t c q n : Nat} (x : FX N k b sg cn nt ns nn f u t c q n) : n ≤ 12 := x.2.2.2.2.2.2.1
theorem FX.nc {N k : Nat} {b : Nat → Nat} {sg : Nat → Int32} {cn : Nat} {nt ns nn : Nat → Nat} {f u : MI} {t c q n : Nat} (x : FX N k b sg cn nt ns nn f u t c q n) : NC f k sg cn nt ns nn := x.2.2.2.2.2.2.2.1
theorem FX.nz {N k : Nat} {b : Nat → Nat} {sg : Nat → Int32} {cn : Nat} {nt ns nn : Nat → Nat} {f u : MI} {t c q n : Nat} (x : FX N k b sg cn nt ns nn f u t c q n) : NU u N k b sg cn nt ns nn := x.2.2.2.2.2.2.2.2
/-- read well -/
def EG (N k : Nat) (b : Nat → Nat) (sg : Nat → Int32) (f u : MI) (t c q n h : Nat) (f2 u2 : MI) (t' : Nat) (lc lr : PL) : Prop := (t < t') ∧ (PX f2 u2 N k b sg t') ∧ (f2 10 0 3 = nI (c + lc.length)) ∧ (u2 22 0 45 = nI (q + lr.length)) ∧ (u2 22 0 55 = nI n) ∧ (lc.length ≤ t' - t ∧ lr.length ≤ t' - t) ∧ (Sp f2 c lc) ∧ (Rpp b N u2 q lr) ∧ (Sam lc lr) ∧ (Wf h lc) ∧ (Wf h lr) ∧ (∀ x ∈ lc, okp k sg x) ∧ (∀ x ∈ lr, okp k sg x) ∧ (FrC c f f2) ∧ (FrQ q u u2)
theorem EG.tt {N k : Nat} {b : Nat → Nat} {sg : Nat → Int32} {f u : MI} {t c q n h : Nat} {f2 u2 : MI} {t' : Nat} {lc lr : PL} (x : EG N k b sg f u t c q n h f2 u2 t' lc lr) : t < t' := x.1
theorem EG.px {N k : Nat} {b : Nat → Nat} {sg : Nat → Int32} {f u : MI} {t c q n h : Nat} {f2 u2 : MI} {t' : Nat} {lc lr : PL} (x : EG N k b sg f u t c q n h f2 u2 t' lc lr) : PX f2 u2 N k b sg t' := x.2.1
theorem EG.cc {N k : Nat} {b : Nat → Nat} {sg : Nat → Int32} {f u : MI} {t c q n h : Nat} {f2 u2 : MI} {t' : Nat} {lc lr : PL} (x : EG N k b sg f u t c q n h f2 u2 t' lc lr) : f2 10 0 3 = nI (c + lc.length) := x.2.2.1
theorem EG.qu {N k : Nat} {b : Nat → Nat} {sg : Nat → Int32} {f u : MI} {t c q n h : Nat} {f2 u2 : MI} {t' : Nat} {lc lr : PL} (x : EG N k b sg f u t c q n h f2 u2 t' lc lr) : u2 22 0 45 = nI (q + lr.length) := x.2.2.2.1
theorem EG.nu {N k : Nat} {b : Nat → Nat} {sg : Nat → Int32} {f u : MI} {t c q n h : Nat} {f2 u2 : MI} {t' : Nat} {lc lr : PL} (x : EG N k b sg f u t c q n h f2 u2 t' lc lr) : u2 22 0 55 = nI n := x.2.2.2.2.1
theorem EG.ll {N k : Nat} {b : Nat → Nat} {sg : Nat → Int32} {f u : MI} {t c q n h : Nat} {f2 u2 : MI} {t' : Nat} {lc lr : PL} (x : EG N k b sg f u t c q n h f2 u2 t' lc lr) : lc.length ≤ t' - t ∧ lr.length ≤ t' - t := x.2.2.2.2.2.1
theorem EG.sp {N k : Nat} {b : Nat → Nat} {sg : Nat → Int32} {f u : MI} {t c q n h : Nat} {f2 u2 : MI} {t' : Nat} {lc lr : PL} (x : EG N k b sg f u t c q n h f2 u2 t' lc lr) : Sp f2 c lc := x.2.2.2.2.2.2.1
theorem EG.rp {N k : Nat} {b : Nat → Nat} {sg : Nat → Int32} {f u : MI} {t c q n h : Nat} {f2 u2 : MI} {t' : Nat} {lc lr : PL} (x : EG N k b sg f u t c q n h f2 u2 t' lc lr) : Rpp b N u2 q lr := x.2.2.2.2.2.2.2.1
theorem EG.sm {N k : Nat} {b : Nat → Nat} {sg : Nat → Int32} {f u : MI} {t c q n h : Nat} {f2 u2 : MI} {t' : Nat} {lc lr : PL} (x : EG N k b sg f u t c q n h f2 u2 t' lc lr) : Sam lc lr := x.2.2.2.2.2.2.2.2.1
theorem EG.wc {N k : Nat} {b : Nat → Nat} {sg : Nat → Int32} {f u : MI} {t c q n h : Nat} {f2 u2 : MI} {t' : Nat} {lc lr : PL} (x : EG N k b sg f u t c q n h f2 u2 t' lc lr) : Wf h lc := x.2.2.2.2.2.2.2.2.2.1
theorem EG.wr {N k : Nat} {b : Nat → Nat} {sg : Nat → Int32} {f u : MI} {t c q n h : Nat} {f2 u2 : MI} {t' : Nat} {lc lr : PL} (x : EG N k b sg f u t c q n h f2 u2 t' lc lr) : Wf h lr := x.2.2.2.2.2.2.2.2.2.2.1
theorem EG.oc {N k : Nat} {b : Nat → Nat} {sg : Nat → Int32} {f u : MI} {t c q n h : Nat} {f2 u2 : MI} {t' : Nat} {lc lr : PL} (x : EG N k b sg f u t c q n h f2 u2 t' lc lr) : ∀ x ∈ lc, okp k sg x := x.2.2.2.2.2.2.2.2.2.2.2.1
theorem EG.ou {N k : Nat} {b : Nat → Nat} {sg : Nat → Int32} {f u : MI} {t c q n h : Nat} {f2 u2 : MI} {t' : Nat} {lc lr : PL} (x : EG N k b sg f u t c q n h f2 u2 t' lc lr) : ∀ x ∈ lr, okp k sg x := x.2.2.2.2.2.2.2.2.2.2.2.2.1
theorem EG.fc {N k : Nat} {b : Nat → Nat} {sg : Nat → Int32} {f u : MI} {t c q n h : Nat} {f2 u2 : MI} {t' : Nat} {lc lr : PL} (x : EG N k b sg f u t c q n h f2 u2 t' lc lr) : FrC c f f2 := x.2.2.2.2.2.2.2.2.2.2.2.2.2.1
theorem EG.fu {N k : Nat} {b : Nat → Nat} {sg : Nat → Int32} {f u : MI} {t c q n h : Nat} {f2 u2 : MI} {t' : Nat} {lc lr : PL} (x : EG N k b sg f u t c q n h f2 u2 t' lc lr) : FrQ q u u2 := x.2.2.2.2.2.2.2.2.2.2.2.2.2.2
/-- a fault -/
def EB (f u : MI) (t c q : Nat) (f2 u2 : MI) : Prop := (BAD f2 u2) ∧ (∃ c2 : Nat, c ≤ c2 ∧ c2 ≤ 4001 ∧ f2 10 0 3 = nI c2) ∧ (∃ q2 : Nat, q ≤ q2 ∧ q2 ≤ q + (4001 - t) ∧ u2 22 0 45 = nI q2) ∧ (FrC c f f2) ∧ (FrQ q u u2)
theorem EB.bd {f u : MI} {t c q : Nat} {f2 u2 : MI} (x : EB f u t c q f2 u2) : BAD f2 u2 := x.1
theorem EB.cc {f u : MI} {t c q : Nat} {f2 u2 : MI} (x : EB f u t c q f2 u2) : ∃ c2 : Nat, c ≤ c2 ∧ c2 ≤ 4001 ∧ f2 10 0 3 = nI c2 := x.2.1
theorem EB.qu {f u : MI} {t c q : Nat} {f2 u2 : MI} (x : EB f u t c q f2 u2) : ∃ q2 : Nat, q ≤ q2 ∧ q2 ≤ q + (4001 - t) ∧ u2 22 0 45 = nI q2 := x.2.2.1
theorem EB.fc {f u : MI} {t c q : Nat} {f2 u2 : MI} (x : EB f u t c q f2 u2) : FrC c f f2 := x.2.2.2.1
theorem EB.fu {f u : MI} {t c q : Nat} {f2 u2 : MI} (x : EB f u t c q f2 u2) : FrQ q u u2 := x.2.2.2.2
def LSx (L : Nat) (xs : Nat → Int32) (Y : MR × ML × (Nat → Nat) × Nat × Nat) (N k : Nat) (b : Nat → Nat) (sg : Nat → Int32) (f u : MI) (t c q n h D mc : Nat) (ac : List MV) (mr : Nat) (ar : List MV) : Prop :=
  ∃ f2 u2, (∀ d g X, D ≤ d → EL (mP L xs) d mc ac (f, g, X) = some (.inl none, (f2, g, X))) ∧ (∀ d, D ≤ d → EL (mP L xs) d mr ar (u, Y) = some (.inl none, (u2, Y))) ∧ ((∃ t' lc lr, EG N k b sg f u t c q n h f2 u2 t' lc lr) ∨ EB f u t c q f2 u2)
def SUMs (L : Nat) (xs : Nat → Int32) (Y : MR × ML × (Nat → Nat) × Nat × Nat) (N k : Nat) (b : Nat → Nat) (sg : Nat → Int32) (cn : Nat) (nt ns nn : Nat → Nat) (t : Nat) : Prop :=
  ∀ f u c q n, FX N k b sg cn nt ns nn f u t c q n → LSx L xs Y N k b sg f u t c q n (3 + 2 * (12 - n)) (4 * (12 - n) + 20) 73 [rv 13 (some 0), iv (nI n)] 117 [rv 22 (some 0)]
/-- what a word of a factor asks for: the class's, the reference's measure -/
def vt (i : Nat) : Int32 := if i = 18 then 13 else if 19 ≤ i ∧ i ≤ 31 then nI (i - 19) else -1
def vo (s : Int32) : Int32 := if s = 319 then 13 else if s < 320 then -1 else if 332 < s then -1 else s - 320
def ms (w : Int32) : Int32 := if w = 6 then 3 else if w = 35 then 6 else if w = 36 then 0 else if w = 37 then 1 else if w = 38 then 2 else if w = 39 then 4 else if w = 40 then 5 else -1
theorem vo_i : ∀ i, i < 51 → vo (nI (301 + i)) = vt i := by decide +kernel
theorem vo_s : ∀ i, i < 301 → vo (nI i) = -1 := by decide +kernel
theorem ms_i : ∀ i, i < 51 → ms (nI (wm i)) = if i = 18 ∨ (26 ≤ i ∧ i ≤ 31) then mz (if i = 18 then 13 else i - 19) else -1 := by decide +kernel
theorem ms_n : ms (-1) = -1 := by decide
theorem mz_ne : ∀ a, 7 ≤ a → a ≤ 13 → mz a ≠ -1 := by
  intro a h1 h2
  have : a = 7 ∨ a = 8 ∨ a = 9 ∨ a = 10 ∨ a = 11 ∨ a = 12 ∨ a = 13 := by omega
  rcases this with rfl | rfl | rfl | rfl | rfl | rfl | rfl <;> decide
section Opd
variable {L : Nat} {xs : Nat → Int32} {Y : MR × ML × (Nat → Nat) × Nat × Nat} {N k t c q n cn : Nat} {b : Nat → Nat} {sg : Nat → Int32} {f f2 u u2 : MI} {nt ns nn : Nat → Nat}
theorem FrC.rf : FrC c f f := fun _ _ _ _ => rfl
theorem FrQ.rf : FrQ q u u := fun _ _ _ _ => rfl
theorem FrC.tr {f3 : MI} {c' : Nat} (h1 : FrC c f f2) (h2 : FrC c' f2 f3) (hc : c ≤ c') : FrC c f f3 := fun R o i h => (h2 R o i (by omega)).trans (h1 R o i h)
theorem FrQ.tr {u3 : MI} {q' : Nat} (h1 : FrQ q u u2) (h2 : FrQ q' u2 u3) (hc : q ≤ q') : FrQ q u u3 := fun R o i h => (h2 R o i (by omega)).trans (h1 R o i h)
theorem FrC.b6 (h : FB f f2 u u2) : FrC c f f2 := fun R o i z => h.1 R o i (by omega)
theorem FrQ.b6 (h : FB f f2 u u2) : FrQ q u u2 := fun R o i z => h.2 R o i (by omega)
theorem FrQ.f6 (h : Fr6 u u2) : FrQ q u u2 := fun R o i z => h R o i (by omega)
theorem FrC.at6 {v : Int32} : FrC c f (m3 f 20 0 6 v) := fun R o i z => m3_no (by omega)
theorem NC.frC (M : NC f k sg cn nt ns nn) (h : FrC c f f2) : NC f2 k sg cn nt ns nn := M.fr (fun R o i z => h R o i (by omega))
theorem NU.frQ (M : NU u N k b sg cn nt ns nn) (h : FrQ q u u2) : NU u2 N k b sg cn nt ns nn := M.fr (fun R o i z => h R o i (by omega))
theorem c_vo {d : Nat} (s : Int32) (h : MH) : EL (mP L xs) (d + 1) 67 [iv s] h = some (.inl (some (iv (vo s))), h) := by
  rw [E_FormulaReader_valueOf]
  unfold vo
  by_cases z1 : s = 319
  · rw [if_pos z1, if_pos z1]
  · rw [if_neg z1, if_neg z1, ite_val, ite_val]
theorem r_ms {d : Nat} : EL (mP L xs) (d + 1) 113 [rv 22 (some 0)] (u, Y) = some (.inl (some (iv (if u 22 0 7 = 1 then ms (u 22 0 11) else -1))), (u, Y)) := by
  rw [E_Ref_measureOf]
  unfold ms
  simp only [ite_val]
/-- the measure at hand -/
theorem px_ms (P : PX f u N k b sg t) : (∃ a i, 7 ≤ a ∧ a ≤ 13 ∧ i < 51 ∧ sg t = nI (301 + i) ∧ vo (sg t) = nI a ∧ (if u 22 0 7 = 1 then ms (u 22 0 11) else -1) = mz a) ∨ (vo (sg t) < 7 ∧ (if u 22 0 7 = 1 then ms (u 22 0 11) else -1) = -1) := by
  rcases P.tkk with ⟨h1, h2⟩ | ⟨h1, h2⟩ | ⟨h1, h2, -⟩ | ⟨h1, h2, h3⟩ | ⟨i, i1, h1, h2, h3⟩ | ⟨x, x1, h1, h2, -⟩ | ⟨x, x1, h1, h2, -⟩
  · rw [h1, h2]; exact Or.inr ⟨by decide, if_neg (by decide)⟩
  · rw [h1, h2]; exact Or.inr ⟨by decide, if_neg (by decide)⟩
  · rw [h1, h2]; exact Or.inr ⟨by decide, if_neg (by decide)⟩
  · rw [h1, h2, h3]; exact Or.inr ⟨by decide, by decide⟩
  · rw [h1, h2, h3, if_pos rfl, vo_i i i1, ms_i i i1]
    by_cases z : i = 18 ∨ (26 ≤ i ∧ i ≤ 31)
    · rw [if_pos z]
      refine Or.inl ⟨if i = 18 then 13 else i - 19, i, ?_, ?_, i1, rfl, ?_, rfl⟩
      · split <;> omega
      · split <;> omega
      · unfold vt
        by_cases y : i = 18
        · rw [if_pos y, if_pos y]; rfl
        · rw [if_neg y, if_neg y, if_pos (by omega)]
    · rw [if_neg z]
      refine Or.inr ⟨?_, rfl⟩
      unfold vt
      rw [if_neg (by omega)]
      by_cases y : 19 ≤ i ∧ i ≤ 31
      · rw [if_pos y]
        exact nI_lt (b := 7) (by omega) (by decide)
      · rw [if_neg y]
        decide
  · have := sgn_lt x1
    rw [h1, h2, vo_s x (by omega)]; exact Or.inr ⟨by decide, if_neg (by decide)⟩
  · have := jn_lt x1
    rw [h1, h2, vo_s (128 + x) (by omega)]; exact Or.inr ⟨by decide, if_neg (by decide)⟩
theorem nI_sm {i : Nat} (h : i < 51) : nI (301 + i) ≠ 0 ∧ nI (301 + i) ≠ 1 ∧ nI (301 + i) ≠ 2 ∧ nI (301 + i) ≠ 300 ∧ nI (301 + i) ≠ 40 ∧ nI (301 + i) ≠ 45 := by
  refine ⟨fun z => ?_, fun z => ?_, fun z => ?_, fun z => ?_, fun z => ?_, fun z => ?_⟩
  · have := (nI_eq (b := 0) (by omega) (by decide)).mp z; omega
  · have := (nI_eq (b := 1) (by omega) (by decide)).mp z; omega
  · have := (nI_eq (b := 2) (by omega) (by decide)).mp z; omega
  · have := (nI_eq (b := 300) (by omega) (by decide)).mp z; omega
  · have := (nI_eq (b := 40) (by omega) (by decide)).mp z; omega
  · have := (nI_eq (b := 45) (by omega) (by decide)).mp z; omega
/-- a cell and a code, then the next token -/
theorem ex_emit (F : FX N k b sg cn nt ns nn f u t c q n) {t0 w v : Nat} {a1 a2 a3 : Int32} {f0 u0 : MI} (h0 : sg t ≠ 0) (h1 : sg t ≠ 1) (hw : w ≤ 4) (hv : v < 2 ^ 24) (hok : okp k sg (w, v)) (ht0 : t0 ≤ t) (hf0 : FrC c f0 f) (hu0 : FrQ q u0 u)
    (hrc : ∀ u' : MI, u' 65 0 q = a1 → u' 66 0 q = a2 → u' 67 0 q = a3 → RCp b N u' q (w, v)) : ∃ f1 u1 f2 u2, (∀ d g X, EL (mP L xs) (d + 1) 68 [rv 10 (some 0), iv (nI w), iv (nI v)] (f, g, X) = some (.inl none, (f1, g, X))) ∧ (∀ d g X, EL (mP L xs) (d + 1) 42 [rv 20 (some 0)] (f1, g, X) = some (.inl none, (f2, g, X))) ∧
      (∀ d, EL (mP L xs) (d + 1) 111 [rv 22 (some 0), iv a1, iv a2, iv a3] (u, Y) = some (.inl none, (u1, Y))) ∧ (∀ d, EL (mP L xs) (d + 7) 101 [rv 22 (some 0)] (u1, Y) = some (.inl none, (u2, Y))) ∧ EG N k b sg f0 u0 t0 c q n 1 f2 u2 (t + 1) [(w, v)] [(w, v)] := by
  have P := F.px
  have htk := P.tk
  have hkp := P.lc.kp
  have hcl := F.cl
  have hql := F.ql
  generalize hf1 : m3 (m3 f 32 0 c (nI (w + 32 * v))) 10 0 3 (nI (c + 1)) = f1
  generalize hu1 : m3 (m3 (m3 (m3 u 65 0 q a1) 66 0 q a2) 67 0 q a3) 22 0 45 (nI (q + 1)) = u1
  have Ff : FrC c f f1 := fun R o i z => by rw [← hf1, m3_no (by omega), m3_no (by omega)]
  have Fu : FrQ q u u1 := fun R o i z => by rw [← hu1, m3_no (by omega), m3_no (by omega), m3_no (by omega), m3_no (by omega)]
  have P1 : PX f1 u1 N k b sg t := P.fr (fun R o i z => by rw [← hf1, m3_no (by omega), m3_no (by omega)]) (fun R o i z => by rw [← hu1, m3_no (by omega), m3_no (by omega), m3_no (by omega), m3_no (by omega)])
  obtain ⟨b1, u2, b2, b3, b4⟩ := px_adv (L := L) (xs := xs) (Y := Y) P1 h0 h1
  have e65 : u2 65 0 q = a1 := by rw [b3 65 0 q (by omega), ← hu1, m3_r (by decide), m3_r (by decide), m3_r (by decide), m3_eq]
  have e66 : u2 66 0 q = a2 := by rw [b3 66 0 q (by omega), ← hu1, m3_r (by decide), m3_r (by decide), m3_eq]
  have e67 : u2 67 0 q = a3 := by rw [b3 67 0 q (by omega), ← hu1, m3_r (by decide), m3_eq]
  refine ⟨f1, u1, _, u2, fun d g X => ?_, b1, fun d => ?_, fun d => EL_mono (by omega) b2, ⟨by omega, b4, ?_, ?_, ?_, ⟨?_, ?_⟩, ⟨?_, trivial⟩, ⟨hrc u2 e65 e66 e67, trivial⟩, Sam_op hw, Wf_op hw, Wf_op hw, fun x hx => ?_, fun x hx => ?_, (hf0.tr Ff (Nat.le_refl c)).tr FrC.at6 (Nat.le_refl c), (hu0.tr Fu (Nat.le_refl q)).tr (FrQ.f6 b3) (Nat.le_refl q)⟩⟩
  · rw [c_put F.cc (by omega) (by omega) hv, hf1]
  · rw [r_new F.qu (by omega), hu1]
  · rw [m3_r (by decide), ← hf1, m3_eq]; rfl
  · rw [b3 22 0 45 (by omega), ← hu1, m3_eq]; rfl
  · rw [b3 22 0 55 (by omega), ← hu1, m3_i (by decide), m3_r (by decide), m3_r (by decide), m3_r (by decide)]; exact F.nu
  · show 1 ≤ t + 1 - t0; omega
  · show 1 ≤ t + 1 - t0; omega
  · rw [m3_r (by decide), ← hf1, m3_r (by decide), m3_eq]
  · rw [List.mem_singleton.mp hx]; exact hok
  · rw [List.mem_singleton.mp hx]; exact hok
/-- behind a fault: the tail of a ride's measure -/
theorem ed_tail {p0 q0 : Int32} (E : ED f p0 q0) (hc : f 10 0 3 = nI c) (h : c ≤ 4001) (v4 w : Int32) : ∃ f2, (∀ d g X, mclI (EL (mP L xs) (d + 1) 69 [iv v4, iv w] (f, g, X)) (fun x13 h12 => mclV (EL (mP L xs) (d + 1) 68 [rv 10 (some 0), iv 3, iv x13] h12) (fun h14 => mclV (EL (mP L xs) (d + 1) 42 [rv 20 (some 0)] h14) (fun h15 => some (.inl none, h15)) (fun e h => some (.inr e, h))) (fun e h => some (.inr e, h))) (fun e h => some (.inr e, h)) = some (.inl none, (f2, g, X))) ∧ ED f2 p0 q0 ∧ (∃ c2 : Nat, c ≤ c2 ∧ c2 ≤ 4001 ∧ f2 10 0 3 = nI c2) ∧ FrC c f f2 := by
  obtain ⟨f2, c2, a1, a2, a3, a4, a5⟩ := c_putE (L := L) (xs := xs) hc h 3 ((v4 <<< ((5 : Int32) &&& 31)) ||| w)
  have E2 : ED f2 p0 q0 := E.fr (a5 20 0 5 (by omega)) (a5 20 0 6 (by omega)) (a5 20 0 7 (by omega)) (a5 20 0 8 (by omega)) (a5 34 0 4000 (by omega))
  refine ⟨f2, fun d g X => ?_, E2, ⟨c2, a3, a4, a2⟩, fun R o i z => a5 R o i (by omega)⟩
  rw [E_Code_asking, clI, a1, clV, ed_adv E2, clV]
theorem ed_119 {p0 q0 : Int32} (E : ED f p0 q0) (hc : f 10 0 3 = nI c) (h : c ≤ 4001) (v1 v2 v3 v4 : Int32) : ∃ f2, (∀ d g X, RL (mP L xs) (d + 2) 70 119 [some (rv 13 (some 0)), some (iv v1), some (iv v2), some (iv v3), some (iv v4)] [] (f, g, X) = some (.inl none, (f2, g, X))) ∧ ED f2 p0 q0 ∧ (∃ c2 : Nat, c ≤ c2 ∧ c2 ≤ 4001 ∧ f2 10 0 3 = nI c2) ∧ FrC c f f2 := by
  obtain ⟨f2, a1, a2⟩ := ed_tail (L := L) (xs := xs) E hc h v4 (if (0 : Int32) < -1 then -1 else 0)
  refine ⟨f2, fun d g X => ?_, a2⟩
  rw [K_FormulaReader_operand_119, ed_adv E, clV, ed_exp E (by decide), clV, ed_sort E, clI, c_vo, clI, show vo 0 = -1 from rfl, if_pos (by decide), ed_ref E, clV, a1]
theorem BAD.mk {p0 q0 : Int32} (E : ED f p0 q0) (h1 : u 22 0 12 = p0) (h2 : u 22 0 13 = q0) : BAD f u := ⟨p0, q0, E, h1, h2⟩
/-- a ride's measure -/
theorem ex_name (F : FX N k b sg cn nt ns nn f u t c q n) (h3 : sg t = 300) (v1 : Int32) :
    ∃ f2 u2, (∀ d g X, 16 ≤ d → EL (mP L xs) d 70 [rv 13 (some 0), iv v1] (f, g, X) = some (.inl none, (f2, g, X))) ∧ (∀ d, 16 ≤ d → EL (mP L xs) d 115 [rv 22 (some 0)] (u, Y) = some (.inl none, (u2, Y))) ∧ ((∃ t' lc lr, EG N k b sg f u t c q n 1 f2 u2 t' lc lr) ∨ EB f u t c q f2 u2) := by
  have P := F.px
  have htk := P.tk
  have hkp := P.lc.kp
  have hcl := F.cl
  have hql := F.ql
  have hN := P.tu.nl
  obtain ⟨g1, g2, g3⟩ := tS_le (t := t) P.lc
  obtain ⟨q1, q2, q3, q4⟩ := tk_cls P.tkk
  obtain ⟨hk1, hw1⟩ := q2.mp h3
  have bg := P.bg
  have en := P.en.1
  have hsz : nI (tE b N t) - nI (tS b N t) = nI (tE b N t - tS b N t) := nI_sub g1
  have n0 : sg t ≠ 0 := by rw [h3]; decide
  have n1 : sg t ≠ 1 := by rw [h3]; decide
  obtain ⟨v, v1', v2⟩ := r_known (L := L) (xs := xs) (Y := Y) P.lc P.tu F.nz t
  -- the class asks for staff and flags
  have keyC : ∀ d g X, EL (mP L xs) (d + 10) 70 [rv 13 (some 0), iv v1] (f, g, X) = mclI (EL (mP L xs) (d + 9) 50 [rv 14 (some 0), iv (nI t), iv 0] (f, g, X)) (fun x11 h10 => if x11 = (-1) then (mclI (EL (mP L xs) (d + 9) 50 [rv 14 (some 0), iv (nI t), iv 1] h10) (fun x14 h13 => if x14 = (-1) then (RL (mP L xs) (d + 9) 70 119 [some (rv 13 (some 0)), some (iv v1), some (iv 300), some (iv (-1)), some (iv (nI t))] [] h13) else (mclV (EL (mP L xs) (d + 9) 41 [rv 20 (some 0), iv 3] h13) (fun h15 => RL (mP L xs) (d + 9) 70 119 [some (rv 13 (some 0)), some (iv v1), some (iv 300), some (iv (-1)), some (iv (nI t))] [] h15) (fun e h => some (.inr e, h)))) (fun e h => some (.inr e, h))) else (mclV (EL (mP L xs) (d + 9) 41 [rv 20 (some 0), iv 3] h10) (fun h12 => RL (mP L xs) (d + 9) 70 119 [some (rv 13 (some 0)), some (iv v1), some (iv 300), some (iv (-1)), some (iv (nI t))] [] h12) (fun e h => some (.inr e, h)))) (fun e h => some (.inr e, h)) := fun d g X => by
    rw [E_FormulaReader_operand, px_sort P, clI, c_vo, clI, h3, show vo 300 = -1 from rfl, if_neg (by decide), if_pos rfl, if_pos rfl]
    simp only [P.at_]
  have keyU : ∀ d, EL (mP L xs) (d + 10) 115 [rv 22 (some 0)] (u, Y) = mclV (RL (mP L xs) (d + 8) 114 97 [some (rv 22 (some 0)), some (iv (-1)), none, none] [] (u, Y)) (fun h6 => some (.inl none, h6)) (fun e h => some (.inr e, h)) := fun d => by
    have s1 := px_isSign (L := L) (xs := xs) (d := d + 8) (Y := Y) P (c := 45) (by decide) (by decide)
    have s2 := px_isSign (L := L) (xs := xs) (d := d + 8) (Y := Y) P (c := 40) (by decide) (by decide)
    rw [if_neg (show ¬ sg t = nI 45 by rw [h3]; decide)] at s1
    rw [if_neg (show ¬ sg t = nI 40 by rw [h3]; decide)] at s2
    have s1' : EL (mP L xs) (d + 9) 108 [rv 22 (some 0), iv 45] (u, Y) = _ := s1
    have s2' : EL (mP L xs) (d + 9) 108 [rv 22 (some 0), iv 40] (u, Y) = _ := s2
    rw [E_Ref_factor, s1', clI, if_pos rfl, s2', clI, if_pos rfl]
    simp only [hk1, if_neg (show ¬ (1 : Int32) = 2 by decide), if_true]
    rw [E_Ref_wordFactor, r_ms, hk1, if_pos rfl, hw1, ms_n, clI, if_pos rfl]
    simp only [hw1, if_pos (show (-1 : Int32) < 32 by decide)]
    rw [K_Ref_wordFactor_61]
    simp only [hw1, if_pos (show (-1 : Int32) < 41 by decide)]
  have key97 := fun d => K_Ref_wordFactor_97 (L := L) (xs := xs) (d := d + 8) (z2 := none) (z3 := none) (-1) (u, Y)
  simp only [hw1, if_true, bg, en, hsz, v1', clI] at key97
  have goC : ∀ f2, (∀ d g X, EL (mP L xs) (d + 10) 70 [rv 13 (some 0), iv v1] (f, g, X) = some (.inl none, (f2, g, X))) → ∀ d g X, 16 ≤ d → EL (mP L xs) d 70 [rv 13 (some 0), iv v1] (f, g, X) = some (.inl none, (f2, g, X)) := fun f2 h d g X hd => by
    have := h (d - 10) g X
    rw [show d - 10 + 10 = d by omega] at this
    exact this
  have goU : ∀ u2, (∀ d, EL (mP L xs) (d + 10) 115 [rv 22 (some 0)] (u, Y) = some (.inl none, (u2, Y))) → ∀ d, 16 ≤ d → EL (mP L xs) d 115 [rv 22 (some 0)] (u, Y) = some (.inl none, (u2, Y)) := fun u2 h d hd => by
    have := h (d - 10)
    rw [show d - 10 + 10 = d by omega] at this
    exact this
  have hnof := fun d g X => c_nof (L := L) (xs := xs) (d := d) (g := g) (X := X) P.lc F.nc htk (s := 0) (by decide)
  have hnof1 := fun d g X => c_nof (L := L) (xs := xs) (d := d) (g := g) (X := X) P.lc F.nc htk (s := 1) (by decide)
  by_cases hbad : ∃ i, i < cn ∧ same b N (nt i) t ∧ ns i ≠ 2
  · -- another sort of name
    obtain ⟨i, i1, i2, i3⟩ := hbad
    obtain ⟨f1, u1, a1, a2, a3, a4, a5⟩ := px_bad (L := L) (xs := xs) (Y := Y) P (q := 3) (by decide)
    rw [bg] at a2
    obtain ⟨p0, q0, E1, b1, b2⟩ := a3
    have hc1 : f1 10 0 3 = nI c := (a4.1 10 0 3 (by omega)).trans F.cc
    obtain ⟨f2, c1, c2, c3, c4⟩ := ed_119 (L := L) (xs := xs) E1 hc1 (by omega) v1 300 (-1) (nI t)
    have hnn := fun i (hi : i < cn) => (F.nc.ar i hi).2.2.2.1
    have hns := (F.nc.ar i i1).2.2.1
    refine ⟨f2, u1, goC f2 (fun d g X => ?_), goU u1 (fun d => ?_), Or.inr ⟨BAD.mk c2 b1 b2, c3, ⟨q, Nat.le_refl q, by omega, (a4.2 22 0 45 (by omega)).trans F.qu⟩, (FrC.b6 a4).tr c4 (Nat.le_refl c), FrQ.b6 a4⟩⟩
    · obtain ⟨w0, x0, y0⟩ := hnof (d + 7) g X
      obtain ⟨w1, x1, y1⟩ := hnof1 (d + 7) g X
      have x0' : EL (mP L xs) (d + 9) 50 [rv 14 (some 0), iv (nI t), iv 0] (f, g, X) = _ := x0
      have x1' : EL (mP L xs) (d + 9) 50 [rv 14 (some 0), iv (nI t), iv 1] (f, g, X) = _ := x1
      rw [keyC, x0', clI]
      rcases y0 with ⟨j, j1, j2, j3, rfl⟩ | ⟨rfl, y0⟩
      · rw [if_neg (nI_ne1 (by have := hnn j j1; omega)), a1, clV, c1 (d + 7)]
      · rw [if_pos rfl, x1', clI]
        rcases y1 with ⟨j, j1, j2, j3, rfl⟩ | ⟨rfl, y1⟩
        · rw [if_neg (nI_ne1 (by have := hnn j j1; omega)), a1, clV, c1 (d + 7)]
        · exfalso
          have : ns i = 0 ∨ ns i = 1 := by omega
          rcases this with e | e
          · exact y0 i i1 e i2
          · exact y1 i i1 e i2
    · rw [keyU, key97]
      rcases v2 with ⟨j, j1, rfl, j3⟩ | ⟨-, v3⟩
      · have hj := F.nz.ar j j1
        have h26 := F.nz.cl
        have eij := F.nz.df i j i1 j1 (same_tr i2 (same_sy j3))
        subst eij
        rw [if_neg (nI_ne1 (by omega)), if_neg (nin (show i < 26 by omega) (by decide))]
        simp only [nI_clamp (show i < 2 ^ 31 by omega), hj.2.2.2.2.1]
        rw [if_neg (show ¬ nI (ns i + 1) = 3 from fun e => i3 (by have := (nI_eq (b := 3) (by omega) (by decide)).mp e; omega)), a2 (d + 7), clV, clV]
      · exact absurd i2 (v3 i i1)
  · -- a ride's, or not yet told
    have hok : ∀ i, i < cn → same b N (nt i) t → ns i = 2 := fun i hi hs => Decidable.by_contra (fun e => hbad ⟨i, hi, hs, e⟩)
    have keyC2 : ∀ d g X, EL (mP L xs) (d + 10) 70 [rv 13 (some 0), iv v1] (f, g, X) = RL (mP L xs) (d + 9) 70 119 [some (rv 13 (some 0)), some (iv v1), some (iv 300), some (iv (-1)), some (iv (nI t))] [] (f, g, X) := fun d g X => by
      obtain ⟨w0, x0, y0⟩ := hnof (d + 7) g X
      obtain ⟨w1, x1, y1⟩ := hnof1 (d + 7) g X
      have x0' : EL (mP L xs) (d + 9) 50 [rv 14 (some 0), iv (nI t), iv 0] (f, g, X) = _ := x0
      have x1' : EL (mP L xs) (d + 9) 50 [rv 14 (some 0), iv (nI t), iv 1] (f, g, X) = _ := x1
      rw [keyC, x0', clI]
      rcases y0 with ⟨j, j1, j2, j3, rfl⟩ | ⟨rfl, y0⟩
      · have := hok j j1 j3; omega
      · rw [if_pos rfl, x1', clI]
        rcases y1 with ⟨j, j1, j2, j3, rfl⟩ | ⟨rfl, y1⟩
        · have := hok j j1 j3; omega
        · rw [if_pos rfl]
    have key158 : ∃ w, ∀ d, RL (mP L xs) (d + 8) 114 97 [some (rv 22 (some 0)), some (iv (-1)), none, none] [] (u, Y) = RL (mP L xs) (d + 8) 114 158 [some (rv 22 (some 0)), some (iv (-1)), some (iv w), none] [] (u, Y) := by
      refine ⟨v, fun d => ?_⟩
      rw [key97]
      rcases v2 with ⟨j, j1, rfl, j3⟩ | ⟨rfl, v3⟩
      · have hj := F.nz.ar j j1
        have h26 := F.nz.cl
        rw [if_neg (nI_ne1 (by omega)), if_neg (nin (show j < 26 by omega) (by decide))]
        simp only [nI_clamp (show j < 2 ^ 31 by omega), hj.2.2.2.2.1, hok j j1 j3]
        rw [if_pos (show nI (2 + 1) = 3 from rfl)]
      · rw [if_pos rfl]
    obtain ⟨w, key158⟩ := key158
    obtain ⟨b1, u1, b2, b3, P1⟩ := px_adv (L := L) (xs := xs) (Y := Y) P n0 n1
    obtain ⟨f2, u2, d1, d2⟩ := px_need (L := L) (xs := xs) (Y := Y) P1 (c := 46) (by decide) (by decide)
    have kC : ∀ d g X, EL (mP L xs) (d + 10) 70 [rv 13 (some 0), iv v1] (f, g, X) = _ := fun d g X => (keyC2 d g X).trans (K_FormulaReader_operand_119 (L := L) (xs := xs) (d := d + 9) v1 300 (-1) (nI t) (f, g, X))
    have d1' : ∀ d g X, EL (mP L xs) (d + 2) 46 [rv 20 (some 0), iv 46] (m3 f 20 0 6 (nI (t + 1)), g, X) = some (.inl none, (f2, g, X)) := d1
    simp only [b1, clV, d1'] at kC
    have kU : ∀ d, EL (mP L xs) (d + 10) 115 [rv 22 (some 0)] (u, Y) = _ := fun d => (keyU d).trans (by rw [key158, K_Ref_wordFactor_158])
    have b2' : ∀ d, EL (mP L xs) (d + 8) 101 [rv 22 (some 0)] (u, Y) = some (.inl none, (u1, Y)) := fun d => EL_mono (by omega) b2
    simp only [b2', clV, bg, en] at kU
    rcases d2 with ⟨e1, e2, e3, e4, P2⟩ | ⟨e2, e3, e4, e5⟩
    · have e2' : ∀ d, EL (mP L xs) (d + 8) 112 [rv 22 (some 0), iv 46] (u1, Y) = some (.inl (some (iv 1)), (u2, Y)) := fun d => EL_mono (by omega) e2
      simp only [px_sort P2, clI, c_vo] at kC
      simp only [e2', clI, if_neg (show ¬ (1 : Int32) = 0 by decide), r_ms] at kU
      have hc2 : f2 10 0 3 = nI c := by rw [e4, m3_r (by decide), m3_r (by decide)]; exact F.cc
      have hF2 : FrC c f f2 := by rw [e4]; exact FrC.at6.tr FrC.at6 (Nat.le_refl c)
      have hU2 : FrQ q u u2 := (FrQ.f6 b3).tr (FrQ.f6 e3) (Nat.le_refl q)
      have hq2 : u2 22 0 45 = nI q := by rw [e3 22 0 45 (by omega), b3 22 0 45 (by omega)]; exact F.qu
      have hn2 : u2 22 0 55 = nI n := by rw [e3 22 0 55 (by omega), b3 22 0 55 (by omega)]; exact F.nu
      have h2k := P2.tk
      rcases px_ms P2 with ⟨a, i, a1, a2, i1, i2, a3, a4⟩ | ⟨a3, a4⟩
      · -- a measure
        have F2 : FX N k b sg cn nt ns nn f2 u2 (t + 1 + 1) c q n := ⟨P2, hc2, by omega, hq2, by omega, hn2, F.nl, F.nc.frC hF2, F.nz.frQ hU2⟩
        obtain ⟨j0, j1, -⟩ := nI_sm i1
        have hx : okp k sg (3, 32 * t + a) := Or.inr (Or.inr (Or.inl ⟨rfl, by show (32 * t + a) / 32 < k; omega, by show sg ((32 * t + a) / 32) = 300; rw [show (32 * t + a) / 32 = t by omega]; exact h3, by show 7 ≤ (32 * t + a) % 32; omega, by show (32 * t + a) % 32 ≤ 13; omega⟩))
        obtain ⟨f3, u3, f4, u4, x1, x2, x3, x4, x5⟩ := ex_emit (L := L) (xs := xs) (Y := Y) F2 (t0 := t) (w := 3) (v := 32 * t + a) (a1 := 7) (a2 := nI (16 * tS b N t + (tE b N t - tS b N t))) (a3 := mz a) (f0 := f) (u0 := u) (by rw [i2]; exact j0) (by rw [i2]; exact j1) (by decide) (by omega) hx (by omega) hF2 hU2 (fun u' y1 y2 y3 => Or.inr ⟨rfl, y1, by show u' 66 0 q = nI (16 * tS b N ((32 * t + a) / 32) + (tE b N ((32 * t + a) / 32) - tS b N ((32 * t + a) / 32))); rw [show (32 * t + a) / 32 = t by omega]; exact y2, by show u' 67 0 q = mz ((32 * t + a) % 32); rw [show (32 * t + a) % 32 = a by omega]; exact y3⟩)
        have x1' : ∀ d g X, EL (mP L xs) (d + 1) 68 [rv 10 (some 0), iv 3, iv (nI (32 * t + a))] (f2, g, X) = some (.inl none, (f3, g, X)) := x1
        have hmx : (if (0 : Int32) < nI a then nI a else 0) = nI a := if_pos (nI_lt (a := 0) (by omega) (by omega))
        have hnum : (16 : Int32) * nI (tS b N t) + nI (tE b N t) - nI (tS b N t) = nI (16 * tS b N t + (tE b N t - tS b N t)) := by
          rw [show (16 : Int32) * nI (tS b N t) = nI (16 * tS b N t) from nI_mul 16 _, nI_add, nI_sub (by omega), show 16 * tS b N t + tE b N t - tS b N t = 16 * tS b N t + (tE b N t - tS b N t) by omega]
        refine ⟨f4, u4, goC f4 (fun d g X => ?_), goU u4 (fun d => ?_), Or.inl ⟨_, _, _, x5⟩⟩
        · rw [kC, a3, if_neg (show ¬ nI a < 7 from nI_nlt (a := a) (b := 7) (by omega) (by omega)), hmx, E_Code_asking, clI, nI_ask (by omega) (by omega), x1', clV, x2, clV]
        · rw [kU, a4, if_neg (mz_ne a a1 a2), hnum, x3 (d + 7), clV, x4 (d + 1), clV, clV]
      · -- none
        obtain ⟨f3, u3, x1, x2, x3, x4, x5⟩ := px_bad (L := L) (xs := xs) (Y := Y) P2 (q := 1) (by decide)
        obtain ⟨p0, q0, E3, y1, y2⟩ := x3
        have hc3 : f3 10 0 3 = nI c := (x4.1 10 0 3 (by omega)).trans hc2
        obtain ⟨f4, z1, z2, z3, z4⟩ := ed_tail (L := L) (xs := xs) E3 hc3 (by omega) (nI t) (if (0 : Int32) < vo (sg (t + 1 + 1)) then vo (sg (t + 1 + 1)) else 0)
        refine ⟨f4, u3, goC f4 (fun d g X => ?_), goU u3 (fun d => ?_), Or.inr ⟨BAD.mk z2 y1 y2, z3, ⟨q, Nat.le_refl q, by omega, (x4.2 22 0 45 (by omega)).trans hq2⟩, (hF2.tr (FrC.b6 x4) (Nat.le_refl c)).tr z4 (Nat.le_refl c), hU2.tr (FrQ.b6 x4) (Nat.le_refl q)⟩⟩
        · rw [kC, if_pos a3, x1, clV]
          exact z1 (d + 8) g X
        · rw [kU, a4, if_pos rfl, x2 (d + 7), clV, clV]
    · -- no point
      have e2' : ∀ d, EL (mP L xs) (d + 8) 112 [rv 22 (some 0), iv 46] (u1, Y) = some (.inl (some (iv 0)), (u2, Y)) := fun d => EL_mono (by omega) e2
      obtain ⟨p0, q0, E2, y1, y2⟩ := e3
      have hc2 : f2 10 0 3 = nI c := by rw [e4 10 0 3 (by omega), m3_r (by decide)]; exact F.cc
      have hF2 : FrC c f f2 := FrC.at6.tr (fun R o i z => e4 R o i (by omega)) (Nat.le_refl c)
      have hU2 : FrQ q u u2 := (FrQ.f6 b3).tr (fun R o i z => e5 R o i (by omega)) (Nat.le_refl q)
      have hq2 : u2 22 0 45 = nI q := by rw [e5 22 0 45 (by omega), b3 22 0 45 (by omega)]; exact F.qu
      obtain ⟨f4, z1, z2, z3, z4⟩ := ed_tail (L := L) (xs := xs) E2 hc2 (by omega) (nI t) (if (0 : Int32) < -1 then -1 else 0)
      refine ⟨f4, u2, goC f4 (fun d g X => ?_), goU u2 (fun d => ?_), Or.inr ⟨BAD.mk z2 y1 y2, z3, ⟨q, Nat.le_refl q, by omega, hq2⟩, hF2.tr z4 (Nat.le_refl c), hU2⟩⟩
      · rw [kC, ed_sort E2, clI, c_vo, clI, show vo 0 = -1 from rfl, if_pos (by decide), ed_ref E2, clV]
        exact z1 (d + 8) g X
      · rw [kU, e2', clI, if_pos rfl, clV]
end Opd
