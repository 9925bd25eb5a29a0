/-! ===== read: cells and codes, before names are settled ===== -/
theorem nI_or {a v : Nat} (ha : a < 32) (hv : v < 2 ^ 24) : nI a ||| (nI v <<< ((5 : Int32) &&& 31)) = nI (a + 32 * v) := by
  have h1 : (nI v <<< ((5 : Int32) &&& 31)) = nI (v * 32) := by
    show Int32.ofNat v <<< (5 : Int32) = Int32.ofNat (v * 32)
    rw [Int32.ofNat_mul]
    apply Int32.toBitVec_inj.mp
    rw [Int32.toBitVec_shiftLeft, Int32.toBitVec_mul]
    apply BitVec.eq_of_toNat_eq
    simp [BitVec.toNat_shiftLeft, BitVec.toNat_mul, Nat.shiftLeft_eq]
  rw [h1]
  show Int32.ofNat a ||| Int32.ofNat (v * 32) = Int32.ofNat (a + 32 * v)
  have h2 : a + 32 * v = a ||| (v * 32) := by
    have := Nat.shiftLeft_add_eq_or_of_lt (i := 5) (b := a) (by omega) v
    rw [Nat.shiftLeft_eq, show (2 : Nat) ^ 5 = 32 from rfl] at this
    rw [Nat.or_comm]
    omega
  rw [h2]
  apply Int32.toBitVec_inj.mp
  rw [Int32.toBitVec_or]
  apply BitVec.eq_of_toNat_eq
  simp [BitVec.toNat_or, Nat.mod_eq_of_lt (show a < 2 ^ 32 by omega), Nat.mod_eq_of_lt (show v * 32 < 2 ^ 32 by omega)]
theorem nI_ask {t w : Nat} (hw : w < 32) (ht : t < 2 ^ 24) : (nI t <<< ((5 : Int32) &&& 31)) ||| nI w = nI (32 * t + w) := by
  rw [Int32.or_comm, nI_or hw ht, Nat.add_comm]
/-- before settling: a code of a ride's name has its place and length -/
def RCp (b : Nat → Nat) (N : Nat) (u : MI) (k : Nat) (x : Nat × Nat) : Prop := (x.1 ≠ 3 ∧ RC u k x) ∨ (x.1 = 3 ∧ u 65 0 k = 7 ∧ u 66 0 k = nI (16 * tS b N (x.2 / 32) + (tE b N (x.2 / 32) - tS b N (x.2 / 32))) ∧ u 67 0 k = mz (x.2 % 32))
def Rpp (b : Nat → Nat) (N : Nat) (u : MI) : Nat → PL → Prop
  | _, [] => True
  | k, x :: l => RCp b N u k x ∧ Rpp b N u (k + 1) l
def okp (k : Nat) (sg : Nat → Int32) (x : Nat × Nat) : Prop := (x.1 = 1 ∧ x.2 < 10000) ∨ (x.1 = 2 ∧ x.2 ≤ 13) ∨ (x.1 = 3 ∧ x.2 / 32 < k ∧ sg (x.2 / 32) = 300 ∧ 7 ≤ x.2 % 32 ∧ x.2 % 32 ≤ 13) ∨ (x.1 = 5 ∧ x.2 = 0) ∨ (9 ≤ x.1 ∧ x.1 ≤ 12 ∧ x.2 = 0)
/-- the stack's height, whatever comes behind -/
def Wf (h : Nat) (l : PL) : Prop := ∀ rest t, t + h ≤ 62 → Hi 62 rest (t + 1) → Hi 62 (l ++ rest) t
theorem ev_app {μ : Nat × Nat → Int32} : ∀ (l1 l2 : PL) (st : List Int32), ev μ (l1 ++ l2) st = (ev μ l1 st).bind (ev μ l2)
  | [], l2, st => rfl
  | c :: l1, l2, st => by
    show ev μ (c :: (l1 ++ l2)) st = _
    unfold ev
    by_cases h1 : c.1 ≤ 4
    · rw [if_pos h1, if_pos h1]
      exact ev_app l1 l2 _
    · rw [if_neg h1, if_neg h1]
      by_cases h2 : c.1 = 5
      · rw [if_pos h2, if_pos h2]
        cases st with
        | nil => rfl
        | cons x s => exact ev_app l1 l2 _
      · rw [if_neg h2, if_neg h2]
        cases st with
        | nil => rfl
        | cons y s =>
          cases s with
          | nil => rfl
          | cons x s =>
            simp only []
            by_cases h3 : c.1 = 12 ∧ y = 0
            · rw [if_pos h3, if_pos h3]
              rfl
            · rw [if_neg h3, if_neg h3]
              exact ev_app l1 l2 _
theorem Same_op {x : Nat × Nat} (h : x.1 ≤ 4) : Same [x] [x] := ⟨fun μ => some (μ x), fun μ st => by
  have : ev μ [x] st = some (μ x :: st) := by
    unfold ev
    rw [if_pos h]
    rfl
  exact ⟨this, this⟩⟩
theorem ev_mn {μ : Nat × Nat → Int32} {l : PL} {o : Option Int32} (h : ∀ st, ev μ l st = o.map (fun v => v :: st)) : ∀ st, ev μ (l ++ [(5, 0)]) st = (o.map (fun v => -v)).map (fun v => v :: st) := fun st => by
  rw [ev_app, h st]
  cases o with
  | none => rfl
  | some v => rfl
theorem Same_mn {lc lr : PL} (h : Same lc lr) : Same (lc ++ [(5, 0)]) (lr ++ [(5, 0)]) := by
  obtain ⟨φ, h⟩ := h
  exact ⟨fun μ => (φ μ).map (fun v => -v), fun μ st => ⟨ev_mn (fun st => (h μ st).1) st, ev_mn (fun st => (h μ st).2) st⟩⟩
theorem Same_mm {lc lr : PL} (h : Same lc lr) : Same lc ((lr ++ [(5, 0)]) ++ [(5, 0)]) := by
  obtain ⟨φ, h⟩ := h
  refine ⟨φ, fun μ st => ⟨(h μ st).1, ?_⟩⟩
  rw [ev_mn (ev_mn (fun st => (h μ st).2)) st]
  cases φ μ with
  | none => rfl
  | some v =>
    show some (- -v :: st) = some (v :: st)
    rw [Int32.neg_neg]
/-- so many minuses -/
def mns : Nat → PL
  | 0 => []
  | n + 1 => mns n ++ [(5, 0)]
def par (n : Nat) : PL := if n % 2 = 0 then [] else [(5, 0)]
theorem Same_par {lc lr : PL} (h : Same lc lr) : ∀ n, Same (lc ++ par n) (lr ++ mns n)
  | 0 => by
    show Same (lc ++ []) (lr ++ [])
    rw [List.append_nil, List.append_nil]
    exact h
  | 1 => Same_mn h
  | n + 2 => by
    have ih := Same_par h n
    have e : par (n + 2) = par n := by
      unfold par
      rw [show (n + 2) % 2 = n % 2 by omega]
    rw [e]
    show Same (lc ++ par n) (lr ++ ((mns n ++ [(5, 0)]) ++ [(5, 0)]))
    rw [← List.append_assoc, ← List.append_assoc]
    exact Same_mm ih
theorem ev_bn {μ : Nat × Nat → Int32} {l1 l2 : PL} {o1 o2 : Option Int32} {w : Nat} (hw : 9 ≤ w ∧ w ≤ 12) (h1 : ∀ st, ev μ l1 st = o1.map (fun v => v :: st)) (h2 : ∀ st, ev μ l2 st = o2.map (fun v => v :: st)) : ∀ st, ev μ (l1 ++ (l2 ++ [(w, 0)])) st = (o1.bind (fun x => o2.bind (fun y => if w = 12 ∧ y = 0 then none else some (bop w x y)))).map (fun v => v :: st) := fun st => by
  rw [ev_app, h1 st]
  cases o1 with
  | none => rfl
  | some x =>
    show ev μ (l2 ++ [(w, 0)]) (x :: st) = _
    rw [ev_app, h2 (x :: st)]
    cases o2 with
    | none => rfl
    | some y =>
      show ev μ [(w, 0)] (y :: x :: st) = Option.map _ (if w = 12 ∧ y = 0 then none else some (bop w x y))
      unfold ev
      rw [if_neg (show ¬ w ≤ 4 by omega), if_neg (show ¬ w = 5 by omega)]
      simp only []
      by_cases h3 : w = 12 ∧ y = 0
      · rw [if_pos h3, if_pos h3]; rfl
      · rw [if_neg h3, if_neg h3]; rfl
theorem Same_bn {l1 r1 l2 r2 : PL} {w : Nat} (hw : 9 ≤ w ∧ w ≤ 12) (h1 : Same l1 r1) (h2 : Same l2 r2) : Same (l1 ++ (l2 ++ [(w, 0)])) (r1 ++ (r2 ++ [(w, 0)])) := by
  obtain ⟨φ1, h1⟩ := h1
  obtain ⟨φ2, h2⟩ := h2
  exact ⟨fun μ => (φ1 μ).bind (fun x => (φ2 μ).bind (fun y => if w = 12 ∧ y = 0 then none else some (bop w x y))), fun μ st => ⟨ev_bn hw (fun st => (h1 μ st).1) (fun st => (h2 μ st).1) st, ev_bn hw (fun st => (h1 μ st).2) (fun st => (h2 μ st).2) st⟩⟩
/-- the rides' names that are asked, by their tokens -/
def asks : PL → List Nat
  | [] => []
  | x :: l => if x.1 = 3 then x.2 / 32 :: asks l else asks l
theorem asks_app : ∀ {l1 l2 : PL}, asks (l1 ++ l2) = asks l1 ++ asks l2
  | [], _ => rfl
  | x :: l, l2 => by
    show (if x.1 = 3 then x.2 / 32 :: asks (l ++ l2) else asks (l ++ l2)) = (if x.1 = 3 then x.2 / 32 :: asks l else asks l) ++ asks l2
    rw [asks_app]
    by_cases h : x.1 = 3
    · rw [if_pos h, if_pos h]; rfl
    · rw [if_neg h, if_neg h]
def Sam (lc lr : PL) : Prop := Same lc lr ∧ asks lc = asks lr
theorem Sam_op {x : Nat × Nat} (h : x.1 ≤ 4) : Sam [x] [x] := ⟨Same_op h, rfl⟩
theorem asks_mns : ∀ n, asks (mns n) = []
  | 0 => rfl
  | n + 1 => by
    show asks (mns n ++ [(5, 0)]) = []
    rw [asks_app, asks_mns n]
    rfl
theorem asks_par (n : Nat) : asks (par n) = [] := by
  unfold par
  by_cases h : n % 2 = 0
  · rw [if_pos h]; rfl
  · rw [if_neg h]; rfl
theorem Sam_par {lc lr : PL} (h : Sam lc lr) (n : Nat) : Sam (lc ++ par n) (lr ++ mns n) := ⟨Same_par h.1 n, by rw [asks_app, asks_app, asks_par, asks_mns, h.2]⟩
theorem Sam_bn {l1 r1 l2 r2 : PL} {w : Nat} (hw : 9 ≤ w ∧ w ≤ 12) (h1 : Sam l1 r1) (h2 : Sam l2 r2) : Sam (l1 ++ (l2 ++ [(w, 0)])) (r1 ++ (r2 ++ [(w, 0)])) := ⟨Same_bn hw h1.1 h2.1, by rw [asks_app, asks_app, asks_app, asks_app, h1.2, h2.2]⟩
theorem Wf_op {x : Nat × Nat} (h : x.1 ≤ 4) : Wf 1 [x] := fun rest t h1 h2 => by
  show Hi 62 (x :: rest) t
  unfold Hi
  rw [if_pos h]
  exact ⟨by omega, h2⟩
theorem Wf_mn {h : Nat} {l : PL} (W : Wf h l) : Wf h (l ++ [(5, 0)]) := fun rest t h1 h2 => by
  rw [List.append_assoc]
  refine W _ t h1 ?_
  show Hi 62 ((5, 0) :: rest) (t + 1)
  unfold Hi
  rw [if_neg (by decide), if_pos rfl]
  exact ⟨by omega, h2⟩
theorem Wf_mns {h : Nat} {l : PL} (W : Wf h l) : ∀ n, Wf h (l ++ mns n)
  | 0 => by
    show Wf h (l ++ [])
    rw [List.append_nil]
    exact W
  | n + 1 => by
    show Wf h (l ++ (mns n ++ [(5, 0)]))
    rw [← List.append_assoc]
    exact Wf_mn (Wf_mns W n)
theorem Wf_par {h : Nat} {l : PL} (W : Wf h l) (n : Nat) : Wf h (l ++ par n) := by
  unfold par
  split
  · rw [List.append_nil]; exact W
  · exact Wf_mn W
theorem Wf_up {h h' : Nat} {l : PL} (W : Wf h l) (hh : h ≤ h') : Wf h' l := fun rest t h1 h2 => W rest t (by omega) h2
theorem Wf_bn {h1 h2 : Nat} {l1 l2 : PL} {w : Nat} (hw : 9 ≤ w ∧ w ≤ 12) (W1 : Wf h1 l1) (W2 : Wf h2 l2) (hh : h2 + 1 ≤ h1) : Wf h1 (l1 ++ (l2 ++ [(w, 0)])) := fun rest t a1 a2 => by
  rw [List.append_assoc]
  refine W1 _ t a1 ?_
  rw [List.append_assoc]
  refine W2 _ (t + 1) (by omega) ?_
  show Hi 62 ((w, 0) :: rest) (t + 1 + 1)
  unfold Hi
  rw [if_neg (show ¬ w ≤ 4 by omega), if_neg (show ¬ w = 5 by omega)]
  exact ⟨by omega, a2⟩
theorem Wf_hi {h : Nat} {l : PL} (W : Wf h l) (hh : h ≤ 62) : Hi 62 l 0 := by
  have := W [] 0 (by omega) trivial
  rw [List.append_nil] at this
  exact this
theorem Sp_app {f : MI} : ∀ {l1 l2 : PL} {c : Nat}, Sp f c (l1 ++ l2) ↔ Sp f c l1 ∧ Sp f (c + l1.length) l2
  | [], l2, c => ⟨fun h => ⟨trivial, h⟩, fun h => h.2⟩
  | x :: l1, l2, c => by
    show (f 32 0 c = _ ∧ Sp f (c + 1) (l1 ++ l2)) ↔ (f 32 0 c = _ ∧ Sp f (c + 1) l1) ∧ Sp f (c + (l1.length + 1)) l2
    rw [Sp_app, show c + (l1.length + 1) = c + 1 + l1.length by omega]
    exact ⟨fun h => ⟨⟨h.1, h.2.1⟩, h.2.2⟩, fun h => ⟨h.1.1, h.1.2, h.2⟩⟩
theorem Rpp_app {b : Nat → Nat} {N : Nat} {u : MI} : ∀ {l1 l2 : PL} {k : Nat}, Rpp b N u k (l1 ++ l2) ↔ Rpp b N u k l1 ∧ Rpp b N u (k + l1.length) l2
  | [], l2, k => ⟨fun h => ⟨trivial, h⟩, fun h => h.2⟩
  | x :: l1, l2, k => by
    show (RCp b N u k x ∧ Rpp b N u (k + 1) (l1 ++ l2)) ↔ (RCp b N u k x ∧ Rpp b N u (k + 1) l1) ∧ Rpp b N u (k + (l1.length + 1)) l2
    rw [Rpp_app, show k + (l1.length + 1) = k + 1 + l1.length by omega]
    exact ⟨fun h => ⟨⟨h.1, h.2.1⟩, h.2.2⟩, fun h => ⟨h.1.1, h.1.2, h.2⟩⟩
theorem Sp_lt {f f' : MI} : ∀ {l : PL} {c m : Nat}, (∀ i, i < m → f' 32 0 i = f 32 0 i) → c + l.length ≤ m → Sp f c l → Sp f' c l
  | [], _, _, _, _, _ => trivial
  | x :: l, c, m, h, hm, hs => by
    have hm' : c + (l.length + 1) ≤ m := hm
    exact ⟨(h c (by omega)).trans hs.1, Sp_lt h (by omega) hs.2⟩
theorem RCp_cg {b : Nat → Nat} {N : Nat} {u u' : MI} {k : Nat} {x : Nat × Nat} (h5 : u' 65 0 k = u 65 0 k) (h6 : u' 66 0 k = u 66 0 k) (h7 : u' 67 0 k = u 67 0 k) (h : RCp b N u k x) : RCp b N u' k x := by
  unfold RCp RC at h ⊢
  rw [h5, h6, h7]
  exact h
theorem Rpp_lt {b : Nat → Nat} {N : Nat} {u u' : MI} : ∀ {l : PL} {k m : Nat}, (∀ R i, (R = 65 ∨ R = 66 ∨ R = 67) → i < m → u' R 0 i = u R 0 i) → k + l.length ≤ m → Rpp b N u k l → Rpp b N u' k l
  | [], _, _, _, _, _ => trivial
  | x :: l, k, m, h, hm, hs => by
    have hm' : k + (l.length + 1) ≤ m := hm
    exact ⟨RCp_cg (h 65 k (by omega) (by omega)) (h 66 k (by omega) (by omega)) (h 67 k (by omega) (by omega)) hs.1, Rpp_lt h (by omega) hs.2⟩
theorem mns_len : ∀ n, (mns n).length = n
  | 0 => rfl
  | n + 1 => by
    show (mns n ++ [(5, 0)]).length = n + 1
    rw [List.length_append, mns_len n]
    rfl
theorem par_len (n : Nat) : (par n).length ≤ n ∧ (par n).length ≤ 1 := by
  unfold par
  by_cases z : n % 2 = 0
  · rw [if_pos z]; exact ⟨Nat.zero_le _, Nat.zero_le _⟩
  · rw [if_neg z]
    show 1 ≤ n ∧ 1 ≤ 1
    omega
/-! the names asked in all cells, in all codes -/
def ckC (x : Int32) : List Nat := if x.toNatClampNeg % 32 = 3 then [x.toNatClampNeg / 1024] else []
def nmC (f : MI) : Nat → List Nat
  | 0 => []
  | i + 1 => nmC f i ++ ckC (f 32 0 i)
def nmU (u : MI) : Nat → List Int32
  | 0 => []
  | i + 1 => nmU u i ++ (if u 65 0 i = 7 then [u 66 0 i] else [])
noncomputable def wN (b : Nat → Nat) (N t : Nat) : Int32 := nI (16 * tS b N t + (tE b N t - tS b N t))
/-- a cell that asks no name; any cell -/
def ClN (x : Int32) : Prop := ∃ a v : Nat, a < 32 ∧ v < 2 ^ 24 ∧ a ≠ 3 ∧ x = nI (a + 32 * v)
def ClO (k : Nat) (sg : Nat → Int32) (x : Int32) : Prop := ∃ a v : Nat, a < 32 ∧ v < 2 ^ 24 ∧ x = nI (a + 32 * v) ∧ (a = 3 → v / 32 < k ∧ sg (v / 32) = 300)
def NMI (N k : Nat) (b : Nat → Nat) (sg : Nat → Int32) (f u : MI) (c q : Nat) : Prop := nmU u q = (nmC f c).map (wN b N) ∧ ∀ i, i < c → ClO k sg (f 32 0 i)
theorem ckC_v {a v : Nat} (ha : a < 32) (hv : v < 2 ^ 24) : ckC (nI (a + 32 * v)) = if a = 3 then [v / 32] else [] := by
  unfold ckC
  rw [nI_clamp (by omega)]
  by_cases h : a = 3
  · subst h
    rw [if_pos (by omega), if_pos rfl, show (3 + 32 * v) / 1024 = v / 32 by omega]
  · rw [if_neg (by omega), if_neg h]
theorem nmC_cg {f f2 : MI} : ∀ {c : Nat}, (∀ i, i < c → f2 32 0 i = f 32 0 i) → nmC f2 c = nmC f c
  | 0, _ => rfl
  | c + 1, h => by
    show nmC f2 c ++ ckC (f2 32 0 c) = nmC f c ++ ckC (f 32 0 c)
    rw [nmC_cg (fun i hi => h i (by omega)), h c (by omega)]
theorem nmU_cg {u u2 : MI} : ∀ {q : Nat}, (∀ R i, (R = 65 ∨ R = 66 ∨ R = 67) → i < q → u2 R 0 i = u R 0 i) → nmU u2 q = nmU u q
  | 0, _ => rfl
  | q + 1, h => by
    show nmU u2 q ++ (if u2 65 0 q = 7 then [u2 66 0 q] else []) = nmU u q ++ (if u 65 0 q = 7 then [u 66 0 q] else [])
    rw [nmU_cg (fun R i hR hi => h R i hR (by omega)), h 65 q (by omega) (by omega), h 66 q (by omega) (by omega)]
theorem ClN.ck {x : Int32} (h : ClN x) : ckC x = [] := by
  obtain ⟨a, v, h1, h2, h3, rfl⟩ := h
  rw [ckC_v h1 h2, if_neg h3]
theorem ClN.o {k : Nat} {sg : Nat → Int32} {x : Int32} (h : ClN x) : ClO k sg x := by
  obtain ⟨a, v, h1, h2, h3, h4⟩ := h
  exact ⟨a, v, h1, h2, h4, fun e => absurd e h3⟩
theorem ClN_v {a : Nat} (ha : a < 32) (h3 : a ≠ 3) (v : Nat) (hv : v < 2 ^ 24) : ClN (nI (a + 32 * v)) := ⟨a, v, ha, hv, h3, rfl⟩
theorem NMI_cg {N k : Nat} {b : Nat → Nat} {sg : Nat → Int32} {f f2 u u2 : MI} {c q : Nat} (h : NMI N k b sg f u c q) (hf : ∀ i, i < c → f2 32 0 i = f 32 0 i) (hu : ∀ R i, (R = 65 ∨ R = 66 ∨ R = 67) → i < q → u2 R 0 i = u R 0 i) : NMI N k b sg f2 u2 c q := by
  refine ⟨?_, fun i hi => by rw [hf i hi]; exact h.2 i hi⟩
  rw [nmC_cg hf, nmU_cg hu]
  exact h.1
theorem NMI_c1 {N k : Nat} {b : Nat → Nat} {sg : Nat → Int32} {f f2 u u2 : MI} {c q : Nat} (h : NMI N k b sg f u c q) (hf : ∀ i, i < c → f2 32 0 i = f 32 0 i) (hc : ClN (f2 32 0 c)) (hu : ∀ R i, (R = 65 ∨ R = 66 ∨ R = 67) → i < q → u2 R 0 i = u R 0 i) : NMI N k b sg f2 u2 (c + 1) q := by
  have h' := NMI_cg h hf hu
  refine ⟨?_, fun i hi => ?_⟩
  · show nmU u2 q = (nmC f2 c ++ ckC (f2 32 0 c)).map (wN b N)
    rw [hc.ck, List.append_nil]
    exact h'.1
  · by_cases e : i = c
    · rw [e]; exact hc.o
    · exact h'.2 i (by omega)
theorem NMI_par {N k : Nat} {b : Nat → Nat} {sg : Nat → Int32} {f u : MI} {c q m : Nat} (h : NMI N k b sg f u c q) (p : (m % 2 == 1) = true → f 32 0 c = 6) : NMI N k b sg f u (c + (bif m % 2 == 1 then 1 else 0)) q := by
  cases hm : (m % 2 == 1) with
  | false => exact h
  | true => exact NMI_c1 h (fun _ _ => rfl) (by rw [p hm]; exact ClN_v (a := 6) (by decide) (by decide) 0 (by decide)) (fun _ _ _ _ => rfl)
theorem okp_r {k : Nat} {sg : Nat → Int32} {x : Nat × Nat} (hk : k ≤ 4001) (h : okp k sg x) : x.1 < 32 ∧ x.2 < 2 ^ 24 ∧ x.1 ≤ 12 := by
  unfold okp at h
  omega
theorem nmC_sp {k : Nat} {sg : Nat → Int32} {f : MI} (hk : k ≤ 4001) : ∀ {l : PL} {c : Nat}, Sp f c l → (∀ x ∈ l, okp k sg x) → nmC f (c + l.length) = nmC f c ++ asks l
  | [], c, _, _ => by
    show nmC f c = nmC f c ++ []
    rw [List.append_nil]
  | x :: l, c, ⟨h1, h2⟩, ho => by
    obtain ⟨r1, r2, -⟩ := okp_r hk (ho x List.mem_cons_self)
    rw [show c + (x :: l).length = (c + 1) + l.length by rw [List.length_cons]; omega, nmC_sp hk h2 (fun y hy => ho y (List.mem_cons_of_mem _ hy))]
    show (nmC f c ++ ckC (f 32 0 c)) ++ asks l = nmC f c ++ (if x.1 = 3 then x.2 / 32 :: asks l else asks l)
    rw [h1, ckC_v r1 r2, List.append_assoc]
    by_cases h : x.1 = 3
    · rw [if_pos h, if_pos h]; rfl
    · rw [if_neg h, if_neg h]; rfl
theorem nmU_rp {k : Nat} {sg : Nat → Int32} {N : Nat} {b : Nat → Nat} {u : MI} (hk : k ≤ 4001) : ∀ {l : PL} {q : Nat}, Rpp b N u q l → (∀ x ∈ l, okp k sg x) → nmU u (q + l.length) = nmU u q ++ (asks l).map (wN b N)
  | [], q, _, _ => by
    show nmU u q = nmU u q ++ []
    rw [List.append_nil]
  | x :: l, q, ⟨h1, h2⟩, ho => by
    obtain ⟨r1, r2, r3⟩ := okp_r hk (ho x List.mem_cons_self)
    rw [show q + (x :: l).length = (q + 1) + l.length by rw [List.length_cons]; omega, nmU_rp hk h2 (fun y hy => ho y (List.mem_cons_of_mem _ hy))]
    show (nmU u q ++ (if u 65 0 q = 7 then [u 66 0 q] else [])) ++ (asks l).map (wN b N) = nmU u q ++ (if x.1 = 3 then x.2 / 32 :: asks l else asks l).map (wN b N)
    rw [List.append_assoc]
    rcases h1 with ⟨h3, h4⟩ | ⟨h3, h4, h5, -⟩
    · have n7 : ¬ u 65 0 q = 7 := by
        rcases h4 with ⟨-, e, -⟩ | ⟨-, -, e, -⟩ | ⟨-, -, e⟩ | ⟨-, -, e⟩ | ⟨-, -, e⟩ | ⟨-, -, e, -⟩ | ⟨e, -⟩ | ⟨-, e⟩ | ⟨e1, e⟩
        · rw [e]; decide
        · rw [e]; decide
        · rw [e]; decide
        · rw [e]; decide
        · rw [e]; decide
        · rw [e]; decide
        · exact absurd e h3
        · rw [e]; decide
        · rw [e]
          exact fun y => by have := (nI_eq (a := x.1) (b := 7) (by omega) (by omega)).mp y; omega
      rw [if_neg n7, if_neg h3]
      rfl
    · rw [if_pos h4, if_pos h3, h5]
      rfl
section Fpl
variable {L : Nat} {xs : Nat → Int32} {d : Nat} {g : MR} {X : ML × (Nat → Nat) × Nat × Nat} {Y : MR × ML × (Nat → Nat) × Nat × Nat} {f u : MI}
theorem c_put {c w v : Nat} (hc : f 10 0 3 = nI c) (h : c < 4001) (hw : w < 32) (hv : v < 2 ^ 24) : EL (mP L xs) (d + 1) 68 [rv 10 (some 0), iv (nI w), iv (nI v)] (f, g, X) = some (.inl none, (m3 (m3 f 32 0 c (nI (w + 32 * v))) 10 0 3 (nI (c + 1)), g, X)) := by
  rw [E_Code_put]
  simp only [hc, if_pos (show nI c < 4001 from nI_lt (b := 4001) h (by decide)), if_neg (nin h (show 4001 < 2 ^ 31 by decide)), nI_clamp (show c < 2 ^ 31 by omega), nI_or hw hv]
  rw [show ∀ x, (m3 f 32 0 c x) 10 0 3 = nI c from fun x => (m3_r (by decide)).trans hc, nI_1]
/-- a cell more, or none where there is no room -/
theorem c_putE {c : Nat} (hc : f 10 0 3 = nI c) (h : c ≤ 4001) (w v : Int32) : ∃ f2 c2, (∀ d g X, EL (mP L xs) (d + 1) 68 [rv 10 (some 0), iv w, iv v] (f, g, X) = some (.inl none, (f2, g, X))) ∧ f2 10 0 3 = nI c2 ∧ c ≤ c2 ∧ c2 ≤ 4001 ∧ ∀ R o i, ¬ ((R = 32 ∧ c ≤ i) ∨ (R = 10 ∧ i = 3)) → f2 R o i = f R o i := by
  by_cases z : c < 4001
  · refine ⟨m3 (m3 f 32 0 c (w ||| (v <<< ((5 : Int32) &&& 31)))) 10 0 3 (nI (c + 1)), c + 1, fun d g X => ?_, m3_eq, by omega, by omega, fun R o i hR => by rw [m3_no (by omega), m3_no (by omega)]⟩
    rw [E_Code_put]
    simp only [hc, if_pos (show nI c < 4001 from nI_lt (b := 4001) z (by decide)), if_neg (nin z (show 4001 < 2 ^ 31 by decide)), nI_clamp (show c < 2 ^ 31 by omega)]
    rw [show ∀ x, (m3 f 32 0 c x) 10 0 3 = nI c from fun x => (m3_r (by decide)).trans hc, nI_1]
  · refine ⟨f, c, fun d g X => ?_, hc, Nat.le_refl c, h, fun _ _ _ _ => rfl⟩
    rw [E_Code_put]
    simp only [hc]
    rw [if_neg (show ¬ nI c < 4001 from nI_nlt (a := c) (b := 4001) (by omega) (by omega))]
theorem r_new {q : Nat} (hq : u 22 0 45 = nI q) (h : q < 9000) (a1 a2 a3 : Int32) : EL (mP L xs) (d + 1) 111 [rv 22 (some 0), iv a1, iv a2, iv a3] (u, Y) = some (.inl none, (m3 (m3 (m3 (m3 u 65 0 q a1) 66 0 q a2) 67 0 q a3) 22 0 45 (nI (q + 1)), Y)) := by
  have e1 : (m3 u 65 0 q a1) 22 0 45 = nI q := (m3_r (by decide)).trans hq
  have e2 : (m3 (m3 u 65 0 q a1) 66 0 q a2) 22 0 45 = nI q := (m3_r (by decide)).trans e1
  have e3 : (m3 (m3 (m3 u 65 0 q a1) 66 0 q a2) 67 0 q a3) 22 0 45 = nI q := (m3_r (by decide)).trans e2
  rw [E_Ref_newCode]
  simp only [hq, if_neg (nin h (show 9000 < 2 ^ 31 by decide)), nI_clamp (show q < 2 ^ 31 by omega), e1, e2, e3, nI_1]
end Fpl
