/-! ===== read: names of rides are settled (both sides; what formulas say then) ===== -/
noncomputable def rdn (b : Nat → Nat) (N cn : Nat) (nt ns nn : Nat → Nat) (t : Nat) : Nat := @dite _ (∃ i, i < cn ∧ ns i = 2 ∧ same b N (nt i) t) (Classical.propDecidable _) (fun h => nn (Classical.choose h)) (fun _ => 0)
noncomputable def psi (b : Nat → Nat) (N cn : Nat) (nt ns nn : Nat → Nat) (x : Nat × Nat) : Nat × Nat := if x.1 = 3 then (3, 32 * rdn b N cn nt ns nn (x.2 / 32) + x.2 % 32) else x
/-- what settling does -/
def STD (N k : Nat) (b : Nat → Nat) (sg : Nat → Int32) (cn : Nat) (nt ns nn : Nat → Nat) (c q : Nat) (f u f2 u2 : MI) : Prop := (∀ x, x < c → SetC b N cn nt ns nn (f 32 0 x) (f2 32 0 x)) ∧ (∀ x, x < q → u 65 0 x = 7 → ∃ t, t < k ∧ sg t = 300 ∧ u 66 0 x = wN b N t ∧ ∃ i, i < cn ∧ ns i = 2 ∧ same b N (nt i) t ∧ u2 66 0 x = nI (nn i)) ∧ (∀ x, x < q → ¬ u 65 0 x = 7 → u2 66 0 x = u 66 0 x) ∧ (∀ R o x, ¬ (R = 66 ∨ (R = 22 ∧ (x = 12 ∨ x = 13))) → u2 R o x = u R o x)
theorem STD.sc {N k : Nat} {b : Nat → Nat} {sg : Nat → Int32} {cn : Nat} {nt ns nn : Nat → Nat} {c q : Nat} {f u f2 u2 : MI} (x : STD N k b sg cn nt ns nn c q f u f2 u2) : ∀ x, x < c → SetC b N cn nt ns nn (f 32 0 x) (f2 32 0 x) := x.1
theorem STD.su {N k : Nat} {b : Nat → Nat} {sg : Nat → Int32} {cn : Nat} {nt ns nn : Nat → Nat} {c q : Nat} {f u f2 u2 : MI} (x : STD N k b sg cn nt ns nn c q f u f2 u2) : ∀ x, x < q → u 65 0 x = 7 → ∃ t, t < k ∧ sg t = 300 ∧ u 66 0 x = wN b N t ∧ ∃ i, i < cn ∧ ns i = 2 ∧ same b N (nt i) t ∧ u2 66 0 x = nI (nn i) := x.2.1
theorem STD.sn {N k : Nat} {b : Nat → Nat} {sg : Nat → Int32} {cn : Nat} {nt ns nn : Nat → Nat} {c q : Nat} {f u f2 u2 : MI} (x : STD N k b sg cn nt ns nn c q f u f2 u2) : ∀ x, x < q → ¬ u 65 0 x = 7 → u2 66 0 x = u 66 0 x := x.2.2.1
theorem STD.fr {N k : Nat} {b : Nat → Nat} {sg : Nat → Int32} {cn : Nat} {nt ns nn : Nat → Nat} {c q : Nat} {f u f2 u2 : MI} (x : STD N k b sg cn nt ns nn c q f u f2 u2) : ∀ R o x, ¬ (R = 66 ∨ (R = 22 ∧ (x = 12 ∨ x = 13))) → u2 R o x = u R o x := x.2.2.2
theorem first_uniq {α : Type} {P : α → Prop} : ∀ {l1 l1' l2 l2' : List α} {a a' : α}, l1 ++ a :: l2 = l1' ++ a' :: l2' → (∀ x ∈ l1, P x) → ¬ P a → (∀ x ∈ l1', P x) → ¬ P a' → a = a'
  | [], [], _, _, _, _, h, _, _, _, _ => by injection h
  | [], y :: l, _, _, a, a', h, _, h2, h3, _ => by
    injection h with h _
    exact absurd (h3 y List.mem_cons_self) (by rw [← h]; exact h2)
  | y :: l, [], _, _, a, a', h, h1, _, _, h4 => by
    injection h with h _
    exact absurd (h1 y List.mem_cons_self) (by rw [h]; exact h4)
  | x :: l, y :: l', l2, l2', a, a', h, h1, h2, h3, h4 => by
    injection h with _ h
    exact first_uniq h (fun z hz => h1 z (List.mem_cons_of_mem _ hz)) h2 (fun z hz => h3 z (List.mem_cons_of_mem _ hz)) h4
theorem nmC_split {f : MI} {x : Nat} : ∀ {c : Nat}, x < c → ∃ l2, nmC f c = nmC f x ++ (ckC (f 32 0 x) ++ l2)
  | 0, h => absurd h (Nat.not_lt_zero x)
  | c + 1, h => by
    by_cases e : x = c
    · subst e
      exact ⟨[], by rw [List.append_nil]; rfl⟩
    · obtain ⟨l2, h2⟩ := nmC_split (f := f) (x := x) (c := c) (by omega)
      refine ⟨l2 ++ ckC (f 32 0 c), ?_⟩
      show nmC f c ++ ckC (f 32 0 c) = _
      rw [h2, List.append_assoc, List.append_assoc]
theorem nmU_split {u : MI} {x : Nat} : ∀ {q : Nat}, x < q → ∃ l2, nmU u q = nmU u x ++ ((if u 65 0 x = 7 then [u 66 0 x] else []) ++ l2)
  | 0, h => absurd h (Nat.not_lt_zero x)
  | q + 1, h => by
    by_cases e : x = q
    · subst e
      exact ⟨[], by rw [List.append_nil]; rfl⟩
    · obtain ⟨l2, h2⟩ := nmU_split (u := u) (x := x) (q := q) (by omega)
      refine ⟨l2 ++ (if u 65 0 q = 7 then [u 66 0 q] else []), ?_⟩
      show nmU u q ++ (if u 65 0 q = 7 then [u 66 0 q] else []) = _
      rw [h2, List.append_assoc, List.append_assoc]
theorem nmC_mem {f : MI} {t : Nat} : ∀ {c : Nat}, t ∈ nmC f c → ∃ x, x < c ∧ t ∈ ckC (f 32 0 x)
  | 0, h => by cases h
  | c + 1, h => by
    rcases List.mem_append.mp h with h | h
    · obtain ⟨x, h1, h2⟩ := nmC_mem h
      exact ⟨x, by omega, h2⟩
    · exact ⟨c, Nat.lt_succ_self c, h⟩
theorem nmU_mem {u : MI} {w : Int32} : ∀ {q : Nat}, w ∈ nmU u q → ∃ x, x < q ∧ u 65 0 x = 7 ∧ w = u 66 0 x
  | 0, h => by cases h
  | q + 1, h => by
    rcases List.mem_append.mp h with h | h
    · obtain ⟨x, h1, h2⟩ := nmU_mem h
      exact ⟨x, by omega, h2⟩
    · by_cases e : u 65 0 q = 7
      · rw [if_pos e] at h
        exact ⟨q, Nat.lt_succ_self q, e, List.mem_singleton.mp h⟩
      · rw [if_neg e] at h
        cases h
theorem nmU_in {u : MI} {x q : Nat} (h : x < q) (h7 : u 65 0 x = 7) : u 66 0 x ∈ nmU u q := by
  obtain ⟨l2, e⟩ := nmU_split (u := u) h
  rw [e, if_pos h7]
  exact List.mem_append_right _ (List.mem_append_left _ List.mem_cons_self)
section Sl2
variable {L : Nat} {xs : Nat → Int32} {d : Nat} {g : MR} {X : ML × (Nat → Nat) × Nat × Nat} {Y : MR × ML × (Nat → Nat) × Nat × Nat} {N k t c q cn n : Nat} {b : Nat → Nat} {sg : Nat → Int32} {f f2 u u2 : MI} {nt ns nn : Nat → Nat}
theorem cl_tok {x : Int32} {t : Nat} (h : ClO k sg x) (ht : t ∈ ckC x) : t < k ∧ sg t = 300 := by
  obtain ⟨a, v, ha, hv, rfl, h3⟩ := h
  rw [ckC_v ha hv] at ht
  by_cases e : a = 3
  · rw [if_pos e] at ht
    rw [List.mem_singleton.mp ht]
    exact h3 e
  · rw [if_neg e] at ht
    cases ht
theorem wN_same (C : LC f N b k sg) {t t' : Nat} (h1 : t < k) (h2 : sg t = 300) (h1' : t' < k) (h2' : sg t' = 300) (h : wN b N t = wN b N t') : tS b N t = tS b N t' ∧ same b N t t' := by
  have a := wN_v C h1 h2
  have a' := wN_v C h1' h2'
  have l := tS_le (t := t) C
  have l' := tS_le (t := t') C
  have hN := C.tc.nl
  rw [h] at a
  have e1 := (nI_eq (by omega) (by omega)).mp (a.1.symm.trans a'.1)
  have e2 := (nI_eq (by omega) (by omega)).mp (a.2.symm.trans a'.2)
  refine ⟨e1, e2, fun i hi => by rw [e1]⟩
theorem rdn_v (df : ∀ i j, i < cn → j < cn → same b N (nt i) (nt j) → i = j) {i : Nat} (h1 : i < cn) (h2 : ns i = 2) (h3 : same b N (nt i) t) : rdn b N cn nt ns nn t = nn i := by
  have h : ∃ i, i < cn ∧ ns i = 2 ∧ same b N (nt i) t := ⟨i, h1, h2, h3⟩
  unfold rdn
  rw [dif_pos h]
  have s := Classical.choose_spec h
  rw [df _ _ s.1 h1 (same_tr s.2.2 (same_sy h3))]
/-- both settle -/
theorem ex_settle (C : LC f N b k sg) (M : NC f k sg cn nt ns nn) (T : TU u N b) (Z : NU u N k b sg cn nt ns nn) (f7 : f 20 0 7 = 0) (u12 : u 22 0 12 = 0) (hc3 : f 10 0 3 = nI c) (hc : c ≤ 4001) (h45 : u 22 0 45 = nI q) (hq : q ≤ 9000) (I : NMI N k b sg f u c q) :
    ∃ f2 u2, (∀ d g X, 6 ≤ d → EL (mP L xs) d 85 [rv 13 (some 0)] (f, g, X) = some (.inl none, (f2, g, X))) ∧ (∀ d z2, 5 ≤ d → RL (mP L xs) d 128 50 [some (rv 22 (some 0)), some (iv 0), z2] [] (u, Y) = some (.inl none, (u2, Y))) ∧ (∀ R o x, ¬ (R = 32 ∨ R = 34 ∨ R = 20) → f2 R o x = f R o x) ∧ (∀ R o x, ¬ (R = 66 ∨ (R = 22 ∧ (x = 12 ∨ x = 13))) → u2 R o x = u R o x) ∧
      ((f2 20 0 7 = 0 ∧ f2 20 0 8 = f 20 0 8 ∧ u2 22 0 12 = 0 ∧ u2 22 0 13 = u 22 0 13 ∧ STD N k b sg cn nt ns nn c q f u f2 u2) ∨ BAD f2 u2) := by
  obtain ⟨I1, I2⟩ := I
  have good : ∀ t ∈ nmC f c, t < k ∧ sg t = 300 := fun t ht => by
    obtain ⟨x, h1, h2⟩ := nmC_mem ht
    exact cl_tok (I2 x h1) h2
  have hcode : ∀ x, x < q → u 65 0 x = 7 → ∃ t, t ∈ nmC f c ∧ u 66 0 x = wN b N t := fun x h1 h7 => by
    have := nmU_in h1 h7
    rw [I1] at this
    obtain ⟨t, h2, h3⟩ := List.mem_map.mp this
    exact ⟨t, h2, h3.symm⟩
  obtain ⟨f2, a1, a2, a3⟩ := c_stl (L := L) (xs := xs) Z.df C M f7 hc3 hc I2
  obtain ⟨u2, b1, b2, b3⟩ := fsl_loop (L := L) (xs := xs) (Y := Y) (nn := nn) C q 0 u (by omega) hq T Z h45 u12 (fun x _ h1 h7 => by
    obtain ⟨t, h2, h3⟩ := hcode x h1 h7
    exact ⟨t, (good t h2).1, (good t h2).2, h3⟩)
  have okw : ∀ t, t < k → sg t = 300 → okU b N k sg cn nt ns (wN b N t) → okN b N cn nt ns t := fun t h1 h2 ⟨t', j1, j2, j3, i, j4, j5, j6⟩ => ⟨i, j4, j5, same_tr j6 (same_sy (wN_same C h1 h2 j1 j2 j3).2)⟩
  refine ⟨f2, u2, a1, b1, a2, fun R o x h => b2 R o x (by omega), ?_⟩
  rcases a3 with ⟨c1, c2⟩ | ⟨x, t, c1, c2, c3, c4, c5⟩
  · rcases b3 with ⟨e1, e13, e2, e3⟩ | ⟨y, t', e1, e2, e3, e4, e5, e6, e7, e8, e9⟩
    · exact Or.inl ⟨(c1 20 0 7 (Or.inr rfl)).trans f7, c1 20 0 8 (Or.inr rfl), e1, e13, c2, fun x h => e2 x (Nat.zero_le x) h, fun x h => e3 x (Nat.zero_le x) h, fun R o x h => b2 R o x (by omega)⟩
    · exfalso
      obtain ⟨t2, h2, h3⟩ := hcode y e2 e4
      obtain ⟨x, h4, h5⟩ := nmC_mem h2
      obtain ⟨a, v, ha, hv, hx, hcase⟩ := c2 x h4
      rw [hx, ckC_v ha hv] at h5
      rcases hcase with ⟨h6, -⟩ | ⟨h6, i, j1, j2, j3, -⟩
      · rw [if_neg h6] at h5
        cases h5
      · rw [if_pos h6] at h5
        have := List.mem_singleton.mp h5
        subst this
        have gd := good _ h2
        exact e8 (okw t' e5 e6 ⟨v / 32, gd.1, gd.2, e7.symm.trans h3, i, j1, j2, j3⟩)
  · have ht : t ∈ nmC f c := by
      obtain ⟨l2, h⟩ := nmC_split (f := f) c1
      rw [h, c3]
      exact List.mem_append_right _ (List.mem_append_left _ List.mem_cons_self)
    obtain ⟨t1, t2⟩ := good t ht
    rcases b3 with ⟨e1, e13, e2, e3⟩ | ⟨y, t', e1, e2, e3, e4, e5, e6, e7, e8, e9, e10⟩
    · exfalso
      have : wN b N t ∈ nmU u q := by
        rw [I1]
        exact List.mem_map.mpr ⟨t, ht, rfl⟩
      obtain ⟨y, h1, h2, h3⟩ := nmU_mem this
      obtain ⟨t', j1, j2, j3, i, j4, j5, j6, -⟩ := e2 y (Nat.zero_le y) h1 h2
      exact c4 (okw t t1 t2 ⟨t', j1, j2, h3.trans j3, i, j4, j5, j6⟩)
    · right
      obtain ⟨l2, h1⟩ := nmC_split (f := f) c1
      obtain ⟨l2', h2⟩ := nmU_split (u := u) e2
      rw [I1, h1, c3, if_pos e4, e7, List.map_append, List.map_append] at h2
      have h3 : (nmC f x).map (wN b N) ++ wN b N t :: l2.map (wN b N) = nmU u y ++ wN b N t' :: l2' := h2
      have e := first_uniq (P := okU b N k sg cn nt ns) h3 (fun w hw => by
        obtain ⟨t3, h4, rfl⟩ := List.mem_map.mp hw
        obtain ⟨x', h5, h6⟩ := nmC_mem h4
        have gd := cl_tok (I2 x' (by omega)) h6
        exact ⟨t3, gd.1, gd.2, rfl, c2 x' h5 t3 h6⟩) (fun h => c4 (okw t t1 t2 h)) (fun w hw => by
        obtain ⟨x', h5, h6, rfl⟩ := nmU_mem hw
        exact e3 x' (Nat.zero_le x') h5 h6) (fun h => e8 (okw t' e5 e6 h))
      have hp := (wN_same C t1 t2 e5 e6 e).1
      exact ⟨3, nI (tS b N t), c5, e9, by rw [hp]; exact e10⟩
/-! what formulas say then -/
theorem RC_n7 {x : Nat × Nat} {j : Nat} (h3 : x.1 ≠ 3) (h12 : x.1 ≤ 12) (h : RC u j x) : ¬ u 65 0 j = 7 := by
  rcases h with ⟨-, e, -⟩ | ⟨-, -, e, -⟩ | ⟨-, -, e⟩ | ⟨-, -, e⟩ | ⟨-, -, e⟩ | ⟨-, -, e, -⟩ | ⟨e, -⟩ | ⟨-, e⟩ | ⟨e1, e⟩
  · rw [e]; decide
  · rw [e]; decide
  · rw [e]; decide
  · rw [e]; decide
  · rw [e]; decide
  · rw [e]; decide
  · exact absurd e h3
  · rw [e]; decide
  · rw [e]
    exact fun y => by have := (nI_eq (a := x.1) (b := 7) (by omega) (by omega)).mp y; omega
theorem RC_cg {x : Nat × Nat} {j : Nat} (h5 : u2 65 0 j = u 65 0 j) (h6 : u2 66 0 j = u 66 0 j) (h7 : u2 67 0 j = u 67 0 j) (h : RC u j x) : RC u2 j x := by
  unfold RC at h ⊢
  rw [h5, h6, h7]
  exact h
theorem psi_1 {x : Nat × Nat} : (psi b N cn nt ns nn x).1 = x.1 := by
  unfold psi
  by_cases h : x.1 = 3
  · rw [if_pos h, h]
  · rw [if_neg h]
theorem ev_map {μ : Nat × Nat → Int32} {p : Nat × Nat → Nat × Nat} (hp : ∀ x, (p x).1 = x.1) : ∀ (l : PL) (st : List Int32), ev μ (l.map p) st = ev (fun x => μ (p x)) l st
  | [], st => rfl
  | x :: l, st => by
    show ev μ (p x :: l.map p) st = ev (fun x => μ (p x)) (x :: l) st
    unfold ev
    rw [hp x]
    by_cases h1 : x.1 ≤ 4
    · rw [if_pos h1, if_pos h1]
      exact ev_map hp l _
    · rw [if_neg h1, if_neg h1]
      by_cases h2 : x.1 = 5
      · rw [if_pos h2, if_pos h2]
        cases st with
        | nil => rfl
        | cons y s => exact ev_map hp l _
      · rw [if_neg h2, if_neg h2]
        match st with
        | [] => rfl
        | [_] => rfl
        | y :: z :: s =>
          show (if x.1 = 12 ∧ y = 0 then none else ev μ (l.map p) (bop x.1 z y :: s)) = (if x.1 = 12 ∧ y = 0 then none else ev (fun x => μ (p x)) l (bop x.1 z y :: s))
          by_cases h3 : x.1 = 12 ∧ y = 0
          · rw [if_pos h3, if_pos h3]
          · rw [if_neg h3, if_neg h3]
            exact ev_map hp l _
theorem Hi_map {p : Nat × Nat → Nat × Nat} (hp : ∀ x, (p x).1 = x.1) : ∀ (l : PL) (t : Nat), Hi 62 l t → Hi 62 (l.map p) t
  | [], _, _ => trivial
  | x :: l, t, h => by
    show Hi 62 (p x :: l.map p) t
    unfold Hi at h ⊢
    rw [hp x]
    by_cases h1 : x.1 ≤ 4
    · rw [if_pos h1] at h ⊢
      exact ⟨h.1, Hi_map hp l _ h.2⟩
    · rw [if_neg h1] at h ⊢
      by_cases h2 : x.1 = 5
      · rw [if_pos h2] at h ⊢
        exact ⟨h.1, Hi_map hp l _ h.2⟩
      · rw [if_neg h2] at h ⊢
        exact ⟨h.1, Hi_map hp l _ h.2⟩
theorem Same_map {p : Nat × Nat → Nat × Nat} (hp : ∀ x, (p x).1 = x.1) {lc lr : PL} (h : Same lc lr) : Same (lc.map p) (lr.map p) := by
  obtain ⟨φ, h⟩ := h
  refine ⟨fun μ => φ (fun x => μ (p x)), fun μ st => ?_⟩
  rw [ev_map hp, ev_map hp]
  exact h _ st
theorem okp_okc (hr : ∀ i, i < cn → ns i = 2 → nn i < n) (df : ∀ i j, i < cn → j < cn → same b N (nt i) (nt j) → i = j) {x : Nat × Nat} (h : okp k sg x) (hx : x.1 = 3 → ∃ i, i < cn ∧ ns i = 2 ∧ same b N (nt i) (x.2 / 32)) : okc n (psi b N cn nt ns nn x) := by
  unfold okp at h
  unfold okc psi
  by_cases h3 : x.1 = 3
  · obtain ⟨i, i1, i2, i3⟩ := hx h3
    have e := rdn_v (nn := nn) df i1 i2 i3
    have hn := hr i i1 i2
    rw [if_pos h3, e]
    right; right; left
    rcases h with ⟨h, -⟩ | ⟨h, -⟩ | ⟨-, -, -, h4, h5⟩ | ⟨h, -⟩ | ⟨h, -⟩
    · omega
    · omega
    · refine ⟨rfl, ?_, ?_, ?_⟩ <;> simp only <;> omega
    · omega
    · omega
  · rw [if_neg h3]
    rcases h with h | h | ⟨h, -⟩ | h | h
    · exact Or.inl h
    · exact Or.inr (Or.inl h)
    · exact absurd h h3
    · exact Or.inr (Or.inr (Or.inr (Or.inl h)))
    · exact Or.inr (Or.inr (Or.inr (Or.inr h)))
theorem Sp_stl (S : STD N k b sg cn nt ns nn c q f u f2 u2) (df : ∀ i j, i < cn → j < cn → same b N (nt i) (nt j) → i = j) (hk : k ≤ 4001) : ∀ (l : PL) (j : Nat), j + l.length ≤ c → Sp f j l → (∀ x ∈ l, okp k sg x) → Sp f2 j (l.map (psi b N cn nt ns nn)) ∧ ∀ x ∈ l, x.1 = 3 → ∃ i, i < cn ∧ ns i = 2 ∧ same b N (nt i) (x.2 / 32)
  | [], _, _, _, _ => ⟨trivial, fun x hx => by cases hx⟩
  | x :: l, j, hj, ⟨h1, h2⟩, ho => by
    rw [List.length_cons] at hj
    obtain ⟨r1, r2, -⟩ := okp_r hk (ho x List.mem_cons_self)
    obtain ⟨a, v, ha, hv, hx, hcase⟩ := S.sc j (by omega)
    rw [h1] at hx
    have e := (nI_eq (by omega) (by omega)).mp hx
    have ea : a = x.1 := by omega
    have ev' : v = x.2 := by omega
    subst ea; subst ev'
    obtain ⟨i1, i2⟩ := Sp_stl S df hk l (j + 1) (by omega) h2 (fun y hy => ho y (List.mem_cons_of_mem _ hy))
    refine ⟨⟨?_, i1⟩, fun y hy => ?_⟩
    · unfold psi
      rcases hcase with ⟨h3, h4⟩ | ⟨h3, i, j1, j2, j3, h4⟩
      · rw [if_neg h3, h4, h1]
      · rw [if_pos h3, h4, rdn_v (nn := nn) df j1 j2 j3]
    · rcases List.mem_cons.mp hy with rfl | hy
      · intro h3
        rcases hcase with ⟨h4, -⟩ | ⟨-, i, j1, j2, j3, -⟩
        · exact absurd h3 h4
        · exact ⟨i, j1, j2, j3⟩
      · exact i2 y hy
theorem Rp_stl (C : LC f N b k sg) (S : STD N k b sg cn nt ns nn c q f u f2 u2) (df : ∀ i j, i < cn → j < cn → same b N (nt i) (nt j) → i = j) : ∀ (l : PL) (j : Nat), j + l.length ≤ q → Rpp b N u j l → (∀ x ∈ l, okp k sg x) → Rp u2 j (l.map (psi b N cn nt ns nn)) ∧ ∀ x ∈ l, x.1 = 3 → ∃ i, i < cn ∧ ns i = 2 ∧ same b N (nt i) (x.2 / 32)
  | [], _, _, _, _ => ⟨trivial, fun x hx => by cases hx⟩
  | x :: l, j, hj, ⟨h1, h2⟩, ho => by
    rw [List.length_cons] at hj
    have ox := ho x List.mem_cons_self
    obtain ⟨r1, r2, r3⟩ := okp_r C.kp.2 ox
    obtain ⟨i1, i2⟩ := Rp_stl C S df l (j + 1) (by omega) h2 (fun y hy => ho y (List.mem_cons_of_mem _ hy))
    have e65 : u2 65 0 j = u 65 0 j := S.fr 65 0 j (by omega)
    have e67 : u2 67 0 j = u 67 0 j := S.fr 67 0 j (by omega)
    have key : RC u2 j (psi b N cn nt ns nn x) ∧ (x.1 = 3 → ∃ i, i < cn ∧ ns i = 2 ∧ same b N (nt i) (x.2 / 32)) := by
      rcases h1 with ⟨h3, h4⟩ | ⟨h3, h4, h5, h6⟩
      · refine ⟨?_, fun e => absurd e h3⟩
        unfold psi
        rw [if_neg h3]
        exact RC_cg e65 (S.sn j (by omega) (RC_n7 h3 r3 h4)) e67 h4
      · obtain ⟨t, t1, t2, t3, i, j1, j2, j3, j4⟩ := S.su j (by omega) h4
        have hs : x.2 / 32 < k ∧ sg (x.2 / 32) = 300 := by
          unfold okp at ox
          rcases ox with ⟨o, -⟩ | ⟨o, -⟩ | ⟨-, o1, o2, -⟩ | ⟨o, -⟩ | ⟨o, -⟩
          · omega
          · omega
          · exact ⟨o1, o2⟩
          · omega
          · omega
        have hsm := (wN_same C hs.1 hs.2 t1 t2 (h5.symm.trans t3)).2
        have hs3 : same b N (nt i) (x.2 / 32) := same_tr j3 (same_sy hsm)
        refine ⟨?_, fun _ => ⟨i, j1, j2, hs3⟩⟩
        unfold psi
        rw [if_pos h3, rdn_v (nn := nn) df j1 j2 hs3]
        right; right; right; right; right; right; left
        refine ⟨rfl, e65.trans h4, ?_, ?_⟩
        · rw [j4]
          congr 1
          simp only
          omega
        · rw [e67, h6]
          congr 1
          simp only
          omega
    refine ⟨⟨key.1, i1⟩, fun y hy => ?_⟩
    rcases List.mem_cons.mp hy with rfl | hy
    · exact key.2
    · exact i2 y hy
theorem FE_stl (C : LC f N b k sg) (S : STD N k b sg cn nt ns nn c q f u f2 u2) (df : ∀ i j, i < cn → j < cn → same b N (nt i) (nt j) → i = j) (hr : ∀ i, i < cn → ns i = 2 → nn i < n) {c0 c1 ka : Nat} {lc lr : PL} (F : FEp N k b sg f u c0 c1 ka lc lr) (h1 : c1 ≤ c) (h2 : ka + lr.length < q) : FE f2 u2 n c0 c1 ka (lc.map (psi b N cn nt ns nn)) (lr.map (psi b N cn nt ns nn)) := by
  have hcc := F.cc
  obtain ⟨a1, a2⟩ := Sp_stl S df C.kp.2 lc c0 (by omega) F.sp F.oc
  obtain ⟨b1, b2⟩ := Rp_stl C S df lr ka (by omega) F.rp F.ok
  refine ⟨a1, by rw [List.length_map]; exact hcc, b1, by rw [List.length_map, S.fr 65 0 _ (by omega)]; exact F.ed, by rw [List.length_map]; exact F.kl, fun x hx => ?_, fun x hx => ?_, Same_map (fun _ => psi_1) F.sm.1, Hi_map (fun _ => psi_1) _ _ F.hc, Hi_map (fun _ => psi_1) _ _ F.hr⟩
  · obtain ⟨y, y1, rfl⟩ := List.mem_map.mp hx
    exact okp_okc hr df (F.oc y y1) (a2 y y1)
  · obtain ⟨y, y1, rfl⟩ := List.mem_map.mp hx
    exact okp_okc hr df (F.ok y y1) (b2 y y1)
/-- a cell that asks no ride stays -/
theorem std_n (S : STD N k b sg cn nt ns nn c q f u f2 u2) {x a v : Nat} (hx : x < c) (ha : a < 32) (hv : v < 2 ^ 24) (h3 : a ≠ 3) (h : f 32 0 x = nI (a + 32 * v)) : f2 32 0 x = f 32 0 x := by
  obtain ⟨a', v', ha', hv', e, hcase⟩ := S.sc x hx
  rcases hcase with ⟨-, y⟩ | ⟨y, -⟩
  · exact y
  · rw [h] at e
    have := (nI_eq (by omega) (by omega)).mp e
    omega
theorem FM_stl (C : LC f N b k sg) (S : STD N k b sg cn nt ns nn c q f u f2 u2) (df : ∀ i j, i < cn → j < cn → same b N (nt i) (nt j) → i = j) (hr : ∀ i, i < cn → ns i = 2 → nn i < n) (hc : c ≤ 4001) (h3 : f2 10 0 3 = nI c) {x y : Int32} (F : FMp N k b sg f u c q x y) : FMx f2 u2 n x y := by
  obtain ⟨c0, ka, c1, lc, lr, h1, h2, F, h4, h5, h6⟩ := F
  refine ⟨c0, ka, h1, h2, c1, c, _, _, FE_stl C S df hr F (by omega) h6, ?_, h5, hc, h3⟩
  rw [std_n S (a := 0) (v := 0) h5 (by decide) (by decide) (by decide) h4]
  exact h4
theorem Qn_stl (C : LC f N b k sg) (S : STD N k b sg cn nt ns nn c q f u f2 u2) (df : ∀ i j, i < cn → j < cn → same b N (nt i) (nt j) → i = j) (hr : ∀ i, i < cn → ns i = 2 → nn i < n) {fl qF c0 c1 s : Nat} (hfl : fl ≤ qF) (hf8 : fl ≤ 8) (F : Qnp N k b sg f u fl q c0 c1 s) (h1 : c1 ≤ c) : Qn f2 u2 n qF c0 c1 s := by
  obtain ⟨e1, nt', c2, e2, e3, e4, e5⟩ := F
  have uu : ∀ R, 68 ≤ R → R ≤ 72 → u2 R 0 s = u R 0 s := fun R x1 x2 => S.fr R 0 s (by omega)
  refine ⟨e1, nt', c2, (uu 68 (by omega) (by omega)).trans e2, e3, fun hn => ?_, ?_⟩
  · have h6 := e4 hn
    rw [hn] at e3
    rw [std_n S (a := 6) (v := 0) (show c2 + 1 < c by simp only [cond_true] at e3; omega) (by decide) (by decide) (by decide) h6]
    exact h6
  · have hc2 : c2 < c := by omega
    rcases e5 with ⟨j, j1, j2, j3, j4, j5⟩ | ⟨ca, ka, kb, w, lc1, lr1, lc2, lr2, w1, w2, w3, w4, w5, ⟨w6, w7⟩, ⟨w8, w9⟩, w10⟩
    · refine Or.inl ⟨j, by omega, (uu 69 (by omega) (by omega)).trans j2, (uu 70 (by omega) (by omega)).trans j3, ?_, j5⟩
      rw [std_n S (a := 4) (v := j) hc2 (by decide) (by omega) (by decide) j4]
      exact j4
    · have hcc := w8.cc
      refine Or.inr ⟨ca, ka, kb, w, _, _, _, _, w1, w2, (uu 69 (by omega) (by omega)).trans w3, (uu 70 (by omega) (by omega)).trans w4, (uu 71 (by omega) (by omega)).trans w5, FE_stl C S df hr w6 (by omega) w7, FE_stl C S df hr w8 (by omega) w9, ?_⟩
      rw [std_n S (a := w) (v := 0) hc2 (by omega) (by decide) (by omega) w10]
      exact w10
theorem CM_stl (C : LC f N b k sg) (S : STD N k b sg cn nt ns nn c q f u f2 u2) (df : ∀ i j, i < cn → j < cn → same b N (nt i) (nt j) → i = j) (hr : ∀ i, i < cn → ns i = 2 → nn i < n) {fl qF e : Nat} (hfl : fl ≤ qF) (hf8 : fl ≤ 8) (he : e < c) : ∀ (m c0 s : Nat), CMp N k b sg f u fl q e m c0 s → CM f2 u2 n qF e m c0 s
  | 0, c0, s, ⟨c1, a1, a2, a3, a4⟩ => by
    refine ⟨c1, Qn_stl C S df hr hfl hf8 a1 (by omega), (S.fr 72 0 s (by omega)).trans a2, ?_, a4⟩
    rw [std_n S (a := 0) (v := 0) (by omega) (by decide) (by decide) (by decide) a3]
    exact a3
  | m + 1, c0, s, ⟨c1, jn, a1, a2, a3, a4, a5⟩ => by
    refine ⟨c1, jn, Qn_stl C S df hr hfl hf8 a1 (by omega), (S.fr 72 0 s (by omega)).trans a2, ?_, a4, CM_stl C S df hr hfl hf8 he m (c1 + 1) (s + 1) a5⟩
    cases jn with
    | true =>
      rw [std_n S (a := 7) (v := 0) (by omega) (by decide) (by decide) (by decide) a3]
      exact a3
    | false =>
      rw [std_n S (a := 8) (v := 0) (by omega) (by decide) (by decide) (by decide) a3]
      exact a3
theorem CD_stl (C : LC f N b k sg) (S : STD N k b sg cn nt ns nn c q f u f2 u2) (df : ∀ i j, i < cn → j < cn → same b N (nt i) (nt j) → i = j) (hr : ∀ i, i < cn → ns i = 2 → nn i < n) {fl qF s : Nat} (hfl : fl ≤ qF) (hf8 : fl ≤ 8) (hc : c ≤ 4001) (h3 : f2 10 0 3 = nI c) {x y : Int32} (F : CDp N k b sg f u c q s fl x y) : CDx f2 u2 n qF x y := by
  obtain ⟨c0, s0, m, e, h1, h2, F, h4, h5⟩ := F
  exact ⟨c0, s0, m, e, c, h1, h2, CM_stl C S df hr hfl hf8 h4 m c0 s0 F, h4, hc, h3⟩
end Sl2
