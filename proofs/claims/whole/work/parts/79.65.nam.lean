/-! ===== read: names ===== -/
/-- two tokens of one text -/
def same (b : Nat → Nat) (N t t' : Nat) : Prop := tE b N t - tS b N t = tE b N t' - tS b N t' ∧ ∀ i, i < tE b N t - tS b N t → b (tS b N t + i) = b (tS b N t' + i)
theorem same_sy {b : Nat → Nat} {N t t' : Nat} (h : same b N t t') : same b N t' t := ⟨h.1.symm, fun i hi => (h.2 i (by rw [h.1]; exact hi)).symm⟩
theorem same_tr {b : Nat → Nat} {N t t' t'' : Nat} (h : same b N t t') (h' : same b N t' t'') : same b N t t'' := ⟨h.1.trans h'.1, fun i hi => (h.2 i hi).trans (h'.2 i (by rw [← h.1]; exact hi))⟩
/-- the names: token, sort (0 staff, 1 flag, 2 ride), number -/
def NC (f : MI) (k : Nat) (sg : Nat → Int32) (c : Nat) (nt ns nn : Nat → Nat) : Prop := (c ≤ 26) ∧ (f 14 0 4 = nI c) ∧ (∀ j, j < c → nt j < k ∧ sg (nt j) = 300 ∧ ns j ≤ 2 ∧ nn j < 100 ∧ f 37 0 j = nI (nt j) ∧ f 38 0 j = nI (ns j) ∧ f 39 0 j = nI (nn j))
theorem NC.cl {f : MI} {k : Nat} {sg : Nat → Int32} {c : Nat} {nt ns nn : Nat → Nat} (x : NC f k sg c nt ns nn) : c ≤ 26 := x.1
theorem NC.cc {f : MI} {k : Nat} {sg : Nat → Int32} {c : Nat} {nt ns nn : Nat → Nat} (x : NC f k sg c nt ns nn) : f 14 0 4 = nI c := x.2.1
theorem NC.ar {f : MI} {k : Nat} {sg : Nat → Int32} {c : Nat} {nt ns nn : Nat → Nat} (x : NC f k sg c nt ns nn) : ∀ j, j < c → nt j < k ∧ sg (nt j) = 300 ∧ ns j ≤ 2 ∧ nn j < 100 ∧ f 37 0 j = nI (nt j) ∧ f 38 0 j = nI (ns j) ∧ f 39 0 j = nI (nn j) := x.2.2
def NU (u : MI) (N k : Nat) (b : Nat → Nat) (sg : Nat → Int32) (c : Nat) (nt ns nn : Nat → Nat) : Prop := (c ≤ 26) ∧ (u 22 0 18 = nI c) ∧ (∀ j, j < c → nt j < k ∧ sg (nt j) = 300 ∧ ns j ≤ 2 ∧ nn j < 100 ∧ u 45 0 j = nI (ns j + 1) ∧ u 46 0 j = nI (nn j) ∧ u 47 0 j = nI (tS b N (nt j)) ∧ u 48 0 j = nI (tE b N (nt j) - tS b N (nt j))) ∧ (∀ i j, i < c → j < c → same b N (nt i) (nt j) → i = j)
theorem NU.cl {u : MI} {N k : Nat} {b : Nat → Nat} {sg : Nat → Int32} {c : Nat} {nt ns nn : Nat → Nat} (x : NU u N k b sg c nt ns nn) : c ≤ 26 := x.1
theorem NU.cc {u : MI} {N k : Nat} {b : Nat → Nat} {sg : Nat → Int32} {c : Nat} {nt ns nn : Nat → Nat} (x : NU u N k b sg c nt ns nn) : u 22 0 18 = nI c := x.2.1
theorem NU.ar {u : MI} {N k : Nat} {b : Nat → Nat} {sg : Nat → Int32} {c : Nat} {nt ns nn : Nat → Nat} (x : NU u N k b sg c nt ns nn) : ∀ j, j < c → nt j < k ∧ sg (nt j) = 300 ∧ ns j ≤ 2 ∧ nn j < 100 ∧ u 45 0 j = nI (ns j + 1) ∧ u 46 0 j = nI (nn j) ∧ u 47 0 j = nI (tS b N (nt j)) ∧ u 48 0 j = nI (tE b N (nt j) - tS b N (nt j)) := x.2.2.1
theorem NU.df {u : MI} {N k : Nat} {b : Nat → Nat} {sg : Nat → Int32} {c : Nat} {nt ns nn : Nat → Nat} (x : NU u N k b sg c nt ns nn) : ∀ i j, i < c → j < c → same b N (nt i) (nt j) → i = j := x.2.2.2
section Nam
variable {L : Nat} {xs : Nat → Int32} {d : Nat} {g : MR} {X : ML × (Nat → Nat) × Nat × Nat} {Y : MR × ML × (Nat → Nat) × Nat × Nat} {N k t c : Nat} {b : Nat → Nat} {sg : Nat → Int32} {f f2 u u2 : MI} {nt ns nn : Nat → Nat}
theorem tS_le (C : LC f N b k sg) {t : Nat} : tS b N t ≤ tE b N t ∧ tE b N t ≤ N ∧ tS b N t + (tE b N t - tS b N t) = tE b N t := by
  have h1 := (tS_b (b := b) (N := N) t).1
  by_cases z : tS b N t < N
  · obtain ⟨-, h2, h3, -⟩ := tE_in z
    omega
  · have := tE_N z
    omega
theorem sw_loop (C : LC f N b k sg) {t t' : Nat} (v1 v2 v3 : Int32) (hl : tE b N t - tS b N t = tE b N t' - tS b N t') : ∀ (j i : Nat), i + j = tE b N t - tS b N t → (∀ x, x < i → b (tS b N t + x) = b (tS b N t' + x)) → ∃ w : Int32,
    RL (mP L xs) d 49 87 [some (rv 20 (some 0)), some (iv v1), some (iv v2), some (iv v3), some (iv (nI (tE b N t - tS b N t))), some (iv (nI i)), some (iv (nI (tS b N t))), some (iv (nI (tS b N t')))] [] (f, g, X) = some (.inl (some (iv w)), (f, g, X)) ∧ ((w = 1 ∧ same b N t t') ∨ (w = 0 ∧ ¬ same b N t t'))
  | 0, i, hi, hx => by
    have hN := C.tc.nl
    obtain ⟨h1, h2, h3⟩ := tS_le (t := t) C
    have e : i = tE b N t - tS b N t := by omega
    refine ⟨1, ?_, Or.inl ⟨rfl, hl, fun x hx2 => hx x (by omega)⟩⟩
    rw [K_Text_sameWord_87, e, if_neg (nI_nlt (Nat.le_refl _) (by omega)), if_pos rfl]
  | j + 1, i, hi, hx => by
    have hN := C.tc.nl
    obtain ⟨h1, h2, h3⟩ := tS_le (t := t) C
    obtain ⟨h4, h5, h6⟩ := tS_le (t := t') C
    have hb1 := C.tc.bb (tS b N t + i)
    have hb2 := C.tc.bb (tS b N t' + i)
    have key := K_Text_sameWord_87 (L := L) (xs := xs) (d := d) v1 v2 v3 (nI (tE b N t - tS b N t)) (nI i) (nI (tS b N t)) (nI (tS b N t')) (f, g, X)
    simp only [if_pos (nI_lt (show i < tE b N t - tS b N t by omega) (show tE b N t - tS b N t < 2 ^ 31 by omega)), nI_add, if_pos (show nI (tS b N t + i) < 4000 from nI_lt (b := 4000) (by omega) (by decide)), if_pos (show nI (tS b N t' + i) < 4000 from nI_lt (b := 4000) (by omega) (by decide)), if_neg (nin (show tS b N t + i < 4000 by omega) (show 4000 < 2 ^ 31 by decide)), if_neg (nin (show tS b N t' + i < 4000 by omega) (show 4000 < 2 ^ 31 by decide)), nI_clamp (show tS b N t + i < 2 ^ 31 by omega), nI_clamp (show tS b N t' + i < 2 ^ 31 by omega), C.tc.fb (tS b N t + i) (by omega), C.tc.fb (tS b N t' + i) (by omega), cb_inj hb1 hb2, nI_1] at key
    by_cases z : b (tS b N t + i) = b (tS b N t' + i)
    · rw [if_pos z] at key
      obtain ⟨w, w1, w2⟩ := sw_loop C v1 v2 v3 hl j (i + 1) (by omega) (fun x hx2 => by
        by_cases y : x = i
        · rw [y]; exact z
        · exact hx x (by omega))
      exact ⟨w, key.trans w1, w2⟩
    · rw [if_neg z, if_neg (fun e => by have := (nI_eq (by omega) (by omega)).mp e; omega)] at key
      exact ⟨0, key, Or.inr ⟨rfl, fun y => z (y.2 i (by omega))⟩⟩
theorem c_same (C : LC f N b k sg) {t t' : Nat} (ht : t < k) (ht' : t' < k) : ∃ w : Int32, EL (mP L xs) (d + 1) 49 [rv 20 (some 0), iv (nI t), iv (nI t')] (f, g, X) = some (.inl (some (iv w)), (f, g, X)) ∧ ((w = 1 ∧ same b N t t') ∨ (w = 0 ∧ ¬ same b N t t')) := by
  have hN := C.tc.nl
  have hkp := C.kp
  obtain ⟨h1, h2, h3⟩ := tS_le (t := t) C
  obtain ⟨h4, h5, h6⟩ := tS_le (t := t') C
  have e1 : (if (4001 : Int32) < nI k then (4001 : Int32) else nI k) = nI k := by
    rw [if_neg (show ¬ (4001 : Int32) < nI k from nI_nlt (a := 4001) (b := k) hkp.2 (by decide))]
  have key := E_Text_sameWord (L := L) (xs := xs) (d := d) (nI t) (nI t') (f, g, X)
  simp only [C.kt, e1, if_neg (nI_pos (show t < 2 ^ 31 by omega)), if_neg (nI_pos (show t' < 2 ^ 31 by omega)), if_pos (nI_lt ht (show k < 2 ^ 31 by omega)), if_pos (nI_lt ht' (show k < 2 ^ 31 by omega)), if_neg (nin (show t < 4001 by omega) (show 4001 < 2 ^ 31 by decide)), if_neg (nin (show t' < 4001 by omega) (show 4001 < 2 ^ 31 by decide)), nI_clamp (show t < 2 ^ 31 by omega), nI_clamp (show t' < 2 ^ 31 by omega), (C.ar t ht).2.1, (C.ar t ht).2.2, (C.ar t' ht').2.1, (C.ar t' ht').2.2, nI_sub h1, nI_sub h4, nI_is (show tE b N t - tS b N t < 2 ^ 31 by omega) (show tE b N t' - tS b N t' < 2 ^ 31 by omega)] at key
  by_cases z : tE b N t - tS b N t = tE b N t' - tS b N t'
  · rw [if_pos z] at key
    obtain ⟨w, w1, w2⟩ := sw_loop (L := L) (xs := xs) (d := d) (g := g) (X := X) C (t := t) (t' := t') (nI t) (nI t') (nI k) z (tE b N t - tS b N t) 0 (by omega) (fun x hx => absurd hx (Nat.not_lt_zero x))
    exact ⟨w, key.trans w1, w2⟩
  · rw [if_neg z] at key
    exact ⟨0, key, Or.inr ⟨rfl, fun y => z y.1⟩⟩
theorem no_loop (C : LC f N b k sg) (M : NC f k sg c nt ns nn) {t s : Nat} (ht : t < k) (hs : s ≤ 2) : ∀ (q j : Nat), j + q = c → ∃ v : Int32, RL (mP L xs) (d + 1) 50 2 [some (rv 14 (some 0)), some (iv (nI t)), some (iv (nI s)), some (iv (nI j))] [] (f, g, X) = some (.inl (some (iv v)), (f, g, X)) ∧ ((∃ i, i < c ∧ ns i = s ∧ same b N (nt i) t ∧ v = nI (nn i)) ∨ (v = -1 ∧ ∀ i, j ≤ i → i < c → ns i = s → ¬ same b N (nt i) t))
  | 0, j, hj => by
    have e : j = c := by omega
    have hc := M.cl
    refine ⟨-1, ?_, Or.inr ⟨rfl, fun i h1 h2 => absurd h2 (by omega)⟩⟩
    rw [K_Names_numberOf_2, e]
    simp only [M.cc]
    rw [if_neg (nI_nlt (Nat.le_refl c) (by omega))]
  | q + 1, j, hj => by
    have hc := M.cl
    obtain ⟨m1, m2, m3', m4, m5, m6, m7⟩ := M.ar j (by omega)
    obtain ⟨w, w1, w2⟩ := c_same (L := L) (xs := xs) (d := d) (g := g) (X := X) C m1 ht
    obtain ⟨v, v1, v2⟩ := no_loop C M ht hs q (j + 1) (by omega)
    have key := K_Names_numberOf_2 (L := L) (xs := xs) (d := d + 1) (nI t) (nI s) (nI j) (f, g, X)
    simp only [M.cc, if_pos (nI_lt (show j < c by omega) (show c < 2 ^ 31 by omega)), if_pos (show nI j < 26 from nI_lt (b := 26) (by omega) (by decide)), if_neg (nin (show j < 26 by omega) (show 26 < 2 ^ 31 by decide)), nI_clamp (show j < 2 ^ 31 by omega), m5, m6, m7, w1, clI, nI_1, nI_is (show ns j < 2 ^ 31 by omega) (show s < 2 ^ 31 by omega)] at key
    have next : (ns j = s → ¬ same b N (nt j) t) → RL (mP L xs) (d + 1) 50 2 [some (rv 14 (some 0)), some (iv (nI t)), some (iv (nI s)), some (iv (nI j))] [] (f, g, X) = RL (mP L xs) (d + 1) 50 2 [some (rv 14 (some 0)), some (iv (nI t)), some (iv (nI s)), some (iv (nI (j + 1)))] [] (f, g, X) → ∃ v : Int32, RL (mP L xs) (d + 1) 50 2 [some (rv 14 (some 0)), some (iv (nI t)), some (iv (nI s)), some (iv (nI j))] [] (f, g, X) = some (.inl (some (iv v)), (f, g, X)) ∧ ((∃ i, i < c ∧ ns i = s ∧ same b N (nt i) t ∧ v = nI (nn i)) ∨ (v = -1 ∧ ∀ i, j ≤ i → i < c → ns i = s → ¬ same b N (nt i) t)) := by
      intro hno he
      refine ⟨v, he.trans v1, ?_⟩
      rcases v2 with v2 | ⟨v2, v3⟩
      · exact Or.inl v2
      · refine Or.inr ⟨v2, fun i h1 h2 => ?_⟩
        by_cases y : i = j
        · rw [y]; exact hno
        · exact v3 i (by omega) h2
    by_cases z : ns j = s
    · rw [if_pos z] at key
      rcases w2 with ⟨rfl, w3⟩ | ⟨rfl, w3⟩
      · rw [if_neg (by decide)] at key
        exact ⟨nI (nn j), key, Or.inl ⟨j, by omega, z, w3, rfl⟩⟩
      · rw [if_pos rfl] at key
        exact next (fun _ => w3) key
    · rw [if_neg z] at key
      exact next (fun y => absurd y z) key
theorem c_nof (C : LC f N b k sg) (M : NC f k sg c nt ns nn) {t s : Nat} (ht : t < k) (hs : s ≤ 2) : ∃ v : Int32, EL (mP L xs) (d + 2) 50 [rv 14 (some 0), iv (nI t), iv (nI s)] (f, g, X) = some (.inl (some (iv v)), (f, g, X)) ∧ ((∃ i, i < c ∧ ns i = s ∧ same b N (nt i) t ∧ v = nI (nn i)) ∨ (v = -1 ∧ ∀ i, i < c → ns i = s → ¬ same b N (nt i) t)) := by
  obtain ⟨v, v1, v2⟩ := no_loop (L := L) (xs := xs) (d := d) (g := g) (X := X) C M ht hs c 0 (by omega)
  refine ⟨v, ?_, ?_⟩
  · rw [E_Names_numberOf]
    exact v1
  · rcases v2 with v2 | ⟨v2, v3⟩
    · exact Or.inl v2
    · exact Or.inr ⟨v2, fun i h1 => v3 i (Nat.zero_le i) h1⟩
/-! the reference looks a name up -/
theorem kn_cmp (T : TU u N b) (M : NU u N k b sg c nt ns nn) {p m j : Nat} (v3 : Int32) (hj : j < c) (hp : p + m ≤ N) (hq : tS b N (nt j) + (tE b N (nt j) - tS b N (nt j)) ≤ N) : ∀ (q i : Nat) (is : Bool), i + q = m → (is = true → m = tE b N (nt j) - tS b N (nt j) ∧ ∀ x, x < i → b (tS b N (nt j) + x) = b (p + x)) → ∃ (w v5 v6 : Int32),
    RL (mP L xs) d 104 35 [some (rv 22 (some 0)), some (iv (nI p)), some (iv (nI m)), some (iv v3), some (iv (nI j)), some (iv (bI is)), some (iv (nI i))] [] (u, Y) = RL (mP L xs) d 104 5 [some (rv 22 (some 0)), some (iv (nI p)), some (iv (nI m)), some (iv w), some (iv (nI (j + 1))), some (iv v5), some (iv v6)] [] (u, Y) ∧ ((w = nI j ∧ is = true ∧ ∀ x, x < m → b (tS b N (nt j) + x) = b (p + x)) ∨ (w = v3 ∧ ¬ (is = true ∧ ∀ x, x < m → b (tS b N (nt j) + x) = b (p + x))))
  | 0, i, is, hi, hx => by
    have hN := T.nl
    have e : i = m := by omega
    have key := K_Ref_known_35 (L := L) (xs := xs) (d := d) (nI p) (nI m) v3 (nI j) (bI is) (nI i) (u, Y)
    simp only [e, if_neg (nI_nlt (Nat.le_refl m) (show m < 2 ^ 31 by omega)), nI_1] at key
    rw [e]
    cases is with
    | false =>
      rw [if_pos (show bI false = 0 from rfl)] at key
      exact ⟨v3, _, _, key, Or.inr ⟨rfl, fun h => absurd h.1 (by decide)⟩⟩
    | true =>
      rw [if_neg (show ¬ bI true = 0 by decide)] at key
      exact ⟨nI j, _, _, key, Or.inl ⟨rfl, rfl, fun x hx2 => (hx rfl).2 x (by omega)⟩⟩
  | q + 1, i, is, hi, hx => by
    have hN := T.nl
    have hc := M.cl
    obtain ⟨m1, m2, m3', m4, m5, m6, m7, m8⟩ := M.ar j hj
    have key := K_Ref_known_35 (L := L) (xs := xs) (d := d) (nI p) (nI m) v3 (nI j) (bI is) (nI i) (u, Y)
    cases is with
    | false =>
      simp only [if_pos (nI_lt (show i < m by omega) (show m < 2 ^ 31 by omega)), if_pos (show bI false = 0 from rfl), nI_1] at key
      exact ⟨v3, _, _, key, Or.inr ⟨rfl, fun h => absurd h.1 (by decide)⟩⟩
    | true =>
      obtain ⟨x1, x2⟩ := hx rfl
      have hb1 := T.bb (tS b N (nt j) + i)
      have hb2 := T.bb (p + i)
      simp only [if_pos (nI_lt (show i < m by omega) (show m < 2 ^ 31 by omega)), if_neg (show ¬ bI true = 0 by decide), if_neg (nin (show j < 26 by omega) (show 26 < 2 ^ 31 by decide)), nI_clamp (show j < 2 ^ 31 by omega), m7, nI_add, if_neg (nin (show tS b N (nt j) + i < 4000 by omega) (show 4000 < 2 ^ 31 by decide)), if_neg (nin (show p + i < 4000 by omega) (show 4000 < 2 ^ 31 by decide)), nI_clamp (show tS b N (nt j) + i < 2 ^ 31 by omega), nI_clamp (show p + i < 2 ^ 31 by omega), T.ub (tS b N (nt j) + i) (by omega), T.ub (p + i) (by omega), nI_is (show b (tS b N (nt j) + i) < 2 ^ 31 by omega) (show b (p + i) < 2 ^ 31 by omega), nI_1] at key
      by_cases z : b (tS b N (nt j) + i) = b (p + i)
      · rw [if_pos z] at key
        obtain ⟨w, v5, v6, a1, a2⟩ := kn_cmp T M v3 hj hp hq q (i + 1) true (by omega) (fun _ => ⟨x1, fun x hx2 => by
          by_cases y : x = i
          · rw [y]; exact z
          · exact x2 x (by omega)⟩)
        exact ⟨w, v5, v6, key.trans a1, a2⟩
      · rw [if_neg z] at key
        obtain ⟨w, v5, v6, a1, a2⟩ := kn_cmp T M v3 hj hp hq q (i + 1) false (by omega) (fun h => absurd h (by decide))
        refine ⟨w, v5, v6, key.trans a1, Or.inr ⟨?_, fun h => z (h.2 i (by omega))⟩⟩
        rcases a2 with ⟨-, a3, -⟩ | ⟨a3, -⟩
        · exact absurd a3 (by decide)
        · exact a3
theorem kn_loop (T : TU u N b) (C : ∀ t, tS b N t + (tE b N t - tS b N t) ≤ N) (M : NU u N k b sg c nt ns nn) {p m : Nat} (hp : p + m ≤ N) : ∀ (q j : Nat) (v3 : Int32) (z5 z6 : Option MV), j + q = c → ∃ v : Int32, RL (mP L xs) d 104 5 [some (rv 22 (some 0)), some (iv (nI p)), some (iv (nI m)), some (iv v3), some (iv (nI j)), z5, z6] [] (u, Y) = some (.inl (some (iv v)), (u, Y)) ∧ ((∃ i, i < c ∧ v = nI i ∧ m = tE b N (nt i) - tS b N (nt i) ∧ ∀ x, x < m → b (tS b N (nt i) + x) = b (p + x)) ∨ (v = v3 ∧ ∀ i, j ≤ i → i < c → ¬ (m = tE b N (nt i) - tS b N (nt i) ∧ ∀ x, x < m → b (tS b N (nt i) + x) = b (p + x))))
  | 0, j, v3, z5, z6, hj => by
    have e : j = c := by omega
    have hc := M.cl
    refine ⟨v3, ?_, Or.inr ⟨rfl, fun i h1 h2 => absurd h2 (by omega)⟩⟩
    rw [K_Ref_known_5, e]
    simp only [M.cc]
    rw [if_neg (nI_nlt (Nat.le_refl c) (by omega))]
  | q + 1, j, v3, z5, z6, hj => by
    have hc := M.cl
    have hN := T.nl
    obtain ⟨m1, m2, m3', m4, m5, m6, m7, m8⟩ := M.ar j (by omega)
    have hC := C (nt j)
    have key := K_Ref_known_5 (L := L) (xs := xs) (d := d) (z5 := z5) (z6 := z6) (nI p) (nI m) v3 (nI j) (u, Y)
    simp only [M.cc, if_pos (nI_lt (show j < c by omega) (show c < 2 ^ 31 by omega)), if_neg (nin (show j < 26 by omega) (show 26 < 2 ^ 31 by decide)), nI_clamp (show j < 2 ^ 31 by omega), m8, nI_is (show tE b N (nt j) - tS b N (nt j) < 2 ^ 31 by omega) (show m < 2 ^ 31 by omega)] at key
    by_cases z : tE b N (nt j) - tS b N (nt j) = m
    · rw [if_pos z] at key
      obtain ⟨w, v5, v6, a1, a2⟩ := kn_cmp (L := L) (xs := xs) (d := d) (Y := Y) T M v3 (show j < c by omega) hp hC m 0 true (by omega) (fun _ => ⟨z.symm, fun x hx => absurd hx (Nat.not_lt_zero x)⟩)
      obtain ⟨v, v1, v2⟩ := kn_loop T C M hp q (j + 1) w (some (iv v5)) (some (iv v6)) (by omega)
      have a1' : RL (mP L xs) d 104 35 [some (rv 22 (some 0)), some (iv (nI p)), some (iv (nI m)), some (iv v3), some (iv (nI j)), some (iv 1), some (iv 0)] [] (u, Y) = _ := a1
      refine ⟨v, (key.trans a1').trans v1, ?_⟩
      rcases v2 with v2 | ⟨v2, v4⟩
      · exact Or.inl v2
      · rcases a2 with ⟨a2, -, a3⟩ | ⟨a2, a3⟩
        · exact Or.inl ⟨j, by omega, v2.trans a2, z.symm, a3⟩
        · refine Or.inr ⟨v2.trans a2, fun i h1 h2 => ?_⟩
          by_cases y : i = j
          · rw [y]; exact fun h => a3 ⟨rfl, h.2⟩
          · exact v4 i (by omega) h2
    · rw [if_neg z] at key
      obtain ⟨w, v5, v6, a1, a2⟩ := kn_cmp (L := L) (xs := xs) (d := d) (Y := Y) T M v3 (show j < c by omega) hp hC m 0 false (by omega) (fun h => absurd h (by decide))
      obtain ⟨v, v1, v2⟩ := kn_loop T C M hp q (j + 1) w (some (iv v5)) (some (iv v6)) (by omega)
      have a1' : RL (mP L xs) d 104 35 [some (rv 22 (some 0)), some (iv (nI p)), some (iv (nI m)), some (iv v3), some (iv (nI j)), some (iv 0), some (iv 0)] [] (u, Y) = _ := a1
      refine ⟨v, (key.trans a1').trans v1, ?_⟩
      rcases v2 with v2 | ⟨v2, v4⟩
      · exact Or.inl v2
      · rcases a2 with ⟨-, a2, -⟩ | ⟨a2, a3⟩
        · exact absurd a2 (by decide)
        · refine Or.inr ⟨v2.trans a2, fun i h1 h2 => ?_⟩
          by_cases y : i = j
          · rw [y]; exact fun h => z h.1.symm
          · exact v4 i (by omega) h2
theorem r_known (C : LC f N b k sg) (T : TU u N b) (M : NU u N k b sg c nt ns nn) (t : Nat) : ∃ v : Int32, (∀ d, EL (mP L xs) (d + 1) 104 [rv 22 (some 0), iv (nI (tS b N t)), iv (nI (tE b N t - tS b N t))] (u, Y) = some (.inl (some (iv v)), (u, Y))) ∧ ((∃ i, i < c ∧ v = nI i ∧ same b N (nt i) t) ∨ (v = -1 ∧ ∀ i, i < c → ¬ same b N (nt i) t)) := by
  have hC : ∀ t, tS b N t + (tE b N t - tS b N t) ≤ N := fun t => by
    obtain ⟨h1, h2, h3⟩ := tS_le (t := t) C
    omega
  obtain ⟨v, v1, v2⟩ := kn_loop (L := L) (xs := xs) (d := 0) (Y := Y) T hC M (hC t) c 0 (-1) none none (by omega)
  refine ⟨v, fun d => EL_mono (show 1 ≤ d + 1 by omega) ?_, ?_⟩
  · rw [E_Ref_known]
    exact v1
  · rcases v2 with ⟨i, i1, i2, i3, i4⟩ | ⟨v2, v3⟩
    · exact Or.inl ⟨i, i1, i2, i3.symm, fun x hx => i4 x (by rw [i3]; exact hx)⟩
    · exact Or.inr ⟨v2, fun i hi h => v3 i (Nat.zero_le i) hi ⟨h.1.symm, fun x hx => h.2 x (by rw [h.1]; exact hx)⟩⟩
/-- what is told is no word of the language -/
theorem same_300 (C : LC f N b k sg) {t t' : Nat} (ht : t < k) (ht' : t' < k) (h3 : sg t = 300) (h : same b N t t') (hw : ¬ sg t' < 300) : sg t' = 300 := by
  have key : ∀ t, t < k → ¬ sg t < 300 → tS b N t < N ∧ SRT b (tS b N t) (tE b N t) (sg t) := fun t ht hs => by
    have n0 : sg t ≠ 0 := fun e => hs (by rw [e]; decide)
    by_cases z : t + 1 < k
    · exact ⟨(C.mid t z).1, (C.mid t z).2.1⟩
    · have e : k - 1 = t := by omega
      rcases C.lst with ⟨-, h2⟩ | ⟨-, h2, -⟩
      · rw [e] at h2; exact absurd h2 n0
      · rw [e] at h2
        exact absurd (show sg t < 300 by rw [h2]; decide) hs
  have wrd : ∀ t, t < k → ¬ sg t < 300 → (∃ i, i < 51 ∧ sg t = nI (301 + i) ∧ mr b (tS b N t) (tE b N t - tS b N t) (wm i)) ∨ (sg t = 300 ∧ ∀ k, k < 51 → ¬ mr b (tS b N t) (tE b N t - tS b N t) k) := fun t ht hs => by
    obtain ⟨-, h2⟩ := key t ht hs
    rcases h2 with ⟨a1, a2, a3⟩ | ⟨a1, a2, a3⟩ | ⟨a1, a2, a3, a4⟩ | ⟨a1, a2, a3, a4⟩ | ⟨a1, a2, a3, a4, a5⟩ | ⟨a1, a2, a3, a4, a5⟩ | ⟨a1, a2, a3, a4, a5⟩
    · exact absurd (show sg t < 300 by rw [a3]; decide) hs
    · exact a3
    · exact absurd (show sg t < 300 by rw [a4]; decide) hs
    · exact absurd (show sg t < 300 by rw [a4]; decide) hs
    · have := jn_lt a4
      exact absurd (show sg t < 300 by rw [a5]; exact nI_lt (b := 300) (by omega) (by decide)) hs
    · have := sgn_lt a4
      exact absurd (show sg t < 300 by rw [a5]; exact nI_lt (b := 300) (by omega) (by decide)) hs
    · exact absurd (show sg t < 300 by rw [a5]; decide) hs
  rcases wrd t' ht' hw with ⟨i, i1, i2, i3⟩ | ⟨h4, -⟩
  · rcases wrd t ht (by rw [h3]; decide) with ⟨j, j1, j2, -⟩ | ⟨-, h5⟩
    · rw [h3] at j2
      have := (nI_eq (a := 300) (by decide) (by omega)).mp j2
      omega
    · have wl : ∀ i, i < 51 → wm i < 51 := by decide +kernel
      refine absurd ?_ (h5 (wm i) (wl i i1))
      exact ⟨h.1.trans i3.1, fun x hx => (h.2 x hx).trans (i3.2 x (by rw [← h.1]; exact hx))⟩
  · exact h4
end Nam
