/-! ===== read: names of rides are settled (each side) ===== -/
def okN (b : Nat → Nat) (N cn : Nat) (nt ns : Nat → Nat) (t : Nat) : Prop := ∃ i, i < cn ∧ ns i = 2 ∧ same b N (nt i) t
def SetC (b : Nat → Nat) (N cn : Nat) (nt ns nn : Nat → Nat) (x y : Int32) : Prop := ∃ a v : Nat, a < 32 ∧ v < 2 ^ 24 ∧ x = nI (a + 32 * v) ∧ ((a ≠ 3 ∧ y = x) ∨ (a = 3 ∧ ∃ i, i < cn ∧ ns i = 2 ∧ same b N (nt i) (v / 32) ∧ y = nI (3 + 32 * (32 * nn i + v % 32))))
section Stl
variable {L : Nat} {xs : Nat → Int32} {d : Nat} {g : MR} {X : ML × (Nat → Nat) × Nat × Nat} {Y : MR × ML × (Nat → Nat) × Nat × Nat} {N k t c q cn : Nat} {b : Nat → Nat} {sg : Nat → Int32} {f f2 u u2 : MI} {nt ns nn : Nat → Nat}
theorem nI_shr10 {m : Nat} (hm : m < 2 ^ 31) : nI m >>> ((10 : Int32) &&& 31) = nI (m / 1024) := by
  apply Int32.toInt_inj.mp
  rw [nI_toInt (by omega)]
  have e : ((10 : Int32) &&& 31) = 10 := by decide
  rw [e]
  show ((nI m).toBitVec.sshiftRight 10).toInt = _
  rw [BitVec.toInt_sshiftRight]
  show (nI m).toInt >>> 10 = _
  rw [nI_toInt hm, Int.shiftRight_eq_div_pow]
  show (m : Int) / ((1024 : Nat) : Int) = _
  omega
theorem c_ref0 (C : LC f N b k sg) (hat : f 20 0 6 = nI t) (ht : t < k) (hfc : f 20 0 7 = 0) {p : Int32} (hp : p ≠ 0) : ∃ f2, (∀ d g X, EL (mP L xs) (d + 1) 41 [rv 20 (some 0), iv p] (f, g, X) = some (.inl none, (f2, g, X))) ∧ ED f2 p (nI (tS b N t)) ∧ (∀ R o i, ¬ (R = 34 ∨ R = 20) → f2 R o i = f R o i) := by
  have hkp := C.kp
  have e1 : (m3 f 20 0 7 p) 20 0 6 = nI t := (m3_i (by decide)).trans hat
  have e2 : (m3 f 20 0 7 p) 35 0 t = nI (tS b N t) := (m3_r (by decide)).trans (C.ar t ht).2.1
  refine ⟨m3 (m3 (m3 (m3 f 20 0 7 p) 20 0 8 (nI (tS b N t))) 20 0 6 4000) 34 0 4000 0, fun d g X => ?_, ⟨hp, ?_, ?_, ?_, m3_eq, k, hkp.2, ?_⟩, fun R o i h => ?_⟩
  · rw [E_Text_refuse]
    simp only [hfc, if_true, e1, if_neg (nI_pos (show t < 2 ^ 31 by omega)), if_pos (show nI t < 4001 from nI_lt (b := 4001) (by omega) (by decide)), if_neg (nin (show t < 4001 by omega) (show 4001 < 2 ^ 31 by decide)), nI_clamp (show t < 2 ^ 31 by omega), e2]
  · rw [m3_r (by decide), m3_i (by decide), m3_i (by decide), m3_eq]
  · rw [m3_r (by decide), m3_i (by decide), m3_eq]
  · rw [m3_r (by decide), m3_eq]
  · rw [m3_r (by decide), m3_i (by decide), m3_i (by decide), m3_i (by decide)]
    exact C.kt
  · rw [m3_no (by omega), m3_no (by omega), m3_no (by omega), m3_no (by omega)]
theorem c_tokAt {i a v : Nat} (hi : i < 4001) (ha : a < 32) (hv : v < 2 ^ 24) (hx : f 32 0 i = nI (a + 32 * v)) : EL (mP L xs) (d + 1) 83 [rv 10 (some 0), iv (nI i)] (f, g, X) = some (.inl (some (iv (if a = 3 then nI (v / 32) else -1))), (f, g, X)) := by
  have hm : (a + 32 * v) % 32 = a := by omega
  rw [E_Code_tokenAt]
  simp only [if_neg (nI_pos (show i < 2 ^ 31 by omega)), if_pos (show nI i < 4001 from nI_lt (b := 4001) hi (by decide)), if_neg (nin hi (show 4001 < 2 ^ 31 by decide)), nI_clamp (show i < 2 ^ 31 by omega), hx, nI_and31, hm, nI_shr10 (show a + 32 * v < 2 ^ 31 by omega)]
  by_cases h : a = 3
  · subst h
    rw [if_pos (show nI 3 = 3 from rfl), if_pos rfl, show (3 + 32 * v) / 1024 = v / 32 by omega]
  · rw [if_neg (show ¬ nI a = 3 from fun e => h ((nI_eq (a := a) (b := 3) (by omega) (by decide)).mp e)), if_neg h]
theorem c_put3 {i v x : Nat} (hi : i < 4001) (hv : v < 2 ^ 24) (hx : x < 100) (hf : f 32 0 i = nI (3 + 32 * v)) : EL (mP L xs) (d + 2) 84 [rv 10 (some 0), iv (nI i), iv (nI x)] (f, g, X) = some (.inl none, (m3 f 32 0 i (nI (3 + 32 * (32 * x + v % 32))), g, X)) := by
  rw [E_Code_settle]
  simp only [if_neg (nI_pos (show i < 2 ^ 31 by omega)), if_pos (show nI i < 4001 from nI_lt (b := 4001) hi (by decide)), if_neg (nin hi (show 4001 < 2 ^ 31 by decide)), nI_clamp (show i < 2 ^ 31 by omega), hf, c_num (show 3 < 32 by decide) (show 3 + 32 * v < 2 ^ 31 by omega), nI_and31, E_Code_asking, nI_ask (show v % 32 < 32 by omega) (show x < 2 ^ 24 by omega), clI]
  rw [show (3 : Int32) = nI 3 from rfl, nI_or (by decide) (by omega)]
theorem st_loop (df : ∀ i j, i < cn → j < cn → same b N (nt i) (nt j) → i = j) : ∀ (j i : Nat) (f : MI), i + j = c → LC f N b k sg → NC f k sg cn nt ns nn → f 20 0 7 = 0 → c ≤ 4001 → (∀ x, i ≤ x → x < c → ClO k sg (f 32 0 x)) →
    ∃ f2, (∀ d g X z3 z4, 5 ≤ d → RL (mP L xs) d 85 10 [some (rv 13 (some 0)), some (iv (nI c)), some (iv (nI i)), z3, z4] [] (f, g, X) = some (.inl none, (f2, g, X))) ∧ (∀ R o x, ¬ ((R = 32 ∧ i ≤ x) ∨ R = 34 ∨ R = 20) → f2 R o x = f R o x) ∧
      (((∀ R o x, R = 34 ∨ R = 20 → f2 R o x = f R o x) ∧ ∀ x, i ≤ x → x < c → SetC b N cn nt ns nn (f 32 0 x) (f2 32 0 x)) ∨ (∃ x t, i ≤ x ∧ x < c ∧ (∀ y, i ≤ y → y < x → ∀ t ∈ ckC (f 32 0 y), okN b N cn nt ns t) ∧ ckC (f 32 0 x) = [t] ∧ ¬ okN b N cn nt ns t ∧ ED f2 3 (nI (tS b N t))))
  | 0, i, f, hi, C, M, h7, hc, ho => by
    have e : i = c := by omega
    subst e
    refine ⟨f, fun d g X z3 z4 hd => ?_, fun _ _ _ _ => rfl, Or.inl ⟨fun _ _ _ _ => rfl, fun x h1 h2 => by omega⟩⟩
    rw [K_FormulaReader_settleNames_10, if_neg (nI_nlt (Nat.le_refl i) (by omega))]
  | j + 1, i, f, hi, C, M, h7, hc, ho => by
    have hkp := C.kp
    obtain ⟨a, v, ha, hv, hx, h3⟩ := ho i (Nat.le_refl i) (by omega)
    have hlt : nI i < nI c := nI_lt (by omega) (by omega)
    by_cases z : a = 3
    · subst z
      obtain ⟨hk, hs⟩ := h3 rfl
      have hck : ckC (f 32 0 i) = [v / 32] := by rw [hx, ckC_v (by decide) hv, if_pos rfl]
      have nof := fun d g X => c_nof (L := L) (xs := xs) (d := d) (g := g) (X := X) C M hk (s := 2) (by decide)
      have key : ∀ d g X z3 z4, 5 ≤ d → RL (mP L xs) d 85 10 [some (rv 13 (some 0)), some (iv (nI c)), some (iv (nI i)), z3, z4] [] (f, g, X) = mclI (EL (mP L xs) d 50 [rv 14 (some 0), iv (nI (v / 32)), iv 2] (f, g, X)) (fun x4 h3 => if x4 = (-1) then (mclV (EL (mP L xs) d 41 [rv 20 (some 0), iv 3] (m3 h3.1 20 0 6 (nI (v / 32)), h3.2)) (fun h6 => mclV (EL (mP L xs) d 84 [rv 10 (some 0), iv (nI i), iv (if (0 : Int32) < x4 then x4 else 0)] h6) (fun h7 => RL (mP L xs) d 85 10 [some (rv 13 (some 0)), some (iv (nI c)), some (iv (nI (i + 1))), some (iv (nI (v / 32))), some (iv x4)] [] h7) (fun e h => some (.inr e, h))) (fun e h => some (.inr e, h))) else (mclV (EL (mP L xs) d 84 [rv 10 (some 0), iv (nI i), iv (if (0 : Int32) < x4 then x4 else 0)] h3) (fun h5 => RL (mP L xs) d 85 10 [some (rv 13 (some 0)), some (iv (nI c)), some (iv (nI (i + 1))), some (iv (nI (v / 32))), some (iv x4)] [] h5) (fun e h => some (.inr e, h)))) (fun e h => some (.inr e, h)) := fun d g X z3 z4 hd => by
        obtain ⟨d, rfl⟩ : ∃ d', d = d' + 1 := ⟨d - 1, by omega⟩
        rw [K_FormulaReader_settleNames_10, if_pos hlt, if_pos (show (f, g, X).1 20 0 7 = 0 from h7), c_tokAt (by omega) (by decide) hv hx, clI, if_pos rfl, if_neg (nI_ne1 (by omega)), nI_1]
      by_cases w : okN b N cn nt ns (v / 32)
      · obtain ⟨i', w1, w2, w3⟩ := w
        have hnn : nn i' < 100 := (M.ar i' w1).2.2.2.1
        have hno : ∀ d g X, EL (mP L xs) (d + 2) 50 [rv 14 (some 0), iv (nI (v / 32)), iv 2] (f, g, X) = some (.inl (some (iv (nI (nn i')))), (f, g, X)) := fun d g X => by
          obtain ⟨v', e1, e2⟩ := nof d g X
          rcases e2 with ⟨i2, j1, j2, j3, rfl⟩ | ⟨-, no⟩
          · have := df i2 i' j1 w1 (same_tr j3 (same_sy w3))
            subst this
            exact e1
          · exact absurd w3 (no i' w1 w2)
        have hF : ∀ R o x, ¬ (R = 32 ∧ x = i) → m3 f 32 0 i (nI (3 + 32 * (32 * nn i' + v % 32))) R o x = f R o x := fun R o x h => m3_no (fun w => h ⟨w.1, w.2.2⟩)
        obtain ⟨f2, b1, b2, b3⟩ := st_loop df j (i + 1) (m3 f 32 0 i (nI (3 + 32 * (32 * nn i' + v % 32)))) (by omega) (LC_fr C (fun R o x h => hF R o x (by omega))) (M.fr (fun R o x h => hF R o x (by omega))) ((hF 20 0 7 (by omega)).trans h7) hc (fun x h1 h2 => by
          rw [hF 32 0 x (by omega)]
          exact ho x (by omega) h2)
        refine ⟨f2, fun d g X z3 z4 hd => ?_, fun R o x h => (b2 R o x (by omega)).trans (hF R o x (by omega)), ?_⟩
        · rw [key d g X z3 z4 hd]
          have h1 := b1 d g X (some (iv (nI (v / 32)))) (some (iv (nI (nn i')))) hd
          obtain ⟨d, rfl⟩ : ∃ d', d = d' + 2 := ⟨d - 2, by omega⟩
          rw [hno, clI, if_neg (nI_ne1 (by omega)), max_v _ hnn, c_put3 (by omega) hv hnn hx, clV, h1]
        · rcases b3 with ⟨c1, c2⟩ | ⟨x, t, c1, c2, c3, c4, c5, c6⟩
          · refine Or.inl ⟨fun R o x h => (c1 R o x h).trans (hF R o x (by omega)), fun x h1 h2 => ?_⟩
            by_cases y : x = i
            · subst y
              rw [b2 32 0 x (by omega), m3_eq]
              exact ⟨3, v, by decide, hv, hx, Or.inr ⟨rfl, i', w1, w2, w3, rfl⟩⟩
            · have := c2 x (by omega) h2
              rw [hF 32 0 x (by omega)] at this
              exact this
          · refine Or.inr ⟨x, t, by omega, c2, fun y h1 h2 t' ht' => ?_, by rw [← hF 32 0 x (by omega)]; exact c4, c5, c6⟩
            by_cases y' : y = i
            · subst y'
              rw [hck] at ht'
              have := List.mem_singleton.mp ht'
              subst this
              exact ⟨i', w1, w2, w3⟩
            · exact c3 y (by omega) h2 t' (by rw [hF 32 0 y (by omega)]; exact ht')
      · have hno : ∀ d g X, EL (mP L xs) (d + 2) 50 [rv 14 (some 0), iv (nI (v / 32)), iv 2] (f, g, X) = some (.inl (some (iv (-1))), (f, g, X)) := fun d g X => by
          obtain ⟨v', e1, e2⟩ := nof d g X
          rcases e2 with ⟨i2, j1, j2, j3, -⟩ | ⟨rfl, -⟩
          · exact absurd ⟨i2, j1, j2, j3⟩ w
          · exact e1
        obtain ⟨f2, b1, b2, b3⟩ := c_ref0 (L := L) (xs := xs) (f := m3 f 20 0 6 (nI (v / 32))) (LC_fr C (fun R o x h => m3_no (by omega))) m3_eq hk ((m3_i (by decide)).trans h7) (p := 3) (by decide)
        have e32 : f2 32 0 i = nI (3 + 32 * v) := (b3 32 0 i (by omega)).trans ((m3_r (by decide)).trans hx)
        have E3 : ED (m3 f2 32 0 i (nI (3 + 32 * (32 * 0 + v % 32)))) 3 (nI (tS b N (v / 32))) := b2.fr (m3_r (by decide)) (m3_r (by decide)) (m3_r (by decide)) (m3_r (by decide)) (m3_r (by decide))
        refine ⟨m3 f2 32 0 i (nI (3 + 32 * (32 * 0 + v % 32))), fun d g X z3 z4 hd => ?_, fun R o x h => (m3_no (by omega)).trans ((b3 R o x (by omega)).trans (m3_no (by omega))), Or.inr ⟨i, v / 32, Nat.le_refl i, by omega, fun y h1 h2 => by omega, hck, w, E3⟩⟩
        rw [key d g X z3 z4 hd]
        obtain ⟨d, rfl⟩ : ∃ d', d = d' + 2 := ⟨d - 2, by omega⟩
        have hp : ∀ d, EL (mP L xs) (d + 2) 84 [rv 10 (some 0), iv (nI i), iv 0] (f2, g, X) = some (.inl none, (m3 f2 32 0 i (nI (3 + 32 * (32 * 0 + v % 32))), g, X)) := fun d => c_put3 (x := 0) (by omega) hv (by decide) e32
        rw [hno, clI, if_pos rfl, b1, clV, if_neg (show ¬ (0 : Int32) < -1 by decide), hp, clV, K_FormulaReader_settleNames_10, if_neg (show ¬ (m3 f2 32 0 i (nI (3 + 32 * (32 * 0 + v % 32))), g, X).1 20 0 7 = 0 by
          show ¬ (m3 f2 32 0 i (nI (3 + 32 * (32 * 0 + v % 32)))) 20 0 7 = 0
          rw [E3.fa]; decide), ite_self]
    · have key : ∀ d g X z3 z4, 5 ≤ d → RL (mP L xs) d 85 10 [some (rv 13 (some 0)), some (iv (nI c)), some (iv (nI i)), z3, z4] [] (f, g, X) = RL (mP L xs) d 85 10 [some (rv 13 (some 0)), some (iv (nI c)), some (iv (nI (i + 1))), some (iv (-1)), z4] [] (f, g, X) := fun d g X z3 z4 hd => by
        obtain ⟨d, rfl⟩ : ∃ d', d = d' + 1 := ⟨d - 1, by omega⟩
        rw [K_FormulaReader_settleNames_10, if_pos hlt, if_pos (show (f, g, X).1 20 0 7 = 0 from h7), c_tokAt (by omega) ha hv hx, clI, if_neg z, if_pos rfl, nI_1]
      have hck : ckC (f 32 0 i) = [] := by rw [hx, ckC_v ha hv, if_neg z]
      obtain ⟨f2, b1, b2, b3⟩ := st_loop df j (i + 1) f (by omega) C M h7 hc (fun x h1 h2 => ho x (by omega) h2)
      refine ⟨f2, fun d g X z3 z4 hd => ?_, fun R o x h => b2 R o x (by omega), ?_⟩
      · rw [key d g X z3 z4 hd]
        exact b1 d g X _ _ hd
      · rcases b3 with ⟨c1, c2⟩ | ⟨x, t, c1, c2, c3, c4, c5, c6⟩
        · refine Or.inl ⟨c1, fun x h1 h2 => ?_⟩
          by_cases y : x = i
          · subst y
            rw [b2 32 0 x (by omega)]
            exact ⟨a, v, ha, hv, hx, Or.inl ⟨z, rfl⟩⟩
          · exact c2 x (by omega) h2
        · refine Or.inr ⟨x, t, by omega, c2, fun y h1 h2 t' ht' => ?_, c4, c5, c6⟩
          by_cases y' : y = i
          · subst y'
            rw [hck] at ht'
            cases ht'
          · exact c3 y (by omega) h2 t' ht'
theorem c_stl (df : ∀ i j, i < cn → j < cn → same b N (nt i) (nt j) → i = j) (C : LC f N b k sg) (M : NC f k sg cn nt ns nn) (h7 : f 20 0 7 = 0) (hc3 : f 10 0 3 = nI c) (hc : c ≤ 4001) (ho : ∀ x, x < c → ClO k sg (f 32 0 x)) :
    ∃ f2, (∀ d g X, 6 ≤ d → EL (mP L xs) d 85 [rv 13 (some 0)] (f, g, X) = some (.inl none, (f2, g, X))) ∧ (∀ R o x, ¬ (R = 32 ∨ R = 34 ∨ R = 20) → f2 R o x = f R o x) ∧
      (((∀ R o x, R = 34 ∨ R = 20 → f2 R o x = f R o x) ∧ ∀ x, x < c → SetC b N cn nt ns nn (f 32 0 x) (f2 32 0 x)) ∨ (∃ x t, x < c ∧ (∀ y, y < x → ∀ t ∈ ckC (f 32 0 y), okN b N cn nt ns t) ∧ ckC (f 32 0 x) = [t] ∧ ¬ okN b N cn nt ns t ∧ ED f2 3 (nI (tS b N t)))) := by
  obtain ⟨f2, a1, a2, a3⟩ := st_loop (L := L) (xs := xs) df c 0 f (by omega) C M h7 hc (fun x _ h => ho x h)
  refine ⟨f2, fun d g X hd => ?_, fun R o x h => a2 R o x (by omega), ?_⟩
  · obtain ⟨d, rfl⟩ : ∃ d', d = d' + 1 := ⟨d - 1, by omega⟩
    have h1 := a1 d g X none none (by omega)
    obtain ⟨d, rfl⟩ : ∃ d', d = d' + 1 := ⟨d - 1, by omega⟩
    rw [E_FormulaReader_settleNames, E_Code_here, clI, show (f, g, X).1 10 0 3 = nI c from hc3]
    exact h1
  · rcases a3 with ⟨c1, c2⟩ | ⟨x, t, -, c2, c3, c4, c5, c6⟩
    · exact Or.inl ⟨c1, fun x h => c2 x (Nat.zero_le x) h⟩
    · exact Or.inr ⟨x, t, c2, fun y h => c3 y (Nat.zero_le y) h, c4, c5, c6⟩
/-- behind a fault -/
theorem ed_stl {p0 q0 : Int32} (E : ED f p0 q0) : EL (mP L xs) (d + 2) 85 [rv 13 (some 0)] (f, g, X) = some (.inl none, (f, g, X)) := by
  rw [E_FormulaReader_settleNames, E_Code_here, clI, K_FormulaReader_settleNames_10, if_neg (show ¬ (f, g, X).1 20 0 7 = 0 by
    show ¬ f 20 0 7 = 0
    rw [E.fa]; exact E.qn), ite_self]
/-! the reference -/
theorem len_300 (C : LC f N b k sg) (ht : t < k) (h3 : sg t = 300) : tE b N t - tS b N t ≤ 8 := by
  have hs : SRT b (tS b N t) (tE b N t) (sg t) := by
    by_cases z : t + 1 < k
    · exact (C.mid t z).2.1
    · have e : k - 1 = t := by omega
      rcases C.lst with ⟨-, h2⟩ | ⟨-, h2, -⟩
      · rw [e, h3] at h2; exact absurd h2 (by decide)
      · rw [e, h3] at h2; exact absurd h2 (by decide)
  rw [h3] at hs
  rcases hs with ⟨a1, a2, a3⟩ | ⟨a1, a2, a3⟩ | ⟨a1, a2, a3, a4⟩ | ⟨a1, a2, a3, a4⟩ | ⟨a1, a2, a3, a4, a5⟩ | ⟨a1, a2, a3, a4, a5⟩ | ⟨a1, a2, a3, a4, a5⟩
  · exact absurd a3 (by decide)
  · exact a2
  · exact absurd a4 (by decide)
  · omega
  · omega
  · omega
  · omega
theorem wN_v (C : LC f N b k sg) (ht : t < k) (h3 : sg t = 300) : wN b N t / 16 = nI (tS b N t) ∧ wN b N t - wN b N t / 16 * 16 = nI (tE b N t - tS b N t) := by
  have h1 := len_300 C ht h3
  have h2 := (tS_le (t := t) C).2.1
  have h4 := (tS_le (t := t) C).1
  have h5 := C.tc.nl
  have e : wN b N t / 16 = nI (tS b N t) := by
    unfold wN
    rw [show (16 : Int32) = nI 16 from rfl, nI_div (by omega) (by decide) (by decide)]
    congr 1
    omega
  refine ⟨e, ?_⟩
  rw [e]
  unfold wN
  rw [show (16 : Int32) = nI 16 from rfl, nI_mul, nI_sub (by omega)]
  congr 1
  omega
def okU (b : Nat → Nat) (N k : Nat) (sg : Nat → Int32) (cn : Nat) (nt ns : Nat → Nat) (x : Int32) : Prop := ∃ t, t < k ∧ sg t = 300 ∧ x = wN b N t ∧ okN b N cn nt ns t
theorem fsl_loop (C : LC f N b k sg) : ∀ (j i : Nat) (u : MI), i + j = q → q ≤ 9000 → TU u N b → NU u N k b sg cn nt ns nn → u 22 0 45 = nI q → u 22 0 12 = 0 → (∀ x, i ≤ x → x < q → u 65 0 x = 7 → ∃ t, t < k ∧ sg t = 300 ∧ u 66 0 x = wN b N t) →
    ∃ u2, (∀ d z2, 5 ≤ d → RL (mP L xs) d 128 50 [some (rv 22 (some 0)), some (iv (nI i)), z2] [] (u, Y) = some (.inl none, (u2, Y))) ∧ (∀ R o x, ¬ ((R = 66 ∧ i ≤ x) ∨ (R = 22 ∧ (x = 12 ∨ x = 13))) → u2 R o x = u R o x) ∧
      ((u2 22 0 12 = 0 ∧ u2 22 0 13 = u 22 0 13 ∧ (∀ x, i ≤ x → x < q → u 65 0 x = 7 → ∃ t, t < k ∧ sg t = 300 ∧ u 66 0 x = wN b N t ∧ ∃ i', i' < cn ∧ ns i' = 2 ∧ same b N (nt i') t ∧ u2 66 0 x = nI (nn i')) ∧ (∀ x, i ≤ x → x < q → ¬ u 65 0 x = 7 → u2 66 0 x = u 66 0 x)) ∨
        (∃ x t, i ≤ x ∧ x < q ∧ (∀ y, i ≤ y → y < x → u 65 0 y = 7 → okU b N k sg cn nt ns (u 66 0 y)) ∧ u 65 0 x = 7 ∧ t < k ∧ sg t = 300 ∧ u 66 0 x = wN b N t ∧ ¬ okN b N cn nt ns t ∧ u2 22 0 12 = 3 ∧ u2 22 0 13 = nI (tS b N t)))
  | 0, i, u, hi, hq, T, Z, h45, h12, ho => by
    have e : i = q := by omega
    subst e
    refine ⟨u, fun d z2 hd => ?_, fun _ _ _ _ => rfl, Or.inl ⟨h12, rfl, fun x h1 h2 => by omega, fun x h1 h2 => by omega⟩⟩
    rw [K_Ref_fair_50, show (u, Y).1 22 0 45 = nI i from h45, if_neg (nI_nlt (Nat.le_refl i) (by omega))]
  | j + 1, i, u, hi, hq, T, Z, h45, h12, ho => by
    have hlt : nI i < nI q := nI_lt (by omega) (by omega)
    have hin := nin (show i < 9000 by omega) (show 9000 < 2 ^ 31 by decide)
    have hcl := nI_clamp (show i < 2 ^ 31 by omega)
    by_cases z : u 65 0 i = 7
    · obtain ⟨t, t1, t2, t3⟩ := ho i (Nat.le_refl i) (by omega) z
      obtain ⟨v1, v2⟩ := wN_v C t1 t2
      rw [v1] at v2
      have key : ∀ d z2, 5 ≤ d → RL (mP L xs) d 128 50 [some (rv 22 (some 0)), some (iv (nI i)), z2] [] (u, Y) = mclI (EL (mP L xs) d 104 [rv 22 (some 0), iv (nI (tS b N t)), iv (nI (tE b N t - tS b N t))] (u, Y)) (fun x2 h1 => if x2 = (-1) then (mclV (EL (mP L xs) d 102 [rv 22 (some 0), iv 3, iv ((h1.1 66 0 i) / 16)] h1) (fun h3 => RL (mP L xs) d 128 50 [some (rv 22 (some 0)), some (iv (nI (i + 1))), some (iv x2)] [] h3) (fun e h => some (.inr e, h))) else (if ino x2 26 then none else (if h1.1 45 0 ((x2).toNatClampNeg) = 3 then (if ino x2 26 then none else (RL (mP L xs) d 128 50 [some (rv 22 (some 0)), some (iv (nI (i + 1))), some (iv x2)] [] (m3 h1.1 66 0 i (h1.1 46 0 ((x2).toNatClampNeg)), h1.2))) else (mclV (EL (mP L xs) d 102 [rv 22 (some 0), iv 3, iv ((h1.1 66 0 i) / 16)] h1) (fun h4 => RL (mP L xs) d 128 50 [some (rv 22 (some 0)), some (iv (nI (i + 1))), some (iv x2)] [] h4) (fun e h => some (.inr e, h)))))) (fun e h => some (.inr e, h)) := fun d z2 hd => by
        rw [K_Ref_fair_50]
        simp only [h45, if_pos hlt, h12, if_true, if_neg hin, hcl, z, t3, v1, v2, nI_1]
      obtain ⟨w, w1, w2⟩ := r_known (L := L) (xs := xs) (Y := Y) C T Z t
      have hn26 := Z.cl
      have bad : ¬ okN b N cn nt ns t → (∀ d z2, 5 ≤ d → ∃ x2, RL (mP L xs) d 128 50 [some (rv 22 (some 0)), some (iv (nI i)), z2] [] (u, Y) = mclV (EL (mP L xs) d 102 [rv 22 (some 0), iv 3, iv (nI (tS b N t))] (u, Y)) (fun h3 => RL (mP L xs) d 128 50 [some (rv 22 (some 0)), some (iv (nI (i + 1))), some (iv x2)] [] h3) (fun e h => some (.inr e, h))) → ∃ u2, (∀ d z2, 5 ≤ d → RL (mP L xs) d 128 50 [some (rv 22 (some 0)), some (iv (nI i)), z2] [] (u, Y) = some (.inl none, (u2, Y))) ∧ (∀ R o x, ¬ ((R = 66 ∧ i ≤ x) ∨ (R = 22 ∧ (x = 12 ∨ x = 13))) → u2 R o x = u R o x) ∧
      ((u2 22 0 12 = 0 ∧ u2 22 0 13 = u 22 0 13 ∧ (∀ x, i ≤ x → x < q → u 65 0 x = 7 → ∃ t, t < k ∧ sg t = 300 ∧ u 66 0 x = wN b N t ∧ ∃ i', i' < cn ∧ ns i' = 2 ∧ same b N (nt i') t ∧ u2 66 0 x = nI (nn i')) ∧ (∀ x, i ≤ x → x < q → ¬ u 65 0 x = 7 → u2 66 0 x = u 66 0 x)) ∨
        (∃ x t, i ≤ x ∧ x < q ∧ (∀ y, i ≤ y → y < x → u 65 0 y = 7 → okU b N k sg cn nt ns (u 66 0 y)) ∧ u 65 0 x = 7 ∧ t < k ∧ sg t = 300 ∧ u 66 0 x = wN b N t ∧ ¬ okN b N cn nt ns t ∧ u2 22 0 12 = 3 ∧ u2 22 0 13 = nI (tS b N t))) := fun hno hk => by
        refine ⟨m3 (m3 u 22 0 12 3) 22 0 13 (nI (tS b N t)), fun d z2 hd => ?_, fun R o x h => (m3_no (by omega)).trans (m3_no (by omega)), Or.inr ⟨i, t, Nat.le_refl i, by omega, fun y h1 h2 => by omega, z, t1, t2, t3, hno, (m3_i (by decide)).trans m3_eq, m3_eq⟩⟩
        obtain ⟨x2, e⟩ := hk d z2 hd
        rw [e]
        obtain ⟨d, rfl⟩ : ∃ d', d = d' + 1 := ⟨d - 1, by omega⟩
        have e12 : ¬ (m3 (m3 u 22 0 12 3) 22 0 13 (nI (tS b N t)), Y).1 22 0 12 = 0 := by
          show ¬ (m3 (m3 u 22 0 12 3) 22 0 13 (nI (tS b N t))) 22 0 12 = 0
          rw [m3_i (by decide), m3_eq]
          decide
        rw [EL_102, if_pos h12, clV, K_Ref_fair_50, if_neg e12, ite_self]
      rcases w2 with ⟨i', j1, rfl, j3⟩ | ⟨rfl, j3⟩
      · have hz := Z.ar i' j1
        have h45' : u 45 0 i' = nI (ns i' + 1) := hz.2.2.2.2.1
        have h46' : u 46 0 i' = nI (nn i') := hz.2.2.2.2.2.1
        have hns := hz.2.2.1
        by_cases y : ns i' = 2
        · have hF : ∀ R o x, ¬ (R = 66 ∧ x = i) → m3 u 66 0 i (nI (nn i')) R o x = u R o x := fun R o x h => m3_no (fun w => h ⟨w.1, w.2.2⟩)
          obtain ⟨u2, b1, b2, b3⟩ := fsl_loop C j (i + 1) (m3 u 66 0 i (nI (nn i'))) (by omega) hq ⟨T.nl, (hF 22 0 5 (by omega)).trans T.ul, fun x hx => (hF 44 0 x (by omega)).trans (T.ub x hx), T.bb⟩ (Z.fr (fun R o x h => hF R o x (by omega))) ((hF 22 0 45 (by omega)).trans h45) ((hF 22 0 12 (by omega)).trans h12) (fun x h1 h2 h3 => by
            rw [hF 65 0 x (by omega)] at h3
            rw [hF 66 0 x (by omega)]
            exact ho x (by omega) h2 h3)
          refine ⟨u2, fun d z2 hd => ?_, fun R o x h => (b2 R o x (by omega)).trans (hF R o x (by omega)), ?_⟩
          · have h1 := b1 d (some (iv (nI i'))) hd
            rw [key d z2 hd]
            obtain ⟨d, rfl⟩ : ∃ d', d = d' + 1 := ⟨d - 1, by omega⟩
            rw [w1, clI, if_neg (nI_ne1 (by omega))]
            simp only [if_neg (nin (show i' < 26 by omega) (show 26 < 2 ^ 31 by decide)), nI_clamp (show i' < 2 ^ 31 by omega), h45', h46']
            rw [y, if_pos (show nI (2 + 1) = 3 from rfl)]
            exact h1
          · rcases b3 with ⟨c1, c13, c2, c3⟩ | ⟨x, t', c1, c2, c3, c4, c5, c6, c7, c8, c9⟩
            · refine Or.inl ⟨c1, c13.trans (hF 22 0 13 (by omega)), fun x h1 h2 h3 => ?_, fun x h1 h2 h3 => ?_⟩
              · by_cases w : x = i
                · subst w
                  exact ⟨t, t1, t2, t3, i', j1, y, j3, (b2 66 0 x (by omega)).trans m3_eq⟩
                · have := c2 x (by omega) h2 ((hF 65 0 x (by omega)).trans h3)
                  rw [hF 66 0 x (by omega)] at this
                  exact this
              · by_cases w : x = i
                · subst w; exact absurd z h3
                · rw [c3 x (by omega) h2 (fun e => h3 ((hF 65 0 x (by omega)).symm.trans e)), hF 66 0 x (by omega)]
            · refine Or.inr ⟨x, t', by omega, c2, fun y' h1 h2 h3 => ?_, (hF 65 0 x (by omega)).symm.trans c4, c5, c6, (hF 66 0 x (by omega)).symm.trans c7, c8, c9⟩
              by_cases w : y' = i
              · subst w
                exact ⟨t, t1, t2, t3, i', j1, y, j3⟩
              · rw [← hF 66 0 y' (by omega)]
                exact c3 y' (by omega) h2 ((hF 65 0 y' (by omega)).trans h3)
        · refine bad (fun ⟨i2, o1, o2, o3⟩ => ?_) (fun d z2 hd => ⟨nI i', ?_⟩)
          · have := Z.df i' i2 j1 o1 (same_tr j3 (same_sy o3))
            subst this
            exact y o2
          · rw [key d z2 hd]
            obtain ⟨d, rfl⟩ : ∃ d', d = d' + 1 := ⟨d - 1, by omega⟩
            rw [w1, clI, if_neg (nI_ne1 (by omega))]
            simp only [if_neg (nin (show i' < 26 by omega) (show 26 < 2 ^ 31 by decide)), nI_clamp (show i' < 2 ^ 31 by omega), h45', t3, v1]
            rw [if_neg (fun e => y (by have := (nI_eq (a := ns i' + 1) (b := 3) (by omega) (by decide)).mp e; omega))]
      · refine bad (fun ⟨i2, o1, o2, o3⟩ => j3 i2 o1 o3) (fun d z2 hd => ⟨-1, ?_⟩)
        rw [key d z2 hd]
        obtain ⟨d, rfl⟩ : ∃ d', d = d' + 1 := ⟨d - 1, by omega⟩
        rw [w1, clI, if_pos rfl]
        simp only [t3, v1]
    · obtain ⟨u2, b1, b2, b3⟩ := fsl_loop C j (i + 1) u (by omega) hq T Z h45 h12 (fun x h1 h2 => ho x (by omega) h2)
      refine ⟨u2, fun d z2 hd => ?_, fun R o x h => b2 R o x (by omega), ?_⟩
      · rw [K_Ref_fair_50]
        simp only [h45, if_pos hlt, h12, if_true, if_neg hin, hcl, if_neg z, nI_1]
        exact b1 d z2 hd
      · rcases b3 with ⟨c1, c13, c2, c3⟩ | ⟨x, t', c1, c2, c3, c4, c5, c6, c7, c8, c9⟩
        · refine Or.inl ⟨c1, c13, fun x h1 h2 h3 => ?_, fun x h1 h2 h3 => ?_⟩
          · by_cases w : x = i
            · subst w; exact absurd h3 z
            · exact c2 x (by omega) h2 h3
          · by_cases w : x = i
            · subst w; exact b2 66 0 x (by omega)
            · exact c3 x (by omega) h2 h3
        · refine Or.inr ⟨x, t', by omega, c2, fun y' h1 h2 h3 => ?_, c4, c5, c6, c7, c8, c9⟩
          by_cases w : y' = i
          · subst w; exact absurd h3 z
          · exact c3 y' (by omega) h2 h3
end Stl
