/-! ===== read: words and sorts (the class) ===== -/
def sB (o i : Nat) : Nat := (strB o i).toNatClampNeg
theorem st_ok : ∀ o, o < 57 → ∀ i, i < strL o → strB o i = nI (sB o i) ∧ sB o i < 128 := by decide +kernel
theorem st_len : ∀ o, o < 57 → strL o < 200 ∧ (Int32.ofNat (strL o)) >>> ((0 : Int32) &&& 31) = nI (strL o) := by decide +kernel
theorem chr_ok : ∀ c, c < 128 → (((((((nI c) &&& 255).toUInt32 % 65536).toInt32).toUInt32 % 65536).toInt32).toUInt32 % 65536).toInt32 = nI c := by decide +kernel
theorem chr_2 : ∀ c, c < 128 → ((nI c).toUInt32 % 65536).toInt32 = nI c ∧ (nI c).toInt8.toInt32 = nI c := by decide +kernel
/-- the reference's number of the class's words, from 301 on -/
def wm (i : Nat) : Nat := [4, 5, 7, 8, 9, 10, 11, 12, 13, 14, 15, 16, 17, 18, 19, 20, 21, 22, 6, 41, 42, 43, 44, 32, 33, 34, 35, 36, 37, 38, 39, 40, 0, 1, 2, 3, 23, 24, 25, 26, 27, 28, 29, 30, 31, 45, 46, 47, 48, 49, 50].getD i 0
def mt (b : Nat → Nat) (o p m j : Nat) : Prop := (∀ i, i < m → b (p + i) = sB o (7 * j + i)) ∧ sB o (7 * j + m) = 32
def mr (b : Nat → Nat) (p m k : Nat) : Prop := m = strL k ∧ ∀ i, i < m → b (p + i) = sB k i
def brd (o off cnt : Nat) : Prop := ∀ j, j < cnt → wm (off + j) < 51 ∧ strL (wm (off + j)) ≤ 6 ∧ (∀ i, i < strL (wm (off + j)) → sB o (7 * j + i) = sB (wm (off + j)) i ∧ sB (wm (off + j)) i ≠ 32) ∧ (∀ i, i < 7 → strL (wm (off + j)) ≤ i → sB o (7 * j + i) = 32)
theorem br_52 : brd 52 0 19 := by unfold brd; decide +kernel
theorem br_53 : brd 53 19 13 := by unfold brd; decide +kernel
theorem br_54 : brd 54 32 13 := by unfold brd; decide +kernel
theorem br_55 : brd 55 45 6 := by unfold brd; decide +kernel
theorem ln_52 : strL 52 = 7 * 19 ∧ strL 53 = 7 * 13 ∧ strL 54 = 7 * 13 ∧ strL 55 = 7 * 6 ∧ strL 56 = 13 := by decide +kernel
theorem wm_sur : ∀ k, k < 51 → ∃ i, i < 51 ∧ wm i = k := by decide +kernel
theorem wm_inj : ∀ i, i < 51 → ∀ j, j < 51 → wm i = wm j → i = j := by decide +kernel
theorem wd_dif : ∀ k, k < 51 → ∀ k', k' < 51 → k ≠ k' → strL k ≠ strL k' ∨ ∃ i, i < strL k ∧ sB k i ≠ sB k' i := by decide +kernel
theorem wd_len : ∀ k, k < 51 → strL k ≤ 6 ∧ 1 ≤ strL k := by decide +kernel
theorem mr_uni {b : Nat → Nat} {p m k k' : Nat} (hk : k < 51) (hk' : k' < 51) (h : mr b p m k) (h' : mr b p m k') : k = k' := by
  by_cases z : k = k'
  · exact z
  · rcases wd_dif k hk k' hk' z with y | ⟨i, y1, y2⟩
    · exact absurd (h.1.symm.trans h'.1) y
    · have e1 := h.2 i (by rw [h.1]; exact y1)
      have e2 := h'.2 i (by rw [h.1]; exact y1)
      exact absurd (e1.symm.trans e2) y2
theorem mt_mr {b : Nat → Nat} {o off cnt p m j : Nat} (B : brd o off cnt) (hj : j < cnt) (hm : m ≤ 6) (hb : ∀ i, i < m → b (p + i) ≠ 32) : mt b o p m j ↔ mr b p m (wm (off + j)) := by
  obtain ⟨-, b2, b3, b4⟩ := B j hj
  constructor
  · rintro ⟨h1, h2⟩
    have hml : m = strL (wm (off + j)) := by
      by_cases z : m < strL (wm (off + j))
      · obtain ⟨y1, y2⟩ := b3 m z
        exact absurd (y1.symm.trans h2) y2
      · by_cases y : m = strL (wm (off + j))
        · exact y
        · have e := h1 (strL (wm (off + j))) (by omega)
          rw [b4 _ (by omega) (Nat.le_refl _)] at e
          exact absurd e (hb _ (by omega))
    refine ⟨hml, fun i hi => ?_⟩
    rw [h1 i hi]
    exact (b3 i (by omega)).1
  · rintro ⟨h1, h2⟩
    refine ⟨fun i hi => ?_, b4 m (by omega) (by omega)⟩
    rw [h2 i hi]
    exact ((b3 i (by omega)).1).symm
section Wrd
variable {L : Nat} {xs : Nat → Int32} {d : Nat} {N : Nat} {b : Nat → Nat} {h : MH}
theorem c_len {o : Nat} (ho : o < 57) (h : MH) : EL (mP L xs) (d + 2) 21 [rv 2 (some o)] h = some (.inl (some (iv (nI (strL o)))), h) := by
  rw [E_String_length, E_String_coder, clI, (st_len o ho).2]
theorem c_char {o i : Nat} (ho : o < 57) (hi : i < strL o) (h : MH) : EL (mP L xs) (d + 4) 26 [rv 2 (some o), iv (nI i)] h = some (.inl (some (iv (nI (sB o i)))), h) := by
  have hl := (st_len o ho).1
  obtain ⟨s1, s2⟩ := st_ok o ho i hi
  rw [E_String_charAt, E_String_isLatin1, clI, if_neg (by decide), E_Latin1_charAt, E_String_checkIndex, E_Precond_checkIndex, if_neg (nI_pos (by omega)), if_pos (show nI i < Int32.ofNat (strL o) from nI_lt hi (by omega))]
  simp only [clI, clV, if_neg (nin hi (show strL o < 2 ^ 31 by omega)), nI_clamp (show i < 2 ^ 31 by omega), s1, chr_ok _ s2]
theorem ix_cmp (T : TC h.1 N b) {o p m j : Nat} (ho : o < 57) (hj : 7 * j + 7 ≤ strL o) (hm : m ≤ 6) (hp : p + m ≤ N) : ∀ (q s : Nat), s + q = m → (∀ i, i < s → b (p + i) = sB o (7 * j + i)) → ∃ s', s' ≤ m ∧
    RL (mP L xs) (d + 4) 27 26 [some (rv 20 (some 0)), some (rv 2 (some o)), some (iv (nI p)), some (iv (nI m)), some (iv (nI (7 * j))), some (iv (nI s))] [] h = RL (mP L xs) (d + 4) 27 58 [some (rv 20 (some 0)), some (rv 2 (some o)), some (iv (nI p)), some (iv (nI m)), some (iv (nI (7 * j))), some (iv (nI s'))] [] h ∧
    (s' = m → ∀ i, i < m → b (p + i) = sB o (7 * j + i)) ∧ (s' < m → b (p + s') ≠ sB o (7 * j + s'))
  | 0, s, hs, hb => by
    have e : s = m := by omega
    subst e
    refine ⟨s, Nat.le_refl s, ?_, fun _ => hb, fun z => absurd z (by omega)⟩
    rw [K_Text_indexIn_26, if_neg (nI_nlt (Nat.le_refl s) (by omega))]
  | q + 1, s, hs, hb => by
    have hN := T.nl
    have hl := (st_len o ho).1
    have s2 := (st_ok o ho (7 * j + s) (by omega)).2
    have hc := T.bb (p + s)
    by_cases z : b (p + s) = sB o (7 * j + s)
    · obtain ⟨s', a1, a2, a3, a4⟩ := ix_cmp T ho hj hm hp q (s + 1) (by omega) (fun i hi => by
        by_cases y : i = s
        · rw [y]; exact z
        · exact hb i (by omega))
      refine ⟨s', a1, ?_, a3, a4⟩
      rw [K_Text_indexIn_26, if_pos (nI_lt (show s < m by omega) (by omega))]
      simp only [nI_add, c_char ho (show 7 * j + s < strL o by omega), clI, c_bt T (show p + s < 2 ^ 31 by omega), bt_in (show p + s < N by omega), nI_1]
      rw [if_pos (by rw [(cb_is hc (x := b (p + s)) (by omega)).mpr rfl, z])]
      exact a2
    · refine ⟨s, by omega, ?_, fun y => absurd y (by omega), fun _ => z⟩
      rw [K_Text_indexIn_26, if_pos (nI_lt (show s < m by omega) (by omega))]
      simp only [nI_add, c_char ho (show 7 * j + s < strL o by omega), clI, c_bt T (show p + s < 2 ^ 31 by omega), bt_in (show p + s < N by omega), nI_1]
      rw [if_neg (fun e => z (by
        have := cb_is hc s2
        rw [← this]
        exact e.symm))]
theorem ix_loop (T : TC h.1 N b) {o p m cnt : Nat} (ho : o < 57) (hl : strL o = 7 * cnt) (hm : m ≤ 6) (hp : p + m ≤ N) : ∀ (q j : Nat) (z5 : Option MV), j + q = cnt → ∃ v : Int32,
    RL (mP L xs) (d + 4) 27 11 [some (rv 20 (some 0)), some (rv 2 (some o)), some (iv (nI p)), some (iv (nI m)), some (iv (nI (7 * j))), z5] [] h = some (.inl (some (iv v)), h) ∧ ((∃ i, i < cnt ∧ v = nI i ∧ mt b o p m i) ∨ (v = -1 ∧ ∀ i, j ≤ i → i < cnt → ¬ mt b o p m i))
  | 0, j, z5, hq => by
    have e : j = cnt := by omega
    subst e
    have h2 := (st_len o ho).1
    refine ⟨-1, ?_, Or.inr ⟨rfl, fun i h1 h2 => absurd h2 (by omega)⟩⟩
    rw [K_Text_indexIn_11, c_len (d := d + 2) ho, clI, hl, show nI (7 * j) + 7 = nI (7 * j + 7) from nI_add (7 * j) 7, if_pos (nI_lt (by omega) (by omega))]
  | q + 1, j, z5, hq => by
    have h2 := (st_len o ho).1
    obtain ⟨s', a1, a2, a3, a4⟩ := ix_cmp (L := L) (xs := xs) (d := d) T ho (j := j) (p := p) (m := m) (by omega) hm hp m 0 (by omega) (fun i hi => absurd hi (Nat.not_lt_zero i))
    have e7 : nI (7 * j) + 7 = nI (7 * (j + 1)) := nI_add (7 * j) 7
    have hn : ¬ nI (7 * cnt) < nI (7 * (j + 1)) := nI_nlt (by omega) (by omega)
    have key : RL (mP L xs) (d + 4) 27 11 [some (rv 20 (some 0)), some (rv 2 (some o)), some (iv (nI p)), some (iv (nI m)), some (iv (nI (7 * j))), z5] [] h = RL (mP L xs) (d + 4) 27 58 [some (rv 20 (some 0)), some (rv 2 (some o)), some (iv (nI p)), some (iv (nI m)), some (iv (nI (7 * j))), some (iv (nI s'))] [] h := by
      rw [K_Text_indexIn_11, c_len (d := d + 2) ho, clI, hl, e7, if_neg hn]
      exact a2
    have hnext : ¬ mt b o p m j → RL (mP L xs) (d + 4) 27 58 [some (rv 20 (some 0)), some (rv 2 (some o)), some (iv (nI p)), some (iv (nI m)), some (iv (nI (7 * j))), some (iv (nI s'))] [] h = RL (mP L xs) (d + 4) 27 11 [some (rv 20 (some 0)), some (rv 2 (some o)), some (iv (nI p)), some (iv (nI m)), some (iv (nI (7 * (j + 1)))), some (iv (nI s'))] [] h → ∃ v : Int32,
        RL (mP L xs) (d + 4) 27 11 [some (rv 20 (some 0)), some (rv 2 (some o)), some (iv (nI p)), some (iv (nI m)), some (iv (nI (7 * j))), z5] [] h = some (.inl (some (iv v)), h) ∧ ((∃ i, i < cnt ∧ v = nI i ∧ mt b o p m i) ∨ (v = -1 ∧ ∀ i, j ≤ i → i < cnt → ¬ mt b o p m i)) := by
      intro hno he
      obtain ⟨v, v1, v2⟩ := ix_loop T ho hl hm hp q (j + 1) (some (iv (nI s'))) (by omega)
      refine ⟨v, by rw [key, he]; exact v1, ?_⟩
      rcases v2 with v2 | ⟨v2, v3⟩
      · exact Or.inl v2
      · refine Or.inr ⟨v2, fun i h1 h3 => ?_⟩
        by_cases y : i = j
        · rw [y]; exact hno
        · exact v3 i (by omega) h3
    by_cases z : s' = m
    · have hall := a3 z
      have hch := c_char (L := L) (xs := xs) (d := d) ho (show 7 * j + m < strL o by omega) h
      have s2 := (st_ok o ho (7 * j + m) (by omega)).2
      by_cases y : sB o (7 * j + m) = 32
      · refine ⟨nI j, ?_, Or.inl ⟨j, by omega, rfl, hall, y⟩⟩
        rw [key, K_Text_indexIn_58, if_pos (by rw [z])]
        simp only [nI_add, hch, clI, y]
        rw [if_pos (show nI 32 = 32 from rfl), show (7 : Int32) = nI 7 from rfl, nI_div (by omega) (by decide) (by decide), Nat.mul_div_cancel_left j (by decide)]
      · refine hnext (fun w => y w.2) ?_
        rw [K_Text_indexIn_58, if_pos (by rw [z])]
        simp only [nI_add, hch, clI, e7]
        rw [if_neg (show ¬ nI (sB o (7 * j + m)) = 32 from fun e => y ((nI_eq (b := 32) (by omega) (by decide)).mp e))]
    · refine hnext (fun w => a4 (by omega) (w.1 s' (by omega))) ?_
      rw [K_Text_indexIn_58, if_neg (fun e => z ((nI_eq (by omega) (by omega)).mp e)), e7]
theorem c_ix (T : TC h.1 N b) {o p m cnt : Nat} (ho : o < 57) (hl : strL o = 7 * cnt) (hm : m ≤ 8) (hp : p + m ≤ N) : ∃ v : Int32, EL (mP L xs) (d + 5) 27 [rv 20 (some 0), rv 2 (some o), iv (nI p), iv (nI m)] h = some (.inl (some (iv v)), h) ∧ ((∃ i, i < cnt ∧ m ≤ 6 ∧ v = nI i ∧ mt b o p m i) ∨ (v = -1 ∧ (m ≤ 6 → ∀ i, i < cnt → ¬ mt b o p m i))) := by
  rw [E_Text_indexIn]
  by_cases z : m < 7
  · rw [if_pos (show nI m < 7 from nI_lt (b := 7) z (by decide))]
    obtain ⟨v, v1, v2⟩ := ix_loop (L := L) (xs := xs) (d := d) T ho hl (show m ≤ 6 by omega) hp cnt 0 none (by omega)
    refine ⟨v, v1, ?_⟩
    rcases v2 with ⟨i, i1, i2, i3⟩ | ⟨v2, v3⟩
    · exact Or.inl ⟨i, i1, by omega, i2, i3⟩
    · exact Or.inr ⟨v2, fun _ i hi => v3 i (Nat.zero_le i) hi⟩
  · rw [if_neg (show ¬ nI m < 7 from nI_nlt (a := m) (b := 7) (by omega) (by omega))]
    exact ⟨-1, rfl, Or.inr ⟨rfl, fun y => absurd y (by omega)⟩⟩
theorem nI_ne1 {i : Nat} (h : i < 2 ^ 31) : ¬ nI i = -1 := fun e => by
  have : (nI i).toInt = (-1 : Int32).toInt := by rw [e]
  rw [nI_toInt h] at this
  have e9 : (-1 : Int32).toInt = -1 := by decide
  omega
theorem c_ws (T : TC h.1 N b) {p m : Nat} (hm : m ≤ 8) (hp : p + m ≤ N) (hb : ∀ i, i < m → b (p + i) ≠ 32) : ∃ v : Int32, EL (mP L xs) (d + 6) 28 [rv 20 (some 0), iv (nI p), iv (nI m)] h = some (.inl (some (iv v)), h) ∧ ((∃ i, i < 51 ∧ v = nI (301 + i) ∧ mr b p m (wm i)) ∨ (v = 300 ∧ ∀ k, k < 51 → ¬ mr b p m k)) := by
  obtain ⟨l1, l2, l3, l4, -⟩ := ln_52
  obtain ⟨v1, a1, a2⟩ := c_ix (L := L) (xs := xs) (d := d) T (o := 52) (by decide) l1 hm hp
  obtain ⟨v2, b1, b2⟩ := c_ix (L := L) (xs := xs) (d := d) T (o := 53) (by decide) l2 hm hp
  obtain ⟨v3, c1, c2⟩ := c_ix (L := L) (xs := xs) (d := d) T (o := 54) (by decide) l3 hm hp
  obtain ⟨v4, d1, d2⟩ := c_ix (L := L) (xs := xs) (d := d) T (o := 55) (by decide) l4 hm hp
  rw [E_Text_wordSort]
  simp only [a1, b1, c1, d1, clI]
  rcases a2 with ⟨i, i1, i2, rfl, i4⟩ | ⟨rfl, a3⟩
  · refine ⟨nI (301 + i), ?_, Or.inl ⟨0 + i, by omega, by rw [Nat.zero_add], (mt_mr br_52 i1 i2 hb).mp i4⟩⟩
    rw [if_neg (nI_ne1 (by omega)), show (301 : Int32) + nI i = nI (301 + i) from nI_add 301 i]
  rw [if_pos rfl]
  rcases b2 with ⟨i, i1, i2, rfl, i4⟩ | ⟨rfl, b3⟩
  · refine ⟨nI (301 + (19 + i)), ?_, Or.inl ⟨19 + i, by omega, rfl, (mt_mr br_53 i1 i2 hb).mp i4⟩⟩
    rw [if_neg (nI_ne1 (by omega)), show (320 : Int32) + nI i = nI (320 + i) from nI_add 320 i, show 301 + (19 + i) = 320 + i by omega]
  rw [if_pos rfl]
  rcases c2 with ⟨i, i1, i2, rfl, i4⟩ | ⟨rfl, c3⟩
  · refine ⟨nI (301 + (32 + i)), ?_, Or.inl ⟨32 + i, by omega, rfl, (mt_mr br_54 i1 i2 hb).mp i4⟩⟩
    rw [if_neg (nI_ne1 (by omega)), show (333 : Int32) + nI i = nI (333 + i) from nI_add 333 i, show 301 + (32 + i) = 333 + i by omega]
  rw [if_pos rfl]
  rcases d2 with ⟨i, i1, i2, rfl, i4⟩ | ⟨rfl, d3⟩
  · refine ⟨nI (301 + (45 + i)), ?_, Or.inl ⟨45 + i, by omega, rfl, (mt_mr br_55 i1 i2 hb).mp i4⟩⟩
    rw [if_neg (nI_ne1 (by omega)), show (346 : Int32) + nI i = nI (346 + i) from nI_add 346 i, show 301 + (45 + i) = 346 + i by omega]
  rw [if_pos rfl]
  refine ⟨300, rfl, Or.inr ⟨rfl, fun k hk hmr => ?_⟩⟩
  have hm6 : m ≤ 6 := by rw [hmr.1]; exact (wd_len k hk).1
  obtain ⟨i, i1, i2⟩ := wm_sur k hk
  subst i2
  by_cases z1 : i < 19
  · exact a3 hm6 i z1 ((mt_mr br_52 z1 hm6 hb).mpr (by rw [Nat.zero_add]; exact hmr))
  · by_cases z2 : i < 32
    · exact b3 hm6 (i - 19) (by omega) ((mt_mr br_53 (by omega) hm6 hb).mpr (by rw [show 19 + (i - 19) = i by omega]; exact hmr))
    · by_cases z3 : i < 45
      · exact c3 hm6 (i - 32) (by omega) ((mt_mr br_54 (by omega) hm6 hb).mpr (by rw [show 32 + (i - 32) = i by omega]; exact hmr))
      · exact d3 hm6 (i - 45) (by omega) ((mt_mr br_55 (by omega) hm6 hb).mpr (by rw [show 45 + (i - 45) = i by omega]; exact hmr))
/-! signs -/
def sgn (c : Nat) : Prop := c = 123 ∨ c = 125 ∨ c = 40 ∨ c = 41 ∨ c = 59 ∨ c = 46 ∨ c = 43 ∨ c = 45 ∨ c = 42 ∨ c = 47 ∨ c = 60 ∨ c = 62 ∨ c = 61
theorem sg_all : (∀ i, i < 13 → sgn (sB 56 i)) ∧ ∀ c, c < 128 → sgn c → ∃ i, i < 13 ∧ sB 56 i = c := by unfold sgn; decide +kernel
theorem sg_loop {c : Nat} (hc : c < 128) (h : MH) : ∀ (q i : Nat), i + q = 13 → ∃ v : Int32, RL (mP L xs) d 30 7 [some (rv 3 (some 56)), some (iv (nI c)), some (iv 0), some (iv 13), some (iv (nI c)), some (iv (nI i))] [] h = some (.inl (some (iv v)), h) ∧ ((v < 0 ∧ ∀ j, i ≤ j → j < 13 → sB 56 j ≠ c) ∨ (¬ v < 0 ∧ ∃ j, j < 13 ∧ sB 56 j = c))
  | 0, i, hi => by
    have e : i = 13 := by omega
    subst e
    refine ⟨-1, ?_, Or.inl ⟨by decide, fun j h1 h2 => absurd h2 (by omega)⟩⟩
    rw [K_Latin1_indexOfChar_7, if_neg (by decide)]
  | q + 1, i, hi => by
    obtain ⟨s1, s2⟩ := st_ok 56 (by decide) i (by rw [ln_52.2.2.2.2]; omega)
    rw [K_Latin1_indexOfChar_7, if_pos (show nI i < 13 from nI_lt (b := 13) (by omega) (by decide)), if_neg (nin (show i < strL 56 by rw [ln_52.2.2.2.2]; omega) (by rw [ln_52.2.2.2.2]; decide)), nI_clamp (by omega), s1]
    by_cases z : sB 56 i = c
    · rw [if_pos (by rw [z])]
      exact ⟨nI i, rfl, Or.inr ⟨nI_pos (by omega), i, by omega, z⟩⟩
    · rw [if_neg (fun e => z ((nI_eq (by omega) (by omega)).mp e)), nI_1]
      obtain ⟨v, v1, v2⟩ := sg_loop hc h q (i + 1) (by omega)
      refine ⟨v, v1, ?_⟩
      rcases v2 with ⟨v2, v3⟩ | v2
      · refine Or.inl ⟨v2, fun j h1 h2 => ?_⟩
        by_cases y : j = i
        · rw [y]; exact z
        · exact v3 j (by omega) h2
      · exact Or.inr v2
theorem c_sig {c : Nat} (hc : c < 128) (h : MH) : ∃ v : Int32, EL (mP L xs) (d + 4) 33 [rv 2 (some 56), iv (nI c)] h = some (.inl (some (iv v)), h) ∧ (v < 0 ↔ ¬ sgn c) := by
  obtain ⟨v, v1, v2⟩ := sg_loop (L := L) (xs := xs) (d := d) hc h 13 0 (by omega)
  have l13 := ln_52.2.2.2.2
  refine ⟨v, ?_, ?_⟩
  · have e13 : Int32.ofNat (strL 56) = 13 := by rw [l13]; rfl
    rw [E_String_indexOf1, E_String_indexOf2, E_String_isLatin1, clI, if_neg (by decide), c_len (d := d) (by decide), clI, E_Latin1_indexOf, E_Latin1_canEncode, if_neg (nI_pos (by omega)), if_neg (show ¬ 255 < nI c from nI_nlt (a := 255) (b := c) (by omega) (by decide)), clI, if_neg (by decide), e13, l13]
    rw [show (if (0 : Int32) < 0 then (0 : Int32) else 0) = 0 from rfl, show (if (13 : Int32) < nI 13 then (13 : Int32) else nI 13) = 13 from rfl, if_pos (by decide), E_Latin1_indexOfChar, (chr_2 c hc).2]
    rw [nI_0] at v1
    rw [v1]
    rfl
  · rcases v2 with ⟨v2, v3⟩ | ⟨v2, j, j1, j2⟩
    · refine ⟨fun _ w => ?_, fun _ => v2⟩
      obtain ⟨i, i1, i2⟩ := sg_all.2 c hc w
      exact v3 i (Nat.zero_le i) i1 i2
    · refine ⟨fun w => absurd w v2, fun w => absurd ?_ w⟩
      rw [← j2]
      exact sg_all.1 j j1
/-- what the class says of the token from p to e -/
def SRT (b : Nat → Nat) (p e : Nat) (v : Int32) : Prop :=
  (isL (b p) = true ∧ 8 < e - p ∧ v = 1) ∨ (isL (b p) = true ∧ e - p ≤ 8 ∧ ((∃ i, i < 51 ∧ v = nI (301 + i) ∧ mr b p (e - p) (wm i)) ∨ (v = 300 ∧ ∀ k, k < 51 → ¬ mr b p (e - p) k))) ∨
  (isL (b p) = false ∧ isD (b p) = true ∧ 4 < e - p ∧ v = 1) ∨ (isL (b p) = false ∧ isD (b p) = true ∧ e - p ≤ 4 ∧ v = 2) ∨
  (isL (b p) = false ∧ isD (b p) = false ∧ e = p + 2 ∧ jn (b p) ∧ v = nI (128 + b p)) ∨ (isL (b p) = false ∧ isD (b p) = false ∧ e = p + 1 ∧ sgn (b p) ∧ v = nI (b p)) ∨ (isL (b p) = false ∧ isD (b p) = false ∧ e = p + 1 ∧ ¬ sgn (b p) ∧ v = 1)
theorem wj_all {b : Nat → Nat} : ∀ (j p i : Nat), p ≤ i → i < wj b j p → b i ≠ 32 ∧ (isD (b i) || isL (b i)) = true
  | 0, p, i, h1, h2 => absurd h2 (by unfold wj; omega)
  | j + 1, p, i, h1, h2 => by
    unfold wj at h2
    cases hz : isD (b p) || isL (b p) with
    | false => rw [hz, cond_false] at h2; exact absurd h2 (by omega)
    | true =>
      rw [hz, cond_true] at h2
      by_cases y : i = p
      · subst y
        refine ⟨fun e => ?_, hz⟩
        rw [e] at hz
        exact absurd hz (by decide)
      · exact wj_all j (p + 1) i (by omega) h2
theorem sgn_lt {c : Nat} (h : sgn c) : 32 < c ∧ c < 128 := by
  unfold sgn at h
  omega
theorem c_srt (T : TC h.1 N b) {p : Nat} (hp : p < N) : ∃ v : Int32, EL (mP L xs) (d + 7) 34 [rv 20 (some 0), iv (nI p), iv (nI (tend b N p))] h = some (.inl (some (iv v)), h) ∧ SRT b p (tend b N p) v := by
  have hN := T.nl
  have hc := T.bb p
  obtain ⟨t1, t2⟩ := tend_b (b := b) hp
  have hsz : nI (tend b N p) - nI p = nI (tend b N p - p) := nI_sub (by omega)
  rw [E_Text_sortOf]
  simp only [c_bt T (show p < 2 ^ 31 by omega), bt_in hp, clI, c_isL hc, c_isD hc, hsz]
  cases h1 : isL (b p) with
  | true =>
    simp (decide := true) only [bI, cond_true, if_false]
    by_cases z : 8 < tend b N p - p
    · rw [if_pos (show 8 < nI (tend b N p - p) from nI_lt (a := 8) z (by omega))]
      exact ⟨1, rfl, Or.inl ⟨h1, z, rfl⟩⟩
    · rw [if_neg (show ¬ 8 < nI (tend b N p - p) from nI_nlt (a := 8) (b := tend b N p - p) (by omega) (by decide))]
      have hw : tend b N p = wj b (N - (p + 1)) (p + 1) := by
        unfold tend
        rw [h1, cond_true]
      obtain ⟨v, v1, v2⟩ := c_ws (L := L) (xs := xs) (d := d) T (p := p) (m := tend b N p - p) (by omega) (by omega) (fun i hi => by
        by_cases y : i = 0
        · subst y
          have := isL_ne h1
          rw [Nat.add_zero]
          omega
        · exact (wj_all (b := b) (N - (p + 1)) (p + 1) (p + i) (by omega) (by rw [← hw]; omega)).1)
      rw [v1, clI]
      exact ⟨v, rfl, Or.inr (Or.inl ⟨h1, by omega, v2⟩)⟩
  | false =>
    simp (decide := true) only [bI, cond_false, if_true]
    cases h2 : isD (b p) with
    | true =>
      simp (decide := true) only [cond_true, if_false]
      by_cases z : 4 < tend b N p - p
      · rw [if_pos (show 4 < nI (tend b N p - p) from nI_lt (a := 4) z (by omega))]
        exact ⟨1, rfl, Or.inr (Or.inr (Or.inl ⟨h1, h2, z, rfl⟩))⟩
      · rw [if_neg (show ¬ 4 < nI (tend b N p - p) from nI_nlt (a := 4) (b := tend b N p - p) (by omega) (by decide))]
        exact ⟨2, rfl, Or.inr (Or.inr (Or.inr (Or.inl ⟨h1, h2, by omega, rfl⟩)))⟩
    | false =>
      simp (decide := true) only [cond_false, if_true]
      by_cases z : jn (b p) ∧ bt b N (p + 1) = 61
      · have ht : tend b N p = p + 2 := by
          unfold tend
          rw [h1, h2, cond_false, cond_false, if_pos z]
        have hl : b p < 128 := by
          rcases z.1 with y | y | y | y <;> omega
        rw [ht, show p + 2 - p = 2 by omega, if_pos (show nI 2 = 2 from rfl), (cb_is hc hl).mpr rfl, show (128 : Int32) + nI (b p) = nI (128 + b p) from nI_add 128 (b p)]
        exact ⟨_, rfl, Or.inr (Or.inr (Or.inr (Or.inr (Or.inl ⟨h1, h2, rfl, z.1, rfl⟩))))⟩
      · have ht : tend b N p = p + 1 := by
          unfold tend
          rw [h1, h2, cond_false, cond_false, if_neg z]
        rw [ht, show p + 1 - p = 1 by omega, if_neg (show ¬ nI 1 = 2 by decide)]
        by_cases y : 32 < cb (b p)
        · rw [if_pos y]
          rcases cb_v (b p) hc with ⟨w1, w2⟩ | ⟨w1, w2⟩
          · obtain ⟨v, v1, v2⟩ := c_sig (L := L) (xs := xs) (d := d + 2) w1 h
            rw [w2, (chr_2 _ w1).1, v1, clI]
            by_cases x : sgn (b p)
            · rw [if_neg (fun e => (v2.mp e) x)]
              exact ⟨_, rfl, Or.inr (Or.inr (Or.inr (Or.inr (Or.inr (Or.inl ⟨h1, h2, rfl, x, rfl⟩)))))⟩
            · rw [if_pos (v2.mpr x)]
              exact ⟨_, rfl, Or.inr (Or.inr (Or.inr (Or.inr (Or.inr (Or.inr ⟨h1, h2, rfl, x, rfl⟩)))))⟩
          · rw [i_lt] at y w2
            have e0 : (0 : Int32).toInt = 0 := by decide
            have e32 : (32 : Int32).toInt = 32 := by decide
            omega
        · rw [if_neg y]
          refine ⟨_, rfl, Or.inr (Or.inr (Or.inr (Or.inr (Or.inr (Or.inr ⟨h1, h2, rfl, fun x => ?_, rfl⟩)))))⟩
          obtain ⟨x1, x2⟩ := sgn_lt x
          refine y ?_
          rw [(cb_is hc x2).mpr rfl]
          exact nI_lt (a := 32) x1 (by omega)
end Wrd
