/-! ===== read: a ride's kind, numbers, leader ===== -/
def abv (kd : Nat) : Int32 := ([5, 6, 7, 17, 8, 26, 28, 31, 5] : List Int32).getD kd 0
def hasN (kd j : Nat) : Bool := if j < 2 then aTu kd else if j < 4 then aLi kd else if j = 4 then aSe kd else aLa kd
def msk (j : Nat) : Int32 := ([1, 1, 2, 2, 4, 8] : List Int32).getD j 0
def mst (j : Nat) : Nat := [500, 50, 500, 200, 60, 500].getD j 0
def pcj (j : Nat) : Nat := [103, 133, 164, 195, 225, 257].getD j 0
theorem hasN_ok : ∀ kd, kd ≤ 8 → ∀ j, j < 6 → (abv kd &&& msk j = 0 ↔ hasN kd j = false) ∧ (tabB 4 kd &&& tabB 5 j = 0 ↔ hasN kd j = false) := by decide +kernel
theorem mst_ok : ∀ j, j < 6 → tabB 6 j = nI (mst j) ∧ mst j < 10000 := by decide +kernel
theorem has_ok : ∀ kd, kd ≤ 8 → (abv kd &&& 1 = 0 ↔ aTu kd = false) ∧ ((nI kd = 8) ↔ (kd == 8) = true) := by decide +kernel
theorem abv_v {u : MI} (h : R_abl u) {kd : Nat} (hk : kd ≤ 8) : u 42 0 kd = abv kd := by
  obtain ⟨a0, a1, a2, a3, a4, a5, a6, a7, a8⟩ := h
  have hh : kd = 0 ∨ kd = 1 ∨ kd = 2 ∨ kd = 3 ∨ kd = 4 ∨ kd = 5 ∨ kd = 6 ∨ kd = 7 ∨ kd = 8 := by omega
  rcases hh with rfl | rfl | rfl | rfl | rfl | rfl | rfl | rfl | rfl <;> assumption
/-- a number as it was told -/
def NV (kd j : Nat) (x : Int32) : Prop := (hasN kd j = true → ∃ v : Nat, 1 ≤ v ∧ v ≤ mst j ∧ x = nI v) ∧ (hasN kd j = false → x = 0)
def bec (f : MI) (n kd : Nat) : MI := m3 (m3 (m3 (m3 (m3 (m3 (m3 (m3 f 16 n 4 (nI kd)) 16 n 5 (tabB 4 kd)) 27 n 0 0) 27 n 1 0) 27 n 2 0) 27 n 3 0) 27 n 4 0) 27 n 5 0
section Rid
variable {L : Nat} {xs : Nat → Int32} {g : MR} {X : ML × (Nat → Nat) × Nat × Nat} {Y : MR × ML × (Nat → Nat) × Nat × Nat} {N k t cn n kd : Nat} {b : Nat → Nat} {sg : Nat → Int32} {f f2 u u2 : MI} {nt ns nn : Nat → Nat}
theorem bec_no {R o i : Nat} (h : ¬ (o = n ∧ (R = 27 ∨ (R = 16 ∧ (i = 4 ∨ i = 5))))) : bec f n kd R o i = f R o i := by
  unfold bec
  rw [m3_no (by omega), m3_no (by omega), m3_no (by omega), m3_no (by omega), m3_no (by omega), m3_no (by omega), m3_no (by omega), m3_no (by omega)]
theorem bec_v : bec f n kd 16 n 4 = nI kd ∧ bec f n kd 16 n 5 = tabB 4 kd ∧ ∀ j, j < 6 → bec f n kd 27 n j = 0 := by
  refine ⟨?_, ?_, fun j hj => ?_⟩
  · unfold bec
    repeat first | exact m3_eq | rw [m3_i (by decide)] | rw [m3_r (by decide)]
  · unfold bec
    repeat first | exact m3_eq | rw [m3_i (by decide)] | rw [m3_r (by decide)]
  · have hh : j = 0 ∨ j = 1 ∨ j = 2 ∨ j = 3 ∨ j = 4 ∨ j = 5 := by omega
    unfold bec
    rcases hh with rfl | rfl | rfl | rfl | rfl | rfl <;> (repeat first | exact m3_eq | rw [m3_i (by decide)] | rw [m3_r (by decide)])
theorem c_bec (hkd : kd ≤ 8) {d : Nat} : EL (mP L xs) (d + 1) 57 [rv 16 (some n), iv (nI kd)] (f, g, X) = some (.inl none, (bec f n kd, m3 g 16 n 6 none, X)) := by
  have e4 : (m3 f 16 n 4 (nI kd)) 16 n 4 = nI kd := m3_eq
  rw [E_Ride_become]
  simp only [e4, if_neg (nI_pos (show kd < 2 ^ 31 by omega)), if_pos (show nI kd < 9 from nI_lt (b := 9) (by omega) (by decide)), if_neg (nin (show kd < 9 by omega) (show 9 < 2 ^ 31 by decide)), nI_clamp (show kd < 2 ^ 31 by omega)]
  rw [K_Ride_become_46, if_pos (by decide), if_neg (by decide), K_Ride_become_46, if_pos (by decide), if_neg (by decide), K_Ride_become_46, if_pos (by decide), if_neg (by decide), K_Ride_become_46, if_pos (by decide), if_neg (by decide), K_Ride_become_46, if_pos (by decide), if_neg (by decide), K_Ride_become_46, if_pos (by decide), if_neg (by decide), K_Ride_become_46, if_neg (by decide)]
  rfl
def L82 (n : Nat) (v3 v4 v5 : Int32) : List (Option MV) := [some (rv 12 (some 0)), some (iv (nI n)), some (rv 16 (some n)), some (iv v3), some (iv v4), some (iv v5)]
def L126 (n kd : Nat) : List (Option MV) := [some (rv 22 (some 0)), some (iv (nI n)), some (iv (abv kd))]
theorem c_hasN {j d : Nat} (hkd : kd ≤ 8) (hj : j < 6) (h5 : f 16 n 5 = tabB 4 kd) : EL (mP L xs) (d + 2) 59 [rv 16 (some n), iv (nI j)] (f, g, X) = some (.inl (some (iv (bI (hasN kd j)))), (f, g, X)) := by
  have hm := (hasN_ok kd hkd j hj).2
  rw [E_Ride_hasNumber]
  simp only [if_neg (nI_pos (show j < 2 ^ 31 by omega)), if_pos (show nI j < 6 from nI_lt (b := 6) hj (by decide)), if_neg (nin hj (show 6 < 2 ^ 31 by decide)), nI_clamp (show j < 2 ^ 31 by omega), E_Ride_has, h5]
  cases h : hasN kd j with
  | false =>
    rw [if_pos (hm.mpr h), clI, if_pos rfl]
    rfl
  | true =>
    rw [if_neg (fun e => by have := hm.mp e; rw [h] at this; cases this), clI, if_neg (by decide)]
    rfl
theorem c_most {j d : Nat} (hj : j < 6) (h : MH) : EL (mP L xs) (d + 1) 60 [iv (nI j)] h = some (.inl (some (iv (nI (mst j)))), h) := by
  rw [E_Ride_numberMost]
  simp only [if_neg (nI_pos (show j < 2 ^ 31 by omega)), if_pos (show nI j < 6 from nI_lt (b := 6) hj (by decide)), if_neg (nin hj (show 6 < 2 ^ 31 by decide)), nI_clamp (show j < 2 ^ 31 by omega), (mst_ok j hj).1]
theorem c_putN {j d : Nat} (hj : j < 6) (v : Int32) : EL (mP L xs) (d + 1) 61 [rv 16 (some n), iv (nI j), iv v] (f, g, X) = some (.inl none, (m3 f 27 n j v, g, X)) := by
  rw [E_Ride_putNumber]
  simp only [if_neg (nI_pos (show j < 2 ^ 31 by omega)), if_pos (show nI j < 6 from nI_lt (b := 6) hj (by decide)), if_neg (nin hj (show 6 < 2 ^ 31 by decide)), nI_clamp (show j < 2 ^ 31 by omega)]
theorem c_110n {j d : Nat} {v3 v4 : Int32} (hkd : kd ≤ 8) (hj : j < 6) (h5 : f 16 n 5 = tabB 4 kd) (hh : hasN kd j = false) : RL (mP L xs) (d + 2) 82 110 (L82 n v3 v4 (nI j)) [] (f, g, X) = RL (mP L xs) (d + 2) 82 110 (L82 n v3 v4 (nI (j + 1))) [] (f, g, X) := by
  unfold L82
  rw [K_FairReader_ride_110, if_pos (show nI j < 6 from nI_lt (b := 6) hj (by decide)), onS_s, c_hasN hkd hj h5, clI, hh, if_pos (by decide), nI_1]
theorem c_110y {j d : Nat} {v3 v4 v : Int32} {f1 : MI} (hkd : kd ≤ 8) (hj : j < 6) (h5 : f 16 n 5 = tabB 4 kd) (hh : hasN kd j = true) (hn : EL (mP L xs) (d + 2) 45 [rv 12 (some 0), iv (nI (mst j))] (f, g, X) = some (.inl (some (iv v)), (f1, g, X))) : RL (mP L xs) (d + 2) 82 110 (L82 n v3 v4 (nI j)) [] (f, g, X) = RL (mP L xs) (d + 2) 82 110 (L82 n v3 v4 (nI (j + 1))) [] (m3 f1 27 n j v, g, X) := by
  unfold L82
  rw [K_FairReader_ride_110, if_pos (show nI j < 6 from nI_lt (b := 6) hj (by decide)), onS_s, c_hasN hkd hj h5, clI, hh, if_neg (by decide), c_most hj, clI, hn, clI, onS_s, c_putN hj, clV, nI_1]
/-- behind a fault: the numbers -/
theorem ed_num {p0 q0 v : Int32} {d : Nat} (E : ED f p0 q0) : EL (mP L xs) (d + 2) 45 [rv 12 (some 0), iv v] (f, g, X) = some (.inl (some (iv 0)), (f, g, X)) := by
  rw [E_FairReader_number, ed_sort E, clI, if_neg (by decide), ed_ref E, clV]
theorem ED.m27 {p0 q0 v : Int32} {a i : Nat} (E : ED f p0 q0) : ED (m3 f 27 a i v) p0 q0 := E.fr (m3_r (by decide)) (m3_r (by decide)) (m3_r (by decide)) (m3_r (by decide)) (m3_r (by decide))
theorem ed_nums {p0 q0 : Int32} (hkd : kd ≤ 8) : ∀ (i j : Nat) (f : MI), j + i = 6 → ED f p0 q0 → f 16 n 5 = tabB 4 kd → ∃ f2, (∀ d g X v3 v4, 2 ≤ d → RL (mP L xs) d 82 110 (L82 n v3 v4 (nI j)) [] (f, g, X) = RL (mP L xs) d 82 110 (L82 n v3 v4 6) [] (f2, g, X)) ∧ ED f2 p0 q0 ∧ (∀ R o x, ¬ (R = 27 ∧ o = n) → f2 R o x = f R o x)
  | 0, j, f, hj, E, h5 => by
    have e : j = 6 := by omega
    subst e
    exact ⟨f, fun _ _ _ _ _ _ => rfl, E, fun _ _ _ _ => rfl⟩
  | i + 1, j, f, hj, E, h5 => by
    cases hh : hasN kd j with
    | false =>
      obtain ⟨f2, a1, a2, a3⟩ := ed_nums hkd i (j + 1) f (by omega) E h5
      refine ⟨f2, fun d g X v3 v4 hd => ?_, a2, a3⟩
      rw [← a1 d g X v3 v4 hd]
      obtain ⟨d, rfl⟩ : ∃ d', d = d' + 2 := ⟨d - 2, by omega⟩
      exact c_110n hkd (by omega) h5 hh
    | true =>
      obtain ⟨f2, a1, a2, a3⟩ := ed_nums hkd i (j + 1) (m3 f 27 n j 0) (by omega) E.m27 ((m3_r (by decide)).trans h5)
      refine ⟨f2, fun d g X v3 v4 hd => ?_, a2, fun R o x h => (a3 R o x h).trans (m3_no (by omega))⟩
      rw [← a1 d g X v3 v4 hd]
      obtain ⟨d, rfl⟩ : ∃ d', d = d' + 2 := ⟨d - 2, by omega⟩
      exact c_110y hkd (by omega) h5 hh (ed_num E)
/-- one number on both sides -/
theorem nu_one {j : Nat} (hkd : kd ≤ 8) (hj : j < 6) (P : PX f u N k b sg t) (h5 : f 16 n 5 = tabB 4 kd) (hz : f 27 n j = 0) :
    ∃ f2 u2 w, (∀ d g X v3 v4, 5 ≤ d → RL (mP L xs) d 82 110 (L82 n v3 v4 (nI j)) [] (f, g, X) = RL (mP L xs) d 82 110 (L82 n v3 v4 (nI (j + 1))) [] (f2, g, X)) ∧ (hasN kd j = true → ∀ d, 8 ≤ d → EL (mP L xs) d 103 [rv 22 (some 0), iv 1, iv (nI (mst j))] (u, Y) = some (.inl (some (iv w)), (u2, Y))) ∧ (hasN kd j = false → u2 = u ∧ w = 0) ∧ (∀ R o x, ¬ (R = 20 ∨ R = 34 ∨ (R = 27 ∧ o = n ∧ x = j)) → f2 R o x = f R o x) ∧ (∀ R o x, ¬ (R = 22 ∧ 6 ≤ x ∧ x ≤ 13) → u2 R o x = u R o x) ∧
      ((∃ t2, t ≤ t2 ∧ PX f2 u2 N k b sg t2 ∧ f2 27 n j = w ∧ NV kd j w) ∨ BAD f2 u2) := by
  cases hh : hasN kd j with
  | false =>
    refine ⟨f, u, 0, fun d g X v3 v4 hd => ?_, fun h => (by cases h), fun _ => ⟨rfl, rfl⟩, fun _ _ _ _ => rfl, fun _ _ _ _ => rfl, Or.inl ⟨t, Nat.le_refl t, P, hz, fun h => (by rw [hh] at h; cases h), fun _ => rfl⟩⟩
    obtain ⟨d, rfl⟩ : ∃ d', d = d' + 2 := ⟨d - 2, by omega⟩
    exact c_110n hkd hj h5 hh
  | true =>
    rcases px_nin (L := L) (xs := xs) (Y := Y) P (mst_ok j hj).2 with ⟨u2, v, v1, v2, a1, a2, a3, a4⟩ | ⟨f1, u2, v, a1, a2, a3, a4⟩
    · refine ⟨m3 (m3 f 20 0 6 (nI (t + 1))) 27 n j (nI v), u2, nI v, fun d g X v3 v4 hd => ?_, fun _ d hd => EL_mono hd a2, fun h => (by cases h), fun R o x h => (m3_no (by omega)).trans (m3_no (by omega)), fun R o x h => a4 R o x (by omega), Or.inl ⟨t + 1, by omega, a3.fr (fun R o x h => m3_no (by omega)) (fun _ _ _ _ => rfl), m3_eq, fun _ => ⟨v, v1, v2, rfl⟩, fun h => (by rw [hh] at h; cases h)⟩⟩
      obtain ⟨d, rfl⟩ : ∃ d', d = d' + 3 := ⟨d - 3, by omega⟩
      exact c_110y hkd hj h5 hh (a1 d g X)
    · obtain ⟨p, w, E, y1, y2⟩ := a3
      refine ⟨m3 f1 27 n j v, u2, v, fun d g X v3 v4 hd => ?_, fun _ d hd => EL_mono hd a2, fun h => (by cases h), fun R o x h => (m3_no (by omega)).trans (a4.1 R o x (by omega)), fun R o x h => a4.2 R o x (by omega), Or.inr ⟨p, w, E.m27, y1, y2⟩⟩
      obtain ⟨d, rfl⟩ : ∃ d', d = d' + 3 := ⟨d - 3, by omega⟩
      exact c_110y hkd hj h5 hh (a1 d g X)
/-- the reference's step from one number to the next -/
theorem K_num {j d : Nat} (hj : j < 5) (hn : n < 12) (w : Int32) (u : MI) : RL (mP L xs) d 126 (pcj j) (L126 n kd) [iv w, iv (nI n), rv (51 + j) (some 0)] (u, Y) = if u 22 0 12 = 0 then (if abv kd &&& msk (j + 1) = 0 then (RL (mP L xs) d 126 (pcj (j + 1)) (L126 n kd) [iv 0, iv (nI n), rv (51 + (j + 1)) (some 0)] (m3 u (51 + j) 0 n w, Y)) else (mclI (EL (mP L xs) d 103 [rv 22 (some 0), iv 1, iv (nI (mst (j + 1)))] (m3 u (51 + j) 0 n w, Y)) (fun x2 h1 => RL (mP L xs) d 126 (pcj (j + 1)) (L126 n kd) [iv x2, iv (nI n), rv (51 + (j + 1)) (some 0)] h1) (fun e h => some (.inr e, h)))) else (RL (mP L xs) d 126 (pcj (j + 1)) (L126 n kd) [iv 0, iv (nI n), rv (51 + (j + 1)) (some 0)] (m3 u (51 + j) 0 n w, Y)) := by
  have hin := nin hn (show 12 < 2 ^ 31 by decide)
  have hcl := nI_clamp (show n < 2 ^ 31 by omega)
  have hh : j = 0 ∨ j = 1 ∨ j = 2 ∨ j = 3 ∨ j = 4 := by omega
  rcases hh with rfl | rfl | rfl | rfl | rfl
  · have K := K_Ref_ride_103 (L := L) (xs := xs) (d := d) (nI n) (abv kd) (nI n) w (u, Y)
    simp only [if_neg hin, hcl, m3_r (show 22 ≠ 51 by decide)] at K
    exact K
  · have K := K_Ref_ride_133 (L := L) (xs := xs) (d := d) (nI n) (abv kd) (nI n) w (u, Y)
    simp only [if_neg hin, hcl, m3_r (show 22 ≠ 52 by decide)] at K
    exact K
  · have K := K_Ref_ride_164 (L := L) (xs := xs) (d := d) (nI n) (abv kd) (nI n) w (u, Y)
    simp only [if_neg hin, hcl, m3_r (show 22 ≠ 53 by decide)] at K
    exact K
  · have K := K_Ref_ride_195 (L := L) (xs := xs) (d := d) (nI n) (abv kd) (nI n) w (u, Y)
    simp only [if_neg hin, hcl, m3_r (show 22 ≠ 54 by decide)] at K
    exact K
  · have K := K_Ref_ride_225 (L := L) (xs := xs) (d := d) (nI n) (abv kd) (nI n) w (u, Y)
    simp only [if_neg hin, hcl, m3_r (show 22 ≠ 55 by decide)] at K
    exact K
theorem r_288e {d : Nat} {v2 : Int32} (h : ¬ u 22 0 12 = 0) : RL (mP L xs) d 126 288 [some (rv 22 (some 0)), some (iv (nI n)), some (iv v2)] [] (u, Y) = some (.inl none, (u, Y)) := by
  rw [K_Ref_ride_288, if_neg (show ¬ (u, Y).1 22 0 12 = 0 from h)]
/-- behind a fault: the reference -/
theorem rb_nums (hn : n < 12) : ∀ (i j : Nat) (w : Int32) (u : MI), j + i = 5 → ¬ u 22 0 12 = 0 → ∃ u2, (∀ d, RL (mP L xs) d 126 (pcj j) (L126 n kd) [iv w, iv (nI n), rv (51 + j) (some 0)] (u, Y) = some (.inl none, (u2, Y))) ∧ (∀ R o x, ¬ (50 ≤ R ∧ R ≤ 56) → u2 R o x = u R o x)
  | 0, j, w, u, hj, h => by
    have e : j = 5 := by omega
    subst e
    have e12 : ¬ (m3 (m3 u 56 0 n w) 50 0 n (-1)) 22 0 12 = 0 := by
      rw [m3_r (by decide), m3_r (by decide)]
      exact h
    refine ⟨m3 (m3 u 56 0 n w) 50 0 n (-1), fun d => ?_, fun R o x hx => (m3_no (by omega)).trans (m3_no (by omega))⟩
    show RL (mP L xs) d 126 257 [some (rv 22 (some 0)), some (iv (nI n)), some (iv (abv kd))] [iv w, iv (nI n), rv 56 (some 0)] (u, Y) = _
    rw [K_Ref_ride_257]
    simp only [if_neg (nin hn (show 12 < 2 ^ 31 by decide)), nI_clamp (show n < 2 ^ 31 by omega), if_neg e12]
    exact r_288e e12
  | i + 1, j, w, u, hj, h => by
    obtain ⟨u2, a1, a2⟩ := rb_nums hn i (j + 1) 0 (m3 u (51 + j) 0 n w) (by omega) (by rw [m3_r (by omega)]; exact h)
    refine ⟨u2, fun d => ?_, fun R o x hx => (a2 R o x hx).trans (m3_no (by omega))⟩
    rw [K_num (by omega) hn, if_neg h]
    exact a1 d
/-- the numbers from j + 1 on; j is read, and waits on the reference's side -/
theorem nu_loop (hn : n < 12) (hkd : kd ≤ 8) : ∀ (i j t : Nat) (f u : MI) (w : Int32), j + i = 5 → PX f u N k b sg t → f 16 n 5 = tabB 4 kd → f 27 n j = w → NV kd j w → (∀ x, x < j → u (51 + x) 0 n = f 27 n x ∧ NV kd x (f 27 n x)) → (∀ x, j < x → x < 6 → f 27 n x = 0) →
    ∃ f2 u2, (∀ d g X v3 v4, 5 ≤ d → RL (mP L xs) d 82 110 (L82 n v3 v4 (nI (j + 1))) [] (f, g, X) = RL (mP L xs) d 82 110 (L82 n v3 v4 6) [] (f2, g, X)) ∧ (∀ R o x, ¬ (R = 20 ∨ R = 34 ∨ (R = 27 ∧ o = n)) → f2 R o x = f R o x) ∧ (∀ R o x, ¬ ((R = 22 ∧ 6 ≤ x ∧ x ≤ 13) ∨ (50 ≤ R ∧ R ≤ 56 ∧ x = n)) → u2 R o x = u R o x) ∧
      ((∃ t2 w5, t ≤ t2 ∧ (∀ d, 8 ≤ d → RL (mP L xs) d 126 (pcj j) (L126 n kd) [iv w, iv (nI n), rv (51 + j) (some 0)] (u, Y) = RL (mP L xs) d 126 257 (L126 n kd) [iv w5, iv (nI n), rv 56 (some 0)] (u2, Y)) ∧ PX f2 u2 N k b sg t2 ∧ f2 27 n 5 = w5 ∧ NV kd 5 w5 ∧ (∀ x, x < 5 → u2 (51 + x) 0 n = f2 27 n x ∧ NV kd x (f2 27 n x))) ∨
        (BAD f2 u2 ∧ ∃ u3, (∀ d, 8 ≤ d → RL (mP L xs) d 126 (pcj j) (L126 n kd) [iv w, iv (nI n), rv (51 + j) (some 0)] (u, Y) = some (.inl none, (u3, Y))) ∧ BAD f2 u3))
  | 0, j, t, f, u, w, hj, P, h5, hw, hv, hu, hz => by
    have e : j = 5 := by omega
    subst e
    exact ⟨f, u, fun _ _ _ _ _ _ => rfl, fun _ _ _ _ => rfl, fun _ _ _ _ => rfl, Or.inl ⟨t, w, Nat.le_refl t, fun _ _ => rfl, P, hw, hv, hu⟩⟩
  | i + 1, j, t, f, u, w, hj, P, h5, hw, hv, hu, hz => by
    have P1 : PX f (m3 u (51 + j) 0 n w) N k b sg t := P.fr (fun _ _ _ _ => rfl) (fun R o x h => m3_no (by omega))
    obtain ⟨f1, u1, w1, a1, a2, a3, a4, a5, a6⟩ := nu_one (L := L) (xs := xs) (Y := Y) (n := n) hkd (show j + 1 < 6 by omega) P1 h5 (hz (j + 1) (by omega) (by omega))
    have hm := (hasN_ok kd hkd (j + 1) (by omega)).1
    have kU : ∀ d, 8 ≤ d → RL (mP L xs) d 126 (pcj j) (L126 n kd) [iv w, iv (nI n), rv (51 + j) (some 0)] (u, Y) = RL (mP L xs) d 126 (pcj (j + 1)) (L126 n kd) [iv w1, iv (nI n), rv (51 + (j + 1)) (some 0)] (u1, Y) := fun d hd => by
      rw [K_num (by omega) hn, if_pos P.fu]
      cases hh : hasN kd (j + 1) with
      | false =>
        obtain ⟨e1, e2⟩ := a3 hh
        rw [if_pos (hm.mpr hh), e1, e2]
      | true => rw [if_neg (fun e => by have := hm.mp e; rw [hh] at this; cases this), a2 hh d hd, clI]
    rcases a6 with ⟨t1, c1, P2, c2, c3⟩ | B
    · have hF1 : ∀ x, x ≤ j → f1 27 n x = f 27 n x := fun x hx => a4 27 n x (by omega)
      obtain ⟨f2, u2, d1, d2, d3, d4⟩ := nu_loop hn hkd i (j + 1) t1 f1 u1 w1 (by omega) P2 ((a4 16 n 5 (by omega)).trans h5) c2 c3 (fun x hx => by
        by_cases y : x = j
        · subst y
          rw [a5 (51 + x) 0 n (by omega), m3_eq, hF1 x (Nat.le_refl x), hw]
          exact ⟨rfl, hv⟩
        · rw [a5 (51 + x) 0 n (by omega), m3_no (by omega), hF1 x (by omega)]
          exact hu x (by omega)) (fun x h1 h2 => (a4 27 n x (by omega)).trans (hz x (by omega) h2))
      refine ⟨f2, u2, fun d g X v3 v4 hd => ?_, fun R o x h => (d2 R o x h).trans (a4 R o x (by omega)), fun R o x h => (d3 R o x h).trans ((a5 R o x (by omega)).trans (m3_no (by omega))), ?_⟩
      · rw [a1 d g X v3 v4 hd]
        exact d1 d g X v3 v4 hd
      · rcases d4 with ⟨t2, w5, e1, e2, e3, e4, e5, e6⟩ | ⟨B, u3, e2, e3⟩
        · exact Or.inl ⟨t2, w5, by omega, fun d hd => by rw [kU d hd]; exact e2 d hd, e3, e4, e5, e6⟩
        · exact Or.inr ⟨B, u3, fun d hd => by rw [kU d hd]; exact e2 d hd, e3⟩
    · obtain ⟨p, q, E, y1, y2⟩ := B
      obtain ⟨f2, d1, d2, d3⟩ := ed_nums (L := L) (xs := xs) (n := n) hkd i (j + 1 + 1) f1 (by omega) E ((a4 16 n 5 (by omega)).trans h5)
      obtain ⟨u3, e1, e2⟩ := rb_nums (L := L) (xs := xs) (Y := Y) (kd := kd) hn i (j + 1) w1 u1 (by omega) (by rw [y1]; exact E.qn)
      refine ⟨f2, u1, fun d g X v3 v4 hd => ?_, fun R o x h => (d3 R o x (by omega)).trans (a4 R o x (by omega)), fun R o x h => (a5 R o x (by omega)).trans (m3_no (by omega)), Or.inr ⟨⟨p, q, d2, y1, y2⟩, u3, fun d hd => ?_, ⟨p, q, d2, (e2 22 0 12 (by omega)).trans y1, (e2 22 0 13 (by omega)).trans y2⟩⟩⟩
      · rw [a1 d g X v3 v4 hd]
        exact d1 d g X v3 v4 (by omega)
      · rw [kU d hd]
        exact e1 d
end Rid
