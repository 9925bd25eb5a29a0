/-! ===== read: the class splits the text ===== -/
noncomputable def nxS (b : Nat → Nat) (N s : Nat) : Nat := if s < N then skip b N (tend b N s) else N
noncomputable def tS (b : Nat → Nat) (N : Nat) : Nat → Nat
  | 0 => skip b N 0
  | i + 1 => nxS b N (tS b N i)
noncomputable def tE (b : Nat → Nat) (N i : Nat) : Nat := if tS b N i < N then tend b N (tS b N i) else N
theorem nxS_b {b : Nat → Nat} {N s : Nat} (h : s ≤ N) : s ≤ nxS b N s ∧ nxS b N s ≤ N ∧ (s < N → s < nxS b N s) := by
  unfold nxS
  by_cases z : s < N
  · rw [if_pos z]
    have h1 := tend_b (b := b) z
    have h2 := skip_b (b := b) h1.2
    omega
  · rw [if_neg z]
    omega
theorem tS_b {b : Nat → Nat} {N : Nat} : ∀ (i : Nat), tS b N i ≤ N ∧ (tS b N i < N → i ≤ tS b N i)
  | 0 => ⟨(skip_b (b := b) (Nat.zero_le N)).2, fun _ => Nat.zero_le _⟩
  | i + 1 => by
    obtain ⟨h1, h2⟩ := tS_b (b := b) (N := N) i
    have h3 := nxS_b (b := b) h1
    show nxS b N (tS b N i) ≤ N ∧ (nxS b N (tS b N i) < N → i + 1 ≤ nxS b N (tS b N i))
    refine ⟨h3.2.1, fun h => ?_⟩
    have h4 : tS b N i < N := by omega
    have h5 := h2 h4
    have h6 := h3.2.2 h4
    omega
theorem tE_in {b : Nat → Nat} {N i : Nat} (h : tS b N i < N) : tE b N i = tend b N (tS b N i) ∧ tS b N i < tE b N i ∧ tE b N i ≤ N ∧ tS b N (i + 1) = skip b N (tE b N i) := by
  have h1 := tend_b (b := b) h
  unfold tE
  rw [if_pos h]
  refine ⟨rfl, h1.1, h1.2, ?_⟩
  show nxS b N (tS b N i) = _
  unfold nxS
  rw [if_pos h]
theorem tE_N {b : Nat → Nat} {N i : Nat} (h : ¬ tS b N i < N) : tE b N i = N := if_neg h
/-- the class's tokens -/
def LC (f : MI) (N : Nat) (b : Nat → Nat) (k : Nat) (sg : Nat → Int32) : Prop := (TC f N b) ∧ (1 ≤ k ∧ k ≤ 4001) ∧ (f 20 0 5 = nI k) ∧ (∀ i, i < k → f 34 0 i = sg i ∧ f 35 0 i = nI (tS b N i) ∧ f 36 0 i = nI (tE b N i)) ∧ (∀ i, i + 1 < k → tS b N i < N ∧ SRT b (tS b N i) (tE b N i) (sg i) ∧ sg i ≠ 1) ∧ ((tS b N (k - 1) = N ∧ sg (k - 1) = 0) ∨ (tS b N (k - 1) < N ∧ sg (k - 1) = 1 ∧ SRT b (tS b N (k - 1)) (tE b N (k - 1)) 1))
theorem LC.tc {f : MI} {N : Nat} {b : Nat → Nat} {k : Nat} {sg : Nat → Int32} (x : LC f N b k sg) : TC f N b := x.1
theorem LC.kp {f : MI} {N : Nat} {b : Nat → Nat} {k : Nat} {sg : Nat → Int32} (x : LC f N b k sg) : 1 ≤ k ∧ k ≤ 4001 := x.2.1
theorem LC.kt {f : MI} {N : Nat} {b : Nat → Nat} {k : Nat} {sg : Nat → Int32} (x : LC f N b k sg) : f 20 0 5 = nI k := x.2.2.1
theorem LC.ar {f : MI} {N : Nat} {b : Nat → Nat} {k : Nat} {sg : Nat → Int32} (x : LC f N b k sg) : ∀ i, i < k → f 34 0 i = sg i ∧ f 35 0 i = nI (tS b N i) ∧ f 36 0 i = nI (tE b N i) := x.2.2.2.1
theorem LC.mid {f : MI} {N : Nat} {b : Nat → Nat} {k : Nat} {sg : Nat → Int32} (x : LC f N b k sg) : ∀ i, i + 1 < k → tS b N i < N ∧ SRT b (tS b N i) (tE b N i) (sg i) ∧ sg i ≠ 1 := x.2.2.2.2.1
theorem LC.lst {f : MI} {N : Nat} {b : Nat → Nat} {k : Nat} {sg : Nat → Int32} (x : LC f N b k sg) : (tS b N (k - 1) = N ∧ sg (k - 1) = 0) ∨ (tS b N (k - 1) < N ∧ sg (k - 1) = 1 ∧ SRT b (tS b N (k - 1)) (tE b N (k - 1)) 1) := x.2.2.2.2.2
def FrS (f f2 : MI) : Prop := ∀ R o i, ¬ (R = 34 ∨ R = 35 ∨ R = 36 ∨ (R = 20 ∧ i = 5)) → f2 R o i = f R o i
section Spl
variable {L : Nat} {xs : Nat → Int32} {d : Nat} {X : ML × (Nat → Nat) × Nat × Nat} {Y : MR × ML × (Nat → Nat) × Nat × Nat} {N : Nat} {b : Nat → Nat} {f f2 : MI} {g : MR}
theorem FrS.rf : FrS f f := fun _ _ _ _ => rfl
theorem FrS.tr {f3 : MI} (h1 : FrS f f2) (h2 : FrS f2 f3) : FrS f f3 := fun R o i h => (h2 R o i h).trans (h1 R o i h)
theorem TC.fr (T : TC f N b) (h : FrS f f2) : TC f2 N b := ⟨T.nl, (h 20 0 4 (by omega)).trans T.fl, fun i hi => (h 40 0 i (by omega)).trans (T.fb i hi), T.bb⟩
theorem c_keep {j : Nat} (hj : j ≤ 4000) (h5 : f 20 0 5 = nI j) (v s e : Int32) : EL (mP L xs) (d + 1) 35 [rv 20 (some 0), iv v, iv s, iv e] (f, g, X) = some (.inl none, (m3 (m3 (m3 (m3 f 34 0 j v) 35 0 j s) 36 0 j e) 20 0 5 (nI (j + 1)), g, X)) := by
  have e1 : (m3 f 34 0 j v) 20 0 5 = nI j := (m3_r (by decide)).trans h5
  have e2 : (m3 (m3 f 34 0 j v) 35 0 j s) 20 0 5 = nI j := (m3_r (by decide)).trans e1
  have e3 : (m3 (m3 (m3 f 34 0 j v) 35 0 j s) 36 0 j e) 20 0 5 = nI j := (m3_r (by decide)).trans e2
  rw [E_Text_keep]
  simp only [h5, if_pos (show nI j < 4001 from nI_lt (b := 4001) (by omega) (by decide)), if_neg (nin (show j < 4001 by omega) (show 4001 < 2 ^ 31 by decide)), nI_clamp (show j < 2 ^ 31 by omega), e1, e2, e3, nI_1]
theorem keep_fr {j : Nat} {v s e w : Int32} : FrS f (m3 (m3 (m3 (m3 f 34 0 j v) 35 0 j s) 36 0 j e) 20 0 5 w) := fun R o i h => by
  rw [m3_no (by omega), m3_no (by omega), m3_no (by omega), m3_no (by omega)]
/-- so many are kept -/
def KP (f : MI) (N : Nat) (b : Nat → Nat) (sg : Nat → Int32) (j : Nat) : Prop := f 20 0 5 = nI j ∧ ∀ i, i < j → f 34 0 i = sg i ∧ f 35 0 i = nI (tS b N i) ∧ f 36 0 i = nI (tE b N i) ∧ (sg i ≠ 1 → tS b N i < N) ∧ (tS b N i < N → SRT b (tS b N i) (tE b N i) (sg i))
theorem KP_put {sg : Nat → Int32} {j : Nat} (K : KP f N b sg j) (v : Int32) (h1 : v ≠ 1 → tS b N j < N) (h2 : tS b N j < N → SRT b (tS b N j) (tE b N j) v) : KP (m3 (m3 (m3 (m3 f 34 0 j v) 35 0 j (nI (tS b N j))) 36 0 j (nI (tE b N j))) 20 0 5 (nI (j + 1))) N b (fun i => if i = j then v else sg i) (j + 1) := by
  refine ⟨m3_eq, fun i hi => ?_⟩
  by_cases z : i = j
  · subst z
    simp only [if_true]
    exact ⟨by rw [m3_r (by decide), m3_r (by decide), m3_r (by decide), m3_eq], by rw [m3_r (by decide), m3_r (by decide), m3_eq], by rw [m3_r (by decide), m3_eq], h1, h2⟩
  · simp only [if_neg z]
    obtain ⟨k1, k2, k3, k4, k5⟩ := K.2 i (by omega)
    exact ⟨by rw [m3_r (by decide), m3_r (by decide), m3_r (by decide), m3_i z]; exact k1, by rw [m3_r (by decide), m3_r (by decide), m3_i z, m3_r (by decide)]; exact k2, by rw [m3_r (by decide), m3_i z, m3_r (by decide), m3_r (by decide)]; exact k3, k4, k5⟩
theorem sp_loop (v1 : Int32) : ∀ (q j : Nat) (f : MI) (sg : Nat → Int32) (v3 : Int32) (z5 : Option MV), TC f N b → N ≤ tS b N j + q → KP f N b sg j → (∀ i, i < j → sg i ≠ 1) → v3 ≠ 1 → j ≤ N →
    ∃ (f2 : MI) (k : Nat) (sg2 : Nat → Int32), RL (mP L xs) (d + 8) 36 44 [some (rv 20 (some 0)), some (iv v1), some (iv (nI (tS b N j))), some (iv v3), some (iv (nI j)), z5] [] (f, g, X) = some (.inl none, (f2, g, X)) ∧ FrS f f2 ∧ LC f2 N b k sg2
  | q, j, f, sg, v3, z5, T, hq, K, hs, hv, hjN => by
    have hN := T.nl
    obtain ⟨t1, t2⟩ := tS_b (b := b) (N := N) j
    have key := K_Text_split_44 (L := L) (xs := xs) (d := d + 8) (z5 := z5) v1 (nI (tS b N j)) v3 (nI j) (f, g, X)
    simp only [T.fl, if_neg hv] at key
    by_cases z : tS b N j < N
    · have hjl : j < N := by
        have := t2 z
        omega
      obtain ⟨e1, e2, e3, e4⟩ := tE_in z
      obtain ⟨v, w1, w2⟩ := c_srt (L := L) (xs := xs) (d := d + 1) (h := (f, g, X)) T z
      have k1 : EL (mP L xs) (d + 8) 19 [rv 20 (some 0), iv (nI (tS b N j))] (f, g, X) = some (.inl (some (iv (nI (tE b N j)))), (f, g, X)) := by
        rw [e1]
        exact c_tok (L := L) (xs := xs) (d := d + 6) (h := (f, g, X)) T z
      rw [← e1] at w1 w2
      have k2 := c_keep (L := L) (xs := xs) (d := d + 7) (g := g) (X := X) (show j ≤ 4000 by omega) K.1 v (nI (tS b N j)) (nI (tE b N j))
      generalize hF : m3 (m3 (m3 (m3 f 34 0 j v) 35 0 j (nI (tS b N j))) 36 0 j (nI (tE b N j))) 20 0 5 (nI (j + 1)) = F at k2
      have hFr : FrS f F := by rw [← hF]; exact keep_fr
      have TF := T.fr hFr
      have KF : KP F N b (fun i => if i = j then v else sg i) (j + 1) := by rw [← hF]; exact KP_put K v (fun _ => z) (fun _ => w2)
      have k3 : EL (mP L xs) (d + 8) 16 [rv 20 (some 0), iv (nI (tE b N j))] (F, g, X) = some (.inl (some (iv (nI (tS b N (j + 1))))), (F, g, X)) := by
        rw [e4]
        exact c_blk (L := L) (xs := xs) (d := d + 6) (h := (F, g, X)) TF e3
      have w1' : EL (mP L xs) (d + 8) 34 [rv 20 (some 0), iv (nI (tS b N j)), iv (nI (tE b N j))] (f, g, X) = some (.inl (some (iv v)), (f, g, X)) := w1
      have k2' : EL (mP L xs) (d + 8) 35 [rv 20 (some 0), iv v, iv (nI (tS b N j)), iv (nI (tE b N j))] (f, g, X) = some (.inl none, (F, g, X)) := k2
      simp only [if_pos (nI_lt hjl (show N < 2 ^ 31 by omega)), if_pos (nI_lt z (show N < 2 ^ 31 by omega)), k1, clI, w1', k2', clV, k3, nI_1] at key
      by_cases y : v = 1
      · subst y
        refine ⟨F, j + 1, fun i => if i = j then 1 else sg i, ?_, hFr, TF, ⟨by omega, by omega⟩, KF.1, fun i hi => ⟨(KF.2 i hi).1, (KF.2 i hi).2.1, (KF.2 i hi).2.2.1⟩, fun i hi => ?_, Or.inr ⟨z, ?_, ?_⟩⟩
        · rw [key, K_Text_split_44]
          simp only [if_true, ite_self]
        · obtain ⟨x1, x2, x3, x4, x5⟩ := KF.2 i (by omega)
          simp only [if_neg (show ¬ i = j by omega)] at x4 x5 ⊢
          have hs1 := hs i (by omega)
          exact ⟨x4 hs1, x5 (x4 hs1), hs1⟩
        · show (if j = j then (1 : Int32) else sg j) = 1
          rw [if_pos rfl]
        · exact w2
      · match q, hq with
        | 0, hq => omega
        | q + 1, hq =>
          have h5 := nxS_b (b := b) t1
          have h6 : tS b N j < tS b N (j + 1) := h5.2.2 z
          obtain ⟨f2, k, sg2, a1, a2, a3⟩ := sp_loop v1 q (j + 1) F (fun i => if i = j then v else sg i) v (some (iv (nI (tE b N j)))) TF (by omega) KF (fun i hi => by
            by_cases x : i = j
            · simp only [if_pos x]; exact y
            · simp only [if_neg x]; exact hs i (by omega)) y (by omega)
          exact ⟨f2, k, sg2, key.trans a1, hFr.tr a2, a3⟩
    · have hz : tS b N j = N := by omega
      have hE : tE b N j = N := tE_N z
      have k2 := c_keep (L := L) (xs := xs) (d := d + 7) (g := g) (X := X) (show j ≤ 4000 by omega) K.1 0 (nI N) (nI N)
      have k2' : EL (mP L xs) (d + 8) 35 [rv 20 (some 0), iv 0, iv (nI N), iv (nI N)] (f, g, X) = _ := k2
      have nl : ¬ nI (tS b N j) < nI N := by rw [hz]; exact nI_nlt (Nat.le_refl N) (by omega)
      simp only [if_neg nl, k2', clV, ite_self] at key
      refine ⟨_, j + 1, fun i => if i = j then 0 else sg i, key, keep_fr, T.fr keep_fr, ⟨by omega, by omega⟩, m3_eq, fun i hi => ?_, fun i hi => ?_, Or.inl ⟨hz, ?_⟩⟩
      · by_cases x : i = j
        · subst x
          simp only [if_true]
          exact ⟨by rw [m3_r (by decide), m3_r (by decide), m3_r (by decide), m3_eq], by rw [m3_r (by decide), m3_r (by decide), m3_eq, hz], by rw [m3_r (by decide), m3_eq, hE]⟩
        · simp only [if_neg x]
          obtain ⟨k1, k2, k3, -⟩ := K.2 i (by omega)
          exact ⟨by rw [m3_r (by decide), m3_r (by decide), m3_r (by decide), m3_i x]; exact k1, by rw [m3_r (by decide), m3_r (by decide), m3_i x, m3_r (by decide)]; exact k2, by rw [m3_r (by decide), m3_i x, m3_r (by decide), m3_r (by decide)]; exact k3⟩
      · obtain ⟨x1, x2, x3, x4, x5⟩ := K.2 i (by omega)
        simp only [if_neg (show ¬ i = j by omega)]
        have hs1 := hs i (by omega)
        exact ⟨x4 hs1, x5 (x4 hs1), hs1⟩
      · show (if j = j then (0 : Int32) else sg j) = 0
        rw [if_pos rfl]
  termination_by q => q
theorem c_split {n : Nat} (hn : n ≤ 4000) (hb : ∀ i, b i < 256) (h40 : ∀ i, i < n → f 40 0 i = cb (b i)) : ∃ (f2 : MI) (k : Nat) (sg : Nat → Int32), EL (mP L xs) (d + 9) 36 [rv 20 (some 0), iv (nI n)] (f, g, X) = some (.inl none, (f2, g, X)) ∧ LC f2 n b k sg ∧ f2 20 0 6 = 0 ∧ f2 20 0 7 = 0 ∧ f2 20 0 8 = -1 ∧ (∀ R o i, ¬ (R = 34 ∨ R = 35 ∨ R = 36 ∨ (R = 20 ∧ 4 ≤ i ∧ i ≤ 8)) → f2 R o i = f R o i) := by
  have e1 : (if (4000 : Int32) < nI n then (4000 : Int32) else nI n) = nI n := by
    by_cases z : 4000 < nI n
    · exact absurd z (nI_nlt (a := 4000) (b := n) hn (by decide))
    · rw [if_neg z]
  generalize hF : m3 (m3 (m3 (m3 (m3 f 20 0 4 (nI n)) 20 0 5 0) 20 0 6 0) 20 0 7 0) 20 0 8 (-1) = F
  have FR : ∀ R o i, ¬ (R = 20 ∧ 4 ≤ i ∧ i ≤ 8) → F R o i = f R o i := fun R o i h => by rw [← hF, m3_no (by omega), m3_no (by omega), m3_no (by omega), m3_no (by omega), m3_no (by omega)]
  have TF : TC F n b := ⟨hn, by rw [← hF]; rfl, fun i hi => (FR 40 0 i (by omega)).trans (h40 i hi), hb⟩
  have k1 : EL (mP L xs) (d + 8) 16 [rv 20 (some 0), iv 0] (F, g, X) = some (.inl (some (iv (nI (tS b n 0)))), (F, g, X)) := c_blk (L := L) (xs := xs) (d := d + 6) (h := (F, g, X)) TF (Nat.zero_le n)
  obtain ⟨f2, k, sg, a1, a2, a3⟩ := sp_loop (L := L) (xs := xs) (d := d) (g := g) (X := X) (nI n) n 0 F (fun _ => 0) 0 none TF (by omega) ⟨by rw [← hF]; rfl, fun i hi => absurd hi (Nat.not_lt_zero i)⟩ (fun i hi => absurd hi (Nat.not_lt_zero i)) (by decide) (Nat.zero_le n)
  refine ⟨f2, k, sg, ?_, a3, ?_, ?_, ?_, fun R o i h => ?_⟩
  · rw [E_Text_split]
    simp only [e1, hF, k1, clI]
    exact a1
  · rw [a2 20 0 6 (by omega), ← hF]; rfl
  · rw [a2 20 0 7 (by omega), ← hF]; rfl
  · rw [a2 20 0 8 (by omega), ← hF]; rfl
  · rw [a2 R o i (by omega), FR R o i (by omega)]
end Spl
