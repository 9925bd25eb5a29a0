/-! ===== formulas: the reference's loop; the pairs ===== -/
section Val
variable {L : Nat} {xs : Nat → Int32} {d : Nat} {g : MR} {X : ML × (Nat → Nat) × Nat × Nat} {Y : MR × ML × (Nat → Nat) × Nat × Nat}
theorem r_two {u : MI} {t w : Nat} {x y : Int32} (hw : 9 ≤ w ∧ w ≤ 12) (ht : u 22 0 88 = nI (t + 2)) (h : t + 2 ≤ 64) (hy : u 98 0 (t + 1) = y) (hx : u 98 0 t = x) : EL (mP L xs) (d + 1) 215 [rv 22 (some 0), iv (nI w)] (u, Y) = if w = 12 ∧ y = 0 then some (.inl none, (m3 (m3 u 22 0 88 (nI (t + 1))) 22 0 89 1, Y)) else some (.inl none, (m3 (m3 u 22 0 88 (nI (t + 1))) 98 0 t (bop w x y), Y)) := by
  rw [E_Ref_two]
  have e1 : nI (t + 2) - 1 = nI (t + 1) := nI_pred (t + 1)
  simp only [ht, e1, m3_eq, if_neg (nin (show t + 1 < 64 by omega) (by decide)), nI_pred, if_neg (nin (show t < 64 by omega) (by decide)), nI_clamp (show t + 1 < 2 ^ 31 by omega), nI_clamp (show t < 2 ^ 31 by omega), m3_r (show 98 ≠ 22 by decide), hy, hx, K_Ref_two_48]
  have : w = 9 ∨ w = 10 ∨ w = 11 ∨ w = 12 := by omega
  rcases this with rfl | rfl | rfl | rfl
  · rw [if_neg (by decide), if_pos (by decide), if_neg (by omega)]; rfl
  · rw [if_neg (by decide), if_neg (by decide), if_pos (by decide), if_neg (by omega)]; rfl
  · rw [if_neg (by decide), if_neg (by decide), if_neg (by decide), if_pos (by decide), if_neg (by omega)]; rfl
  · rw [if_pos (by decide)]
    by_cases z : y = 0
    · rw [if_pos z, if_pos ⟨rfl, z⟩]
    · have hR : ¬ (12 = 12 ∧ y = 0) := fun q => z q.2
      rw [if_neg z, if_neg (by decide), if_neg (by decide), if_neg (by decide), if_neg hR, if_neg z]
      by_cases z1 : y = -1
      · rw [if_pos z1, z1]
        simp [bop, i_dm1]
      · rw [if_neg z1]
        simp [bop]
theorem r_meas7 {u : MI} {r a : Nat} (hr : r < 12) (hm : ∃ m : Nat, m ≤ 30 ∧ u 93 0 r = nI m) (ha : 7 ≤ a ∧ a ≤ 13) : EL (mP L xs) (d + 2) 214 [rv 22 (some 0), iv (nI r), iv (mz a)] (u, Y) = some (.inl (some (iv (mo u r a))), (u, Y)) := by
  obtain ⟨m, h30, hm⟩ := hm
  have hq := e_Rqueue (L := L) (xs := xs) (d := d) (h := (u, Y)) hr h30 hm
  rw [E_Ref_measured]
  simp only [if_neg (nin hr (by decide)), nI_clamp (show r < 2 ^ 31 by omega), hq, clI]
  have : a = 7 ∨ a = 8 ∨ a = 9 ∨ a = 10 ∨ a = 11 ∨ a = 12 ∨ a = 13 := by omega
  rcases this with rfl | rfl | rfl | rfl | rfl | rfl | rfl
  · simp [mz, mo, hm, nI_clamp (show m < 2 ^ 31 by omega)]
  all_goals rfl
abbrev rvL (r : Nat) (v1 v3 : Int32) : List (Option MV) := [some (rv 22 (some 0)), some (iv v1), some (iv (nI r)), some (iv v3)]
theorem mo_ns {u u' : MI} (e : mk nsU u' = mk nsU u) (r a : Nat) : mo u' r a = mo u r a := by
  have h : mo (mk nsU u') r a = mo (mk nsU u) r a := by rw [e]
  exact h
theorem mu_ns {u u' : MI} (e : mk nsU u' = mk nsU u) (r : Nat) (x : Nat × Nat) : mu u' r x = mu u r x := by
  have h : mu (mk nsU u') r x = mu (mk nsU u) r x := by rw [e]
  exact h
/-- the reference's loop over a list -/
theorem rv_loop {u0 : MI} {n r : Nat} {v1 : Int32} (hr : r < n) (hn : n ≤ 12) (hm : ∀ r', r' < n → ∃ m : Nat, m ≤ 30 ∧ u0 93 0 r' = nI m) :
    ∀ (l : PL) (k : Nat) (st : List Int32) (u : MI), mk nsU u = mk nsU u0 → Rp u0 k l → k + l.length < 9000 → (∀ x ∈ l, okc n x) → Hi 64 l st.length → u 22 0 88 = nI st.length → Sk 98 u st → u 22 0 89 = 0 → st.length ≤ 64 →
      (∀ st', ev (mu u0 r) l st = some st' → ∃ u' : MI, RL (mP L xs) (d + 2) 216 12 (rvL r v1 (nI k)) [] (u, Y) = RL (mP L xs) (d + 2) 216 12 (rvL r v1 (nI (k + l.length))) [] (u', Y) ∧ mk nsU u' = mk nsU u0 ∧ u' 22 0 88 = nI st'.length ∧ Sk 98 u' st' ∧ u' 22 0 89 = 0 ∧ st'.length ≤ 64) ∧
      (ev (mu u0 r) l st = none → ∃ u' : MI, RL (mP L xs) (d + 2) 216 12 (rvL r v1 (nI k)) [] (u, Y) = some (.inl (some (iv 0)), (u', Y)) ∧ mk nsU u' = mk nsU u0 ∧ u' 22 0 89 = 1)
  | [], k, st, u, hf, _, _, _, _, h4, hs, h5, hl => ⟨fun st' h => by
      cases h
      exact ⟨u, rfl, hf, h4, hs, h5, hl⟩, fun h => nomatch h⟩
  | x :: l, k, st, u, hf, hsp, hke, hok, hhi, h4, hs, h5, hl => by
    obtain ⟨hx, hsp'⟩ := hsp
    have hokx := hok x List.mem_cons_self
    have hokl : ∀ y ∈ l, okc n y := fun y hy => hok y (List.mem_cons_of_mem _ hy)
    have hlen : k + (x :: l).length = k + 1 + l.length := by simp only [List.length_cons]; omega
    rw [hlen] at hke ⊢
    have hm4 : ∀ (f' : MI) (v : Int32), mk nsU f' = mk nsU u0 → mk nsU (m3 f' 22 0 88 v) = mk nsU u0 := fun f' v h => (mk_m3 rfl).trans h
    have hm33 : ∀ (f' : MI) (i : Nat) (v : Int32), mk nsU f' = mk nsU u0 → mk nsU (m3 f' 98 0 i v) = mk nsU u0 := fun f' i v h => (mk_m3 rfl).trans h
    have e65 : u 65 0 k = u0 65 0 k := mk_at hf 65 0 k rfl
    have e66 : u 66 0 k = u0 66 0 k := mk_at hf 66 0 k rfl
    have e67 : u 67 0 k = u0 67 0 k := mk_at hf 67 0 k rfl
    have hmu : ∀ r', r' < n → ∃ m : Nat, m ≤ 30 ∧ u 93 0 r' = nI m := fun r' h => by rw [mk_at hf 93 0 r' rfl]; exact hm r' h
    have hstep := K_Ref_value_12 (L := L) (xs := xs) (d := d + 2) v1 (nI r) (nI k) (u, Y)
    simp only [if_neg (nin (show k < 9000 by omega) (by decide)), nI_clamp (show k < 2 ^ 31 by omega), h5, e65, e66, e67, nI_1, if_true, if_neg (nin (show r < 12 by omega) (by decide)), nI_clamp (show r < 2 ^ 31 by omega)] at hstep
    -- an operand, pushed
    have push : ∀ v : Int32, v = mu u0 r x → x.1 ≤ 4 → RL (mP L xs) (d + 2) 216 12 (rvL r v1 (nI k)) [] (u, Y) = mclV (EL (mP L xs) (d + 2) 213 [rv 22 (some 0), iv v] (u, Y)) (fun h1 => RL (mP L xs) (d + 2) 216 12 (rvL r v1 (nI (k + 1))) [] h1) (fun e h => some (.inr e, h)) →
        (∀ st', ev (mu u0 r) (x :: l) st = some st' → ∃ u' : MI, RL (mP L xs) (d + 2) 216 12 (rvL r v1 (nI k)) [] (u, Y) = RL (mP L xs) (d + 2) 216 12 (rvL r v1 (nI (k + 1 + l.length))) [] (u', Y) ∧ mk nsU u' = mk nsU u0 ∧ u' 22 0 88 = nI st'.length ∧ Sk 98 u' st' ∧ u' 22 0 89 = 0 ∧ st'.length ≤ 64) ∧
        (ev (mu u0 r) (x :: l) st = none → ∃ u' : MI, RL (mP L xs) (d + 2) 216 12 (rvL r v1 (nI k)) [] (u, Y) = some (.inl (some (iv 0)), (u', Y)) ∧ mk nsU u' = mk nsU u0 ∧ u' 22 0 89 = 1) := by
      intro v hv w4 hq
      have hhi' : st.length < 64 ∧ Hi 64 l (st.length + 1) := by
        unfold Hi at hhi
        rw [if_pos w4] at hhi
        exact hhi
      rw [r_push h4 hhi'.1] at hq
      simp only [clV] at hq
      rw [hq, hv]
      have ih := rv_loop (v1 := v1) hr hn hm l (k + 1) (mu u0 r x :: st) (m3 (m3 u 98 0 st.length (mu u0 r x)) 22 0 88 (nI (st.length + 1))) (hm4 _ _ (hm33 _ _ _ hf)) hsp' hke hokl hhi'.2 m3_eq ⟨by rw [m3_r (by decide), m3_eq], Sk_oth (by decide) (Sk_put (Nat.le_refl _) hs)⟩ (by rw [m3_i (by decide), m3_r (by decide)]; exact h5) (by simp only [List.length_cons]; omega)
      unfold ev
      rw [if_pos w4]
      exact ih
    have emo : ∀ r' a, mo u r' a = mo u0 r' a := mo_ns hf
    rcases hx with ⟨a1, a2, a3⟩ | ⟨a1, a2, a3, a4⟩ | ⟨a1, a2, a3⟩ | ⟨a1, a2, a3⟩ | ⟨a1, a2, a3⟩ | ⟨a1, a2, a3, a4⟩ | ⟨a1, a2, a3, a4⟩ | ⟨a1, a2⟩ | ⟨a1, a2⟩
    · simp (decide := true) only [a2, a3, if_true, if_false] at hstep
      exact push _ (by simp [mu, a1]) (by omega) hstep
    · simp (decide := true) only [a3, a4, if_true, if_false] at hstep
      rw [show (4 : Int32) = nI 4 from rfl, nI_mul, nI_add, if_neg (nin (show 4 * r + x.2 < 48 by omega) (by decide)), nI_clamp (show 4 * r + x.2 < 2 ^ 31 by omega)] at hstep
      exact push _ (by simp [mu, a1, mo, a2]; exact mk_at hf 88 0 _ rfl) (by omega) hstep
    · simp (decide := true) only [a3, if_true, if_false] at hstep
      exact push _ (by simp [mu, a1, mo, a2]; exact mk_at hf 83 0 _ rfl) (by omega) hstep
    · simp (decide := true) only [a3, if_true, if_false] at hstep
      exact push _ (by simp [mu, a1, mo, a2]; exact mk_at hf 22 0 79 rfl) (by omega) hstep
    · simp (decide := true) only [a3, if_true, if_false] at hstep
      exact push _ (by simp [mu, a1, mo, a2]; exact mk_at hf 22 0 80 rfl) (by omega) hstep
    · have h13 : x.2 ≤ 13 := by rcases hokx with h | h | h | h | h <;> omega
      simp (decide := true) only [a3, a4, if_true, if_false] at hstep
      rw [r_meas7 (by omega) (hmu r hr) ⟨a2, h13⟩] at hstep
      simp only [clI] at hstep
      exact push _ (by simp only [mu, a1, emo]; simp) (by omega) hstep
    · have h13 : x.2 / 32 < n ∧ 7 ≤ x.2 % 32 ∧ x.2 % 32 ≤ 13 := by rcases hokx with h | h | h | h | h <;> omega
      simp (decide := true) only [a2, a3, a4, if_true, if_false] at hstep
      rw [r_meas7 (by omega) (hmu _ h13.1) h13.2] at hstep
      simp only [clI] at hstep
      exact push _ (by simp only [mu, a1, emo]; simp) (by omega) hstep
    · -- minus
      have w4 : ¬ x.1 ≤ 4 := by omega
      have hhi' : 1 ≤ st.length ∧ Hi 64 l st.length := by
        unfold Hi at hhi
        rw [if_neg w4, if_pos a1] at hhi
        exact hhi
      obtain ⟨a, s, rfl⟩ : ∃ a s, st = a :: s := by
        cases st with
        | nil => simp at hhi'
        | cons a s => exact ⟨a, s, rfl⟩
      simp only [List.length_cons] at hhi' h4 hl
      simp (decide := true) only [a2, h4, nI_pred, if_true, if_false] at hstep
      rw [if_neg (nin (show s.length < 64 by omega) (by decide)), if_neg (nin (show s.length < 64 by omega) (by decide)), nI_clamp (show s.length < 2 ^ 31 by omega), hs.1] at hstep
      rw [hstep]
      have ih := rv_loop (v1 := v1) hr hn hm l (k + 1) (-a :: s) (m3 u 98 0 s.length (-a)) (hm33 _ _ _ hf) hsp' hke hokl hhi'.2 (by rw [m3_r (by decide)]; exact h4) ⟨m3_eq, Sk_put (Nat.le_refl _) hs.2⟩ (by rw [m3_r (by decide)]; exact h5) (by simp only [List.length_cons]; omega)
      unfold ev
      rw [if_neg w4, if_pos a1]
      exact ih
    · have w4 : ¬ x.1 ≤ 4 := by omega
      have w5 : ¬ x.1 = 5 := by omega
      have hw : 9 ≤ x.1 ∧ x.1 ≤ 12 := by rcases hokx with h | h | h | h | h <;> omega
      have hhi' : 2 ≤ st.length ∧ Hi 64 l (st.length - 1) := by
        unfold Hi at hhi
        rw [if_neg w4, if_neg w5] at hhi
        exact hhi
      obtain ⟨b, a, s, rfl⟩ : ∃ b a s, st = b :: a :: s := by
        match st, hhi' with
        | b :: a :: s, _ => exact ⟨b, a, s, rfl⟩
      simp only [List.length_cons] at hhi' h4 hl
      have ne : ∀ j : Nat, j < 9 → ¬ nI x.1 = nI j := fun j hj => by
        rw [nI_eq (by omega) (by omega)]
        omega
      rw [a2, if_neg (show ¬ nI x.1 = 0 from ne 0 (by decide)), if_neg (show ¬ nI x.1 = 1 from ne 1 (by decide)), if_neg (show ¬ nI x.1 = 2 from ne 2 (by decide)), if_neg (show ¬ nI x.1 = 3 from ne 3 (by decide)), if_neg (show ¬ nI x.1 = 4 from ne 4 (by decide)), if_neg (show ¬ nI x.1 = 5 from ne 5 (by decide)), if_neg (show ¬ nI x.1 = 6 from ne 6 (by decide)), if_neg (show ¬ nI x.1 = 7 from ne 7 (by decide)), if_neg (show ¬ nI x.1 = 8 from ne 8 (by decide)), r_two (t := s.length) hw h4 (by omega) (show u 98 0 (s.length + 1) = b from hs.1) hs.2.1] at hstep
      rw [hstep]
      unfold ev
      rw [if_neg w4, if_neg w5]
      simp only []
      by_cases z : x.1 = 12 ∧ b = 0
      · rw [if_pos z, if_pos z]
        refine ⟨(fun st' h => nomatch h), fun _ => ?_⟩
        simp only [clV]
        have hz : m3 (m3 u 22 0 88 (nI (s.length + 1))) 22 0 89 1 22 0 89 = 1 := m3_eq
        rw [K_Ref_value_12, if_neg (nin (show k + 1 < 9000 by omega) (by decide))]
        simp only [hz, if_neg (show ¬ (1 : Int32) = 0 by decide)]
        refine ⟨_, ?_, (mk_m3 rfl).trans (hm4 _ _ hf), hz⟩
        split <;> rfl
      · rw [if_neg z, if_neg z]
        simp only [clV]
        exact rv_loop (v1 := v1) hr hn hm l (k + 1) (bop x.1 a b :: s) (m3 (m3 u 22 0 88 (nI (s.length + 1))) 98 0 s.length (bop x.1 a b)) (hm33 _ _ _ (hm4 _ _ hf)) hsp' hke hokl (by simp only [List.length_cons]; exact hhi'.2) (by rw [m3_r (by decide), m3_eq]; rfl) ⟨m3_eq, Sk_put (Nat.le_refl _) (Sk_oth (by decide) hs.2.2)⟩ (by rw [m3_r (by decide), m3_i (by decide)]; exact h5) (by simp only [List.length_cons]; omega)
end Val
