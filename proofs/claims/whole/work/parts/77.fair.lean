/-! ===== a fair that stands: the class's beside the reference's ===== -/
def R_cnt (f u : MI) (n s q : Nat) : Prop := (1 ≤ n ∧ n ≤ 12) ∧ s ≤ 6 ∧ q ≤ 8 ∧ (f 11 0 4 = nI n ∧ u 22 0 20 = nI n) ∧ (f 11 0 5 = nI s ∧ u 22 0 21 = nI s) ∧ (f 11 0 6 = nI q ∧ u 22 0 22 = nI q) ∧ f 11 0 8 = u 22 0 23
/-- clock, wind, served, gone, waited, how many are logged -/
def R_glb (f u : MI) : Prop := f 11 0 9 = u 22 0 79 ∧ f 11 0 10 = u 22 0 80 ∧ f 11 0 11 = u 22 0 81 ∧ f 11 0 12 = u 22 0 82 ∧ f 11 0 13 = u 22 0 83 ∧ f 11 0 14 = u 22 0 84
def R_log (f u : MI) : Prop := ∃ l : Nat, l < 2 ^ 30 ∧ u 22 0 84 = nI l ∧ ∀ k, k < 1600 → k < 4 * l → f 31 0 k = u 96 0 k
def R_stf (f u : MI) (s : Nat) : Prop := ∀ k, k < s → f 30 0 k = u 91 0 k ∧ f 29 0 k = u 58 0 k
def R_flg (f u : MI) (q : Nat) : Prop := ∀ k, k < q → u 92 0 k = (f 11 0 7 >>> (nI k &&& 31)) &&& 1
/-- kind and numbers of a ride -/
def R_rid (f : MI) (g : MR) (u : MI) (r : Nat) : Prop := ∃ kd : Nat, kd ≤ 8 ∧ f 16 r 4 = nI kd ∧ u 49 0 r = nI kd ∧ f 16 r 5 = tabB 4 kd ∧ f 16 r 0 = nI r ∧
  (f 27 r 0 = u 51 0 r ∧ f 27 r 1 = u 52 0 r ∧ f 27 r 2 = u 53 0 r ∧ f 27 r 3 = u 54 0 r ∧ f 27 r 4 = u 55 0 r ∧ f 27 r 5 = u 56 0 r) ∧
  (kd = 8 → ∃ l : Nat, l < r ∧ g 16 r 6 = some l ∧ u 50 0 r = nI l) ∧ (kd ≠ 8 → g 16 r 6 = none)
/-- what moves -/
def R_mot (f u : MI) (r : Nat) : Prop := f 16 r 7 = u 73 0 r ∧ f 16 r 8 = u 74 0 r ∧ f 16 r 9 = u 75 0 r ∧ f 16 r 10 = u 76 0 r ∧ f 16 r 11 = u 77 0 r ∧ f 16 r 12 = u 78 0 r ∧ f 16 r 13 = u 79 0 r ∧ f 16 r 14 = u 80 0 r ∧ f 16 r 15 = u 81 0 r
def sumN (f : Nat → Int32) : Nat → Int32
  | 0 => 0
  | n + 1 => sumN f n + f n
def R_que (f u : MI) (r : Nat) : Prop := ∃ m : Nat, m ≤ 30 ∧ f 15 r 2 = nI m ∧ u 93 0 r = nI m ∧ (∀ k, k < m → f 23 r k = u 94 0 (30 * r + k) ∧ f 24 r k = u 95 0 (30 * r + k)) ∧ f 15 r 3 = sumN (f 23 r) m
/-- state, why, counted, registers, staff held -/
def R_sta (f u : MI) (r : Nat) : Prop := f 18 r 6 = u 82 0 r ∧ f 18 r 7 = u 83 0 r ∧ f 18 r 8 = u 85 0 r ∧ (∀ k, k < 4 → f 25 r k = u 88 0 (4 * r + k)) ∧ (∀ k, k < 6 → f 26 r k = u 90 0 (6 * r + k))
def R_fair (SC : MI → MR → MI → Nat → Prop) (f : MI) (g : MR) (u : MI) : Prop := ∃ n s q : Nat, R_cnt f u n s q ∧ R_glb f u ∧ R_log f u ∧ R_stf f u s ∧ R_flg f u q ∧ ∀ r, r < n → R_rid f g u r ∧ R_mot f u r ∧ R_que f u r ∧ R_sta f u r ∧ SC f g u r
section Count
variable {L : Nat} {xs : Nat → Int32} {d i : Nat} {SC : MI → MR → MI → Nat → Prop}
/-! ===== promise 5: count ===== -/
theorem e_Rcount (a v : Int32) (h : MH) (h1 : 0 ≤ a) (h2 : a ≤ 4) (hv : (if a = 4 then h.1 22 0 3 else if h.1 22 0 19 = 0 then 0 else if a = 0 then h.1 22 0 20 else if a = 1 then h.1 22 0 21 else if a = 2 then h.1 22 0 22 else h.1 22 0 23) = v) : EL (mP L xs) (d + 1) 137 [rv 22 (some 0), iv a] h = some (.inl (some (iv v)), (m3 h.1 22 0 90 0, h.2)) := by
  refine EL_by (j := 8) (cut := [15]) ?_
  rw [show minit 137 [rv 22 (some 0), iv a] = [some (rv 22 (some 0)), some (iv a)] from rfl, q_Ref_count_0, if_neg (Int32.not_lt.mpr h1), if_neg (Int32.not_lt.mpr h2)]
  refine RL_cut (j := 22) (cut := [15]) ?_
  rw [q_Ref_count_15, if_pos (show (m3 h.1 22 0 90 0) 22 0 90 = 0 from rfl)]
  subst hv
  by_cases c4 : a = 4
  · rw [if_pos c4, if_pos c4]; rfl
  · rw [if_neg c4, if_neg c4]
    by_cases c5 : h.1 22 0 19 = 0
    · rw [if_pos c5, if_pos (show (m3 h.1 22 0 90 0) 22 0 19 = 0 from c5)]
    · rw [if_neg c5, if_neg (show ¬ (m3 h.1 22 0 90 0) 22 0 19 = 0 from c5)]
      by_cases c0 : a = 0
      · rw [if_pos c0, if_pos c0]; rfl
      · rw [if_neg c0, if_neg c0]
        by_cases c1 : a = 1
        · rw [if_pos c1, if_pos c1]; rfl
        · rw [if_neg c1, if_neg c1]
          by_cases c2 : a = 2
          · rw [if_pos c2, if_pos c2]; rfl
          · rw [if_neg c2, if_neg c2]; rfl
theorem p_count (a : Int32) : prI (mP L xs) (d + 2) (Iv (R_fair SC) i) (Iv (R_fair SC) (i + 6)) 136 137 [iv a] := by
  intro h hI
  obtain ⟨⟨n, n4, t1, t2, -⟩, ⟨-, -, f3, f4⟩, f5⟩ := hI.1
  have t1' : h.1 21 0 4 = nI n := t1
  have t2' : h.1 22 0 3 = nI n := t2
  have f3' : h.1 21 0 5 = h.1 22 0 19 := f3
  have key : ∀ v : Int32, 0 ≤ a → a ≤ 4 → EL (mP L xs) (d + 1) 135 [rv 21 (some 0), iv a] h = some (.inl (some (iv v)), h) → (if a = 4 then h.1 22 0 3 else if h.1 22 0 19 = 0 then 0 else if a = 0 then h.1 22 0 20 else if a = 1 then h.1 22 0 21 else if a = 2 then h.1 22 0 22 else h.1 22 0 23) = v →
      ∃ (k b : Int32) (h1 h2 : MH), EL (mP L xs) (d + 2) 136 (rv 21 (some 0) :: ([iv a] ++ [rv 99 (some 0)])) h = some (.inl (some (iv k)), h1) ∧ EL (mP L xs) (d + 2) 137 (rv 22 (some 0) :: [iv a]) h1 = some (.inl (some (iv b)), h2) ∧ h2.1 22 0 90 = k ∧ (k = 0 → h2.2.2.1 99 0 0 = b.toInt64) ∧ Iv (R_fair SC) (i + 6) h2 := by
    intro v a0 a4 hc hv
    refine ⟨0, v, (h.1, h.2.1, m3 h.2.2.1 99 0 0 v.toInt64, h.2.2.2), (m3 h.1 22 0 90 0, h.2.1, m3 h.2.2.1 99 0 0 v.toInt64, h.2.2.2), ?_, ?_, rfl, fun _ => rfl, Iv_ro hI rfl rfl (Nat.le_succ _) (Nat.le_add_right _ _)⟩
    · refine EL_by (j := 10) (cut := []) ?_
      rw [show minit 136 (rv 21 (some 0) :: ([iv a] ++ [rv 99 (some 0)])) = [some (rv 21 (some 0)), some (iv a), some (rv 99 (some 0)), none] from rfl, q_Law_count_0, hc]
      rfl
    · exact EL_mono (Nat.le_succ (d + 1)) (e_Rcount a v _ a0 a4 hv)
  have hq := q_House_count_0 L xs (EL (mP L xs) d) (RL (mP L xs) d 135) a h
  have hst : ∀ (x y : Int32), (∀ n s q, R_cnt (cN h.1) (rN h.1) n s q → x = y) → (if h.1 22 0 19 = 0 then 0 else y) = (if h.1 21 0 5 = 0 then 0 else x) := by
    intro x y hxy
    by_cases z : h.1 21 0 5 = 0
    · rw [if_pos z, if_pos (f3'.symm.trans z)]
    · obtain ⟨n9, s9, q9, hc9, -⟩ := f5 (f4.resolve_left z)
      rw [if_neg z, if_neg (fun y => z (f3'.trans y)), hxy n9 s9 q9 hc9]
  have hcl : ∀ (x : Int32), (if h.1 21 0 5 = 0 then (some (.inl (some (iv 0)), h) : MX) else some (.inl (some (iv x)), h)) = some (.inl (some (iv (if h.1 21 0 5 = 0 then 0 else x))), h) := by
    intro x
    by_cases z : h.1 21 0 5 = 0
    · rw [if_pos z, if_pos z]
    · rw [if_neg z, if_neg z]
  by_cases c0 : a = 0
  · refine key (if h.1 21 0 5 = 0 then 0 else h.1 11 0 4) (by subst c0; decide) (by subst c0; decide) (EL_by (hq.trans ?_)) ?_
    · rw [if_pos c0, hcl]
    · rw [if_neg (by subst c0; decide), if_pos c0]
      exact hst _ _ (fun n s q hc => by obtain ⟨-, -, -, ⟨y1, y2⟩, -⟩ := hc; exact y1.trans y2.symm)
  · by_cases c1 : a = 1
    · refine key (if h.1 21 0 5 = 0 then 0 else h.1 11 0 5) (by subst c1; decide) (by subst c1; decide) (EL_by (hq.trans ?_)) ?_
      · rw [if_neg c0, if_pos c1, hcl]
      · rw [if_neg (by subst c1; decide), if_neg c0, if_pos c1]
        exact hst _ _ (fun n s q hc => by obtain ⟨-, -, -, -, ⟨y1, y2⟩, -⟩ := hc; exact y1.trans y2.symm)
    · by_cases c2 : a = 2
      · refine key (if h.1 21 0 5 = 0 then 0 else h.1 11 0 6) (by subst c2; decide) (by subst c2; decide) (EL_by (hq.trans ?_)) ?_
        · rw [if_neg c0, if_neg c1, if_pos c2, hcl]
        · rw [if_neg (by subst c2; decide), if_neg c0, if_neg c1, if_pos c2]
          exact hst _ _ (fun n s q hc => by obtain ⟨-, -, -, -, -, ⟨y1, y2⟩, -⟩ := hc; exact y1.trans y2.symm)
      · by_cases c3 : a = 3
        · refine key (if h.1 21 0 5 = 0 then 0 else h.1 11 0 8) (by subst c3; decide) (by subst c3; decide) (EL_by (hq.trans ?_)) ?_
          · rw [if_neg c0, if_neg c1, if_neg c2, if_pos c3, hcl]
          · rw [if_neg (by subst c3; decide), if_neg c0, if_neg c1, if_neg c2]
            exact hst _ _ (fun n s q hc => by obtain ⟨-, -, -, -, -, -, y1⟩ := hc; exact y1)
        · by_cases c4 : a = 4
          · refine key (h.1 21 0 4) (by subst c4; decide) (by subst c4; decide) (EL_by (hq.trans ?_)) ?_
            · rw [if_neg c0, if_neg c1, if_neg c2, if_neg c3, if_pos c4]
            · rw [if_pos c4, t1', t2']
          · refine ⟨1, 0, (h.1, h.2.1, h.2.2.1, m1 h.2.2.2.1 0 (h.2.2.2.1 0 + 1), h.2.2.2.2.1 + 1, h.2.2.2.2.2 + 6), (m3 h.1 22 0 90 1, h.2.1, h.2.2.1, m1 h.2.2.2.1 0 (h.2.2.2.1 0 + 1), h.2.2.2.2.1 + 1, h.2.2.2.2.2 + 6), ?_, ?_, rfl, fun z => absurd z (by decide), Iv_ro hI rfl rfl (Nat.le_refl _) (Nat.le_refl _)⟩
            · have hc : EL (mP L xs) (d + 1) 135 [rv 21 (some 0), iv a] h = some (.inr 3, (h.1, h.2.1, h.2.2.1, h.2.2.2.1, h.2.2.2.2.1 + 1, h.2.2.2.2.2 + 6)) := EL_by (hq.trans (by rw [if_neg c0, if_neg c1, if_neg c2, if_neg c3, if_neg c4]))
              refine EL_by (j := 10) (cut := []) ?_
              rw [show minit 136 (rv 21 (some 0) :: ([iv a] ++ [rv 99 (some 0)])) = [some (rv 21 (some 0)), some (iv a), some (rv 99 (some 0)), none] from rfl, q_Law_count_0, hc]
              rfl
            · have hbad : a < 0 ∨ 4 < a := by
                by_cases z : a < 0
                · exact Or.inl z
                · refine Or.inr (Int32.not_le.mp (fun y => ?_))
                  obtain ⟨j, hj, rfl⟩ := nI_of2 (M := 4) (n := 4) rfl z y
                  match j, hj with
                  | 0, _ => exact c0 rfl
                  | 1, _ => exact c1 rfl
                  | 2, _ => exact c2 rfl
                  | 3, _ => exact c3 rfl
                  | 4, _ => exact c4 rfl
              refine EL_mono (Nat.le_succ (d + 1)) (EL_by (j := 8) (cut := [15]) ?_)
              have h15 : ∀ h : MH, RL (mP L xs) d 137 15 [some (rv 22 (some 0)), some (iv a)] [iv 1, rv 22 (some 0)] h = some (.inl (some (iv 0)), (m3 h.1 22 0 90 1, h.2)) := fun h => RL_cut (j := 22) (cut := [15]) (q_Ref_count_15 L xs _ _ a 1 h)
              rw [show minit 137 [rv 22 (some 0), iv a] = [some (rv 22 (some 0)), some (iv a)] from rfl, q_Ref_count_0]
              by_cases z : a < 0
              · rw [if_pos z]; exact h15 _
              · rw [if_neg z, if_pos (hbad.resolve_left z)]; exact h15 _
end Count
