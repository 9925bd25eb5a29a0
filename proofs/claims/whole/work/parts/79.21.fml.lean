/-! ===== formulas at work ===== -/
theorem nI_and31 (m : Nat) : nI m &&& 31 = nI (m % 32) := by
  apply Int32.toBitVec_inj.mp
  show BitVec.ofNat 32 m &&& BitVec.ofNat 32 31 = BitVec.ofNat 32 (m % 32)
  rw [← BitVec.ofNat_and]
  congr 1
  exact Nat.and_two_pow_sub_one_eq_mod m 5
theorem nI_shr5 {m : Nat} (hm : m < 2 ^ 31) : nI m >>> ((5 : Int32) &&& 31) = nI (m / 32) := by
  apply Int32.toInt_inj.mp
  rw [nI_toInt (by omega)]
  have e : ((5 : Int32) &&& 31) = 5 := by decide
  rw [e]
  show ((nI m).toBitVec.sshiftRight 5).toInt = _
  rw [BitVec.toInt_sshiftRight]
  show (nI m).toInt >>> 5 = _
  rw [nI_toInt hm, Int.shiftRight_eq_div_pow]
  show (m : Int) / ((32 : Nat) : Int) = _
  omega
theorem c_work {w a : Nat} (hw : w < 32) : nI (w + 32 * a) &&& 31 = nI w := by rw [nI_and31]; congr 1; omega
theorem c_num {w a : Nat} (hw : w < 32) (ha : w + 32 * a < 2 ^ 31) : nI (w + 32 * a) >>> ((5 : Int32) &&& 31) = nI a := by rw [nI_shr5 ha]; congr 1; omega
theorem i_dm1 (x : Int32) : x / (-1) = -x := by
  apply Int32.toInt_inj.mp
  have : (-1 : Int32).toInt = -1 := by decide
  rw [Int32.toInt_div, this, Int.tdiv_neg, Int.tdiv_one, Int32.toInt_neg]
/-- a stack in a row -/
def Sk (R : Nat) (f : MI) : List Int32 → Prop
  | [] => True
  | x :: s => f R 0 s.length = x ∧ Sk R f s
theorem Sk_put {R : Nat} {f : MI} {i : Nat} {v : Int32} : ∀ {s : List Int32}, s.length ≤ i → Sk R f s → Sk R (m3 f R 0 i v) s
  | [], _, _ => trivial
  | x :: s, h, hs => ⟨by
      rw [m3_i (by simp at h; omega)]
      exact hs.1, Sk_put (by simp at h; omega) hs.2⟩
theorem Sk_oth {R R' o i : Nat} {f : MI} {v : Int32} (h : R ≠ R') : ∀ {s : List Int32}, Sk R f s → Sk R (m3 f R' o i v) s
  | [], _ => trivial
  | x :: s, hs => ⟨by
      rw [m3_r h]
      exact hs.1, Sk_oth h hs.2⟩
theorem Hi_up {N : Nat} : ∀ {l : PL} {t : Nat}, Hi N l t → Hi (N + 1) l (t + 1)
  | [], _, _ => trivial
  | c :: l, t, h => by
    unfold Hi at h ⊢
    by_cases h1 : c.1 ≤ 4
    · rw [if_pos h1] at h ⊢
      exact ⟨by omega, Hi_up h.2⟩
    · rw [if_neg h1] at h ⊢
      by_cases h2 : c.1 = 5
      · rw [if_pos h2] at h ⊢
        exact ⟨by omega, Hi_up h.2⟩
      · rw [if_neg h2] at h ⊢
        refine ⟨by omega, ?_⟩
        have := Hi_up h.2
        rwa [show t - 1 + 1 = t + 1 - 1 by omega] at this
theorem Hi_le {N : Nat} : ∀ {l : PL} {t : Nat}, Hi N l t → Hi (N + 1) l t
  | [], _, _ => trivial
  | c :: l, t, h => by
    unfold Hi at h ⊢
    by_cases h1 : c.1 ≤ 4
    · rw [if_pos h1] at h ⊢
      exact ⟨by omega, Hi_le h.2⟩
    · rw [if_neg h1] at h ⊢
      by_cases h2 : c.1 = 5
      · rw [if_pos h2] at h ⊢
        exact ⟨h.1, Hi_le h.2⟩
      · rw [if_neg h2] at h ⊢
        exact ⟨h.1, Hi_le h.2⟩
/-- what an operand says of ride r -/
def mo (u : MI) (r a : Nat) : Int32 := if a ≤ 3 then u 88 0 (4 * r + a) else if a = 4 then u 83 0 r else if a = 5 then u 22 0 79 else if a = 6 then u 22 0 80 else if a = 7 then sumN (fun q => u 94 0 (30 * r + q)) (u 93 0 r).toNatClampNeg else if a = 8 then u 73 0 r else if a = 9 then u 75 0 r else if a = 10 then u 78 0 r else if a = 11 then u 80 0 r else if a = 12 then u 81 0 r else u 79 0 r
def mu (u : MI) (r : Nat) (x : Nat × Nat) : Int32 := if x.1 = 1 then nI x.2 else if x.1 = 2 then mo u r x.2 else if x.1 = 3 then mo u (x.2 / 32) (x.2 % 32) else u 92 0 x.2
section Fml
variable {L : Nat} {xs : Nat → Int32} {d : Nat} {g : MR} {X : ML × (Nat → Nat) × Nat × Nat} {Y : MR × ML × (Nat → Nat) × Nat × Nat}
theorem c_push {f : MI} {t : Nat} {v : Int32} (ht : f 10 0 4 = nI t) (h : t < 64) : EL (mP L xs) (d + 1) 161 [rv 10 (some 0), iv v] (f, g, X) = some (.inl none, (m3 (m3 f 33 0 t v) 10 0 4 (nI (t + 1)), g, X)) := by
  rw [E_Code_push]
  simp only [ht, if_neg (nI_pos (show t < 2 ^ 31 by omega)), if_pos (show nI t < 64 from nI_lt (b := 64) h (by decide)), if_neg (nin h (by decide)), nI_clamp (show t < 2 ^ 31 by omega), m3_r (show 10 ≠ 33 by decide), nI_1]
theorem c_pop {f : MI} {t : Nat} (ht : f 10 0 4 = nI (t + 1)) (h : t < 64) : EL (mP L xs) (d + 1) 162 [rv 10 (some 0)] (f, g, X) = some (.inl (some (iv (f 33 0 t))), (m3 f 10 0 4 (nI t), g, X)) := by
  rw [E_Code_pop]
  simp only [ht, if_pos (show 0 < nI (t + 1) from nI_lt (a := 0) (by omega) (by omega)), if_neg (show ¬ 64 < nI (t + 1) from nI_nlt (b := t + 1) (a := 64) (by omega) (by decide)), m3_eq, nI_pred, if_neg (nin h (by decide)), nI_clamp (show t < 2 ^ 31 by omega), m3_r (show 33 ≠ 10 by decide)]
theorem r_push {u : MI} {t : Nat} {v : Int32} (ht : u 22 0 88 = nI t) (h : t < 64) : EL (mP L xs) (d + 1) 213 [rv 22 (some 0), iv v] (u, Y) = some (.inl none, (m3 (m3 u 98 0 t v) 22 0 88 (nI (t + 1)), Y)) := by
  rw [E_Ref_push]
  simp only [ht, if_neg (nin h (by decide)), nI_clamp (show t < 2 ^ 31 by omega), m3_r (show 22 ≠ 98 by decide), nI_1]
/-- the class's operators -/
theorem c_join {f : MI} {w : Nat} {x y : Int32} (hw : 9 ≤ w ∧ w ≤ 12) : EL (mP L xs) (d + 1) 164 [rv 10 (some 0), iv (nI w), iv x, iv y] (f, g, X) = if w = 12 ∧ y = 0 then some (.inl (some (iv 0)), (m3 f 10 0 5 1, g, X)) else some (.inl (some (iv (bop w x y))), (f, g, X)) := by
  rw [E_Code_joined]
  obtain ⟨h1, h2⟩ := hw
  have : w = 9 ∨ w = 10 ∨ w = 11 ∨ w = 12 := by omega
  rcases this with rfl | rfl | rfl | rfl
  · rw [if_pos (by decide), if_neg (by omega)]; rfl
  · rw [if_neg (by decide), if_pos (by decide), if_neg (by omega)]; rfl
  · rw [if_neg (by decide), if_neg (by decide), if_pos (by decide), if_neg (by omega)]; rfl
  · rw [if_neg (by decide), if_neg (by decide), if_neg (by decide), if_pos (by decide)]
    by_cases z : y = 0
    · rw [if_pos z, if_pos ⟨rfl, z⟩]
    · rw [if_neg z, if_neg z, if_neg (fun q => z q.2)]; rfl
abbrev cvL (r : Nat) (v1 v3 v4 : Int32) (z5 z6 z7 z8 : Option MV) : List (Option MV) := [some (rv 10 (some 0)), some (iv v1), some (rv 16 (some r)), some (iv v3), some (iv v4), z5, z6, z7, z8]
/-- the class's loop over a list -/
theorem cv_loop {f0 : MI} {n r e cn : Nat} {μ : Nat × Nat → Int32} {v1 : Int32}
    (hμ : ∀ x, okc n x → x.1 ≤ 4 → ∀ f', mk nsC f' = mk nsC f0 → EL (mP L xs) (d + 1) 160 [rv 10 (some 0), iv (nI x.1), iv (nI x.2), rv 16 (some r)] (f', g, X) = some (.inl (some (iv (μ x))), (f', g, X)))
    (hn : n ≤ 12) (he : e < cn) (hcn : cn ≤ 4001) (hct : f0 10 0 3 = nI cn) :
    ∀ (l : PL) (c : Nat) (st : List Int32) (f : MI) (z5 z6 z7 z8 : Option MV), mk nsC f = mk nsC f0 → Sp f0 c l → c + l.length ≤ e → (∀ x ∈ l, okc n x) → Hi 64 l st.length → f 10 0 4 = nI st.length → Sk 33 f st → f 10 0 5 = 0 → st.length ≤ 64 →
      (∀ st', ev μ l st = some st' → ∃ (f' : MI) (y5 y6 y7 y8 : Option MV), RL (mP L xs) (d + 1) 165 15 (cvL r v1 1 (nI c) z5 z6 z7 z8) [] (f, g, X) = RL (mP L xs) (d + 1) 165 15 (cvL r v1 1 (nI (c + l.length)) y5 y6 y7 y8) [] (f', g, X) ∧ mk nsC f' = mk nsC f0 ∧ f' 10 0 4 = nI st'.length ∧ Sk 33 f' st' ∧ f' 10 0 5 = 0 ∧ st'.length ≤ 64) ∧
      (ev μ l st = none → ∃ f' : MI, RL (mP L xs) (d + 1) 165 15 (cvL r v1 1 (nI c) z5 z6 z7 z8) [] (f, g, X) = some (.inl (some (iv 0)), (f', g, X)) ∧ mk nsC f' = mk nsC f0 ∧ f' 10 0 5 = 1)
  | [], c, st, f, z5, z6, z7, z8, hf, _, _, _, _, h4, hs, h5, hl => ⟨fun st' h => by
      cases h
      exact ⟨f, z5, z6, z7, z8, rfl, hf, h4, hs, h5, hl⟩, fun h => nomatch h⟩
  | x :: l, c, st, f, z5, z6, z7, z8, hf, hsp, hce, hok, hhi, h4, hs, h5, hl => by
    obtain ⟨hx, hsp'⟩ := hsp
    have hokx := hok x List.mem_cons_self
    have hokl : ∀ y ∈ l, okc n y := fun y hy => hok y (List.mem_cons_of_mem _ hy)
    have hcl : c < cn := by simp only [List.length_cons] at hce; omega
    have hw32 : x.1 < 32 ∧ x.1 + 32 * x.2 < 2 ^ 31 := by
      rcases hokx with h | h | h | h | h
      · omega
      · omega
      · omega
      · omega
      · omega
    have e1 : f 32 0 c = nI (x.1 + 32 * x.2) := (mk_at hf 32 0 c rfl).trans hx
    have e2 : f 10 0 3 = nI cn := (mk_at hf 10 0 3 rfl).trans hct
    have hstep := K_Code_value_15 (L := L) (xs := xs) (d := d + 1) (z5 := z5) (z6 := z6) (z7 := z7) (z8 := z8) v1 (some r) 1 (nI c) (f, g, X)
    simp only [if_neg (show ¬ (1 : Int32) = 0 by decide), if_neg (nI_pos (show c < 2 ^ 31 by omega)), e2, if_pos (nI_lt hcl (show cn < 2 ^ 31 by omega)), if_pos (show nI c < 4001 from nI_lt (b := 4001) (by omega) (by decide)), if_neg (nin (show c < 4001 by omega) (by decide)), nI_clamp (show c < 2 ^ 31 by omega), e1, c_work hw32.1, c_num hw32.1 hw32.2, nI_1] at hstep
    have hlen : c + (x :: l).length = c + 1 + l.length := by simp only [List.length_cons]; omega
    have hce' : c + 1 + l.length ≤ e := by omega
    have hm4 : ∀ (f' : MI) (v : Int32), mk nsC f' = mk nsC f0 → mk nsC (m3 f' 10 0 4 v) = mk nsC f0 := fun f' v h => (mk_m3 rfl).trans h
    have hm33 : ∀ (f' : MI) (i : Nat) (v : Int32), mk nsC f' = mk nsC f0 → mk nsC (m3 f' 33 0 i v) = mk nsC f0 := fun f' i v h => (mk_m3 rfl).trans h
    rw [hlen]
    by_cases w4 : x.1 ≤ 4
    · -- an operand
      have hne : ¬ nI x.1 = 0 := by
        rw [show (0 : Int32) = nI 0 from rfl, nI_eq (by omega) (by decide)]
        rcases hokx with h | h | h | h | h <;> omega
      have hhi' : st.length < 64 ∧ Hi 64 l (st.length + 1) := by
        unfold Hi at hhi
        rw [if_pos w4] at hhi
        exact hhi
      rw [if_neg hne, if_neg (show ¬ (4 : Int32) < nI x.1 from nI_nlt (a := 4) (b := x.1) w4 (by decide)), hμ x hokx w4 f hf] at hstep
      simp only [clI] at hstep
      rw [c_push h4 hhi'.1] at hstep
      simp only [clV] at hstep
      have ih := cv_loop (v1 := v1) hμ hn he hcn hct l (c + 1) (μ x :: st) (m3 (m3 f 33 0 st.length (μ x)) 10 0 4 (nI (st.length + 1))) (some (iv (nI x.1))) (some (iv (nI x.2))) z7 z8 (hm4 _ _ (hm33 _ _ _ hf)) hsp' hce' hokl hhi'.2 m3_eq ⟨by rw [m3_r (by decide), m3_eq], Sk_oth (by decide) (Sk_put (Nat.le_refl _) hs)⟩ (by rw [m3_i (by decide), m3_r (by decide)]; exact h5) (by simp only [List.length_cons]; omega)
      rw [hstep]
      unfold ev
      rw [if_pos w4]
      exact ih
    · by_cases w5 : x.1 = 5
      · -- minus
        have hhi' : 1 ≤ st.length ∧ Hi 64 l st.length := by
          unfold Hi at hhi
          rw [if_neg w4, if_pos w5] at hhi
          exact hhi
        obtain ⟨a, s, rfl⟩ : ∃ a s, st = a :: s := by
          cases st with
          | nil => simp at hhi'
          | cons a s => exact ⟨a, s, rfl⟩
        simp only [List.length_cons] at hhi' h4 hl
        rw [w5, if_neg (by decide), if_pos (by decide), if_neg (by decide), c_pop h4 (by omega)] at hstep
        simp only [clI] at hstep
        rw [if_pos (by decide), c_push (t := s.length) m3_eq (by omega)] at hstep
        simp only [clV] at hstep
        have hs2 := hs.2
        rw [hs.1] at hstep
        have ih := cv_loop (v1 := v1) hμ hn he hcn hct l (c + 1) (-a :: s) (m3 (m3 (m3 f 10 0 4 (nI s.length)) 33 0 s.length (-a)) 10 0 4 (nI (s.length + 1))) (some (iv (nI 5))) (some (iv (nI x.2))) (some (iv a)) z8 (hm4 _ _ (hm33 _ _ _ (hm4 _ _ hf))) hsp' hce' hokl hhi'.2 m3_eq ⟨by rw [m3_r (by decide), m3_eq], Sk_oth (by decide) (Sk_put (Nat.le_refl _) (Sk_oth (by decide) hs2))⟩ (by rw [m3_i (by decide), m3_r (by decide), m3_i (by decide)]; exact h5) (by simp only [List.length_cons]; omega)
        rw [hstep]
        unfold ev
        rw [if_neg w4, if_pos w5]
        exact ih
      · -- two of them
        have hw : 9 ≤ x.1 ∧ x.1 ≤ 12 := by rcases hokx with h | h | h | h | h <;> omega
        have hhi' : 2 ≤ st.length ∧ Hi 64 l (st.length - 1) := by
          unfold Hi at hhi
          rw [if_neg w4, if_neg w5] at hhi
          exact hhi
        obtain ⟨b, a, s, rfl⟩ : ∃ b a s, st = b :: a :: s := by
          match st, hhi' with
          | b :: a :: s, _ => exact ⟨b, a, s, rfl⟩
        simp only [List.length_cons] at hhi' h4 hl
        rw [if_neg (show ¬ nI x.1 = 0 by rw [show (0 : Int32) = nI 0 from rfl, nI_eq (by omega) (by decide)]; omega), if_pos (show (4 : Int32) < nI x.1 from nI_lt (a := 4) (by omega) (by omega)), if_pos (show (6 : Int32) < nI x.1 from nI_lt (a := 6) (by omega) (by omega)), if_pos (show (8 : Int32) < nI x.1 from nI_lt (a := 8) (by omega) (by omega)), c_pop h4 (by omega)] at hstep
        simp only [clI] at hstep
        rw [c_pop (t := s.length) m3_eq (by omega)] at hstep
        simp only [clI] at hstep
        rw [m3_r (show 33 ≠ 10 by decide), hs.2.1, show f 33 0 (s.length + 1) = b from hs.1, c_join hw] at hstep
        rw [hstep]
        unfold ev
        rw [if_neg w4, if_neg w5]
        simp only []
        by_cases z : x.1 = 12 ∧ b = 0
        · rw [if_pos z]
          refine ⟨(fun st' h => nomatch h), fun _ => ?_⟩
          rw [if_pos z]
          simp only [clI]
          rw [c_push (t := s.length) (by rw [m3_i (by decide), m3_eq]) (by omega)]
          simp only [clV]
          rw [if_neg (show ¬ m3 (m3 (m3 (m3 (m3 f 10 0 4 (nI (s.length + 1))) 10 0 4 (nI s.length)) 10 0 5 1) 33 0 s.length 0) 10 0 4 (nI (s.length + 1)) 10 0 5 = 0 by rw [m3_i (by decide), m3_r (by decide), m3_eq]; decide)]
          rw [K_Code_value_15, if_pos rfl, c_pop (t := s.length) m3_eq (by omega)]
          simp only [clI]
          refine ⟨_, by rw [m3_r (by decide), m3_eq], hm4 _ _ (hm4 _ _ (hm33 _ _ _ ((mk_m3 rfl).trans (hm4 _ _ (hm4 _ _ hf))))), ?_⟩
          rw [m3_i (by decide), m3_i (by decide), m3_r (by decide), m3_eq]
        · rw [if_neg z, if_neg z]
          simp only [clI]
          rw [c_push (t := s.length) (by rw [m3_eq]) (by omega)]
          simp only [clV]
          have h50 : (m3 (m3 (m3 (m3 f 10 0 4 (nI (s.length + 1))) 10 0 4 (nI s.length)) 33 0 s.length (bop x.1 a b)) 10 0 4 (nI (s.length + 1))) 10 0 5 = 0 := by
            rw [m3_i (by decide), m3_r (by decide), m3_i (by decide), m3_i (by decide)]
            exact h5
          rw [if_pos h50]
          exact cv_loop (v1 := v1) hμ hn he hcn hct l (c + 1) (bop x.1 a b :: s) _ (some (iv (nI x.1))) (some (iv (nI x.2))) (some (iv b)) (some (iv a)) (hm4 _ _ (hm33 _ _ _ (hm4 _ _ (hm4 _ _ hf)))) hsp' hce' hokl (by simp only [List.length_cons]; exact hhi'.2) m3_eq ⟨by rw [m3_r (by decide), m3_eq], Sk_oth (by decide) (Sk_put (Nat.le_refl _) (Sk_oth (by decide) (Sk_oth (by decide) hs.2.2)))⟩ h50 (by simp only [List.length_cons]; omega)
end Fml
