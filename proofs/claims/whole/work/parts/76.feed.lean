/-! ===== promise 2: feed, the reference's and the pair ===== -/
theorem lll_nil : lll [] [] := ⟨rfl, fun _ _ h => h⟩
theorem lll_cons {a b : List (Option MV)} {v : Option MV} (h : lll a b) : lll (v :: a) (v :: b) := by
  refine ⟨by rw [List.length_cons, List.length_cons, h.1], fun i w hi => ?_⟩
  cases i with
  | zero => exact hi
  | succ n => exact h.2 n w hi
theorem lll_none {a b : List (Option MV)} {v : Option MV} (h : lll a b) : lll (none :: a) (v :: b) := by
  refine ⟨by rw [List.length_cons, List.length_cons, h.1], fun i w hi => ?_⟩
  cases i with
  | zero => cases hi
  | succ n => exact h.2 n w hi
def wd (a b c e g : Int32) (k : Nat) : Int32 := if k < 4 then a else if k < 8 then b else if k < 12 then c else if k < 16 then e else g
theorem sh_k : ∀ k, k < 20 → (24 - (8 * (nI k - nI k / 4 * 4)) : Int32) = nI (24 - 8 * (k % 4)) := by decide +kernel
/-- a mask by its bits -/
def mb : List Nat → Nat
  | [] => 0
  | b :: l => mb l ||| 2 ^ b
theorem mb_bit {b : Nat} : ∀ {l : List Nat}, b ∉ l → (mb l).testBit b = false
  | [], _ => Nat.zero_testBit b
  | a :: l, h => by
    unfold mb
    rw [Nat.testBit_or, mb_bit (fun z => h (List.mem_cons_of_mem _ z)), Nat.testBit_two_pow, Bool.false_or]
    exact decide_eq_false (fun z => h (by rw [z]; exact List.mem_cons_self))
theorem fm_list {m : Nat} {l : List Nat} (hm : mEff m = mb l) {h h' : MH} (hf : Fm (mEff m) h h') (r o i : Nat) (h1 : lid r i ∉ l) (h2 : r * 128 + 127 ∉ l) : h'.1 r o i = h.1 r o i ∧ h'.2.1 r o i = h.2.1 r o i := by
  rw [hm] at hf
  have z := hf.1 r o i (mb_bit h1) (Or.inr (mb_bit h2))
  exact ⟨z.1, z.2.1⟩
theorem eff_13 : mEff 13 = mb [21 * 128 + 4, 40 * 128] := by decide +kernel
theorem eff_14 : mEff 14 = mb [22 * 128 + 3, 22 * 128 + 90, 43 * 128] := by decide +kernel
theorem lid_21 {r i : Nat} (hp : pl r i = true) {q j : Nat} (hj : j < 128) (ht : rTag q = 0) (h : lid r i = q * 128 + j) : r = q ∧ (rTag r = 0 → i = j) := by
  have h1 := lid_div hp
  rw [h] at h1
  have hr : r = q := by omega
  subst hr
  refine ⟨rfl, fun _ => ?_⟩
  rw [lid_obj ht] at h
  omega
theorem lid_a {r i : Nat} (hp : pl r i = true) {q : Nat} (h : lid r i = q * 128) : r = q := by
  have h1 := lid_div hp
  rw [h] at h1
  omega
section RFeed
variable {L : Nat} {xs : Nat → Int32} {d : Nat} {a b c e g : Int32}
theorem rf_76 {k n : Nat} {w : Int32} {h : MH} (hk : k < 20) (hn : h.1 22 0 3 = nI n) (h4 : n + 20 ≤ 4000) {x : MO}
    (hq : RL (mP L xs) d 14 23 [some (rv 22 (some 0)), some (iv a), some (iv b), some (iv c), some (iv e), some (iv g), some (iv (nI (k + 1))), none] [] (m3 h.1 43 0 (n + k) (bR w (nI (24 - 8 * (k % 4)))), h.2) = some x) :
    RL (mP L xs) d 14 76 [some (rv 22 (some 0)), some (iv a), some (iv b), some (iv c), some (iv e), some (iv g), some (iv (nI k)), none] [iv w] h = some x := by
  refine RL_cut (j := 21) (cut := [23, 76]) ?_
  rw [q_Ref_feed_76, hn, nI_add, if_neg (nI_in (by omega) (by decide)), nI_clamp (by omega), sh_k k hk, nI_1]
  exact RL_fgt (lll_cons (lll_cons (lll_cons (lll_cons (lll_cons (lll_cons (lll_cons (lll_none lll_nil)))))))) hq
theorem rf_it {k n : Nat} {h : MH} (hk : k < 20) (hn : h.1 22 0 3 = nI n) (h4 : n + 20 ≤ 4000) {x : MO}
    (hq : RL (mP L xs) d 14 23 [some (rv 22 (some 0)), some (iv a), some (iv b), some (iv c), some (iv e), some (iv g), some (iv (nI (k + 1))), none] [] (m3 h.1 43 0 (n + k) (bR (wd a b c e g k) (nI (24 - 8 * (k % 4)))), h.2) = some x) :
    RL (mP L xs) d 14 23 [some (rv 22 (some 0)), some (iv a), some (iv b), some (iv c), some (iv e), some (iv g), some (iv (nI k)), none] [] h = some x := by
  refine RL_cut (j := 17) (cut := [23, 76]) ?_
  rw [q_Ref_feed_23, if_pos (show nI k < 20 from nI_lt (a := k) (b := 20) hk (by decide))]
  unfold wd at hq
  by_cases h1 : k < 4
  · rw [if_pos h1] at hq
    rw [if_pos (show nI k < 4 from nI_lt (a := k) (b := 4) h1 (by decide))]
    exact rf_76 hk hn h4 hq
  · rw [if_neg h1] at hq
    rw [if_neg (show ¬ nI k < 4 from nI_nlt (a := k) (b := 4) (by omega) (by omega))]
    by_cases h2 : k < 8
    · rw [if_pos h2] at hq
      rw [if_pos (show nI k < 8 from nI_lt (a := k) (b := 8) h2 (by decide))]
      exact rf_76 hk hn h4 hq
    · rw [if_neg h2] at hq
      rw [if_neg (show ¬ nI k < 8 from nI_nlt (a := k) (b := 8) (by omega) (by omega))]
      by_cases h3 : k < 12
      · rw [if_pos h3] at hq
        rw [if_pos (show nI k < 12 from nI_lt (a := k) (b := 12) h3 (by decide))]
        exact rf_76 hk hn h4 hq
      · rw [if_neg h3] at hq
        rw [if_neg (show ¬ nI k < 12 from nI_nlt (a := k) (b := 12) (by omega) (by omega))]
        by_cases h5 : k < 16
        · rw [if_pos h5] at hq
          rw [if_pos (show nI k < 16 from nI_lt (a := k) (b := 16) h5 (by decide))]
          exact rf_76 hk hn h4 hq
        · rw [if_neg h5] at hq
          rw [if_neg (show ¬ nI k < 16 from nI_nlt (a := k) (b := 16) (by omega) (by omega))]
          exact rf_76 hk hn h4 hq
theorem rf_all {n : Nat} (h4 : n + 20 ≤ 4000) : ∀ (m k : Nat) (h : MH), k + m = 20 → h.1 22 0 3 = nI n → ∃ h' : MH, RL (mP L xs) d 14 23 [some (rv 22 (some 0)), some (iv a), some (iv b), some (iv c), some (iv e), some (iv g), some (iv (nI k)), none] [] h = some (.inl (some (iv (nI (n + 20)))), h') ∧ h'.1 22 0 3 = nI (n + 20) ∧ (∀ j, k ≤ j → j < 20 → h'.1 43 0 (n + j) = bR (wd a b c e g j) (nI (24 - 8 * (j % 4)))) ∧ (∀ q, q < n + k → h'.1 43 0 q = h.1 43 0 q) ∧ h'.1 22 0 90 = h.1 22 0 90 ∧ h'.2 = h.2
  | 0, k, h, hk, hn => by
    refine ⟨(m3 h.1 22 0 3 (nI (n + 20)), h.2), ?_, rfl, fun j h1 h2 => by omega, fun _ _ => rfl, rfl, rfl⟩
    refine RL_cut (j := 17) (cut := [23, 76]) ?_
    rw [q_Ref_feed_23, if_neg (show ¬ nI k < 20 from nI_nlt (a := k) (b := 20) (by omega) (by omega)), hn, show (20 : Int32) = nI 20 from rfl, nI_add]
    rfl
  | m + 1, k, h, hk, hn => by
    obtain ⟨h', q1, q2, q3, q4, q5, q6⟩ := rf_all h4 m (k + 1) (m3 h.1 43 0 (n + k) (bR (wd a b c e g k) (nI (24 - 8 * (k % 4)))), h.2) (by omega) hn
    refine ⟨h', rf_it (by omega) hn h4 q1, q2, fun j h1 h2 => ?_, fun q hq => ?_, q5, q6⟩
    · by_cases e : j = k
      · subst e
        rw [q4 (n + j) (by omega)]
        simp [m3]
      · exact q3 j (by omega) h2
    · rw [q4 q (by omega)]
      have : q ≠ n + k := by omega
      simp [m3, this]
/-- the pair -/
theorem p_feed {RF : MI → MR → MI → Prop} {i : Nat} (hRF : ∀ f g u f' u', (∀ r o j, (r ≠ 21 ∨ j ≠ 4) → r ≠ 40 → f' r o j = f r o j) → (∀ r o j, (r ≠ 22 ∨ j ≠ 3) → r ≠ 43 → u' r o j = u r o j) → RF f g u → RF f' g u') : prF (mP L xs) (d + 2) (Iv RF i) (Iv RF (i + 6)) [iv a, iv b, iv c, iv e, iv g] := by
  intro h hI
  obtain ⟨⟨⟨n, n4, t1, t2, t3⟩, f1, f2⟩, t, s1, s2, s3, s4⟩ := hI
  have t1' : h.1 21 0 4 = nI n := t1
  have t2' : h.1 22 0 3 = nI n := t2
  have htn : t = n := by
    rw [t2'] at s1
    exact ((nI_eq (by omega) (by omega)).mp s1).symm
  subst htn
  by_cases hfull : t + 20 ≤ 4000
  · obtain ⟨h1, a1, a2, a3, a4, a5, a6, a7, a8⟩ := e_putFour (L := L) (xs := xs) (d := d) a h t1' (by omega)
    obtain ⟨h2, b1, b2, b3, b4, b5, b6, b7, b8⟩ := e_putFour (L := L) (xs := xs) (d := d) b h1 a2 (by omega)
    obtain ⟨h3, c1, c2, c3, c4, c5, c6, c7, c8⟩ := e_putFour (L := L) (xs := xs) (d := d) c h2 b2 (by omega)
    obtain ⟨h5, e1, e2, e3, e4, e5, e6, e7, e8⟩ := e_putFour (L := L) (xs := xs) (d := d) e h3 c2 (by omega)
    obtain ⟨h6, g1, g2, g3, g4, g5, g6, g7, g8⟩ := e_putFour (L := L) (xs := xs) (d := d) g h5 e2 (by omega)
    have hcls : EL (mP L xs) (d + 2) 13 [rv 21 (some 0), iv a, iv b, iv c, iv e, iv g] h = some (.inl (some (iv (nI (t + 20)))), h6) := by
      refine EL_by (j := 24) (cut := []) ?_
      rw [show minit 13 [rv 21 (some 0), iv a, iv b, iv c, iv e, iv g] = [some (rv 21 (some 0)), some (iv a), some (iv b), some (iv c), some (iv e), some (iv g)] from rfl, q_House_feed_0, t1', show (20 : Int32) = nI 20 from rfl, nI_add, if_neg (show ¬ (4000 : Int32) < nI (t + 20) from nI_nlt (a := 4000) (b := t + 20) (by omega) (by decide)), a1]
      simp only [mclV]
      rw [b1]
      simp only []
      rw [c1]
      simp only []
      rw [e1]
      simp only []
      rw [g1]
      simp only []
      rw [g2]
    have hf6 := EL_fm (by decide) hcls
    have hr6 : rN h6.1 = rN h.1 := fm_ref (by decide +kernel) hf6
    have u3 : h6.1 22 0 3 = nI t := by
      have z : rN h6.1 22 0 3 = rN h.1 22 0 3 := by rw [hr6]
      exact z.trans t2
    obtain ⟨h7, r1, r2, r3, r4, r5, r6⟩ := rf_all (L := L) (xs := xs) (d := d) (a := a) (b := b) (c := c) (e := e) (g := g) hfull 20 0 (m3 h6.1 22 0 90 0, h6.2) rfl u3
    have href : EL (mP L xs) (d + 2) 14 [rv 22 (some 0), iv a, iv b, iv c, iv e, iv g] h6 = some (.inl (some (iv (nI (t + 20)))), h7) := by
      refine EL_mono (Nat.le_succ (d + 1)) (EL_by (j := 11) (cut := [23, 76]) ?_)
      rw [show minit 14 [rv 22 (some 0), iv a, iv b, iv c, iv e, iv g] = [some (rv 22 (some 0)), some (iv a), some (iv b), some (iv c), some (iv e), some (iv g), none, none] from rfl, q_Ref_feed_0, show (m3 h6.1 22 0 90 0) 22 0 3 = nI t from u3, show (20 : Int32) = nI 20 from rfl, nI_add, if_neg (show ¬ (4000 : Int32) < nI (t + 20) from nI_nlt (a := 4000) (b := t + 20) (by omega) (by decide))]
      exact r1
    have hf7 := EL_fm (by decide) href
    obtain ⟨hc7, hg7, -⟩ := fm_cls (by decide +kernel) hf7
    obtain ⟨hcm, hgm, -⟩ : cN h6.1 = cN h6.1 ∧ gN h6.2.1 = gN h.2.1 ∧ True := ⟨rfl, by rw [g8, e8, c8, b8, a8], trivial⟩
    have fcls : ∀ r o j, (r ≠ 21 ∨ j ≠ 4) → r ≠ 40 → cN h7.1 r o j = cN h.1 r o j := by
      intro r o j k1 k2
      rw [hc7]
      unfold cN
      cases hr : cs r && pl r j with
      | false => rfl
      | true =>
        rw [Bool.and_eq_true] at hr
        refine (fm_list eff_13 hf6 r o j (fun hm => ?_) (fun hm => ?_)).1
        · rcases List.mem_cons.mp hm with z | z
          · obtain ⟨z1, z2⟩ := lid_21 hr.2 (by decide) (by decide +kernel) z
            subst z1
            exact k1.elim (fun y => y rfl) (fun y => y (z2 (by decide +kernel)))
          · rw [List.mem_singleton] at z
            exact k2 (lid_a hr.2 z)
        · rcases List.mem_cons.mp hm with z | z
          · omega
          · rw [List.mem_singleton] at z
            omega
    have fref : ∀ r o j, (r ≠ 22 ∨ j ≠ 3) → r ≠ 43 → rN h7.1 r o j = rN h.1 r o j := by
      intro r o j k1 k2
      rw [← hr6]
      unfold rN
      cases hr : rs r && pl r j with
      | false => rfl
      | true =>
        rw [Bool.and_eq_true] at hr
        cases hb : Nat.beq r 22 && Nat.beq j 90 with
        | true => rfl
        | false =>
          refine (fm_list eff_14 hf7 r o j (fun hm => ?_) (fun hm => ?_)).1
          · rcases List.mem_cons.mp hm with z | z
            · obtain ⟨z1, z2⟩ := lid_21 hr.2 (by decide) (by decide +kernel) z
              subst z1
              exact k1.elim (fun y => y rfl) (fun y => y (z2 (by decide +kernel)))
            · rcases List.mem_cons.mp z with z | z
              · obtain ⟨z1, z2⟩ := lid_21 hr.2 (by decide) (by decide +kernel) z
                subst z1
                rw [z2 (by decide +kernel)] at hb
                cases hb
              · rw [List.mem_singleton] at z
                exact k2 (lid_a hr.2 z)
          · rcases List.mem_cons.mp hm with z | z
            · omega
            · rcases List.mem_cons.mp z with z | z
              · omega
              · rw [List.mem_singleton] at z
                omega
    have hg9 : gN h7.2.1 = gN h.2.1 := hg7.trans hgm
    refine ⟨nI (t + 20), h6, h7, hcls, href, ⟨⟨t + 20, hfull, ?_, ?_, ?_⟩, ?_, ?_⟩, t + 20, r2, hfull, ?_, ?_⟩
    · rw [hc7]
      exact g2
    · exact r2
    · intro k hk
      rw [hc7]
      by_cases hkt : k < t
      · have z1 : h7.1 43 0 k = h.1 43 0 k := by
          have z : rN h6.1 43 0 k = rN h.1 43 0 k := by rw [hr6]
          exact (r4 k (by omega)).trans z
        have z2 : h6.1 40 0 k = h.1 40 0 k := by rw [g7 k (by omega), e7 k (by omega), c7 k (by omega), b7 k (by omega), a7 k hkt]
        obtain ⟨y1, y2⟩ := t3 k hkt
        show (∃ b : Nat, b < 256 ∧ h7.1 43 0 k = nI b) ∧ h6.1 40 0 k = (h7.1 43 0 k).toInt8.toInt32
        rw [z1, z2]
        exact ⟨y1, y2⟩
      · obtain ⟨j, rfl⟩ : ∃ j, k = t + j := ⟨k - t, by omega⟩
        have hj : j < 20 := by omega
        have z1 := r3 j (Nat.zero_le _) hj
        show (∃ b : Nat, b < 256 ∧ h7.1 43 0 (t + j) = nI b) ∧ h6.1 40 0 (t + j) = (h7.1 43 0 (t + j)).toInt8.toInt32
        rw [z1]
        refine ⟨bR_lt _ _, ?_⟩
        match j, hj with
        | 0, _ => rw [g7 _ (by omega), e7 _ (by omega), c7 _ (by omega), b7 _ (by omega)]; exact a3.trans (by24 a)
        | 1, _ => rw [g7 _ (by omega), e7 _ (by omega), c7 _ (by omega), b7 _ (by omega)]; exact a4.trans (by16 a)
        | 2, _ => rw [g7 _ (by omega), e7 _ (by omega), c7 _ (by omega), b7 _ (by omega)]; exact a5.trans (by8 a)
        | 3, _ => rw [g7 _ (by omega), e7 _ (by omega), c7 _ (by omega), b7 _ (by omega)]; exact a6.trans (by0 a)
        | 4, _ => rw [g7 _ (by omega), e7 _ (by omega), c7 _ (by omega)]; exact b3.trans (by24 b)
        | 5, _ => rw [g7 _ (by omega), e7 _ (by omega), c7 _ (by omega)]; exact b4.trans (by16 b)
        | 6, _ => rw [g7 _ (by omega), e7 _ (by omega), c7 _ (by omega)]; exact b5.trans (by8 b)
        | 7, _ => rw [g7 _ (by omega), e7 _ (by omega), c7 _ (by omega)]; exact b6.trans (by0 b)
        | 8, _ => rw [g7 _ (by omega), e7 _ (by omega)]; exact c3.trans (by24 c)
        | 9, _ => rw [g7 _ (by omega), e7 _ (by omega)]; exact c4.trans (by16 c)
        | 10, _ => rw [g7 _ (by omega), e7 _ (by omega)]; exact c5.trans (by8 c)
        | 11, _ => rw [g7 _ (by omega), e7 _ (by omega)]; exact c6.trans (by0 c)
        | 12, _ => rw [g7 _ (by omega)]; exact e3.trans (by24 e)
        | 13, _ => rw [g7 _ (by omega)]; exact e4.trans (by16 e)
        | 14, _ => rw [g7 _ (by omega)]; exact e5.trans (by8 e)
        | 15, _ => rw [g7 _ (by omega)]; exact e6.trans (by0 e)
        | 16, _ => exact g3.trans (by24 g)
        | 17, _ => exact g4.trans (by16 g)
        | 18, _ => exact g5.trans (by8 g)
        | 19, _ => exact g6.trans (by0 g)
        | n + 20, z => omega
    · obtain ⟨y1, y2, y3, y4⟩ := f1
      refine ⟨?_, ?_, ?_, ?_⟩
      · rw [fcls 21 0 6 (Or.inr (by decide)) (by decide), fref 22 0 12 (Or.inr (by decide)) (by decide)]; exact y1
      · rw [fcls 21 0 7 (Or.inr (by decide)) (by decide), fref 22 0 13 (Or.inr (by decide)) (by decide)]; exact y2
      · rw [fcls 21 0 5 (Or.inr (by decide)) (by decide), fref 22 0 19 (Or.inr (by decide)) (by decide)]; exact y3
      · rw [fcls 21 0 5 (Or.inr (by decide)) (by decide)]; exact y4
    · intro hst
      rw [fcls 21 0 5 (Or.inr (by decide)) (by decide)] at hst
      rw [hg9]
      exact hRF _ _ _ _ _ fcls fref (f2 hst)
    · show h7.2.2.2.2.1 + 2 * (t + 20) ≤ 177 + 7 * (i + 6)
      rw [r6]
      show h6.2.2.2.2.1 + 2 * (t + 20) ≤ 177 + 7 * (i + 6)
      rw [g8, e8, c8, b8, a8]
      omega
    · show h7.2.2.2.2.2 + 22 * (t + 20) ≤ 108421 + 77 * (i + 6)
      rw [r6]
      show h6.2.2.2.2.2 + 22 * (t + 20) ≤ 108421 + 77 * (i + 6)
      rw [g8, e8, c8, b8, a8]
      omega
  · have hI' : Iv RF i h := ⟨⟨⟨t, n4, t1, t2, t3⟩, f1, f2⟩, t, s1, s2, s3, s4⟩
    have hlt : (4000 : Int32) < nI (t + 20) := nI_lt (a := 4000) (b := t + 20) (by omega) (by omega)
    refine ⟨-1, h, (m3 h.1 22 0 90 0, h.2), ?_, ?_, Iv_ro hI' rfl rfl (Nat.le_succ _) (Nat.le_add_right _ _)⟩
    · refine EL_by (j := 24) (cut := []) ?_
      rw [show minit 13 [rv 21 (some 0), iv a, iv b, iv c, iv e, iv g] = [some (rv 21 (some 0)), some (iv a), some (iv b), some (iv c), some (iv e), some (iv g)] from rfl, q_House_feed_0, t1', show (20 : Int32) = nI 20 from rfl, nI_add, if_pos hlt]
    · refine EL_mono (Nat.le_succ (d + 1)) (EL_by (j := 11) (cut := [23, 76]) ?_)
      rw [show minit 14 [rv 22 (some 0), iv a, iv b, iv c, iv e, iv g] = [some (rv 22 (some 0)), some (iv a), some (iv b), some (iv c), some (iv e), some (iv g), none, none] from rfl, q_Ref_feed_0, show (m3 h.1 22 0 90 0) 22 0 3 = nI t from t2', show (20 : Int32) = nI 20 from rfl, nI_add, if_pos hlt]
end RFeed
