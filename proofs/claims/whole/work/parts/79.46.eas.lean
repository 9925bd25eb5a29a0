/-! ===== speed and height are eased ===== -/
section Eas
variable {L : Nat} {xs : Nat → Int32} {d : Nat} {X : ML × (Nat → Nat) × Nat × Nat} {Y : MR × ML × (Nat → Nat) × Nat × Nat}
variable {B B' n s q : Nat} {rd ps en dp : Nat → Nat} {lp : Nat → Option Nat} {f f1 f2 f' : MI} {g : MR} {u u1 u2 u' : MI} {r a b : Nat}
def tw (a b p m : Int32) : Int32 := if a < b then (if a + p < b then a + p else b) else (if b < a - m then a - m else b)
def Bd (x : Int32) (N : Nat) : Prop := -(N : Int) ≤ x.toInt ∧ x.toInt ≤ N
theorem bd_sz {x : Int32} {N : Nat} (h : ∃ s : Nat, s ≤ N ∧ Sz x s) (hN : N ≤ 2000) : Bd x N := by
  obtain ⟨s, s1, s2 | s2⟩ := h
  · rw [s2]
    unfold Bd
    rw [nI_toInt (by omega)]
    omega
  · rw [s2]
    unfold Bd
    rw [ng_toInt (by omega)]
    omega
theorem bd_up {x : Int32} {N : Nat} (h : Upto x N) (hN : N ≤ 2000) : 0 ≤ x.toInt ∧ x.toInt ≤ N := by
  obtain ⟨s, s1, s2⟩ := h
  rw [s2, nI_toInt (by omega)]
  omega
theorem up_bd {x : Int32} {N : Nat} (h1 : 0 ≤ x.toInt) (h2 : x.toInt ≤ N) (hN : N < 2 ^ 31) : Upto x N := by
  refine upto_of (fun z => ?_) (fun z => ?_) hN
  · rw [i_lt] at z
    have : (0 : Int32).toInt = 0 := rfl
    omega
  · rw [i_lt, nI_toInt hN] at z
    omega
theorem sz_bd {x : Int32} (h : Bd x 100) : ∃ s : Nat, s ≤ 100 ∧ Sz x s := by
  obtain ⟨h1, h2⟩ := h
  refine sz_of (fun z => ?_) (fun z => ?_)
  · rw [i_lt] at z
    have : (-100 : Int32).toInt = -100 := by decide
    omega
  · rw [i_lt] at z
    have : (100 : Int32).toInt = 100 := by decide
    omega
theorem c_tow {p0 p1 p2 p3 : Int32} {h : MH} : EL (mP L xs) (d + 1) 189 [iv p0, iv p1, iv p2, iv p3] h = some (.inl (some (iv (tw p0 p1 p2 p3))), h) := by
  rw [E_Ride_toward]
  unfold tw
  split <;> rfl
theorem tw_ar {p0 p1 p2 p3 : Int32} (h0 : Bd p0 2000) (h1 : Bd p1 2000) (h2 : 0 ≤ p2.toInt ∧ p2.toInt ≤ 2000) (h3 : 0 ≤ p3.toInt ∧ p3.toInt ≤ 2000) :
    (p1 - p0).toInt = p1.toInt - p0.toInt ∧ (p0 + p2).toInt = p0.toInt + p2.toInt ∧ (p0 - p1).toInt = p0.toInt - p1.toInt ∧ (p0 - p3).toInt = p0.toInt - p3.toInt := by
  obtain ⟨a0, b0⟩ := h0
  obtain ⟨a1, b1⟩ := h1
  obtain ⟨a2, b2⟩ := h2
  obtain ⟨a3, b3⟩ := h3
  refine ⟨?_, ?_, ?_, ?_⟩
  · rw [Int32.toInt_sub]; exact bm (by omega) (by omega)
  · rw [Int32.toInt_add]; exact bm (by omega) (by omega)
  · rw [Int32.toInt_sub]; exact bm (by omega) (by omega)
  · rw [Int32.toInt_sub]; exact bm (by omega) (by omega)
theorem r_tow {p0 p1 p2 p3 : Int32} {h : MH} (h0 : Bd p0 2000) (h1 : Bd p1 2000) (h2 : 0 ≤ p2.toInt ∧ p2.toInt ≤ 2000) (h3 : 0 ≤ p3.toInt ∧ p3.toInt ≤ 2000) : EL (mP L xs) (d + 1) 229 [iv p0, iv p1, iv p2, iv p3] h = some (.inl (some (iv (tw p0 p1 p2 p3))), h) := by
  obtain ⟨e1, e2, e3, e4⟩ := tw_ar h0 h1 h2 h3
  rw [E_Ref_towards]
  unfold tw
  by_cases c : p0 < p1
  · rw [if_pos c, if_pos c]
    by_cases c2 : p2 < p1 - p0
    · rw [if_pos c2, if_pos (by rw [i_lt, e2]; rw [i_lt, e1] at c2; omega)]
    · rw [if_neg c2, if_neg (by rw [i_lt, e2]; rw [i_lt, e1] at c2; omega)]
  · rw [if_neg c, if_neg c]
    by_cases c2 : p3 < p0 - p1
    · rw [if_pos c2, if_pos (by rw [i_lt, e4]; rw [i_lt, e3] at c2; omega)]
    · rw [if_neg c2, if_neg (by rw [i_lt, e4]; rw [i_lt, e3] at c2; omega)]
theorem tw_rg {p0 p1 p2 p3 : Int32} {lo hi : Int} (h0 : Bd p0 2000) (h1 : Bd p1 2000) (h2 : 0 ≤ p2.toInt ∧ p2.toInt ≤ 2000) (h3 : 0 ≤ p3.toInt ∧ p3.toInt ≤ 2000) (a0 : lo ≤ p0.toInt ∧ p0.toInt ≤ hi) (a1 : lo ≤ p1.toInt ∧ p1.toInt ≤ hi) : lo ≤ (tw p0 p1 p2 p3).toInt ∧ (tw p0 p1 p2 p3).toInt ≤ hi := by
  obtain ⟨e1, e2, e3, e4⟩ := tw_ar h0 h1 h2 h3
  unfold tw
  by_cases c : p0 < p1
  · rw [if_pos c]
    by_cases c2 : p0 + p2 < p1
    · rw [if_pos c2, e2]
      rw [i_lt, e2] at c2
      omega
    · rw [if_neg c2]
      exact a1
  · rw [if_neg c]
    by_cases c2 : p1 < p0 - p3
    · rw [if_pos c2, e4]
      rw [i_lt, e4] at c2
      omega
    · rw [if_neg c2]
      exact a1
theorem RM_kd {kd kd' : Nat} (M : RM f g u r kd) (M' : RM f' g u r kd') : kd' = kd := by
  have h1 := M.kl
  have h2 := M'.kl
  exact (nI_eq (by omega) (by omega)).mp (M'.kr.symm.trans M.kr)
theorem bd_mono {x : Int32} {N N' : Nat} (h : Bd x N) (hN : N ≤ N') : Bd x N' := ⟨by have := h.1; omega, by have := h.2; omega⟩
theorem nI_bd {p N : Nat} (h : p ≤ N) (hN : N ≤ 2000) : 0 ≤ (nI p).toInt ∧ (nI p).toInt ≤ N := bd_up ⟨p, h, rfl⟩ hN
theorem es_S (T : TT B n s q rd ps en dp lp f g u) (hr : r < n) : ∃ S : Int32, (∀ d X, EL (mP L xs) (d + 2) 190 [rv 16 (some r)] (f, g, X) = some (.inl none, (m3 f 16 r 7 S, g, X))) ∧
    (∀ d Y, ∃ z4, EL (mP L xs) (d + 3) 231 [rv 22 (some 0), iv (nI r)] (u, Y) = RL (mP L xs) (d + 2) 231 117 [some (rv 22 (some 0)), some (iv (nI r)), some (iv (u 49 0 r)), some (iv (u 75 0 r)), z4] [] (m3 u 73 0 r S, Y)) ∧
    TT B n s q rd ps en dp lp (m3 f 16 r 7 S) g (m3 u 73 0 r S) := by
  have hn := T.n12
  have nn : ¬ ino (nI r) 12 := nin (by omega) (by decide)
  have cl : (nI r).toNatClampNeg = r := nI_clamp (by omega)
  obtain ⟨⟨kd, M⟩, -⟩ := T.rr r hr
  have kl := M.kl
  by_cases h8 : kd = 8
  · subst h8
    obtain ⟨l, l1, l2, l3⟩ := M.t8 rfl
    obtain ⟨⟨kl', Ml⟩, -⟩ := T.rr l (by omega)
    have e8 : u 49 0 r = 8 := M.kr
    refine ⟨u 73 0 l, fun d X => ?_, fun d Y => ⟨none, ?_⟩, TT_m7 T hr (fun kd' M' => Rng_73 M'.rg Ml.rg.sp (fun z => ?_))⟩
    · rw [E_Ride_easeSpeed]
      simp only [l2, reduceCtorEq, if_false, onS_s, Ml.mo.1]
    · rw [E_Ref_eases]
      simp only [nn, if_false, cl, e8, if_true, l3, if_neg (nin (show l < 12 by omega) (show 12 < 2 ^ 31 by decide)), nI_clamp (show l < 2 ^ 31 by omega)]
    · have := RM_kd M M'
      subst this
      exact absurd z (by decide)
  · have hno : g 16 r 6 = none := M.tx h8
    have n8 : ¬ nI kd = 8 := fun z => h8 ((nI_eq (b := 8) (by omega) (by decide)).mp z)
    have hh := fun d Y => (r_hasT (L := L) (xs := xs) (d := d) M (h := (u, Y)) rfl).1
    have c7 : (nI kd = 7) = (kd = 7) := propext (nI_eq (b := 7) (by omega) (by decide))
    have t1 := M.mo.1
    have t2 := M.mo.2.1
    have t3 := M.mo.2.2.1
    have m1 := M.m1
    have kc := M.kc
    have kr := M.kr
    cases hT : aTu kd with
    | false =>
      obtain ⟨y1, y2, -, y4⟩ := M.rg.tu hT
      have h7 : ¬ kd = 7 := fun z => by subst z; exact absurd hT (by decide)
      refine ⟨0, fun d X => ?_, fun d Y => ⟨none, ?_⟩, ?_⟩
      · rw [E_Ride_easeSpeed]
        simp only [hno, if_true, kc, c7, h7, if_false, K_Ride_easeSpeed_40, t1, t2, m1, y1, y2, y4, c_tow, clI]
        rfl
      · rw [E_Ref_eases]
        simp only [nn, if_false, cl, kr, n8, hh, hT, cond_false, clI, if_true]
        rw [m3_same y1]
      · have e1 : m3 f 16 r 7 0 = f := m3_same (t1.trans y1)
        rw [e1, m3_same y1]
        exact T
    | true =>
      obtain ⟨A, A1, A2⟩ := M.rg.n1
      have hA0 : A ≠ 0 := fun z => M.rg.tn hT (by rw [A2, z]; rfl)
      obtain ⟨H0, H1, H2⟩ := M.rg.he
      have hsp := bd_sz M.rg.sp (by decide)
      have hgl := bd_sz M.rg.gl (by decide)
      have fin : ∀ p : Nat, 1 ≤ p → p ≤ 50 → (∀ d X, EL (mP L xs) (d + 2) 190 [rv 16 (some r)] (f, g, X) = some (.inl none, (m3 f 16 r 7 (tw (u 73 0 r) (u 74 0 r) (nI p) (nI p)), g, X))) →
          (∀ d Y, ∃ z, EL (mP L xs) (d + 3) 231 [rv 22 (some 0), iv (nI r)] (u, Y) = RL (mP L xs) (d + 2) 231 90 [some (rv 22 (some 0)), some (iv (nI r)), some (iv (u 49 0 r)), some (iv (u 75 0 r)), some (iv z)] [iv (nI p)] (u, Y)) →
          ∃ S : Int32, (∀ d X, EL (mP L xs) (d + 2) 190 [rv 16 (some r)] (f, g, X) = some (.inl none, (m3 f 16 r 7 S, g, X))) ∧
            (∀ d Y, ∃ z4, EL (mP L xs) (d + 3) 231 [rv 22 (some 0), iv (nI r)] (u, Y) = RL (mP L xs) (d + 2) 231 117 [some (rv 22 (some 0)), some (iv (nI r)), some (iv (u 49 0 r)), some (iv (u 75 0 r)), z4] [] (m3 u 73 0 r S, Y)) ∧
            TT B n s q rd ps en dp lp (m3 f 16 r 7 S) g (m3 u 73 0 r S) := by
        intro p p1 p2 hC hU
        have hp := nI_bd (N := 2000) (show p ≤ 2000 by omega) (by decide)
        refine ⟨_, hC, fun d Y => ?_, TT_m7 T hr (fun kd' M' => Rng_73 M'.rg (sz_bd (tw_rg (bd_mono hsp (by decide)) (bd_mono hgl (by decide)) hp hp hsp hgl)) (fun z => ?_))⟩
        · obtain ⟨z, hz⟩ := hU d Y
          refine ⟨some (iv (nI p)), ?_⟩
          rw [hz, K_Ref_eases_90]
          simp only [nn, if_false, cl, r_tow (bd_mono hsp (by decide)) (bd_mono hgl (by decide)) hp hp, clI]
        · have := RM_kd M M'
          subst this
          rw [hT] at z
          cases z
      have e1 : ∀ a : Nat, a < 2 ^ 31 → (if (1 : Int32) < nI a then nI a else 1) = nI (max 1 a) := fun a ha => by
        by_cases z : 1 < a
        · rw [if_pos (show (1 : Int32) < nI a from nI_lt (a := 1) z ha), Nat.max_eq_right (by omega)]
        · rw [if_neg (show ¬ (1 : Int32) < nI a from nI_nlt (a := 1) (b := a) (by omega) (by decide)), Nat.max_eq_left (by omega)]
          rfl
      have hnz : ¬ nI A < 1 := nI_nlt (a := A) (b := 1) (by omega) (by omega)
      have ed : nI A / 2 = nI (A / 2) := nI_div (b := 2) (by omega) (by decide) (by decide)
      by_cases h7 : kd = 7
      · subst h7
        have e7 : nI 7 = 7 := rfl
        have n78 : ¬ (7 : Int32) = 8 := by decide
        by_cases hh0 : 0 < u 75 0 r
        · refine fin (max 1 (A / 2)) (by omega) (by omega) (fun d X => ?_) (fun d Y => ⟨nI (A / 2), ?_⟩)
          · rw [E_Ride_easeSpeed]
            simp only [hno, if_true, kc, e7, t3, if_pos hh0, K_Ride_easeSpeed_40, t1, t2, m1, A2, ed, e1 (A / 2) (by omega), c_tow, clI]
            rfl
          · rw [E_Ref_eases]
            simp only [nn, if_false, cl, kr, e7, n78, hh, hT, cond_true, clI, if_true, if_pos hh0, A2, ed]
            by_cases z : A / 2 < 1
            · rw [if_neg (show ¬ (1 : Int32) = 0 by decide), if_pos (show nI (A / 2) < 1 from nI_lt (b := 1) z (by decide)), Nat.max_eq_left (by omega)]
              rfl
            · rw [if_neg (show ¬ (1 : Int32) = 0 by decide), if_neg (show ¬ nI (A / 2) < 1 from nI_nlt (a := A / 2) (b := 1) (by omega) (by omega)), Nat.max_eq_right (by omega)]
        · refine fin A (by omega) A1 (fun d X => ?_) (fun d Y => ⟨nI A, ?_⟩)
          · rw [E_Ride_easeSpeed]
            simp only [hno, if_true, kc, e7, t3, if_neg hh0, K_Ride_easeSpeed_40, t1, t2, m1, A2, c_tow, clI]
          · rw [E_Ref_eases]
            simp only [nn, if_false, cl, kr, e7, n78, hh, hT, cond_true, clI, if_true, if_neg hh0, A2, if_neg hnz, if_neg (show ¬ (1 : Int32) = 0 by decide)]
      · refine fin A (by omega) A1 (fun d X => ?_) (fun d Y => ⟨nI A, ?_⟩)
        · rw [E_Ride_easeSpeed]
          simp only [hno, if_true, kc, c7, h7, if_false, K_Ride_easeSpeed_40, t1, t2, m1, A2, c_tow, clI]
        · rw [E_Ref_eases]
          simp only [nn, if_false, cl, kr, n8, hh, hT, cond_true, clI, c7, h7, A2, if_neg hnz, if_neg (show ¬ (1 : Int32) = 0 by decide)]
theorem es_H (T : TT B n s q rd ps en dp lp f g u) (hr : r < n) {h0 : Int32} (hh0 : u 75 0 r = h0) : ∃ H : Int32, (∀ d X, EL (mP L xs) (d + 2) 191 [rv 16 (some r)] (f, g, X) = some (.inl none, (m3 f 16 r 9 H, g, X))) ∧
    (∀ d Y z4, ∃ z5, RL (mP L xs) (d + 2) 231 117 [some (rv 22 (some 0)), some (iv (nI r)), some (iv (u 49 0 r)), some (iv h0), z4] [] (u, Y) = RL (mP L xs) (d + 2) 231 211 [some (rv 22 (some 0)), some (iv (nI r)), some (iv (u 49 0 r)), some (iv h0), z5] [] (m3 (m3 u 75 0 r H) 77 0 r (H - h0), Y)) ∧
    TT B n s q rd ps en dp lp (m3 (m3 f 16 r 9 H) 16 r 11 (H - h0)) g (m3 (m3 u 75 0 r H) 77 0 r (H - h0)) := by
  have hn := T.n12
  have nn : ¬ ino (nI r) 12 := nin (by omega) (by decide)
  have cl : (nI r).toNatClampNeg = r := nI_clamp (by omega)
  obtain ⟨⟨kd, M⟩, -⟩ := T.rr r hr
  have kl := M.kl
  have hh := fun d Y => (r_hasT (L := L) (xs := xs) (d := d) M (h := (u, Y)) rfl).2.1
  have c2 : (nI kd = 2) = (kd = 2) := propext (nI_eq (b := 2) (by omega) (by decide))
  have c5 : (nI kd = 5) = (kd = 5) := propext (nI_eq (b := 5) (by omega) (by decide))
  have t1 := M.mo.1
  have t3 := M.mo.2.2.1
  have t4 := M.mo.2.2.2.1
  have m3' := M.m3
  have kc := M.kc
  have kr := M.kr
  cases hT : aLi kd with
  | false =>
    obtain ⟨y1, y2, y3, -, y4⟩ := M.rg.lf hT
    have h2 : ¬ kd = 2 := fun z => by subst z; exact absurd hT (by decide)
    have h5 : ¬ kd = 5 := fun z => by subst z; exact absurd hT (by decide)
    have e0 : h0 = 0 := hh0.symm.trans y1
    subst e0
    refine ⟨0, fun d X => ?_, fun d Y z4 => ⟨z4, ?_⟩, ?_⟩
    · rw [E_Ride_easeHeight]
      simp only [kc, c2, h2, if_false, K_Ride_easeHeight_25, c5, h5, K_Ride_easeHeight_51, if_true, t3, t4, m3', y1, y2, y4, c_tow, clI]
      rfl
    · rw [K_Ref_eases_117]
      simp only [hh, hT, cond_false, clI, if_true]
      rw [Int32.sub_self, m3_same y1, m3_same y3]
    · have e1 : m3 f 16 r 9 0 = f := m3_same (t3.trans y1)
      have e2 : m3 f 16 r 11 0 = f := m3_same (M.mo.2.2.2.2.1.trans y3)
      rw [Int32.sub_self, e1, e2, m3_same y1, m3_same y3]
      exact T
  | true =>
    obtain ⟨pc, pc1, pc2⟩ := M.rg.n3
    have hhe := bd_up M.rg.he (by decide)
    have hli := bd_up M.rg.li (by decide)
    obtain ⟨sz, sz1, sz2⟩ := M.rg.sp
    have hup := nI_bd (N := 2000) (show pc ≤ 2000 by omega) (by decide)
    have b1 : Bd (u 75 0 r) 2000 := ⟨by omega, by omega⟩
    have b2 : Bd (u 76 0 r) 2000 := ⟨by omega, by omega⟩
    have fin : ∀ p : Nat, p ≤ 400 → (∀ d X, EL (mP L xs) (d + 2) 191 [rv 16 (some r)] (f, g, X) = some (.inl none, (m3 f 16 r 9 (tw (u 75 0 r) (u 76 0 r) (nI pc) (nI p)), g, X))) →
        (∀ d Y z4, RL (mP L xs) (d + 2) 231 117 [some (rv 22 (some 0)), some (iv (nI r)), some (iv (u 49 0 r)), some (iv h0), z4] [] (u, Y) = RL (mP L xs) (d + 2) 231 171 [some (rv 22 (some 0)), some (iv (nI r)), some (iv (u 49 0 r)), some (iv h0), z4] [iv (nI p)] (u, Y)) →
        ∃ H : Int32, (∀ d X, EL (mP L xs) (d + 2) 191 [rv 16 (some r)] (f, g, X) = some (.inl none, (m3 f 16 r 9 H, g, X))) ∧
          (∀ d Y z4, ∃ z5, RL (mP L xs) (d + 2) 231 117 [some (rv 22 (some 0)), some (iv (nI r)), some (iv (u 49 0 r)), some (iv h0), z4] [] (u, Y) = RL (mP L xs) (d + 2) 231 211 [some (rv 22 (some 0)), some (iv (nI r)), some (iv (u 49 0 r)), some (iv h0), z5] [] (m3 (m3 u 75 0 r H) 77 0 r (H - h0), Y)) ∧
          TT B n s q rd ps en dp lp (m3 (m3 f 16 r 9 H) 16 r 11 (H - h0)) g (m3 (m3 u 75 0 r H) 77 0 r (H - h0)) := by
      intro p p2 hC hU
      have hp := nI_bd (N := 2000) (show p ≤ 2000 by omega) (by decide)
      have rg := tw_rg (lo := 0) (hi := 1000) b1 b2 hup hp hhe hli
      have hk : ∀ kd' : Nat, kd' = kd → aLi kd' = false → ∀ v : Int32, v = 0 := fun kd' e z v => by
        rw [e, hT] at z
        cases z
      have T1 := TT_m9 T hr (v := tw (u 75 0 r) (u 76 0 r) (nI pc) (nI p)) (fun kd' M' => Rng_75 M'.rg (up_bd rg.1 rg.2 (by decide)) (fun z => hk kd' (RM_kd M M') z _))
      have T2 := TT_m11 T1 hr (v := tw (u 75 0 r) (u 76 0 r) (nI pc) (nI p) - h0) (fun kd' M' => Rng_77 M'.rg (fun z => hk kd' ((nI_eq (by have := M'.kl; omega) (by omega)).mp (M'.kr.symm.trans M.kr)) z _))
      refine ⟨_, hC, fun d Y z4 => ⟨some (iv (nI p)), ?_⟩, T2⟩
      rw [hU, K_Ref_eases_171]
      subst hh0
      simp only [nn, if_false, cl, pc2, r_tow b1 b2 hup hp, clI, m3_eq]
    have em : (2 : Int32) * nI pc = nI (2 * pc) := nI_mul 2 pc
    by_cases h5 : kd = 5
    · subst h5
      have e5 : nI 5 = 5 := rfl
      have n52 : ¬ (5 : Int32) = 2 := by decide
      refine fin (2 * pc) (by omega) (fun d X => ?_) (fun d Y z4 => ?_)
      · rw [E_Ride_easeHeight]
        simp only [kc, e5, n52, if_false, K_Ride_easeHeight_25, if_true, K_Ride_easeHeight_51, t3, t4, m3', pc2, em, c_tow, clI]
      · rw [K_Ref_eases_117]
        simp only [hh, hT, cond_true, clI, if_neg (show ¬ (1 : Int32) = 0 by decide), kr, e5, if_true, nn, if_false, cl, pc2, em]
    · by_cases h2 : kd = 2
      · subst h2
        have e2 : nI 2 = 2 := rfl
        have n25 : ¬ (2 : Int32) = 5 := by decide
        have y1 := sz_abs sz2 (by omega)
        have y2 := sz_size sz2 (by omega)
        by_cases h30 : 30 < nI sz
        · refine fin 0 (by omega) (fun d X => ?_) (fun d Y z4 => ?_)
          · rw [E_Ride_easeHeight]
            simp only [kc, e2, if_true, t1, y1, if_pos h30, K_Ride_easeHeight_25, n25, if_false, K_Ride_easeHeight_51, if_neg (show ¬ (1 : Int32) = 0 by decide), t3, t4, m3', pc2, c_tow, clI, nI_0]
          · rw [K_Ref_eases_117]
            simp only [hh, hT, cond_true, clI, if_neg (show ¬ (1 : Int32) = 0 by decide), kr, e2, n25, if_false, if_true, nn, cl, E_Ref_sizeOf, ite_val, y2, if_pos h30, nI_0]
        · refine fin pc (by omega) (fun d X => ?_) (fun d Y z4 => ?_)
          · rw [E_Ride_easeHeight]
            simp only [kc, e2, if_true, t1, y1, if_neg h30, K_Ride_easeHeight_25, n25, if_false, K_Ride_easeHeight_51, t3, t4, m3', pc2, c_tow, clI]
          · rw [K_Ref_eases_117]
            simp only [hh, hT, cond_true, clI, if_neg (show ¬ (1 : Int32) = 0 by decide), kr, e2, n25, if_false, if_true, nn, cl, E_Ref_sizeOf, ite_val, y2, if_neg h30, pc2]
      · refine fin pc (by omega) (fun d X => ?_) (fun d Y z4 => ?_)
        · rw [E_Ride_easeHeight]
          simp only [kc, c2, h2, if_false, K_Ride_easeHeight_25, c5, h5, K_Ride_easeHeight_51, if_true, t3, t4, m3', pc2, c_tow, clI]
        · rw [K_Ref_eases_117]
          simp only [hh, hT, cond_true, clI, if_neg (show ¬ (1 : Int32) = 0 by decide), kr, c5, h5, if_false, c2, h2, nn, cl, pc2]
theorem p_ease (T : TT B n s q rd ps en dp lp f g u) (hr : r < n) : ∃ (f2 u2 : MI), (∀ d X, EL (mP L xs) (d + 3) 192 [rv 16 (some r)] (f, g, X) = some (.inl none, (f2, g, X))) ∧
    (∀ d Y, EL (mP L xs) (d + 3) 231 [rv 22 (some 0), iv (nI r)] (u, Y) = some (.inl none, (u2, Y))) ∧ TT B n s q rd ps en dp lp f2 g u2 := by
  have hn := T.n12
  have nn : ¬ ino (nI r) 12 := nin (by omega) (by decide)
  have cl : (nI r).toNatClampNeg = r := nI_clamp (by omega)
  obtain ⟨S, s1, s2, T1⟩ := es_S (L := L) (xs := xs) T hr
  have e75 : (m3 u 73 0 r S) 75 0 r = u 75 0 r := rfl
  obtain ⟨H, h1, h2, T2⟩ := es_H (L := L) (xs := xs) T1 hr e75
  generalize hF : m3 (m3 (m3 f 16 r 7 S) 16 r 9 H) 16 r 11 (H - u 75 0 r) = F at T2
  generalize hV : m3 (m3 (m3 u 73 0 r S) 75 0 r H) 77 0 r (H - u 75 0 r) = V at h2 T2
  obtain ⟨⟨k0, M0⟩, -⟩ := T.rr r hr
  obtain ⟨⟨kd, M⟩, -⟩ := T2.rr r hr
  have kl := M.kl
  have hf9 : f 16 r 9 = u 75 0 r := M0.mo.2.2.1
  have c3 : (nI kd = 3) = (kd = 3) := propext (nI_eq (b := 3) (by omega) (by decide))
  have hu49 : u 49 0 r = nI kd := by
    have : V 49 0 r = u 49 0 r := by rw [← hV]; rfl
    rw [← this]
    exact M.kr
  obtain ⟨sz, sz1, sz2⟩ := M.rg.sp
  have y1 := sz_abs sz2 (by omega)
  have y2 := sz_size sz2 (by omega)
  have keyC : ∀ d X, EL (mP L xs) (d + 3) 192 [rv 16 (some r)] (f, g, X) = if nI kd = 3 then some (.inl none, (m3 F 16 r 14 (if nI sz < V 80 0 r then nI sz else V 80 0 r), g, X)) else some (.inl none, (F, g, X)) := fun d X => by
    rw [E_Ride_ease, s1 d X]
    simp only [clV]
    rw [h1 d X]
    simp only [clV]
    rw [hf9, show (m3 (m3 f 16 r 7 S) 16 r 9 H) 16 r 9 = H from m3_eq, hF, M.kc, M.mo.1, y1, M.mo.2.2.2.2.2.2.2.1]
  have keyU : ∀ d Y, EL (mP L xs) (d + 3) 231 [rv 22 (some 0), iv (nI r)] (u, Y) = if nI kd = 3 then (if nI sz < V 80 0 r then some (.inl none, (m3 V 80 0 r (nI sz), Y)) else some (.inl none, (V, Y))) else some (.inl none, (V, Y)) := fun d Y => by
    obtain ⟨z4, e1⟩ := s2 d Y
    obtain ⟨z5, e2⟩ := h2 d Y z4
    rw [e1]
    refine e2.trans ?_
    rw [K_Ref_eases_211]
    have hw : (m3 u 73 0 r S) 49 0 r = nI kd := hu49
    simp only [hw, nn, if_false, cl, E_Ref_sizeOf, ite_val, y2, clI]
  by_cases h3 : kd = 3
  · subst h3
    by_cases hv : nI sz < V 80 0 r
    · refine ⟨_, _, fun d X => by rw [keyC, if_pos (by rfl), if_pos hv], fun d Y => by rw [keyU, if_pos (by rfl), if_pos hv], TT_m14 T2 hr (fun kd' M' => Rng_80 M'.rg ⟨sz, sz1, rfl⟩ (fun z => ?_))⟩
      have := RM_kd M M'
      subst this
      exact absurd z (by decide)
    · refine ⟨_, _, fun d X => by rw [keyC, if_pos (by rfl), if_neg hv], fun d Y => by rw [keyU, if_pos (by rfl), if_neg hv], ?_⟩
      rw [m3_same M.mo.2.2.2.2.2.2.2.1]
      exact T2
  · have h3' : ¬ nI kd = 3 := fun z => h3 (by rw [c3] at z; exact z)
    exact ⟨F, V, fun d X => by rw [keyC, if_neg h3'], fun d Y => by rw [keyU, if_neg h3'], T2⟩
end Eas
