/-! ===== promise 2: read ===== -/
section Rdp
variable {L : Nat} {xs : Nat → Int32} {g : MR} {N M B d i : Nat} {b : Nat → Nat} {f f2 u u2 : MI} {n s q : Nat} {rd ps en dp : Nat → Nat} {lp : Nat → Option Nat}
/-- what never moves -/
def XT (f : MI) : Prop := R_abl f ∧ ∀ r, r < 12 → f 16 r 0 = nI r
theorem XT.fr (h : XT f) (h42 : ∀ i, f2 42 0 i = f 42 0 i) (h16 : ∀ r, f2 16 r 0 = f 16 r 0) : XT f2 := by
  obtain ⟨⟨b0, b1, b2, b3, b4, b5, b6, b7, b8⟩, hx⟩ := h
  exact ⟨⟨(h42 0).trans b0, (h42 1).trans b1, (h42 2).trans b2, (h42 3).trans b3, (h42 4).trans b4, (h42 5).trans b5, (h42 6).trans b6, (h42 7).trans b7, (h42 8).trans b8⟩, fun r hr => (h16 r).trans (hx r hr)⟩
theorem XT_thr {v : Int32} (h : XT f) : XT (m3 f 22 0 90 v) := h.fr (fun _ => m3_r (by decide)) (fun _ => m3_r (by decide))
def xtB (m : Nat) : Bool := !(mEff m).testBit (lid 42 0) && (!(mEff m).testBit (42 * 128 + 127) && (!(mEff m).testBit (lid 16 0) && !(mEff m).testBit (16 * 128 + 127)))
theorem nt_f {x : Bool} (h : (!x) = true) : x = false := by
  cases x
  · rfl
  · cases h
theorem an_t {x y : Bool} (h : (x && y) = true) : x = true ∧ y = true := by
  cases x
  · cases h
  · exact ⟨rfl, h⟩
theorem XT_fm {m : Nat} {as : List MV} {h : MH} {x : MO} (hm : m < mNo) (hb : xtB m = true) (hq : EL (mP L xs) d m as h = some x) (hX : XT h.1) : XT x.2.1 := by
  obtain ⟨b1, hb⟩ := an_t hb
  obtain ⟨b2, hb⟩ := an_t hb
  obtain ⟨b3, b4⟩ := an_t hb
  refine hX.fr (fun i => (fm_at hm hq 42 0 i ?_ (nt_f b2)).1) (fun r => (fm_at hm hq 16 r 0 (nt_f b3) (nt_f b4)).1)
  rw [lid_arr (r := 42) (i := i) (by decide +kernel), ← lid_arr (r := 42) (i := 0) (by decide +kernel)]
  exact nt_f b1
theorem rd_cp (hM : M ≤ 4000) : ∀ (j i : Nat) (u : MI), i + j = M → ∃ u2 : MI, (∀ d Y, RL (mP L xs) d 130 32 [some (rv 22 (some 0)), some (iv (nI M)), some (iv (nI i))] [] (u, Y) = RL (mP L xs) d 130 32 [some (rv 22 (some 0)), some (iv (nI M)), some (iv (nI M))] [] (u2, Y)) ∧ (∀ R o x, ¬ (R = 44 ∧ i ≤ x) → u2 R o x = u R o x) ∧ ∀ x, i ≤ x → x < M → u2 44 0 x = u 43 0 x
  | 0, i, u, h => by
    have e : i = M := by omega
    rw [e]
    exact ⟨u, fun _ _ => rfl, fun _ _ _ _ => rfl, fun x h1 h2 => absurd h1 (by omega)⟩
  | j + 1, i, u, h => by
    obtain ⟨u2, a1, a2, a3⟩ := rd_cp hM j (i + 1) (m3 u 44 0 i (u 43 0 i)) (by omega)
    refine ⟨u2, fun d Y => ?_, fun R o x h => (a2 R o x (by omega)).trans (m3_no (by omega)), fun x h1 h2 => ?_⟩
    · rw [K_Ref_read_32, if_pos (nI_lt (a := i) (b := M) (by omega) (by omega)), if_neg (nin (show i < 4000 by omega) (by decide)), if_neg (nin (show i < 4000 by omega) (by decide)), nI_clamp (show i < 2 ^ 31 by omega), nI_1]
      exact a1 d Y
    · by_cases y : x = i
      · rw [y, a2 44 0 i (by omega), m3_eq]
      · rw [a3 x (by omega) h2, m3_no (by omega)]
def rdI0 (u : MI) (v : Int32) : MI := m3 (m3 (m3 (m3 (m3 (m3 (m3 (m3 (m3 (m3 (m3 (m3 (m3 (m3 u 22 0 5 v) 22 0 3 0) 22 0 6 0) 22 0 12 0) 22 0 13 (-1)) 22 0 18 0) 22 0 20 0) 22 0 21 0) 22 0 22 0) 22 0 23 9999) 22 0 24 0) 22 0 41 0) 22 0 45 0) 22 0 51 0
theorem rf_read (hM : M ≤ 4000) (hb : ∀ i, b i < 256) (h43 : ∀ i, i < M → u 43 0 i = nI (b i)) : ∃ u5 : MI, (∀ d Y, RL (mP L xs) d 130 32 [some (rv 22 (some 0)), some (iv (nI M)), some (iv 0)] [] (u, Y) = mclV (EL (mP L xs) d 128 [rv 22 (some 0)] (u5, Y)) (fun h1 => if h1.1 22 0 12 = 0 then (mclV (EL (mP L xs) d 129 [rv 22 (some 0)] (m3 h1.1 22 0 19 1, h1.2)) (fun h3 => some (.inl (some (iv (h3.1 22 0 12))), h3)) (fun e h => some (.inr e, h))) else some (.inl (some (iv (h1.1 22 0 12))), (m3 h1.1 22 0 19 0, h1.2))) (fun e h => some (.inr e, h))) ∧ TU u5 M b ∧ R0 u5 ∧ u5 22 0 3 = 0 ∧ u5 22 0 90 = u 22 0 90 ∧ ∀ R o x, ¬ (R = 44 ∨ R = 22) → u5 R o x = u R o x := by
  obtain ⟨u2, a1, a2, a3⟩ := rd_cp (L := L) (xs := xs) hM M 0 u (by omega)
  refine ⟨rdI0 u2 (nI M), fun d Y => ?_, ⟨hM, rfl, fun i hi => ?_, hb⟩, ⟨rfl, rfl, rfl, rfl, rfl, rfl, rfl, rfl, rfl, rfl, rfl, rfl⟩, rfl, ?_, fun R o x h => ?_⟩
  · have e := a1 d Y
    rw [nI_0] at e
    rw [e, K_Ref_read_32, if_neg (show ¬ nI M < nI M from fun z => Nat.lt_irrefl _ (show 0 < 0 by have := Int32.lt_iff_toInt_lt.mp z; omega))]
    refine congrArg (fun z => mclV (EL (mP L xs) d 128 [rv 22 (some 0)] (rdI0 u2 (nI M), Y)) z (fun e h => some (.inr e, h))) (funext fun h1 => ?_)
    rw [if_neg (show ¬ (m3 h1.1 22 0 19 1) 22 0 19 = 0 from by rw [m3_eq]; decide), if_pos (show (m3 h1.1 22 0 19 0) 22 0 19 = 0 from m3_eq)]
    rfl
  · have e : rdI0 u2 (nI M) 44 0 i = u2 44 0 i := rfl
    rw [e, a3 i (Nat.zero_le _) hi]
    exact h43 i hi
  · have e : rdI0 u2 (nI M) 22 0 90 = u2 22 0 90 := rfl
    rw [e]
    exact a2 22 0 90 (by omega)
  · have e : rdI0 u2 (nI M) R o x = u2 R o x := by
      have h2 : R ≠ 22 := by omega
      unfold rdI0
      simp only [m3_r h2]
    rw [e]
    exact a2 R o x (by omega)
theorem TD.fr (T : TD n s q rd ps en dp lp f g u) (hf : ∀ R o x, R ≠ 21 → f2 R o x = f R o x) (hu : ∀ R o x, ¬ (R = 22 ∧ x = 19) → u2 R o x = u R o x) : TD n s q rd ps en dp lp f2 g u2 := by
  refine ⟨?_, ?_, fun j hj => ?_, ?_, fun r hr => ?_⟩
  · have c := T.cn
    unfold R_cnt at c ⊢
    rw [hf 11 0 4 (by decide), hf 11 0 5 (by decide), hf 11 0 6 (by decide), hf 11 0 8 (by decide), hu 22 0 20 (by omega), hu 22 0 21 (by omega), hu 22 0 22 (by omega), hu 22 0 23 (by omega)]
    exact c
  · obtain ⟨b0, b1, b2, b3, b4, b5, b6, b7, b8⟩ := T.ar
    exact ⟨(hu 42 0 0 (by omega)).trans b0, (hu 42 0 1 (by omega)).trans b1, (hu 42 0 2 (by omega)).trans b2, (hu 42 0 3 (by omega)).trans b3, (hu 42 0 4 (by omega)).trans b4, (hu 42 0 5 (by omega)).trans b5, (hu 42 0 6 (by omega)).trans b6, (hu 42 0 7 (by omega)).trans b7, (hu 42 0 8 (by omega)).trans b8⟩
  · rw [hf 29 0 j (by decide), hu 58 0 j (by omega)]
    exact T.sa j hj
  · refine ST_cg (f := mk stC f) (g := mkG stG g) (u := mk stU u) (fun a => hf 19 a 0 (by decide)) (fun a => hf 19 a 1 (by decide)) (fun a => hf 19 a 4 (by decide)) (fun a => hf 19 a 5 (by decide)) (fun c => hf 32 0 c (by decide)) (hf 10 0 3 (by decide)) (fun _ => rfl) (fun _ => rfl) (fun _ => rfl) (fun _ => rfl) (fun _ => rfl) (fun _ => rfl) (fun _ => rfl) (fun R k h => ?_) T.st
    have hR : R = 49 ∨ R = 57 ∨ R = 59 ∨ R = 60 ∨ R = 61 ∨ R = 62 ∨ R = 63 ∨ R = 64 ∨ R = 65 ∨ R = 66 ∨ R = 67 ∨ R = 68 ∨ R = 69 ∨ R = 70 ∨ R = 71 ∨ R = 72 := by omega
    rcases hR with rfl | rfl | rfl | rfl | rfl | rfl | rfl | rfl | rfl | rfl | rfl | rfl | rfl | rfl | rfl | rfl <;> exact hu _ 0 k (by omega)
  · obtain ⟨kd, K⟩ := T.rk r hr
    exact ⟨kd, K.fr (fun R x h => hf R r x (by omega)) rfl (fun R h1 h2 => hu R 0 r (by omega))⟩
/-- behind a read -/
theorem Iv_rd {h h2 : MH} (hR : Res i h) (hN : h.1 22 0 3 = nI N) (hN4 : N ≤ 4000) (k4 : h2.1 21 0 4 = 0) (k3 : h2.1 22 0 3 = 0) (k6 : h2.1 21 0 6 = h2.1 22 0 12) (k7 : h2.1 21 0 7 = h2.1 22 0 13) (k5 : h2.1 21 0 5 = h2.1 22 0 19) (k01 : h2.1 21 0 5 = 0 ∨ h2.1 21 0 5 = 1) (T : h2.1 21 0 5 = 1 → TX B h2.1 h2.2.1 h2.1) (hB : B < 2 ^ 30) (hc : h2.2.2.2.2.1 ≤ h.2.2.2.2.1 + 2 * (N + 1)) (hs : h2.2.2.2.2.2 ≤ h.2.2.2.2.2 + 11 * (2 * (N + 1))) : Iv (RFx B) (i + 6) h2 := by
  obtain ⟨t, a1, a2, a3, a4⟩ := hR
  have e : t = N := (nI_eq (a := t) (b := N) (by omega) (by omega)).mp (a1.symm.trans hN)
  subst e
  exact ⟨⟨⟨0, by omega, k4, k3, fun k hk => absurd hk (Nat.not_lt_zero k)⟩, ⟨k6, k7, k5, k01⟩, fun z => RFx_of ((T z).cr (cN_cN h2.1) (gN_gN h2.2.1) (rN_rN h2.1)) hB⟩, ⟨0, k3, by omega, by omega, by omega⟩⟩
theorem rf_93 : mEff 93 &&& refM = 0 := by decide +kernel
theorem cl_130 : mEff 130 &&& clsM = 0 := by decide +kernel
theorem p_read (a : Int32) (hB : B < 2 ^ 30) : prI (mP L xs) (d + 140) (fun h => Iv (RFx B) i h ∧ XT h.1) (fun h => Iv (RFx B) (i + 6) h ∧ XT h.1) 94 130 [iv a] := by
  rintro h ⟨hI, hX⟩
  obtain ⟨⟨N, hN, t1, t2, t3⟩, -, -⟩ := hI.1
  have t1' : h.1 21 0 4 = nI N := t1
  have t2' : h.1 22 0 3 = nI N := t2
  have keyL := E_Law_read (L := L) (xs := xs) (d := d + 139) a h
  have keyH := E_House_read (L := L) (xs := xs) (d := d + 138) a h
  by_cases bad : a < 0 ∨ nI N < a
  · refine ⟨1, 0, cat (thr h), (m3 h.1 22 0 90 1, (cat (thr h)).2), ?_, ?_, rfl, fun z => absurd z (by decide), Iv_ro hI rfl rfl (Nat.le_refl _) (Nat.le_refl _), XT_thr hX⟩
    · refine keyL.trans ?_
      rw [keyH]
      by_cases z : a < 0
      · rw [if_pos z]; rfl
      · rw [if_neg z, if_pos (show h.1 21 0 4 < a by rw [t1']; exact bad.resolve_left z)]; rfl
    · refine (E_Ref_read (d := d + 139) a (cat (thr h))).trans ?_
      have e : ¬ (m3 (cat (thr h)).1 22 0 90 1) 22 0 90 = 0 := by rw [m3_eq]; decide
      by_cases z : a < 0
      · rw [if_pos z, if_neg e]; rfl
      · have z3 : (cat (thr h)).1 22 0 3 < a := by
          show h.1 22 0 3 < a
          rw [t2']
          exact bad.resolve_left z
        rw [if_neg z, if_pos z3, if_neg e]; rfl
  · have z1 : ¬ a < 0 := fun z => bad (Or.inl z)
    have z2 : ¬ nI N < a := fun z => bad (Or.inr z)
    obtain ⟨M, hM, rfl⟩ := upto_of z1 z2 (by omega)
    have t3' : ∀ k, k < N → (∃ b : Nat, b < 256 ∧ h.1 43 0 k = nI b) ∧ h.1 40 0 k = (h.1 43 0 k).toInt8.toInt32 := t3
    generalize hb : (fun i => (h.1 43 0 i).toNatClampNeg % 256 : Nat → Nat) = b
    have b1 : ∀ i, b i < 256 := by
      rw [← hb]
      exact fun i => Nat.mod_lt _ (by decide)
    have b2 : ∀ i, i < M → h.1 43 0 i = nI (b i) := fun i hi => by
      obtain ⟨⟨c, c1, c2⟩, -⟩ := t3' i (by omega)
      rw [← hb]
      show h.1 43 0 i = nI ((h.1 43 0 i).toNatClampNeg % 256)
      rw [c2, nI_clamp (by omega), Nat.mod_eq_of_lt c1]
    have b3 : ∀ i, i < M → (m3 h.1 21 0 4 0) 40 0 i = cb (b i) := fun i hi => by
      rw [m3_r (by decide), (t3' i (by omega)).2, b2 i hi]
      rfl
    have hM4 : M ≤ 4000 := by omega
    have hix : ∀ r, r < 12 → (m3 h.1 21 0 4 0) 16 r 0 = nI r := fun r hr => (m3_r (by decide)).trans (hX.2 r hr)
    obtain ⟨u5, -, r2, r3, -, -, r6⟩ := rf_read (L := L) (xs := xs) (u := h.1) hM4 b1 b2
    have hX5 : XT u5 := hX.fr (fun i => r6 42 0 i (by omega)) (fun r => r6 16 r 0 (by omega))
    obtain ⟨f3, g3, u3, X3, c1, -, ⟨A3, c3, c4⟩, c5⟩ := ex_read0 (L := L) (xs := xs) (g := h.2.1) (X := h.2.2) (Y := h.2) hM4 b1 b3 hix r2 r3 hX5.1
    have cC : EL (mP L xs) (d + 138) 86 [rv 12 (some 0), iv (nI M)] (m3 h.1 21 0 4 0, h.2) = some (.inl (some (iv (f3 20 0 7))), (f3, g3, X3)) := c1 (d + 138) (by omega)
    have f34 : f3 21 0 4 = 0 := ((fm_at (show 86 < mNo by decide +kernel) cC 21 0 4 (by decide +kernel) (by decide +kernel)).1).trans (show (m3 h.1 21 0 4 0) 21 0 4 = 0 from m3_eq)
    have n21 : ¬ h.1 21 0 4 < nI M := by rw [t1']; exact z2
    rw [if_neg z1, if_neg n21, cC, clI] at keyH
    have hce := c3.ce
    have hcs := c3.sl
    have hcl := c3.le
    by_cases z : f3 20 0 7 = 0
    · rcases c5 with ⟨p, w, E, -, -⟩ | ⟨-, -, -, n, s, q, rd, ps, en, dp, lp, T⟩
      · exact absurd (E.fa.symm.trans z) E.qn
      generalize hF : m3 (m3 (m3 f3 21 0 6 0) 21 0 5 1) 21 0 7 (-1) = F0
      have hF0 : ∀ R o x, R ≠ 21 → F0 R o x = f3 R o x := fun R o x hR => by
        rw [← hF, m3_r hR, m3_r hR, m3_r hR]
      obtain ⟨F, G, U0, p1, -, -, -⟩ := p_begin (L := L) (xs := xs) (T.fr (f2 := F0) hF0 (fun _ _ _ _ => rfl))
      have hC : EL (mP L xs) (d + 139) 93 [rv 21 (some 0), iv (nI M)] h = some (.inl (some (iv (F 21 0 6))), (F, G, X3)) := by
        refine keyH.trans ?_
        rw [z, if_pos (show (m3 (f3, g3, X3).1 21 0 6 0) 21 0 6 = 0 from m3_eq), K_House_read_52, if_pos (show (1 : Int32) &&& 1 = 1 by decide), if_neg (show ¬ (m3 (m3 (f3, g3, X3).1 21 0 6 0, (f3, g3, X3).2).1 21 0 5 1) 21 0 5 = 0 from by rw [m3_eq]; decide), if_neg (show ¬ (m3 (m3 (m3 (f3, g3, X3).1 21 0 6 0, (f3, g3, X3).2).1 21 0 5 1) 21 0 7 (-1)) 21 0 5 = 0 from by rw [m3_i (by decide), m3_eq]; decide)]
        have e := p1 (d + 134) X3
        rw [← hF] at e
        have e : EL (mP L xs) (d + 138) 92 [rv 11 (some 0)] (m3 (m3 (m3 (f3, g3, X3).1 21 0 6 0, (f3, g3, X3).2).1 21 0 5 1) 21 0 7 (-1), (m3 (f3, g3, X3).1 21 0 6 0, (f3, g3, X3).2).2) = some (.inl none, (F, G, X3)) := e
        rw [e, clV]
      have Fj : ∀ j, j < 128 → (mEff 92).testBit (lid 21 j) = false → F 21 0 j = F0 21 0 j := fun j _ hj => (fm_at (show 92 < mNo by decide +kernel) (p1 0 X3) 21 0 j hj (by decide +kernel)).1
      have F4 : F 21 0 4 = 0 := (Fj 4 (by decide) (by decide +kernel)).trans (by rw [← hF]; exact f34)
      have F5 : F 21 0 5 = 1 := (Fj 5 (by decide) (by decide +kernel)).trans (by rw [← hF]; rfl)
      have F6 : F 21 0 6 = 0 := (Fj 6 (by decide) (by decide +kernel)).trans (by rw [← hF]; rfl)
      have F7 : F 21 0 7 = -1 := (Fj 7 (by decide) (by decide +kernel)).trans (by rw [← hF]; rfl)
      have FC := EL_fm (show 93 < mNo by decide +kernel) hC
      have er : rN F = rN h.1 := fm_ref rf_93 FC
      have hXF : XT F := XT_fm (show 93 < mNo by decide +kernel) (by decide +kernel) hC hX
      obtain ⟨v5, s1, s2, s3, s4, s5, s6⟩ := rf_read (L := L) (xs := xs) (u := m3 F 22 0 90 0) hM4 b1 (fun i hi => (m3_r (by decide)).trans ((rN_at er 43 0 i rfl rfl).trans (b2 i hi)))
      have hX6 : XT v5 := (XT_thr hXF).fr (fun i => s6 42 0 i (by omega)) (fun r => s6 16 r 0 (by omega))
      generalize hY : ((G, m3 X3.1 99 0 0 (F 21 0 6).toInt64, X3.2) : MR × ML × (Nat → Nat) × Nat × Nat) = Y
      obtain ⟨f3', g3', u3', X3', c1', c2', -, c5'⟩ := ex_read0 (L := L) (xs := xs) (g := h.2.1) (X := h.2.2) (Y := Y) hM4 b1 b3 hix s2 s3 hX6.1
      obtain ⟨-, e⟩ := some_inl ((c1 135 (Nat.le_refl _)).symm.trans (c1' 135 (Nat.le_refl _)))
      injection e with e1 e
      injection e with e2 e3
      subst e1
      subst e2
      subst e3
      rcases c5' with ⟨p, w, E, -, -⟩ | ⟨-, w2, w3, n', s', q', rd', ps', en', dp', lp', T'⟩
      · exact absurd (E.fa.symm.trans z) E.qn
      obtain ⟨F', G', U, q1, q2, q3, q4⟩ := p_begin (L := L) (xs := xs) (T'.fr (f2 := F0) (u2 := m3 u3' 22 0 19 1) hF0 (fun R o x h => m3_no (by omega)))
      obtain ⟨-, e⟩ := some_inl ((p1 0 X3).symm.trans (q1 0 X3))
      injection e with e1 e
      injection e with e2 _
      subst e1
      subst e2
      have n22 : ¬ F 22 0 3 < nI M := by rw [rN_at er 22 0 3 rfl rfl, t2']; exact z2
      have hU : EL (mP L xs) (d + 140) 130 [rv 22 (some 0), iv (nI M)] (F, Y) = some (.inl (some (iv (U 22 0 12))), (U, Y)) := by
        refine (E_Ref_read (d := d + 139) (nI M) (F, Y)).trans ?_
        rw [if_neg z1, if_neg (show ¬ (F, Y).1 22 0 3 < nI M from n22), if_pos (show (m3 (F, Y).1 22 0 90 0) 22 0 90 = 0 from m3_eq)]
        refine (s1 (d + 139) Y).trans ?_
        rw [c2' (d + 139) (by omega), clV, if_pos (show (u3', Y).1 22 0 12 = 0 from w2)]
        have e : EL (mP L xs) (d + 139) 129 [rv 22 (some 0)] (m3 (u3', Y).1 22 0 19 1, (u3', Y).2) = some (.inl none, (U, Y)) := q2 (d + 138) Y
        rw [e, clV]
      have FU := EL_fm (show 130 < mNo by decide +kernel) hU
      obtain ⟨d1, -, -⟩ := fm_cls cl_130 FU
      have d1 : cN U = cN F := d1
      have Uj : ∀ j, (mEff 129).testBit (lid 22 j) = false → U 22 0 j = (m3 u3' 22 0 19 1) 22 0 j := fun j hj => (fm_at (show 129 < mNo by decide +kernel) (q2 0 Y) 22 0 j hj (by decide +kernel)).1
      have uj : ∀ j, (mEff 128).testBit (lid 22 j) = false → u3' 22 0 j = v5 22 0 j := fun j hj => (fm_at (show 128 < mNo by decide +kernel) (c2' 135 (Nat.le_refl _)) 22 0 j hj (by decide +kernel)).1
      have U12 : U 22 0 12 = 0 := (Uj 12 (by decide +kernel)).trans w2
      have U13 : U 22 0 13 = -1 := (Uj 13 (by decide +kernel)).trans w3
      have U19 : U 22 0 19 = 1 := (Uj 19 (by decide +kernel)).trans m3_eq
      have U3 : U 22 0 3 = 0 := (Uj 3 (by decide +kernel)).trans ((uj 3 (by decide +kernel)).trans s4)
      have U90 : U 22 0 90 = 0 := (Uj 90 (by decide +kernel)).trans ((uj 90 (by decide +kernel)).trans (s5.trans m3_eq))
      have V4 : U 21 0 4 = 0 := (cN_at d1 21 0 4 rfl).trans F4
      have V5 : U 21 0 5 = 1 := (cN_at d1 21 0 5 rfl).trans F5
      have V6 : U 21 0 6 = 0 := (cN_at d1 21 0 6 rfl).trans F6
      have V7 : U 21 0 7 = -1 := (cN_at d1 21 0 7 rfl).trans F7
      have hXU : XT U := XT_fm (show 130 < mNo by decide +kernel) (by decide +kernel) hU hXF
      subst hY
      refine ⟨0, U 22 0 12, (F, G, m3 X3.1 99 0 0 (F 21 0 6).toInt64, X3.2), (U, G, m3 X3.1 99 0 0 (F 21 0 6).toInt64, X3.2), ?_, hU, U90, fun _ => ?_, Iv_rd hI.2 t2' hN V4 U3 (V6.trans U12.symm) (V7.trans U13.symm) (V5.trans U19.symm) (Or.inr V5) (fun _ => ⟨n', s', q', rd', ps', en', dp', lp', (TT_cr (f := F) (g := G) (u := U) d1 rfl rfl q3).le (Nat.zero_le _), fun k hk => ?_⟩) hB ?_ ?_, hXU⟩
      · refine keyL.trans ?_
        rw [hC, clI]
      · show m3 X3.1 99 0 0 (F 21 0 6).toInt64 99 0 0 = (U 22 0 12).toInt64
        rw [m3_eq, F6, U12]
      · show Upto (U 58 0 k) 9
        rw [q4 k]
        exact (T'.sa k hk).2
      · show X3.2.2.1 ≤ h.2.2.2.2.1 + 2 * (N + 1)
        omega
      · show X3.2.2.2 ≤ h.2.2.2.2.2 + 11 * (2 * (N + 1))
        omega
    · generalize hF : m3 (m3 (m3 f3 21 0 6 (f3 20 0 7)) 21 0 5 0) 21 0 7 (f3 20 0 8) = F
      have F4 : F 21 0 4 = 0 := by rw [← hF]; exact f34
      have F5 : F 21 0 5 = 0 := by rw [← hF]; rfl
      have F6 : F 21 0 6 = f3 20 0 7 := by rw [← hF]; rfl
      have F7 : F 21 0 7 = f3 20 0 8 := by rw [← hF]; rfl
      have hC : EL (mP L xs) (d + 139) 93 [rv 21 (some 0), iv (nI M)] h = some (.inl (some (iv (F 21 0 6))), (F, g3, X3)) := by
        refine keyH.trans ?_
        rw [if_neg (show ¬ (m3 (f3, g3, X3).1 21 0 6 (f3 20 0 7)) 21 0 6 = 0 from by rw [m3_eq]; exact z), K_House_read_52, if_pos (show (0 : Int32) &&& 1 = 0 by decide), if_pos (show (m3 (m3 (f3, g3, X3).1 21 0 6 (f3 20 0 7), (f3, g3, X3).2).1 21 0 5 0) 21 0 5 = 0 from m3_eq), E_FairReader_place, clI, ← hF]
        exact if_pos rfl
      have FC := EL_fm (show 93 < mNo by decide +kernel) hC
      have er : rN F = rN h.1 := fm_ref rf_93 FC
      have hXF : XT F := XT_fm (show 93 < mNo by decide +kernel) (by decide +kernel) hC hX
      obtain ⟨v5, s1, s2, s3, s4, s5, s6⟩ := rf_read (L := L) (xs := xs) (u := m3 F 22 0 90 0) hM4 b1 (fun i hi => (m3_r (by decide)).trans ((rN_at er 43 0 i rfl rfl).trans (b2 i hi)))
      have hX6 : XT v5 := (XT_thr hXF).fr (fun i => s6 42 0 i (by omega)) (fun r => s6 16 r 0 (by omega))
      generalize hY : ((g3, m3 X3.1 99 0 0 (F 21 0 6).toInt64, X3.2) : MR × ML × (Nat → Nat) × Nat × Nat) = Y
      obtain ⟨f3', g3', u3', X3', c1', c2', -, c5'⟩ := ex_read0 (L := L) (xs := xs) (g := h.2.1) (X := h.2.2) (Y := Y) hM4 b1 b3 hix s2 s3 hX6.1
      obtain ⟨-, e⟩ := some_inl ((c1 135 (Nat.le_refl _)).symm.trans (c1' 135 (Nat.le_refl _)))
      injection e with e1 e
      injection e with e2 e3
      subst e1
      subst e2
      subst e3
      rcases c5' with ⟨p, w, E, y1, y2⟩ | ⟨y, -⟩
      · have w2 : u3' 22 0 12 = f3 20 0 7 := y1.trans E.fa.symm
        have w3 : u3' 22 0 13 = f3 20 0 8 := y2.trans E.pl.symm
        have w4 : ¬ u3' 22 0 12 = 0 := by rw [w2]; exact z
        have n22 : ¬ F 22 0 3 < nI M := by rw [rN_at er 22 0 3 rfl rfl, t2']; exact z2
        generalize hU0 : m3 u3' 22 0 19 0 = U
        have hU : EL (mP L xs) (d + 140) 130 [rv 22 (some 0), iv (nI M)] (F, Y) = some (.inl (some (iv (u3' 22 0 12))), (U, Y)) := by
          refine (E_Ref_read (d := d + 139) (nI M) (F, Y)).trans ?_
          rw [if_neg z1, if_neg (show ¬ (F, Y).1 22 0 3 < nI M from n22), if_pos (show (m3 (F, Y).1 22 0 90 0) 22 0 90 = 0 from m3_eq)]
          refine (s1 (d + 139) Y).trans ?_
          rw [c2' (d + 139) (by omega), clV, if_neg (show ¬ (u3', Y).1 22 0 12 = 0 from w4), ← hU0]
        have FU := EL_fm (show 130 < mNo by decide +kernel) hU
        obtain ⟨d1, -, -⟩ := fm_cls cl_130 FU
        have d1 : cN U = cN F := d1
        have uj : ∀ j, (mEff 128).testBit (lid 22 j) = false → u3' 22 0 j = v5 22 0 j := fun j hj => (fm_at (show 128 < mNo by decide +kernel) (c2' 135 (Nat.le_refl _)) 22 0 j hj (by decide +kernel)).1
        have U12 : U 22 0 12 = f3 20 0 7 := by rw [← hU0]; exact w2
        have U13 : U 22 0 13 = f3 20 0 8 := by rw [← hU0]; exact w3
        have U19 : U 22 0 19 = 0 := by rw [← hU0]; rfl
        have U3 : U 22 0 3 = 0 := by rw [← hU0]; exact (uj 3 (by decide +kernel)).trans s4
        have U90 : U 22 0 90 = 0 := by rw [← hU0]; exact (uj 90 (by decide +kernel)).trans (s5.trans m3_eq)
        have V4 : U 21 0 4 = 0 := (cN_at d1 21 0 4 rfl).trans F4
        have V5 : U 21 0 5 = 0 := (cN_at d1 21 0 5 rfl).trans F5
        have V6 : U 21 0 6 = f3 20 0 7 := (cN_at d1 21 0 6 rfl).trans F6
        have V7 : U 21 0 7 = f3 20 0 8 := (cN_at d1 21 0 7 rfl).trans F7
        have hXU : XT U := XT_fm (show 130 < mNo by decide +kernel) (by decide +kernel) hU hXF
        subst hY
        refine ⟨0, u3' 22 0 12, (F, g3, m3 X3.1 99 0 0 (F 21 0 6).toInt64, X3.2), (U, g3, m3 X3.1 99 0 0 (F 21 0 6).toInt64, X3.2), ?_, hU, U90, fun _ => ?_, Iv_rd hI.2 t2' hN V4 U3 (V6.trans U12.symm) (V7.trans U13.symm) (V5.trans U19.symm) (Or.inl V5) (fun y => ?_) hB ?_ ?_, hXU⟩
        · refine keyL.trans ?_
          rw [hC, clI]
        · show m3 X3.1 99 0 0 (F 21 0 6).toInt64 99 0 0 = (u3' 22 0 12).toInt64
          rw [m3_eq, F6, w2]
        · exact absurd (V5.symm.trans y) (by decide)
        · show X3.2.2.1 ≤ h.2.2.2.2.1 + 2 * (N + 1)
          omega
        · show X3.2.2.2 ≤ h.2.2.2.2.2 + 11 * (2 * (N + 1))
          omega
      · exact absurd y z
end Rdp
