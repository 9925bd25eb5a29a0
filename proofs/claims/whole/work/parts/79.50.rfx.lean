/-! ===== the relation between the calls ===== -/
section Rfx
variable {L : Nat} {xs : Nat → Int32} {d : Nat} {X : ML × (Nat → Nat) × Nat × Nat} {Y : MR × ML × (Nat → Nat) × Nat × Nat}
variable {B B' n s q i : Nat} {rd ps en dp : Nat → Nat} {lp : Nat → Option Nat} {f f1 f2 f' : MI} {g g' : MR} {u u1 u2 u' : MI} {r a b : Nat}
theorem ST_cg (h0 : ∀ a, f' 19 a 0 = f 19 a 0) (h1 : ∀ a, f' 19 a 1 = f 19 a 1) (h4 : ∀ a, f' 19 a 4 = f 19 a 4) (h5 : ∀ a, f' 19 a 5 = f 19 a 5) (hc : ∀ c, f' 32 0 c = f 32 0 c) (hn : f' 10 0 3 = f 10 0 3)
    (g2 : ∀ a, g' 19 a 2 = g 19 a 2) (g3 : ∀ a, g' 19 a 3 = g 19 a 3) (g7 : ∀ a, g' 19 a 7 = g 19 a 7) (g8 : ∀ a, g' 19 a 8 = g 19 a 8) (g9 : ∀ a, g' 19 a 9 = g 19 a 9) (g10 : ∀ a, g' 19 a 10 = g 19 a 10) (gs : ∀ r, g' 18 r 2 = g 18 r 2)
    (hu : ∀ R k, R = 49 ∨ R = 57 ∨ (59 ≤ R ∧ R ≤ 72) → u' R 0 k = u R 0 k) (h : ST f g u rd ps en dp lp n s q) : ST f' g' u' rd ps en dp lp n s q := by
  have eF : ∀ x y, FMx f' u' n x y = FMx f u n x y := fun x y => propext ⟨FMx_cg (fun c => (hc c).symm) hn.symm (fun R k a b => (hu R k (by omega)).symm), FMx_cg hc hn (fun R k a b => hu R k (by omega))⟩
  have eC : ∀ x y, CDx f' u' n q x y = CDx f u n q x y := fun x y => propext ⟨CDx_cg (fun c => (hc c).symm) hn.symm (fun R k a b => (hu R k (by omega)).symm), CDx_cg hc hn (fun R k a b => hu R k (by omega))⟩
  have u49 := fun k => hu 49 k (by omega)
  have u57 := fun k => hu 57 k (by omega)
  have u59 := fun k => hu 59 k (by omega)
  have u60 := fun k => hu 60 k (by omega)
  have u61 := fun k => hu 61 k (by omega)
  have u62 := fun k => hu 62 k (by omega)
  have u63 := fun k => hu 63 k (by omega)
  have u64 := fun k => hu 64 k (by omega)
  unfold ST Loc KdA KdB KdT BlkAt EndAt at h ⊢
  simp only [h0, h1, h4, h5, g2, g3, g7, g8, g9, g10, gs, eF, eC, u49, u57, u59, u60, u61, u62, u63, u64]
  exact h
theorem RR_cr (e1 : cN f' = cN f) (e2 : gN g' = gN g) (e3 : rN u' = rN u) (h : RR f g u rd ps dp r) : RR f' g' u' rd ps dp r := by
  obtain ⟨⟨kd, M⟩, ⟨m, Q⟩, S, P⟩ := h
  have a1 : RM (cN f) (gN g) (rN u) r kd := M
  have a2 : RQ (cN f) (rN u) r m := Q
  have a3 : R_sta (cN f) (rN u) r := S
  rw [← e1, ← e3] at a1 a2 a3
  rw [← e2] at a1
  refine ⟨⟨kd, a1⟩, ⟨m, a2⟩, a3, ?_⟩
  have hf : ∀ R o i, (cs R && pl R i) = true → f' R o i = f R o i := fun R o i hb => by
    have := congrFun (congrFun (congrFun e1 R) o) i
    unfold cN at this
    rw [hb] at this
    exact this
  have hg : ∀ R o i, (cs R && pl R i) = true → g' R o i = g R o i := fun R o i hb => by
    have := congrFun (congrFun (congrFun e2 R) o) i
    unfold gN at this
    rw [hb] at this
    exact this
  have hu : ∀ R o i, (rs R && pl R i) = true → (Nat.beq R 22 && Nat.beq i 90) = false → u' R o i = u R o i := fun R o i hb hc => by
    have := congrFun (congrFun (congrFun e3 R) o) i
    unfold rN at this
    rw [hb, hc] at this
    exact this
  have f0 := fun a => hf 19 a 0 rfl
  have f6 := fun a => hf 19 a 6 rfl
  have hup : ∀ j o, up g' j o = up g j o := by
    intro j
    induction j with
    | zero => intro o; rfl
    | succ j ih =>
      intro o
      show up g' j (o.bind fun a => g' 19 a 2) = up g j (o.bind fun a => g 19 a 2)
      rw [ih]
      congr 1
      cases o with
      | none => rfl
      | some a => exact hg 19 a 2 rfl
  have u89 := fun k => hu 89 0 k rfl rfl
  have hAT : ∀ o, AT f g u dp r o → AT f' g' u' dp r o := fun o A j b hb hk => by
    rw [hup] at hb
    rw [f0] at hk
    obtain ⟨t, t1, t2, t3, t4⟩ := A j b hb hk
    exact ⟨t, t1, t2, (u89 _).trans t3, (f6 b).trans t4⟩
  rcases P with ⟨a, A⟩ | ⟨h1, h2⟩ | ⟨h1, h2, k, h4, h5, h6, h7⟩
  · refine Or.inl ⟨a, (hg 18 r 3 rfl).trans A.sp, A.rd, (hu 84 0 r rfl rfl).trans A.nx, (hu 82 0 r rfl rfl).trans A.st, ?_, ?_, ?_, ?_⟩
    · rw [hg 19 a 2 rfl]
      exact hAT _ A.tn
    · intro hk b hb hb3
      rw [f0] at hk hb3
      rw [hg 19 a 2 rfl] at hb
      rw [f6]
      exact A.ag hk b hb hb3
    · rw [hf 18 r 4 rfl, hu 87 0 r rfl rfl]
      exact A.bg
    · rw [hf 18 r 5 rfl, hu 87 0 r rfl rfl, hu 86 0 r rfl rfl]
      exact A.lf
  · exact Or.inr (Or.inl ⟨(hg 18 r 3 rfl).trans h1, by rw [hu 82 0 r rfl rfl]; exact h2⟩)
  · exact Or.inr (Or.inr ⟨(hg 18 r 3 rfl).trans h1, (hu 82 0 r rfl rfl).trans h2, k, h4, (hu 84 0 r rfl rfl).trans h5, (hu 59 0 k rfl rfl).trans h6, (hu 64 0 k rfl rfl).trans h7⟩)
theorem TT_cr (e1 : cN f' = cN f) (e2 : gN g' = gN g) (e3 : rN u' = rN u) (T : TT B n s q rd ps en dp lp f g u) : TT B n s q rd ps en dp lp f' g' u' := by
  obtain ⟨t1, t2, t3, t4, t5, t6, t7, t8⟩ := T
  have a1 : R_cnt (cN f) (rN u) n s q := t1
  have a2 : R_glb (cN f) (rN u) := t2
  have a3 : ∃ l : Nat, l ≤ B ∧ (rN u) 22 0 84 = nI l ∧ ∀ k, k < 1600 → k < 4 * l → (cN f) 31 0 k = (rN u) 96 0 k := t3
  have a4 : R_stf (cN f) (rN u) s := t4
  have a5 : Stf (rN u) n s := t5
  have a6 : R_flg (cN f) (rN u) q := t6
  rw [← e1, ← e3] at a1 a2 a3 a4 a6
  rw [← e3] at a5
  have hf : ∀ R o i, (cs R && pl R i) = true → f' R o i = f R o i := fun R o i hb => by
    have := congrFun (congrFun (congrFun e1 R) o) i
    unfold cN at this
    rw [hb] at this
    exact this
  have hg : ∀ R o i, (cs R && pl R i) = true → g' R o i = g R o i := fun R o i hb => by
    have := congrFun (congrFun (congrFun e2 R) o) i
    unfold gN at this
    rw [hb] at this
    exact this
  have hu : ∀ R o i, (rs R && pl R i) = true → (Nat.beq R 22 && Nat.beq i 90) = false → u' R o i = u R o i := fun R o i hb hc => by
    have := congrFun (congrFun (congrFun e3 R) o) i
    unfold rN at this
    rw [hb, hc] at this
    exact this
  refine ⟨a1, a2, a3, a4, a5, a6, ?_, fun r hr => RR_cr e1 e2 e3 (t8 r hr)⟩
  refine ST_cg (f := mk stC f) (g := mkG stG g) (u := mk stU u) (fun a => hf 19 a 0 rfl) (fun a => hf 19 a 1 rfl) (fun a => hf 19 a 4 rfl) (fun a => hf 19 a 5 rfl) (fun c => hf 32 0 c rfl) (hf 10 0 3 rfl) (fun a => hg 19 a 2 rfl) (fun a => hg 19 a 3 rfl) (fun a => hg 19 a 7 rfl) (fun a => hg 19 a 8 rfl) (fun a => hg 19 a 9 rfl) (fun a => hg 19 a 10 rfl) (fun r => hg 18 r 2 rfl) (fun R k h => ?_) t7
  have hR : R = 49 ∨ R = 57 ∨ R = 59 ∨ R = 60 ∨ R = 61 ∨ R = 62 ∨ R = 63 ∨ R = 64 ∨ R = 65 ∨ R = 66 ∨ R = 67 ∨ R = 68 ∨ R = 69 ∨ R = 70 ∨ R = 71 ∨ R = 72 := by omega
  rcases hR with rfl | rfl | rfl | rfl | rfl | rfl | rfl | rfl | rfl | rfl | rfl | rfl | rfl | rfl | rfl | rfl <;> exact hu _ 0 k rfl rfl
theorem cN_cN (f : MI) : cN (cN f) = cN f := by
  funext r o i
  unfold cN
  cases cs r && pl r i <;> rfl
theorem gN_gN (g : MR) : gN (gN g) = gN g := by
  funext r o i
  unfold gN
  cases cs r && pl r i <;> rfl
theorem rN_rN (f : MI) : rN (rN f) = rN f := by
  funext r o i
  unfold rN
  cases rs r && pl r i
  · rfl
  · cases Nat.beq r 22 && Nat.beq i 90 <;> rfl
/-- some scripts -/
def TX (B : Nat) (f : MI) (g : MR) (u : MI) : Prop := ∃ (n s q : Nat) (rd ps en dp : Nat → Nat) (lp : Nat → Option Nat), TT B n s q rd ps en dp lp f g u ∧ ∀ k, k < s → Upto (u 58 0 k) 9
def SCx (B : Nat) (f : MI) (g : MR) (u : MI) (_ : Nat) : Prop := TX B f g u
def RFx (B : Nat) : MI → MR → MI → Prop := R_fair (SCx B)
theorem TX.cr (e1 : cN f' = cN f) (e2 : gN g' = gN g) (e3 : rN u' = rN u) (T : TX B f g u) : TX B f' g' u' := by
  obtain ⟨n, s, q, rd, ps, en, dp, lp, T, A⟩ := T
  refine ⟨n, s, q, rd, ps, en, dp, lp, TT_cr e1 e2 e3 T, fun k hk => ?_⟩
  have := congrFun (congrFun (congrFun e3 58) 0) k
  have : u' 58 0 k = u 58 0 k := this
  rw [this]
  exact A k hk
theorem TX.le (T : TX B f g u) (h : B ≤ B') : TX B' f g u := by
  obtain ⟨n, s, q, rd, ps, en, dp, lp, T, A⟩ := T
  exact ⟨n, s, q, rd, ps, en, dp, lp, T.le h, A⟩
theorem RFx_of (T : TX B f g u) (hB : B < 2 ^ 30) : RFx B f g u := by
  have T0 := T
  obtain ⟨n, s, q, rd, ps, en, dp, lp, T, A⟩ := T
  obtain ⟨l, l1, l2, l3⟩ := T.lg
  refine ⟨n, s, q, T.cn, T.gb, ⟨l, by omega, l2, l3⟩, T.sf, T.fl, fun r hr => ?_⟩
  obtain ⟨⟨kd, M⟩, ⟨m, Q⟩, S, P⟩ := T.rr r hr
  exact ⟨⟨kd, M.kl, M.kc, M.kr, M.ac, M.ix, ⟨M.m0, M.m1, M.m2, M.m3, M.m4, M.m5⟩, M.t8, M.tx⟩, M.mo, ⟨m, Q.ml, Q.mc, Q.mr, Q.rw, Q.sm⟩, S, T0⟩
theorem RFx_tt (h : RFx B f g u) : TX B f g u := by
  obtain ⟨n, s, q, h1, -, -, -, -, h6⟩ := h
  exact (h6 0 h1.1.1).2.2.2.2
theorem RFx_le (h : RFx B f g u) (hB : B ≤ B') (hB' : B' < 2 ^ 30) : RFx B' f g u := RFx_of ((RFx_tt h).le hB) hB'
theorem Iv_le {h : MH} (hI : Iv (RFx B) i h) (hB : B ≤ B') (hB' : B' < 2 ^ 30) : Iv (RFx B') i h := ⟨⟨hI.1.1, hI.1.2.1, fun z => RFx_le (hI.1.2.2 z) hB hB'⟩, hI.2⟩
/-- of the heap itself -/
theorem Iv_tt {h : MH} (hI : Iv (RFx B) i h) (hs : ¬ h.1 21 0 5 = 0) : TX B h.1 h.2.1 h.1 := by
  have h1 : h.1 21 0 5 = 1 := hI.1.2.1.2.2.2.resolve_left hs
  exact (RFx_tt (hI.1.2.2 h1)).cr (cN_cN h.1).symm (gN_gN h.2.1).symm (rN_rN h.1).symm
/-- behind a pair of calls -/
theorem Iv_st {h h2 : MH} (hI : Iv (RFx B) i h) (k1 : ∀ j, j = 4 ∨ j = 5 ∨ j = 6 ∨ j = 7 → h2.1 21 0 j = h.1 21 0 j) (k2 : ∀ k, h2.1 40 0 k = h.1 40 0 k) (k3 : ∀ j, j = 3 ∨ j = 12 ∨ j = 13 ∨ j = 19 → h2.1 22 0 j = h.1 22 0 j) (k4 : ∀ k, h2.1 43 0 k = h.1 43 0 k)
    (T : TX B' h2.1 h2.2.1 h2.1) (hB' : B' < 2 ^ 30) (hc : h2.2.2.2.2.1 ≤ h.2.2.2.2.1 + 1) (hs : h2.2.2.2.2.2 ≤ h.2.2.2.2.2 + 6) : Iv (RFx B') (i + 6) h2 := by
  obtain ⟨⟨n, n4, t1, t2, t3⟩, ⟨f1, f2, f3, f4⟩, -⟩ := hI.1
  have t1' : h.1 21 0 4 = nI n := t1
  have t2' : h.1 22 0 3 = nI n := t2
  have f1' : h.1 21 0 6 = h.1 22 0 12 := f1
  have f2' : h.1 21 0 7 = h.1 22 0 13 := f2
  have f3' : h.1 21 0 5 = h.1 22 0 19 := f3
  have f4' : h.1 21 0 5 = 0 ∨ h.1 21 0 5 = 1 := f4
  refine ⟨⟨⟨n, n4, (k1 4 (by omega)).trans t1', (k3 3 (by omega)).trans t2', fun k hk => ?_⟩, ⟨?_, ?_, ?_, ?_⟩, fun _ => RFx_of (T.cr (cN_cN h2.1) (gN_gN h2.2.1) (rN_rN h2.1)) hB'⟩, Res_step hI.2 (k3 3 (by omega)) hc hs⟩
  · have h1 : (∃ b : Nat, b < 256 ∧ h.1 43 0 k = nI b) ∧ h.1 40 0 k = (h.1 43 0 k).toInt8.toInt32 := t3 k hk
    show (∃ b : Nat, b < 256 ∧ h2.1 43 0 k = nI b) ∧ h2.1 40 0 k = (h2.1 43 0 k).toInt8.toInt32
    rw [k2, k4]
    exact h1
  · exact (k1 6 (by omega)).trans (f1'.trans (k3 12 (by omega)).symm)
  · exact (k1 7 (by omega)).trans (f2'.trans (k3 13 (by omega)).symm)
  · exact (k1 5 (by omega)).trans (f3'.trans (k3 19 (by omega)).symm)
  · show h2.1 21 0 5 = 0 ∨ h2.1 21 0 5 = 1
    rw [k1 5 (by omega)]
    exact f4'
theorem fm_g {m : Nat} {h h' : MH} (F : Fm m h h') (R o i : Nat) (h1 : m.testBit (lid R i) = false) (h2 : m.testBit (R * 128 + 127) = false) : h'.1 R o i = h.1 R o i := (F.1 R o i h1 (Or.inr h2)).1
theorem rN_at {h h' : MI} (e : rN h' = rN h) (R o i : Nat) (hb : (rs R && pl R i) = true) (hc : (Nat.beq R 22 && Nat.beq i 90) = false) : h' R o i = h R o i := by
  have := congrFun (congrFun (congrFun e R) o) i
  unfold rN at this
  rw [hb, hc] at this
  exact this
theorem cN_at {h h' : MI} (e : cN h' = cN h) (R o i : Nat) (hb : (cs R && pl R i) = true) : h' R o i = h R o i := by
  have := congrFun (congrFun (congrFun e R) o) i
  unfold cN at this
  rw [hb] at this
  exact this
theorem some_inl {v v' : Option MV} {h h' : MH} (e : (some (.inl v, h) : MX) = some (.inl v', h')) : v = v' ∧ h = h' := by
  injection e with e
  injection e with e1 e2
  injection e1 with e1
  exact ⟨e1, e2⟩
theorem rf_208 : mEff 208 &&& refM = 0 := by decide +kernel
theorem cl_237 : mEff 237 &&& clsM = 0 := by decide +kernel
/-! ===== promise 9: tick ===== -/
theorem p_tick (a : Int32) (hB : B + 120000 < 2 ^ 30) : prI (mP L xs) (d + 17) (Iv (RFx B) i) (Iv (RFx (B + 120000)) (i + 6)) 209 237 [iv a] := by
  intro h hI
  obtain ⟨ht, ⟨y1, y2, f3, f4⟩, f5⟩ := hI.1
  have f3' : h.1 21 0 5 = h.1 22 0 19 := f3
  have keyL := E_Law_tick (L := L) (xs := xs) (d := d + 16) a h
  have keyH := E_House_tick (L := L) (xs := xs) (d := d + 15) a h
  by_cases hs : h.1 21 0 5 = 0
  · refine ⟨1, 0, cat (thr h), (m3 h.1 22 0 90 1, (cat (thr h)).2), ?_, ?_, rfl, fun z => absurd z (by decide), Iv_le (Iv_ro hI rfl rfl (Nat.le_refl _) (Nat.le_refl _)) (by omega) hB⟩
    · refine keyL.trans ?_
      rw [keyH, e_need0 (d := d + 14) hs]
      rfl
    · refine (E_Ref_tick (d := d + 16) a (cat (thr h))).trans ?_
      rw [if_pos (show (cat (thr h)).1 22 0 19 = 0 from f3'.symm.trans hs)]
      rfl
  · have hs' : ¬ h.1 22 0 19 = 0 := fun z => hs (f3'.trans z)
    have hn1 := e_need1 (L := L) (xs := xs) (d := d + 14) hs
    by_cases hbad : a < 1 ∨ 100 < a
    · refine ⟨2, 0, cat (thr h), (m3 h.1 22 0 90 2, (cat (thr h)).2), ?_, ?_, rfl, fun z => absurd z (by decide), Iv_le (Iv_ro hI rfl rfl (Nat.le_refl _) (Nat.le_refl _)) (by omega) hB⟩
      · refine keyL.trans ?_
        rw [keyH, hn1]
        simp only [clV]
        by_cases z : a < 1
        · rw [if_pos z]; rfl
        · rw [if_neg z, if_pos (hbad.resolve_left z)]; rfl
      · refine (E_Ref_tick (d := d + 16) a (cat (thr h))).trans ?_
        rw [if_neg (show ¬ (cat (thr h)).1 22 0 19 = 0 from hs')]
        by_cases z : a < 1
        · rw [if_pos z]; rfl
        · rw [if_neg z, if_pos (hbad.resolve_left z)]; rfl
    · have z1 : ¬ a < 1 := fun z => hbad (Or.inl z)
      have z2 : ¬ 100 < a := fun z => hbad (Or.inr z)
      obtain ⟨N, hN, rfl⟩ : ∃ N : Nat, N ≤ 100 ∧ a = nI N := by
        obtain ⟨k, k1, k2⟩ := upto_of (v := a) (n := 100) (fun z => z1 (by
          rw [i_lt] at z ⊢
          have e0 : (0 : Int32).toInt = 0 := by decide
          have e1 : (1 : Int32).toInt = 1 := by decide
          omega)) z2 (by decide)
        exact ⟨k, k1, k2⟩
      obtain ⟨n, s, q, rd, ps, en, dp, lp, T, A⟩ := Iv_tt hI hs
      obtain ⟨F2, G2, U0, a1, -, -, -⟩ := tk_loop (L := L) (xs := xs) (d := d + 1) (X := h.2.2) (Y := h.2) (v2 := h.1 11 0 14) (w2 := 0) hN N 0 B h.1 h.2.1 h.1 (by omega) (by omega) T
      rw [nI_0] at a1
      have hC : EL (mP L xs) (d + 16) 208 [rv 21 (some 0), iv (nI N)] h = some (.inl (some (iv (U0 22 0 84 - h.1 11 0 14))), (F2, G2, h.2.2)) := by
        rw [keyH, hn1]
        simp only [clV]
        rw [if_neg z1, if_neg z2]
        exact a1
      have FC := EL_fm (show 208 < mNo by decide +kernel) hC
      have er : rN F2 = rN h.1 := fm_ref rf_208 FC
      have T2 : TT B n s q rd ps en dp lp h.1 h.2.1 (m3 F2 22 0 90 0) := TT_cr rfl rfl ((rN_thr F2 0).trans er) T
      generalize hXX : m3 h.2.2.1 99 0 0 (U0 22 0 84 - h.1 11 0 14).toInt64 = XX
      obtain ⟨F3, G3, U3, b1, b2, b3, b4⟩ := tk_loop (L := L) (xs := xs) (d := d + 1) (X := h.2.2) (Y := (G2, XX, h.2.2.2)) (v2 := h.1 11 0 14) (w2 := (m3 F2 22 0 90 0) 22 0 84) hN N 0 B h.1 h.2.1 (m3 F2 22 0 90 0) (by omega) (by omega) T2
      rw [nI_0] at b1 b2
      obtain ⟨v1, v2⟩ := some_inl (a1.symm.trans b1)
      injection v1 with v1
      injection v1 with v1
      injection v2 with v2 v3
      injection v3 with v3 _
      subst v2
      subst v3
      have hU : EL (mP L xs) (d + 17) 237 [rv 22 (some 0), iv (nI N)] (F2, G2, XX, h.2.2.2) = some (.inl (some (iv (U3 22 0 84 - (m3 F2 22 0 90 0) 22 0 84))), (U3, G2, XX, h.2.2.2)) := by
        refine EL_mono (Nat.le_succ (d + 16)) ((E_Ref_tick (d := d + 15) (nI N) (F2, G2, XX, h.2.2.2)).trans ?_)
        have e19 : F2 22 0 19 = h.1 22 0 19 := rN_at er 22 0 19 rfl rfl
        have e90 : (m3 F2 22 0 90 0) 22 0 90 = 0 := m3_eq
        simp only [e19, if_neg hs', if_neg z1, if_neg z2, e90, if_true]
        exact b2
      have FU := EL_fm (show 237 < mNo by decide +kernel) hU
      obtain ⟨c1, c2, -⟩ := fm_cls cl_237 FU
      have c1 : cN U3 = cN F2 := c1
      refine ⟨0, U3 22 0 84 - (m3 F2 22 0 90 0) 22 0 84, (F2, G2, XX, h.2.2.2), (U3, G2, XX, h.2.2.2), ?_, hU, ?_, fun _ => ?_, ?_⟩
      · refine keyL.trans ?_
        rw [hC]
        simp only [clI, hXX]
      · exact b4.trans m3_eq
      · show XX 99 0 0 = _
        rw [← hXX, m3_eq, v1]
        have e84 : (m3 F2 22 0 90 0) 22 0 84 = h.1 22 0 84 := (m3_i (by decide)).trans (rN_at er 22 0 84 rfl rfl)
        have eg : h.1 11 0 14 = h.1 22 0 84 := T.gb.2.2.2.2.2
        rw [e84, eg]
      · refine Iv_st hI (fun j hj => ?_) (fun k => ?_) (fun j hj => ?_) (fun k => ?_) ⟨n, s, q, rd, ps, en, dp, lp, (TT_cr (f := F2) (g := G2) (u := U3) c1 rfl rfl b3).le (by omega), fun k hk => ?_⟩ hB (Nat.le_succ _) (Nat.le_add_right _ _)
        · show U3 21 0 j = h.1 21 0 j
          rcases hj with rfl | rfl | rfl | rfl
          · exact (cN_at c1 21 0 4 rfl).trans (fm_g FC 21 0 4 (by decide +kernel) (by decide +kernel))
          · exact (cN_at c1 21 0 5 rfl).trans (fm_g FC 21 0 5 (by decide +kernel) (by decide +kernel))
          · exact (cN_at c1 21 0 6 rfl).trans (fm_g FC 21 0 6 (by decide +kernel) (by decide +kernel))
          · exact (cN_at c1 21 0 7 rfl).trans (fm_g FC 21 0 7 (by decide +kernel) (by decide +kernel))
        · show U3 40 0 k = h.1 40 0 k
          exact (cN_at c1 40 0 k rfl).trans (fm_g FC 40 0 k (by rw [lid_arr (by decide +kernel)]; decide +kernel) (by decide +kernel))
        · show U3 22 0 j = h.1 22 0 j
          rcases hj with rfl | rfl | rfl | rfl
          · exact (fm_g FU 22 0 3 (by decide +kernel) (by decide +kernel)).trans (rN_at er 22 0 3 rfl rfl)
          · exact (fm_g FU 22 0 12 (by decide +kernel) (by decide +kernel)).trans (rN_at er 22 0 12 rfl rfl)
          · exact (fm_g FU 22 0 13 (by decide +kernel) (by decide +kernel)).trans (rN_at er 22 0 13 rfl rfl)
          · exact (fm_g FU 22 0 19 (by decide +kernel) (by decide +kernel)).trans (rN_at er 22 0 19 rfl rfl)
        · show U3 43 0 k = h.1 43 0 k
          exact (fm_g FU 43 0 k (by rw [lid_arr (by decide +kernel)]; decide +kernel) (by decide +kernel)).trans (rN_at er 43 0 k rfl rfl)
        · have h58 : U3 58 0 k = h.1 58 0 k := (fm_g FU 58 0 k (by rw [lid_arr (by decide +kernel)]; decide +kernel) (by decide +kernel)).trans (rN_at er 58 0 k rfl rfl)
          show Upto (U3 58 0 k) 9
          rw [h58]
          exact A k hk
end Rfx
