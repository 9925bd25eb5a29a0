/-! ===== the whole: what the calls leave ===== -/
section Asm
variable {L : Nat} {xs : Nat → Int32} {d d0 i : Nat}
variable {B n s q : Nat} {rd ps en dp : Nat → Nat} {lp : Nat → Option Nat} {f f' : MI} {g g' : MR} {u u' : MI} {r a b : Nat}
def bF (r i : Nat) : Bool := !Nat.beq r 40 && (!(Nat.beq r 21 && Nat.beq i 4) && (!(Nat.beq r 11 && (Nat.beq i 10 || Nat.beq i 7)) && (cs r && pl r i)))
def bU (r i : Nat) : Bool := !Nat.beq r 43 && (!Nat.beq r 92 && (!(Nat.beq r 22 && (Nat.beq i 3 || Nat.beq i 80)) && (rs r && pl r i)))
def xN (f : MI) : MI := fun r o i => bif bF r i then f r o i else 0
def yN (f : MI) : MI := fun r o i => bif bU r i then (bif Nat.beq r 22 && Nat.beq i 90 then 0 else f r o i) else 0
theorem xN_eq (h : ∀ r o j, (r ≠ 21 ∨ j ≠ 4) → r ≠ 40 → ¬ (r = 11 ∧ (j = 10 ∨ j = 7)) → f' r o j = f r o j) : xN f' = xN f := by
  funext r o j
  unfold xN
  cases hb : bF r j with
  | false => rfl
  | true =>
    show f' r o j = f r o j
    have k1 : ¬ (r = 21 ∧ j = 4) := fun e => by
      rw [e.1, e.2] at hb
      cases hb
    have k2 : r ≠ 40 := fun e => by
      rw [e] at hb
      cases hb
    have k3 : ¬ (r = 11 ∧ j = 10) := fun e => by
      rw [e.1, e.2] at hb
      cases hb
    have k4 : ¬ (r = 11 ∧ j = 7) := fun e => by
      rw [e.1, e.2] at hb
      cases hb
    exact h r o j (by omega) k2 (by omega)
theorem yN_eq (h : ∀ r o j, (r ≠ 22 ∨ j ≠ 3) → r ≠ 43 → ¬ (r = 92 ∨ (r = 22 ∧ j = 80)) → u' r o j = u r o j) : yN u' = yN u := by
  funext r o j
  unfold yN
  cases hb : bU r j with
  | false => rfl
  | true =>
    have k1 : ¬ (r = 22 ∧ j = 3) := fun e => by
      rw [e.1, e.2] at hb
      cases hb
    have k2 : r ≠ 43 := fun e => by
      rw [e] at hb
      cases hb
    have k3 : r ≠ 92 := fun e => by
      rw [e] at hb
      cases hb
    have k4 : ¬ (r = 22 ∧ j = 80) := fun e => by
      rw [e.1, e.2] at hb
      cases hb
    show (bif Nat.beq r 22 && Nat.beq j 90 then 0 else u' r o j) = (bif Nat.beq r 22 && Nat.beq j 90 then 0 else u r o j)
    rw [h r o j (by omega) k2 (by omega)]
theorem RR_cr2 (e1 : xN f' = xN f) (e2 : gN g' = gN g) (e3 : yN u' = yN u) (h : RR f g u rd ps dp r) : RR f' g' u' rd ps dp r := by
  obtain ⟨⟨kd, M⟩, ⟨m, Q⟩, S, P⟩ := h
  have a1 : RM (xN f) (gN g) (yN u) r kd := M
  have a2 : RQ (xN f) (yN u) r m := Q
  have a3 : R_sta (xN f) (yN u) r := S
  rw [← e1, ← e3] at a1 a2 a3
  rw [← e2] at a1
  refine ⟨⟨kd, a1⟩, ⟨m, a2⟩, a3, ?_⟩
  have hf : ∀ R o i, bF R i = true → f' R o i = f R o i := fun R o i hb => by
    have := congrFun (congrFun (congrFun e1 R) o) i
    unfold xN at this
    rw [hb] at this
    exact this
  have hg : ∀ R o i, (cs R && pl R i) = true → g' R o i = g R o i := fun R o i hb => by
    have := congrFun (congrFun (congrFun e2 R) o) i
    unfold gN at this
    rw [hb] at this
    exact this
  have hu : ∀ R o i, bU R i = true → (Nat.beq R 22 && Nat.beq i 90) = false → u' R o i = u R o i := fun R o i hb hc => by
    have := congrFun (congrFun (congrFun e3 R) o) i
    unfold yN at this
    rw [hb, hc] at this
    exact this
  have f0 := fun a => hf 19 a 0 rfl
  have f6 := fun a => hf 19 a 6 rfl
  have hup : ∀ j o, up g' j o = up g j o := by
    intro j
    induction j with
    | zero => intro o; rfl
    | succ j ih =>
      intro o
      show up g' j (o.bind fun a => g' 19 a 2) = up g j (o.bind fun a => g 19 a 2)
      rw [ih]
      congr 1
      cases o with
      | none => rfl
      | some a => exact hg 19 a 2 rfl
  have u89 := fun k => hu 89 0 k rfl rfl
  have hAT : ∀ o, AT f g u dp r o → AT f' g' u' dp r o := fun o A j b hb hk => by
    rw [hup] at hb
    rw [f0] at hk
    obtain ⟨t, t1, t2, t3, t4⟩ := A j b hb hk
    exact ⟨t, t1, t2, (u89 _).trans t3, (f6 b).trans t4⟩
  rcases P with ⟨a, A⟩ | ⟨h1, h2⟩ | ⟨h1, h2, k, h4, h5, h6, h7⟩
  · refine Or.inl ⟨a, (hg 18 r 3 rfl).trans A.sp, A.rd, (hu 84 0 r rfl rfl).trans A.nx, (hu 82 0 r rfl rfl).trans A.st, ?_, ?_, ?_, ?_⟩
    · rw [hg 19 a 2 rfl]
      exact hAT _ A.tn
    · intro hk b hb hb3
      rw [f0] at hk hb3
      rw [hg 19 a 2 rfl] at hb
      rw [f6]
      exact A.ag hk b hb hb3
    · rw [hf 18 r 4 rfl, hu 87 0 r rfl rfl]
      exact A.bg
    · rw [hf 18 r 5 rfl, hu 87 0 r rfl rfl, hu 86 0 r rfl rfl]
      exact A.lf
  · exact Or.inr (Or.inl ⟨(hg 18 r 3 rfl).trans h1, by rw [hu 82 0 r rfl rfl]; exact h2⟩)
  · exact Or.inr (Or.inr ⟨(hg 18 r 3 rfl).trans h1, (hu 82 0 r rfl rfl).trans h2, k, h4, (hu 84 0 r rfl rfl).trans h5, (hu 59 0 k rfl rfl).trans h6, (hu 64 0 k rfl rfl).trans h7⟩)
theorem TT_cr2 (e1 : xN f' = xN f) (e2 : gN g' = gN g) (e3 : yN u' = yN u) (z2 : R_glb f' u') (z6 : R_flg f' u' q) (T : TT B n s q rd ps en dp lp f g u) : TT B n s q rd ps en dp lp f' g' u' := by
  obtain ⟨t1, t2, t3, t4, t5, t6, t7, t8⟩ := T
  have a1 : R_cnt (xN f) (yN u) n s q := t1
  have a3 : ∃ l : Nat, l ≤ B ∧ (yN u) 22 0 84 = nI l ∧ ∀ k, k < 1600 → k < 4 * l → (xN f) 31 0 k = (yN u) 96 0 k := t3
  have a4 : R_stf (xN f) (yN u) s := t4
  have a5 : Stf (yN u) n s := t5
  rw [← e1, ← e3] at a1 a3 a4
  rw [← e3] at a5
  have hf : ∀ R o i, bF R i = true → f' R o i = f R o i := fun R o i hb => by
    have := congrFun (congrFun (congrFun e1 R) o) i
    unfold xN at this
    rw [hb] at this
    exact this
  have hg : ∀ R o i, (cs R && pl R i) = true → g' R o i = g R o i := fun R o i hb => by
    have := congrFun (congrFun (congrFun e2 R) o) i
    unfold gN at this
    rw [hb] at this
    exact this
  have hu : ∀ R o i, bU R i = true → (Nat.beq R 22 && Nat.beq i 90) = false → u' R o i = u R o i := fun R o i hb hc => by
    have := congrFun (congrFun (congrFun e3 R) o) i
    unfold yN at this
    rw [hb, hc] at this
    exact this
  refine ⟨a1, z2, a3, a4, a5, z6, ?_, fun r hr => RR_cr2 e1 e2 e3 (t8 r hr)⟩
  refine ST_cg (f := mk stC f) (g := mkG stG g) (u := mk stU u) (fun a => hf 19 a 0 rfl) (fun a => hf 19 a 1 rfl) (fun a => hf 19 a 4 rfl) (fun a => hf 19 a 5 rfl) (fun c => hf 32 0 c rfl) (hf 10 0 3 rfl) (fun a => hg 19 a 2 rfl) (fun a => hg 19 a 3 rfl) (fun a => hg 19 a 7 rfl) (fun a => hg 19 a 8 rfl) (fun a => hg 19 a 9 rfl) (fun a => hg 19 a 10 rfl) (fun r => hg 18 r 2 rfl) (fun R k h => ?_) t7
  have hR : R = 49 ∨ R = 57 ∨ R = 59 ∨ R = 60 ∨ R = 61 ∨ R = 62 ∨ R = 63 ∨ R = 64 ∨ R = 65 ∨ R = 66 ∨ R = 67 ∨ R = 68 ∨ R = 69 ∨ R = 70 ∨ R = 71 ∨ R = 72 := by omega
  rcases hR with rfl | rfl | rfl | rfl | rfl | rfl | rfl | rfl | rfl | rfl | rfl | rfl | rfl | rfl | rfl | rfl <;> exact hu _ 0 k rfl rfl
theorem TX.cr2 (e1 : xN f' = xN f) (e3 : yN u' = yN u) (hG : R_glb f u → R_glb f' u') (hF : ∀ q, q ≤ 8 → R_flg f u q → R_flg f' u' q) (T : TX B f g u) : TX B f' g u' := by
  obtain ⟨n, s, q, rd, ps, en, dp, lp, T, A⟩ := T
  refine ⟨n, s, q, rd, ps, en, dp, lp, TT_cr2 e1 rfl e3 (hG T.gb) (hF q T.cn.2.2.1 T.fl) T, fun k hk => ?_⟩
  have := congrFun (congrFun (congrFun e3 58) 0) k
  have : u' 58 0 k = u 58 0 k := this
  rw [this]
  exact A k hk
theorem rf_feed (hB : B < 2 ^ 30) : ∀ f g u f' u', (∀ r o j, (r ≠ 21 ∨ j ≠ 4) → r ≠ 40 → f' r o j = f r o j) → (∀ r o j, (r ≠ 22 ∨ j ≠ 3) → r ≠ 43 → u' r o j = u r o j) → RFx B f g u → RFx B f' g u' := fun f g u f' u' h1 h2 H => by
  refine RFx_of ((RFx_tt H).cr2 (xN_eq fun r o j a b _ => h1 r o j a b) (yN_eq fun r o j a b _ => h2 r o j a b) (fun G => ?_) (fun q _ F k hk => ?_)) hB
  · unfold R_glb at G ⊢
    rw [h1 11 0 9 (by decide) (by decide), h1 11 0 10 (by decide) (by decide), h1 11 0 11 (by decide) (by decide), h1 11 0 12 (by decide) (by decide), h1 11 0 13 (by decide) (by decide), h1 11 0 14 (by decide) (by decide), h2 22 0 79 (by decide) (by decide), h2 22 0 80 (by decide) (by decide), h2 22 0 81 (by decide) (by decide), h2 22 0 82 (by decide) (by decide), h2 22 0 83 (by decide) (by decide), h2 22 0 84 (by decide) (by decide)]
    exact G
  · rw [h2 92 0 k (by omega) (by decide), h1 11 0 7 (by decide) (by decide)]
    exact F k hk
theorem sc_wind : ∀ f g u a r, SCx B f g u r → SCx B (m3 f 11 0 10 a) g (m3 u 22 0 80 a) r := fun f g u a r H => by
  refine TX.cr2 (xN_eq fun r o j _ _ h => m3_no (by omega)) (yN_eq fun r o j _ _ h => m3_no (by omega)) (fun G => ?_) (fun q _ F => F) H
  obtain ⟨g1, g2, g3, g4, g5, g6⟩ := G
  exact ⟨g1, rfl, g3, g4, g5, g6⟩
theorem sc_set : ∀ f g u (j : Nat) (v : Int32) r, j < 8 → (v = 0 ∨ v = 1) → SCx B f g u r → SCx B (m3 f 11 0 7 (putF (f 11 0 7) (nI j) v)) g (m3 u 92 0 j v) r := fun f g u j v r hj hv H => by
  refine TX.cr2 (xN_eq fun r o j _ _ h => m3_no (by omega)) (yN_eq fun r o j _ _ h => m3_no (by omega)) (fun G => G) (fun q hq F k hk => ?_) H
  show m3 u 92 0 j v 92 0 k = (putF (f 11 0 7) (nI j) v >>> (nI k &&& 31)) &&& 1
  rw [putF_bit _ hv hj (by omega)]
  by_cases e : k = j
  · rw [if_pos e, e]
    simp [m3]
  · rw [if_neg e, ← F k hk]
    simp [m3, e]
/-- what stands at place i of the script -/
def II (i : Nat) (h : MH) : Prop := Iv (RFx (20000 * i)) i h ∧ XT h.1
theorem II_le {B' : Nat} {h : MH} (hi : i ≤ 3072) (hB : B' ≤ 20000 * (i + 6)) (hI : Iv (RFx B') (i + 6) h) (hX : XT h.1) : II (i + 6) h := ⟨Iv_le hI hB (by omega), hX⟩
theorem lfI {B' mw mr : Nat} {as : List MV} (hi : i ≤ 3072) (hB : B' ≤ 20000 * (i + 6)) (hw : mw < mNo) (hr : mr < mNo) (xw : xtB mw = true) (xr : xtB mr = true) (H : prI (mP L xs) d0 (Iv (RFx (20000 * i)) i) (Iv (RFx B') (i + 6)) mw mr as) : prI (mP L xs) d0 (II i) (II (i + 6)) mw mr as := by
  rintro h ⟨hI, hX⟩
  obtain ⟨k, b, h1, h2, e1, e2, e3, e4, e5⟩ := H h hI
  exact ⟨k, b, h1, h2, e1, e2, e3, e4, II_le hi hB e5 (XT_fm hr xr e2 (XT_fm hw xw e1 hX))⟩
theorem lfB {B' mw mr : Nat} {as : List MV} (hi : i ≤ 3072) (hB : B' ≤ 20000 * (i + 6)) (hw : mw < mNo) (hr : mr < mNo) (xw : xtB mw = true) (xr : xtB mr = true) (H : prB (mP L xs) d0 (Iv (RFx (20000 * i)) i) (Iv (RFx B') (i + 6)) mw mr as) : prB (mP L xs) d0 (II i) (II (i + 6)) mw mr as := by
  rintro h ⟨hI, hX⟩
  obtain ⟨k, b, h1, h2, e1, e2, e3, e4, e5⟩ := H h hI
  exact ⟨k, b, h1, h2, e1, e2, e3, e4, II_le hi hB e5 (XT_fm hr xr e2 (XT_fm hw xw e1 hX))⟩
theorem pub_all (hi : i ≤ 3072) : Pub L xs 200 i (II i) (II (i + 6)) := by
  have hB0 : 20000 * i ≤ 20000 * (i + 6) := by omega
  have hB1 : 20000 * i + 120000 ≤ 20000 * (i + 6) := by omega
  have hB2 : 20000 * i < 2 ^ 30 := by omega
  have hB3 : 20000 * i + 120000 < 2 ^ 30 := by omega
  refine ⟨fun _ => ?_, fun _ => ?_, fun _ => ?_, fun _ => ?_, fun _ => ?_, fun _ => ?_, fun _ => ?_, fun _ => ?_, fun _ => ?_, fun _ => ?_, fun _ => ?_, fun _ => ?_, fun _ => ?_, fun _ => ?_, fun _ => ?_, fun _ => ?_⟩
  · rintro h ⟨hI, hX⟩
    obtain ⟨k, h1, h2, e1, e2, e5⟩ := p_feed (L := L) (xs := xs) (d := 198) (rf_feed hB2) h hI
    exact ⟨k, h1, h2, e1, e2, II_le hi hB0 e5 (XT_fm (show 14 < mNo by decide +kernel) (by decide +kernel) e2 (XT_fm (show 13 < mNo by decide +kernel) (by decide +kernel) e1 hX))⟩
  · rintro h ⟨hI, hX⟩
    obtain ⟨k, b, h1, h2, e1, e2, e3, e4, e5, e6⟩ := p_read (L := L) (xs := xs) (d := 60) _ hB2 h ⟨hI, hX⟩
    exact ⟨k, b, h1, h2, e1, e2, e3, e4, II_le hi hB0 e5 e6⟩
  · exact lfI hi hB0 (by decide +kernel) (by decide +kernel) (by decide +kernel) (by decide +kernel) (p_fault (d := 198) _)
  · exact lfI hi hB0 (by decide +kernel) (by decide +kernel) (by decide +kernel) (by decide +kernel) (p_count (d := 198) _)
  · rintro h ⟨hI, hX⟩
    obtain ⟨k, h1, h2, e1, e2, e3, e5⟩ := p_open (L := L) (xs := xs) (d := 192) hB2 h hI
    exact ⟨k, h1, h2, e1, e2, e3, II_le hi hB0 e5 (XT_fm (show 141 < mNo by decide +kernel) (by decide +kernel) e2 (XT_fm (show 140 < mNo by decide +kernel) (by decide +kernel) e1 hX))⟩
  · exact lfI hi hB0 (by decide +kernel) (by decide +kernel) (by decide +kernel) (by decide +kernel) (p_come (d := 192) _ _ hB2)
  · exact lfI hi hB0 (by decide +kernel) (by decide +kernel) (by decide +kernel) (by decide +kernel) (p_wind (d := 197) sc_wind _)
  · exact lfI hi hB1 (by decide +kernel) (by decide +kernel) (by decide +kernel) (by decide +kernel) (p_tick (d := 183) _ hB3)
  · exact lfI hi hB0 (by decide +kernel) (by decide +kernel) (by decide +kernel) (by decide +kernel) (p_measure (d := 196) _ _)
  · exact lfI hi hB0 (by decide +kernel) (by decide +kernel) (by decide +kernel) (by decide +kernel) (p_says (d := 192) _ _)
  · exact lfI hi hB0 (by decide +kernel) (by decide +kernel) (by decide +kernel) (by decide +kernel) (p_script (d := 192) _ _)
  · exact lfI hi hB0 (by decide +kernel) (by decide +kernel) (by decide +kernel) (by decide +kernel) (p_free (d := 197) _)
  · exact lfB hi hB0 (by decide +kernel) (by decide +kernel) (by decide +kernel) (by decide +kernel) (p_isUp (d := 196) _)
  · exact lfB hi hB0 (by decide +kernel) (by decide +kernel) (by decide +kernel) (by decide +kernel) (p_set2 (d := 196) sc_set _ _ (by split <;> simp))
  · exact lfI hi hB0 (by decide +kernel) (by decide +kernel) (by decide +kernel) (by decide +kernel) (p_total (d := 192) _)
  · exact lfI hi hB0 (by decide +kernel) (by decide +kernel) (by decide +kernel) (by decide +kernel) (p_log (d := 197) _ _)
theorem II_0 : II 0 hS0 := by
  have c4 : hS0.1 21 0 4 = 0 := by decide +kernel
  have c5 : hS0.1 21 0 5 = 0 := by decide +kernel
  have c6 : hS0.1 21 0 6 = hS0.1 22 0 12 := by decide +kernel
  have c7 : hS0.1 21 0 7 = hS0.1 22 0 13 := by decide +kernel
  have r3 : hS0.1 22 0 3 = 0 := by decide +kernel
  have r19 : hS0.1 21 0 5 = hS0.1 22 0 19 := by decide +kernel
  have ab : R_abl hS0.1 := by
    unfold R_abl
    decide +kernel
  have ix : ∀ r, r < 12 → hS0.1 16 r 0 = nI r := by decide +kernel
  obtain ⟨n1, n2⟩ := num_S0
  exact ⟨⟨⟨⟨0, Nat.zero_le _, c4, r3, fun k hk => absurd hk (Nat.not_lt_zero k)⟩, ⟨c6, c7, r19, Or.inl c5⟩, fun z => absurd ((show hS0.1 21 0 5 = 1 from z).symm.trans c5) (by decide)⟩, ⟨0, r3, Nat.zero_le _, by omega, by omega⟩⟩, ab, ix⟩
theorem goal_whole (hL : L ≤ 3072) : mGoal L xs := goal_of (d := 200) (I := II) hL (by decide) (by decide) (fun i hi => pub_all (by omega)) II_0 (fun j h hj hI => Iv_bnd hj hI.1)
end Asm
