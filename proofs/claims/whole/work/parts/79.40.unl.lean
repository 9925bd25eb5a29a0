/-! ===== unload; a step that takes ticks ===== -/
section Unl
variable {L : Nat} {xs : Nat → Int32} {d : Nat} {X : ML × (Nat → Nat) × Nat × Nat} {Y : MR × ML × (Nat → Nat) × Nat × Nat}
variable {B B' n s q : Nat} {rd ps en dp : Nat → Nat} {lp : Nat → Option Nat} {f f1 f2 f' : MI} {g : MR} {u u1 u2 u' : MI} {r a b : Nat}
theorem m3_same {α : Type} {f : Nat → Nat → Nat → α} {R o i : Nat} {v : α} (h : f R o i = v) : m3 f R o i v = f := by
  funext a b c
  unfold m3
  by_cases h1 : a = R
  · by_cases h2 : b = o
    · by_cases h3 : c = i
      · rw [if_pos h1, if_pos h2, if_pos h3, h1, h2, h3, h]
      · rw [if_pos h1, if_pos h2, if_neg h3]
    · rw [if_pos h1, if_neg h2]
  · rw [if_neg h1]
theorem TT_srv (T : TT B n s q rd ps en dp lp f g u) {v : Int32} : TT B n s q rd ps en dp lp (m3 f 11 0 11 v) g (m3 u 22 0 81 v) :=
  TT_glob T (fun r' => EqC.gl rfl) (fun r' => EqU.gl rfl) (fun b => rfl) (mk_m3 rfl) (mk_m3 rfl) T.cn ⟨T.gb.1, T.gb.2.1, rfl, T.gb.2.2.2⟩ T.lg T.sf T.ss T.fl
theorem TT_gon (T : TT B n s q rd ps en dp lp f g u) {v : Int32} : TT B n s q rd ps en dp lp (m3 f 11 0 12 v) g (m3 u 22 0 82 v) :=
  TT_glob T (fun r' => EqC.gl rfl) (fun r' => EqU.gl rfl) (fun b => rfl) (mk_m3 rfl) (mk_m3 rfl) T.cn ⟨T.gb.1, T.gb.2.1, T.gb.2.2.1, rfl, T.gb.2.2.2.2⟩ T.lg T.sf T.ss T.fl
theorem ntC_16 {l i : Nat} {a b c v : Int32} : ntC (m3 f 16 r i v) l a b c = m3 (ntC f l a b c) 16 r i v := by
  have e : ∀ {R o j : Nat} {w : Int32} {h : MI}, R ≠ 16 → m3 (m3 h 16 r i v) R o j w = m3 (m3 h R o j w) 16 r i v := fun h => m3_comm (Or.inl (Ne.symm h))
  unfold ntC
  split
  · rw [e (by decide), e (by decide), e (by decide), e (by decide), e (by decide)]
    rfl
  · exact e (by decide)
theorem pf_305 (T : TT B n s q rd ps en dp lp f g u) (hB : B + 2 < 2 ^ 30) (hr : r < n) (h3 : g 18 r 3 = some a) (hk : f 19 a 0 = 305) (ho : u 59 0 (ps a) = 9) (he : en a = ps a + 1) : RES L xs d X Y B n s q rd ps en dp lp r f g u a := by
  have A := T.live hr h3
  have hpl := (T.loc hr A.rd).pl
  have hn := T.n12
  obtain ⟨⟨kd, M⟩, -⟩ := T.rr r hr
  obtain ⟨cb, c1, c2⟩ := b_calm (L := L) (xs := xs) (d := d + 8) M (hc := (f, g, X)) (hr := (u, Y)) rfl rfl
  have c1 : EL (mP L xs) (d + 10) 170 [rv 16 (some r)] (f, g, X) = some (.inl (some (iv (bif cb then 1 else 0))), (f, g, X)) := c1
  have c2 : EL (mP L xs) (d + 10) 219 [rv 22 (some 0), iv (nI r)] (u, Y) = some (.inl (some (iv (bif cb then 1 else 0))), (u, Y)) := c2
  have key := E_Runner_perform (L := L) (xs := xs) (d := d + 11) (some r) (some r) (some a) (f, g, X)
  simp (decide := true) only [onS_s, hk, if_true, if_false, E_Runner_unload, c1, clI] at key
  have keu := E_Ref_does (L := L) (xs := xs) (d := d + 11) (nI r) (u, Y)
  simp (decide := true) only [if_neg (nin (show r < 12 by omega) (show 12 < 2 ^ 31 by decide)), nI_clamp (show r < 2 ^ 31 by omega), A.nx, if_neg (nin hpl (show 6100 < 2 ^ 31 by decide)), nI_clamp (show ps a < 2 ^ 31 by omega), ho, if_true, if_false, K_Ref_does_58, E_Ref_unload, c2, clI, nI_1] at keu
  cases cb with
  | false =>
    simp (decide := true) only [cond_false, if_true, clI] at key keu
    refine res_stall T hB hr A.sp (v := 1) (by decide) key (fun u2 hu => ?_)
    rw [keu, hu (d + 6) Y]
    rfl
  | true =>
    obtain ⟨x, y, x1, x2, x3, x4⟩ := M.rg.ab
    have hab : f 16 r 12 = nI x := M.mo.2.2.2.2.2.1.trans x3
    have hix : f 16 r 0 = nI r := M.ix
    have hs : f 11 0 11 = u 22 0 81 := T.gb.2.2.1
    simp (decide := true) only [cond_true, if_false, hab, x3, hix, hs, m3_r (show 16 ≠ 11 by decide), m3_r (show 22 ≠ 78 by decide)] at key keu
    have T1 := TT_m12 (v := 0) T hr (fun kd M => Rng_78 M.rg ⟨0, y, by omega, x2, rfl, x4⟩)
    have T2 := TT_srv (v := u 22 0 81 + nI x) T1
    by_cases hx : x = 0
    · subst hx
      simp (decide := true) only [nI_0, if_false] at key keu
      have e0 : u 22 0 81 + 0 = u 22 0 81 := by rw [Int32.add_zero]
      rw [m3_same (f := u) (R := 78) (o := 0) (i := r) (v := 0) (by rw [x3, nI_0]), e0, m3_same (f := u) rfl] at keu
      refine res_adv T (by omega) hr A.sp (by rw [hk]; decide) (fun o ho => ?_) (fun u2 hu => ?_)
      · rw [key]
        simp (decide := true) only [clV, ho, clR, E_Script_goOn, clI]
      · rw [keu, ← he, hu]
        rfl
    · have hp : 0 < nI x := nI_lt (a := 0) (by omega) (by omega)
      simp only [if_pos hp] at key keu
      obtain ⟨l, l1, l2, l3⟩ := T.lgx (by omega)
      rw [c_note (d := d + 9) (show (m3 f 11 0 11 (u 22 0 81 + nI x)) 11 0 14 = nI l from l2) l1] at key
      rw [r_note (d := d + 9) (show (m3 (m3 u 78 0 r 0) 22 0 81 (u 22 0 81 + nI x)) 22 0 84 = nI l from l3) l1] at keu
      have T3 := TT_nt T2 l1 (by omega) (show (m3 (m3 u 78 0 r 0) 22 0 81 (u 22 0 81 + nI x)) 22 0 84 = nI l from l3) 5 (nI r) (nI x)
      rw [m3_comm (Or.inl (show (16 : Nat) ≠ 11 by decide)), ntC_16] at T3
      have ek : (m3 (ntC (m3 f 11 0 11 (u 22 0 81 + nI x)) l 5 (nI r) (nI x)) 16 r 12 0) 19 a 0 = 305 := by
        rw [m3_r (by decide)]
        exact (mk_at ntC_mk 19 a 0 rfl).trans hk
      have A3 := T3.live hr A.sp
      obtain ⟨o, u2, p1, p2, p3⟩ := p_adv (L := L) (xs := xs) T3 (by omega) hr A.rd (by rw [ek]; decide) (Mid.rf T3 hr) A3.st A3.tn
      refine ⟨0, _, m3 g 18 r 3 o, true, u2, ?_, ?_, Or.inl ⟨rfl, p3.le (by omega), (fun z => nomatch z)⟩⟩
      · rw [key]
        simp (decide := true) only [clV, p1, clR, E_Script_goOn, clI]
      · rw [keu]
        simp only [clV]
        rw [← he, p2]
        rfl
/-- the end of a tick of a step that takes ticks -/
theorem sp_tail (T : TT B n s q rd ps en dp lp f2 g u2) (hB : B + 2 < 2 ^ 30) (hr : r < n) (h3 : g 18 r 3 = some a) (hk : f2 19 a 0 ≠ 401) (he : en a = ps a + 1) (h87 : u2 87 0 r ≠ 0) {z4 z3 : Option MV}
    (key : EL (mP L xs) (d + 12) 182 [rv 17 (some 0), rv 16 (some r), rv 18 (some r), rv 19 (some a)] (f, g, X) = mclI (RL (mP L xs) (d + 10) 173 172 [some (rv 17 (some 0)), some (rv 16 (some r)), some (rv 18 (some r)), some (rv 19 (some a)), z4] [] (f2, g, X)) (fun x h => some (.inl (some (iv x)), h)) (fun e h => some (.inr e, h)))
    (keu : EL (mP L xs) (d + 12) 227 [rv 22 (some 0), iv (nI r)] (u, Y) = mclI (RL (mP L xs) (d + 10) 221 150 [some (rv 22 (some 0)), some (iv (nI r)), some (iv (nI (ps a))), z3] [] (u2, Y)) (fun x h => some (.inl (some (iv (x &&& 1))), h)) (fun e h => some (.inr e, h))) :
    RES L xs d X Y B n s q rd ps en dp lp r f g u a := by
  have A := T.live hr h3
  have hn := T.n12
  obtain ⟨h1, t, t1, t2, t3, t4⟩ := A.lf.resolve_left h87
  have e1 : nI t - 1 = nI (t - 1) := nI_sub (b := 1) t1
  have M : Mid rd f2 (m3 f2 18 r 5 (nI (t - 1))) u2 (m3 u2 86 0 r (nI (t - 1))) r := ((Mid.rf T hr).c5).u86
  simp only [K_Runner_spend_172, onS_s, t4, e1, m3_eq] at key
  simp only [K_Ref_takes_150, if_neg (nin (show r < 12 by omega) (show 12 < 2 ^ 31 by decide)), nI_clamp (show r < 2 ^ 31 by omega), t3, e1, m3_eq, nI_1] at keu
  by_cases ht : t = 1
  · subst ht
    simp (decide := true) only [nI_0, if_true, if_false, show (1 : Nat) - 1 = 0 from rfl] at key keu M
    obtain ⟨o, u3, p1, p2, p3⟩ := p_adv (L := L) (xs := xs) T (by omega) hr A.rd hk M A.st (by
      intro j b hb hk
      exact A.tn j b hb hk)
    refine ⟨-1, _, m3 g 18 r 3 o, false, u3, ?_, ?_, Or.inr (Or.inl ⟨rfl, rfl, p3.le (by omega)⟩)⟩
    · rw [key]
      simp (decide := true) only [clV, p1, clR, E_Script_goOn, clI]
    · rw [keu, ← he, p2]
      rfl
  · have hp : 0 < nI (t - 1) := nI_lt (a := 0) (by omega) (by omega)
    have hz : ¬ nI (t - 1) = 0 := fun e => ht (by
      have := (nI_eq (b := 0) (show t - 1 < 2 ^ 31 by omega) (by decide)).mp e
      omega)
    simp only [if_pos hp, if_neg hz, clI] at key keu
    have T2 : TT B n s q rd ps en dp lp (m3 f2 18 r 5 (nI (t - 1))) (m3 g 18 r 3 (some a)) (m3 u2 86 0 r (nI (t - 1))) := by
      refine TT_mid T hr M (Or.inl ⟨a, m3_eq, A.rd, A.nx, A.st, ?_, A.ag, ?_, Or.inr ⟨h1, t - 1, by omega, by omega, m3_eq, m3_eq⟩⟩)
      · intro j b hb hk
        have hgg : (m3 g 18 r 3 (some a)) 19 = g 19 := rfl
        rw [up_g hgg, hgg] at hb
        exact A.tn j b hb hk
      · exact (m3_i (by decide)).trans A.bg
    rw [m3_same h3] at T2
    exact ⟨-1, _, g, false, _, key, keu, Or.inr (Or.inl ⟨rfl, rfl, (PG_live T2 (by rw [h3]; exact fun z => nomatch z) A.st).le (by omega)⟩)⟩
end Unl
