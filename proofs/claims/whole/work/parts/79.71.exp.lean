/-! ===== read: expressions ===== -/
def FEp (N k : Nat) (b : Nat → Nat) (sg : Nat → Int32) (f u : MI) (c c' ka : Nat) (lc lr : PL) : Prop := (Sp f c lc) ∧ (c' = c + lc.length) ∧ (Rpp b N u ka lr) ∧ (u 65 0 (ka + lr.length) = 0) ∧ (ka + lr.length < 9000) ∧ (∀ x ∈ lc, okp k sg x) ∧ (∀ x ∈ lr, okp k sg x) ∧ (Sam lc lr) ∧ (Hi 62 lc 0) ∧ (Hi 62 lr 0)
theorem FEp.sp {N k : Nat} {b : Nat → Nat} {sg : Nat → Int32} {f u : MI} {c c' ka : Nat} {lc lr : PL} (x : FEp N k b sg f u c c' ka lc lr) : Sp f c lc := x.1
theorem FEp.cc {N k : Nat} {b : Nat → Nat} {sg : Nat → Int32} {f u : MI} {c c' ka : Nat} {lc lr : PL} (x : FEp N k b sg f u c c' ka lc lr) : c' = c + lc.length := x.2.1
theorem FEp.rp {N k : Nat} {b : Nat → Nat} {sg : Nat → Int32} {f u : MI} {c c' ka : Nat} {lc lr : PL} (x : FEp N k b sg f u c c' ka lc lr) : Rpp b N u ka lr := x.2.2.1
theorem FEp.ed {N k : Nat} {b : Nat → Nat} {sg : Nat → Int32} {f u : MI} {c c' ka : Nat} {lc lr : PL} (x : FEp N k b sg f u c c' ka lc lr) : u 65 0 (ka + lr.length) = 0 := x.2.2.2.1
theorem FEp.kl {N k : Nat} {b : Nat → Nat} {sg : Nat → Int32} {f u : MI} {c c' ka : Nat} {lc lr : PL} (x : FEp N k b sg f u c c' ka lc lr) : ka + lr.length < 9000 := x.2.2.2.2.1
theorem FEp.oc {N k : Nat} {b : Nat → Nat} {sg : Nat → Int32} {f u : MI} {c c' ka : Nat} {lc lr : PL} (x : FEp N k b sg f u c c' ka lc lr) : ∀ x ∈ lc, okp k sg x := x.2.2.2.2.2.1
theorem FEp.ok {N k : Nat} {b : Nat → Nat} {sg : Nat → Int32} {f u : MI} {c c' ka : Nat} {lc lr : PL} (x : FEp N k b sg f u c c' ka lc lr) : ∀ x ∈ lr, okp k sg x := x.2.2.2.2.2.2.1
theorem FEp.sm {N k : Nat} {b : Nat → Nat} {sg : Nat → Int32} {f u : MI} {c c' ka : Nat} {lc lr : PL} (x : FEp N k b sg f u c c' ka lc lr) : Sam lc lr := x.2.2.2.2.2.2.2.1
theorem FEp.hc {N k : Nat} {b : Nat → Nat} {sg : Nat → Int32} {f u : MI} {c c' ka : Nat} {lc lr : PL} (x : FEp N k b sg f u c c' ka lc lr) : Hi 62 lc 0 := x.2.2.2.2.2.2.2.2.1
theorem FEp.hr {N k : Nat} {b : Nat → Nat} {sg : Nat → Int32} {f u : MI} {c c' ka : Nat} {lc lr : PL} (x : FEp N k b sg f u c c' ka lc lr) : Hi 62 lr 0 := x.2.2.2.2.2.2.2.2.2
def EX1 (N k : Nat) (b : Nat → Nat) (sg : Nat → Int32) (f u : MI) (t c q : Nat) (f2 u2 : MI) (t' : Nat) (lc lr : PL) : Prop := (t < t') ∧ (PX f2 u2 N k b sg t') ∧ (f2 10 0 3 = nI (c + lc.length)) ∧ (u2 22 0 45 = nI (q + lr.length + 1)) ∧ (lc.length ≤ t' - t ∧ lr.length ≤ t' - t) ∧ (FEp N k b sg f2 u2 c (c + lc.length) q lc lr) ∧ (FrC c f f2) ∧ (FrQ q u u2)
theorem EX1.tt {N k : Nat} {b : Nat → Nat} {sg : Nat → Int32} {f u : MI} {t c q : Nat} {f2 u2 : MI} {t' : Nat} {lc lr : PL} (x : EX1 N k b sg f u t c q f2 u2 t' lc lr) : t < t' := x.1
theorem EX1.px {N k : Nat} {b : Nat → Nat} {sg : Nat → Int32} {f u : MI} {t c q : Nat} {f2 u2 : MI} {t' : Nat} {lc lr : PL} (x : EX1 N k b sg f u t c q f2 u2 t' lc lr) : PX f2 u2 N k b sg t' := x.2.1
theorem EX1.cc {N k : Nat} {b : Nat → Nat} {sg : Nat → Int32} {f u : MI} {t c q : Nat} {f2 u2 : MI} {t' : Nat} {lc lr : PL} (x : EX1 N k b sg f u t c q f2 u2 t' lc lr) : f2 10 0 3 = nI (c + lc.length) := x.2.2.1
theorem EX1.qu {N k : Nat} {b : Nat → Nat} {sg : Nat → Int32} {f u : MI} {t c q : Nat} {f2 u2 : MI} {t' : Nat} {lc lr : PL} (x : EX1 N k b sg f u t c q f2 u2 t' lc lr) : u2 22 0 45 = nI (q + lr.length + 1) := x.2.2.2.1
theorem EX1.ll {N k : Nat} {b : Nat → Nat} {sg : Nat → Int32} {f u : MI} {t c q : Nat} {f2 u2 : MI} {t' : Nat} {lc lr : PL} (x : EX1 N k b sg f u t c q f2 u2 t' lc lr) : lc.length ≤ t' - t ∧ lr.length ≤ t' - t := x.2.2.2.2.1
theorem EX1.fe {N k : Nat} {b : Nat → Nat} {sg : Nat → Int32} {f u : MI} {t c q : Nat} {f2 u2 : MI} {t' : Nat} {lc lr : PL} (x : EX1 N k b sg f u t c q f2 u2 t' lc lr) : FEp N k b sg f2 u2 c (c + lc.length) q lc lr := x.2.2.2.2.2.1
theorem EX1.fc {N k : Nat} {b : Nat → Nat} {sg : Nat → Int32} {f u : MI} {t c q : Nat} {f2 u2 : MI} {t' : Nat} {lc lr : PL} (x : EX1 N k b sg f u t c q f2 u2 t' lc lr) : FrC c f f2 := x.2.2.2.2.2.2.1
theorem EX1.fu {N k : Nat} {b : Nat → Nat} {sg : Nat → Int32} {f u : MI} {t c q : Nat} {f2 u2 : MI} {t' : Nat} {lc lr : PL} (x : EX1 N k b sg f u t c q f2 u2 t' lc lr) : FrQ q u u2 := x.2.2.2.2.2.2.2
def EB1 (f u : MI) (c q : Nat) (f2 u2 : MI) : Prop := (BAD f2 u2) ∧ (∃ c2 : Nat, c ≤ c2 ∧ c2 ≤ 4001 ∧ f2 10 0 3 = nI c2) ∧ (FrC c f f2) ∧ (FrQ q u u2)
theorem EB1.bd {f u : MI} {c q : Nat} {f2 u2 : MI} (x : EB1 f u c q f2 u2) : BAD f2 u2 := x.1
theorem EB1.cc {f u : MI} {c q : Nat} {f2 u2 : MI} (x : EB1 f u c q f2 u2) : ∃ c2 : Nat, c ≤ c2 ∧ c2 ≤ 4001 ∧ f2 10 0 3 = nI c2 := x.2.1
theorem EB1.fc {f u : MI} {c q : Nat} {f2 u2 : MI} (x : EB1 f u c q f2 u2) : FrC c f f2 := x.2.2.1
theorem EB1.fu {f u : MI} {c q : Nat} {f2 u2 : MI} (x : EB1 f u c q f2 u2) : FrQ q u u2 := x.2.2.2
/-- both before an E -/
def GX (N k : Nat) (b : Nat → Nat) (sg : Nat → Int32) (cn : Nat) (nt ns nn : Nat → Nat) (f u : MI) (t c q : Nat) : Prop := (PX f u N k b sg t) ∧ (f 10 0 3 = nI c) ∧ (c ≤ t) ∧ (u 22 0 45 = nI q) ∧ (q ≤ 2 * t) ∧ (NC f k sg cn nt ns nn) ∧ (NU u N k b sg cn nt ns nn)
theorem GX.px {N k : Nat} {b : Nat → Nat} {sg : Nat → Int32} {cn : Nat} {nt ns nn : Nat → Nat} {f u : MI} {t c q : Nat} (x : GX N k b sg cn nt ns nn f u t c q) : PX f u N k b sg t := x.1
theorem GX.cc {N k : Nat} {b : Nat → Nat} {sg : Nat → Int32} {cn : Nat} {nt ns nn : Nat → Nat} {f u : MI} {t c q : Nat} (x : GX N k b sg cn nt ns nn f u t c q) : f 10 0 3 = nI c := x.2.1
theorem GX.cl {N k : Nat} {b : Nat → Nat} {sg : Nat → Int32} {cn : Nat} {nt ns nn : Nat → Nat} {f u : MI} {t c q : Nat} (x : GX N k b sg cn nt ns nn f u t c q) : c ≤ t := x.2.2.1
theorem GX.qu {N k : Nat} {b : Nat → Nat} {sg : Nat → Int32} {cn : Nat} {nt ns nn : Nat → Nat} {f u : MI} {t c q : Nat} (x : GX N k b sg cn nt ns nn f u t c q) : u 22 0 45 = nI q := x.2.2.2.1
theorem GX.ql {N k : Nat} {b : Nat → Nat} {sg : Nat → Int32} {cn : Nat} {nt ns nn : Nat → Nat} {f u : MI} {t c q : Nat} (x : GX N k b sg cn nt ns nn f u t c q) : q ≤ 2 * t := x.2.2.2.2.1
theorem GX.nc {N k : Nat} {b : Nat → Nat} {sg : Nat → Int32} {cn : Nat} {nt ns nn : Nat → Nat} {f u : MI} {t c q : Nat} (x : GX N k b sg cn nt ns nn f u t c q) : NC f k sg cn nt ns nn := x.2.2.2.2.2.1
theorem GX.nz {N k : Nat} {b : Nat → Nat} {sg : Nat → Int32} {cn : Nat} {nt ns nn : Nat → Nat} {f u : MI} {t c q : Nat} (x : GX N k b sg cn nt ns nn f u t c q) : NU u N k b sg cn nt ns nn := x.2.2.2.2.2.2
section Exr
variable {L : Nat} {xs : Nat → Int32} {Y : MR × ML × (Nat → Nat) × Nat × Nat} {N k t c q cn : Nat} {b : Nat → Nat} {sg : Nat → Int32} {f f2 u u2 : MI} {nt ns nn : Nat → Nat}
theorem FEp.mv {c' ka C Q : Nat} {lc lr : PL} (F : FEp N k b sg f u c c' ka lc lr) (hf : ∀ i, i < C → f2 32 0 i = f 32 0 i) (hC : c' ≤ C) (hu : ∀ R i, (R = 65 ∨ R = 66 ∨ R = 67) → i < Q → u2 R 0 i = u R 0 i) (hQ : ka + lr.length < Q) : FEp N k b sg f2 u2 c c' ka lc lr :=
  ⟨Sp_lt hf (by rw [← F.cc]; exact hC) F.sp, F.cc, Rpp_lt hu (by omega) F.rp, (hu 65 _ (Or.inl rfl) hQ).trans F.ed, F.kl, F.oc, F.ok, F.sm, F.hc, F.hr⟩
/-- the class's sum beside the reference's E -/
theorem ex_sumE (G : GX N k b sg cn nt ns nn f u t c q) : ∃ f2 u2, (∀ d g X, 68 ≤ d → EL (mP L xs) d 73 [rv 13 (some 0), iv 0] (f, g, X) = some (.inl none, (f2, g, X))) ∧ (∀ d, 70 ≤ d → EL (mP L xs) d 118 [rv 22 (some 0)] (u, Y) = some (.inl (some (iv (nI q))), (u2, Y))) ∧ ((∃ t' lc lr, EX1 N k b sg f u t c q f2 u2 t' lc lr) ∨ EB1 f u c q f2 u2) := by
  have P := G.px
  have htk := P.tk
  have hkp := P.lc.kp
  have hql := G.ql
  have hcl := G.cl
  have F : FX N k b sg cn nt ns nn f (m3 u 22 0 55 0) t c q 0 := ⟨P.fr (fun _ _ _ _ => rfl) (fun R o i z => m3_no (by omega)), G.cc, G.cl, (m3_i (by decide)).trans G.qu, G.ql, m3_eq.trans rfl, by omega, G.nc, G.nz.frQ (FrQ.n55 (q := q))⟩
  obtain ⟨f2, u2, a1, a2, a3⟩ := ex_sums (L := L) (xs := xs) (Y := Y) t f _ c q 0 F
  have fU : ∀ d, EL (mP L xs) (d + 1) 118 [rv 22 (some 0)] (u, Y) = mclV (EL (mP L xs) d 117 [rv 22 (some 0)] (m3 u 22 0 55 0, Y)) (fun h1 => mclV (EL (mP L xs) d 111 [rv 22 (some 0), iv 0, iv 0, iv 0] h1) (fun h2 => some (.inl (some (iv (u 22 0 45))), h2)) (fun e h => some (.inr e, h))) (fun e h => some (.inr e, h)) := fun d => E_Ref_expression (u, Y)
  have hC : ∀ d g X, 68 ≤ d → EL (mP L xs) d 73 [rv 13 (some 0), iv 0] (f, g, X) = some (.inl none, (f2, g, X)) := fun d g X hd => a1 d g X (by omega)
  have hU : ∀ (q2 : Nat), u2 22 0 45 = nI q2 → q2 < 9000 → ∀ d, 70 ≤ d → EL (mP L xs) d 118 [rv 22 (some 0)] (u, Y) = some (.inl (some (iv (nI q))), (m3 (m3 (m3 (m3 u2 65 0 q2 0) 66 0 q2 0) 67 0 q2 0) 22 0 45 (nI (q2 + 1)), Y)) := fun q2 h2 hl d hd => by
    obtain ⟨d, rfl⟩ : ∃ d', d = d' + 2 := ⟨d - 2, by omega⟩
    rw [fU, a2 (d + 1) (by omega), clV, r_new h2 hl, clV, G.qu]
  rcases a3 with ⟨t', lc, lr, E⟩ | E
  · have ett := E.tt
    have ell := E.ll
    have epk := E.px.tk
    refine ⟨f2, _, hC, hU _ E.qu (by omega), Or.inl ⟨t', lc, lr, E.tt, E.px.fr (fun _ _ _ _ => rfl) (fun R o i z => by rw [m3_no (by omega), m3_no (by omega), m3_no (by omega), m3_no (by omega)]), E.cc, m3_eq, E.ll, ⟨E.sp, rfl, ?_, ?_, by omega, E.oc, E.ou, E.sm, Wf_hi E.wc (by omega), Wf_hi E.wr (by omega)⟩, E.fc, ((FrQ.n55 (q := q)).tr E.fu (Nat.le_refl q)).tr (FrQ.new (q := q + lr.length) (Nat.le_refl _)) (by omega)⟩⟩
    · exact Rpp_lt (m := q + lr.length) (fun R i hR hi => by rw [m3_no (by omega), m3_no (by omega), m3_no (by omega), m3_no (by omega)]) (Nat.le_refl _) E.rp
    · rw [m3_r (by decide), m3_r (by decide), m3_r (by decide), m3_eq]
  · obtain ⟨p0, q0, D2, y1, y2⟩ := E.bd
    obtain ⟨q2, z0, z1, z2⟩ := E.qu
    refine ⟨f2, _, hC, hU q2 z2 (by omega), Or.inr ⟨⟨p0, q0, D2, ?_, ?_⟩, E.cc, E.fc, ((FrQ.n55 (q := q)).tr E.fu (Nat.le_refl q)).tr (FrQ.new (q := q2) (Nat.le_refl _)) (by omega)⟩⟩
    · rw [m3_i (by decide), m3_r (by decide), m3_r (by decide), m3_r (by decide)]; exact y1
    · rw [m3_i (by decide), m3_r (by decide), m3_r (by decide), m3_r (by decide)]; exact y2
/-- an E, with its end -/
def EX2 (N k : Nat) (b : Nat → Nat) (sg : Nat → Int32) (f u : MI) (t c q : Nat) (f2 u2 : MI) (t' c' q' : Nat) : Prop := (t < t') ∧ (PX f2 u2 N k b sg t') ∧ (f2 10 0 3 = nI c') ∧ (c < c' ∧ c' ≤ t') ∧ (u2 22 0 45 = nI q') ∧ (q < q' ∧ q' ≤ 2 * t') ∧ (∃ c1 lc lr, FEp N k b sg f2 u2 c c1 q lc lr ∧ f2 32 0 c1 = 0 ∧ c1 < c' ∧ q + lr.length < q') ∧ (FrC c f f2) ∧ (FrQ q u u2) ∧ (NMI N k b sg f u c q → NMI N k b sg f2 u2 c' q')
theorem EX2.tt {N k : Nat} {b : Nat → Nat} {sg : Nat → Int32} {f u : MI} {t c q : Nat} {f2 u2 : MI} {t' c' q' : Nat} (x : EX2 N k b sg f u t c q f2 u2 t' c' q') : t < t' := x.1
theorem EX2.px {N k : Nat} {b : Nat → Nat} {sg : Nat → Int32} {f u : MI} {t c q : Nat} {f2 u2 : MI} {t' c' q' : Nat} (x : EX2 N k b sg f u t c q f2 u2 t' c' q') : PX f2 u2 N k b sg t' := x.2.1
theorem EX2.cc {N k : Nat} {b : Nat → Nat} {sg : Nat → Int32} {f u : MI} {t c q : Nat} {f2 u2 : MI} {t' c' q' : Nat} (x : EX2 N k b sg f u t c q f2 u2 t' c' q') : f2 10 0 3 = nI c' := x.2.2.1
theorem EX2.cl {N k : Nat} {b : Nat → Nat} {sg : Nat → Int32} {f u : MI} {t c q : Nat} {f2 u2 : MI} {t' c' q' : Nat} (x : EX2 N k b sg f u t c q f2 u2 t' c' q') : c < c' ∧ c' ≤ t' := x.2.2.2.1
theorem EX2.qu {N k : Nat} {b : Nat → Nat} {sg : Nat → Int32} {f u : MI} {t c q : Nat} {f2 u2 : MI} {t' c' q' : Nat} (x : EX2 N k b sg f u t c q f2 u2 t' c' q') : u2 22 0 45 = nI q' := x.2.2.2.2.1
theorem EX2.ql {N k : Nat} {b : Nat → Nat} {sg : Nat → Int32} {f u : MI} {t c q : Nat} {f2 u2 : MI} {t' c' q' : Nat} (x : EX2 N k b sg f u t c q f2 u2 t' c' q') : q < q' ∧ q' ≤ 2 * t' := x.2.2.2.2.2.1
theorem EX2.fe {N k : Nat} {b : Nat → Nat} {sg : Nat → Int32} {f u : MI} {t c q : Nat} {f2 u2 : MI} {t' c' q' : Nat} (x : EX2 N k b sg f u t c q f2 u2 t' c' q') : ∃ c1 lc lr, FEp N k b sg f2 u2 c c1 q lc lr ∧ f2 32 0 c1 = 0 ∧ c1 < c' ∧ q + lr.length < q' := x.2.2.2.2.2.2.1
theorem EX2.fc {N k : Nat} {b : Nat → Nat} {sg : Nat → Int32} {f u : MI} {t c q : Nat} {f2 u2 : MI} {t' c' q' : Nat} (x : EX2 N k b sg f u t c q f2 u2 t' c' q') : FrC c f f2 := x.2.2.2.2.2.2.2.1
theorem EX2.fu {N k : Nat} {b : Nat → Nat} {sg : Nat → Int32} {f u : MI} {t c q : Nat} {f2 u2 : MI} {t' c' q' : Nat} (x : EX2 N k b sg f u t c q f2 u2 t' c' q') : FrQ q u u2 := x.2.2.2.2.2.2.2.2.1
theorem EX2.nm {N k : Nat} {b : Nat → Nat} {sg : Nat → Int32} {f u : MI} {t c q : Nat} {f2 u2 : MI} {t' c' q' : Nat} (x : EX2 N k b sg f u t c q f2 u2 t' c' q') : NMI N k b sg f u c q → NMI N k b sg f2 u2 c' q' := x.2.2.2.2.2.2.2.2.2
theorem NMI_e1 {N k t c q t' : Nat} {b : Nat → Nat} {sg : Nat → Int32} {f u f2 u2 : MI} {lc lr : PL} (E : EX1 N k b sg f u t c q f2 u2 t' lc lr) (h : NMI N k b sg f u c q) : NMI N k b sg f2 u2 (c + lc.length) (q + lr.length + 1) := by
  have hk := E.px.lc.kp.2
  refine ⟨?_, fun i hi => ?_⟩
  · show nmU u2 (q + lr.length) ++ (if u2 65 0 (q + lr.length) = 7 then [u2 66 0 (q + lr.length)] else []) = _
    rw [E.fe.ed, if_neg (by decide), List.append_nil, nmU_rp hk E.fe.rp E.fe.ok, nmC_sp hk E.fe.sp E.fe.oc, nmC_cg (f := f) (fun i hi => E.fc 32 0 i (by omega)), nmU_cg (u := u) (fun R i hR hi => E.fu R 0 i (by omega)), List.map_append, E.fe.sm.2, h.1]
  · by_cases e : i < c
    · rw [E.fc 32 0 i (by omega)]
      exact h.2 i e
    · obtain ⟨j, rfl⟩ : ∃ j, i = c + j := ⟨i - c, by omega⟩
      have key : ∀ (l : PL) (c j : Nat), Sp f2 c l → (∀ x ∈ l, okp k sg x) → j < l.length → ClO k sg (f2 32 0 (c + j)) := by
        intro l
        induction l with
        | nil => intro c j _ _ h; exact absurd h (Nat.not_lt_zero j)
        | cons x l ih =>
          intro c j h1 h2 h3
          cases j with
          | zero =>
            have ox := h2 x List.mem_cons_self
            obtain ⟨r1, r2, -⟩ := okp_r hk ox
            refine ⟨x.1, x.2, r1, r2, h1.1, fun e => ?_⟩
            unfold okp at ox
            rcases ox with ⟨o, -⟩ | ⟨o, -⟩ | ⟨-, o1, o2, -⟩ | ⟨o, -⟩ | ⟨o, -⟩
            · omega
            · omega
            · exact ⟨o1, o2⟩
            · omega
            · omega
          | succ j =>
            have := ih (c + 1) j h1.2 (fun y hy => h2 y (List.mem_cons_of_mem _ hy)) (by rw [List.length_cons] at h3; omega)
            rw [show c + (j + 1) = c + 1 + j by omega]
            exact this
      exact key lc c j E.fe.sp E.fe.oc (by omega)
theorem ed_put {p0 q0 : Int32} (E : ED f p0 q0) (hc : f 10 0 3 = nI c) (h : c ≤ 4001) (w v : Int32) : ∃ f2, (∀ d g X, EL (mP L xs) (d + 1) 68 [rv 10 (some 0), iv w, iv v] (f, g, X) = some (.inl none, (f2, g, X))) ∧ ED f2 p0 q0 ∧ (∃ c2 : Nat, c ≤ c2 ∧ c2 ≤ 4001 ∧ f2 10 0 3 = nI c2) ∧ FrC c f f2 := by
  obtain ⟨f3, c3', a1, a2, a3, a4, a5⟩ := c_putE (L := L) (xs := xs) hc h w v
  exact ⟨f3, a1, E.fr (a5 20 0 5 (by omega)) (a5 20 0 6 (by omega)) (a5 20 0 7 (by omega)) (a5 20 0 8 (by omega)) (a5 34 0 4000 (by omega)), ⟨c3', a3, a4, a2⟩, fun R o i y => a5 R o i (by omega)⟩
theorem ed_expr {p0 q0 : Int32} (E : ED f p0 q0) (hc : f 10 0 3 = nI c) (h : c ≤ 4001) : ∃ f2, (∀ d g X, EL (mP L xs) (d + 6) 74 [rv 13 (some 0)] (f, g, X) = some (.inl (some (iv (nI c))), (f2, g, X))) ∧ ED f2 p0 q0 ∧ (∃ c2 : Nat, c ≤ c2 ∧ c2 ≤ 4001 ∧ f2 10 0 3 = nI c2) ∧ FrC c f f2 := by
  obtain ⟨f2, a1, a2, a3, a4⟩ := ed_put (L := L) (xs := xs) E hc h 0 0
  refine ⟨f2, fun d g X => ?_, a2, a3, a4⟩
  rw [E_FormulaReader_expression, E_Code_here, clI, ed_sum E, clV, a1, clV]
  show some (Sum.inl (some (iv (f 10 0 3))), _) = _
  rw [hc]
theorem ex_expr (G : GX N k b sg cn nt ns nn f u t c q) (hc1 : c + 1 ≤ t) : ∃ f2 u2, (∀ d g X, 70 ≤ d → EL (mP L xs) d 74 [rv 13 (some 0)] (f, g, X) = some (.inl (some (iv (nI c))), (f2, g, X))) ∧ (∀ d, 70 ≤ d → EL (mP L xs) d 118 [rv 22 (some 0)] (u, Y) = some (.inl (some (iv (nI q))), (u2, Y))) ∧ ((∃ t' c' q', EX2 N k b sg f u t c q f2 u2 t' c' q') ∨ EB1 f u c q f2 u2) := by
  have htk := G.px.tk
  have hkp := G.px.lc.kp
  have hql := G.ql
  obtain ⟨f2, u2, a1, a2, a3⟩ := ex_sumE (L := L) (xs := xs) (Y := Y) G
  have keyC : ∀ d g X, 69 ≤ d → EL (mP L xs) (d + 1) 74 [rv 13 (some 0)] (f, g, X) = mclV (EL (mP L xs) d 68 [rv 10 (some 0), iv 0, iv 0] (f2, g, X)) (fun h4 => some (.inl (some (iv (nI c))), h4)) (fun e h => some (.inr e, h)) := fun d g X hd => by
    obtain ⟨d, rfl⟩ : ∃ d', d = d' + 1 := ⟨d - 1, by omega⟩
    rw [E_FormulaReader_expression, E_Code_here, clI, a1 (d + 1) g X (by omega), clV]
    show mclV _ (fun h4 => some (.inl (some (iv (f 10 0 3))), h4)) _ = _
    rw [G.cc]
  rcases a3 with ⟨t', lc, lr, E⟩ | E
  · have ett := E.tt
    have ell := E.ll
    have epk := E.px.tk
    have hput := fun d g X => c_put (L := L) (xs := xs) (d := d) (g := g) (X := X) (w := 0) (v := 0) E.cc (show c + lc.length < 4001 by omega) (by decide) (by decide)
    have hput' : ∀ d g X, EL (mP L xs) (d + 1) 68 [rv 10 (some 0), iv 0, iv 0] (f2, g, X) = some (.inl none, (m3 (m3 f2 32 0 (c + lc.length) (nI (0 + 32 * 0))) 10 0 3 (nI (c + lc.length + 1)), g, X)) := hput
    refine ⟨_, u2, fun d g X hd => ?_, a2, Or.inl ⟨t', c + lc.length + 1, q + lr.length + 1, ⟨E.tt, E.px.fr (f2 := m3 (m3 f2 32 0 (c + lc.length) (nI (0 + 32 * 0))) 10 0 3 (nI (c + lc.length + 1))) (fun R o i w => by rw [m3_no (by omega), m3_no (by omega)]) (fun _ _ _ _ => rfl), m3_eq, by omega, E.qu, by omega, ⟨c + lc.length, lc, lr, ?_, ?_, by omega, by omega⟩, E.fc.tr (FrC.put (Nat.le_refl _)) (by omega), E.fu, fun nm => ?_⟩⟩⟩
    · obtain ⟨d, rfl⟩ : ∃ d', d = d' + 2 := ⟨d - 2, by omega⟩
      rw [keyC (d + 1) g X (by omega), hput', clV]
    · exact E.fe.mv (C := c + lc.length) (Q := q + lr.length + 1) (fun i hi => by rw [m3_no (by omega), m3_no (by omega)]) (Nat.le_refl _) (fun _ _ _ _ => rfl) (by omega)
    · rw [m3_r (by decide), m3_eq]; rfl
    · exact NMI_c1 (NMI_e1 E nm) (fun i hi => by rw [m3_no (by omega), m3_no (by omega)]) (by rw [m3_r (by decide), m3_eq]; exact ClN_v (a := 0) (by decide) (by decide) 0 (by decide)) (fun _ _ _ _ => rfl)
  · obtain ⟨p0, q0, D2, y1, y2⟩ := E.bd
    obtain ⟨c2, z0, z1, z2⟩ := E.cc
    obtain ⟨f3, b1, b2, ⟨c3, w0, w1, w2⟩, b4⟩ := ed_put (L := L) (xs := xs) D2 z2 z1 0 0
    refine ⟨f3, u2, fun d g X hd => ?_, a2, Or.inr ⟨⟨p0, q0, b2, y1, y2⟩, ⟨c3, by omega, w1, w2⟩, E.fc.tr b4 z0, E.fu⟩⟩
    obtain ⟨d, rfl⟩ : ∃ d', d = d' + 2 := ⟨d - 2, by omega⟩
    rw [keyC (d + 1) g X (by omega), b1, clV]
end Exr
