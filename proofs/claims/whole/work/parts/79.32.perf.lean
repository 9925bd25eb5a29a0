/-! ===== a step is done ===== -/
section Perf
variable {L : Nat} {xs : Nat → Int32} {d : Nat} {X : ML × (Nat → Nat) × Nat × Nat} {Y : MR × ML × (Nat → Nat) × Nat × Nat}
variable {B n s q : Nat} {rd ps en dp : Nat → Nat} {lp : Nat → Option Nat} {f f1 : MI} {g : MR} {u u1 : MI} {r a : Nat}
theorem TT.live (T : TT B n s q rd ps en dp lp f g u) (hr : r < n) (h : g 18 r 3 = some a) : Live f g u rd ps dp r a := by
  rcases (T.rr r hr).po with ⟨b, A⟩ | ⟨h1, -⟩ | ⟨h1, -⟩
  · have e : some b = some a := A.sp.symm.trans h
    cases e
    exact A
  · rw [h1] at h; cases h
  · rw [h1] at h; cases h
theorem SS_mid (T : TT B n s q rd ps en dp lp f g u) (M : Mid rd f f1 u u1 r) : SS n s q rd ps en dp lp f1 g u1 := by
  refine ⟨T.n12, ?_⟩
  rw [mk_sub stC_nd M.e1, mk_sub stU_nd M.e2]
  exact T.st
/-- one step of the class and of the reference -/
def RES (L : Nat) (xs : Nat → Int32) (d : Nat) (X : ML × (Nat → Nat) × Nat × Nat) (Y : MR × ML × (Nat → Nat) × Nat × Nat) (B n s q : Nat) (rd ps en dp : Nat → Nat) (lp : Nat → Option Nat) (r : Nat) (f : MI) (g : MR) (u : MI) (a : Nat) : Prop :=
  ∃ (v : Int32) (f1 : MI) (g1 : MR) (b : Bool) (u1 : MI), EL (mP L xs) (d + 12) 182 [rv 17 (some 0), rv 16 (some r), rv 18 (some r), rv 19 (some a)] (f, g, X) = some (.inl (some (iv v)), (f1, g1, X)) ∧ EL (mP L xs) (d + 12) 227 [rv 22 (some 0), iv (nI r)] (u, Y) = some (.inl (some (iv (bI b))), (u1, Y)) ∧
  ((v = 0 ∧ PG L xs (B + 2) n s q rd ps en dp lp r f1 g1 u1 ∧ (b = false → u1 82 0 r ≠ 0)) ∨ (v = -1 ∧ b = false ∧ PG L xs (B + 2) n s q rd ps en dp lp r f1 g1 u1) ∨
   (0 < v ∧ b = true ∧ ∃ f2 g2, EL (mP L xs) (d + 12) 186 [rv 17 (some 0), rv 16 (some r), iv v] (f1, g1, X) = some (.inl none, (f2, g2, X)) ∧ PG L xs (B + 2) n s q rd ps en dp lp r f2 g2 u1))
theorem PG.le {B' : Nat} (h : PG L xs B n s q rd ps en dp lp r f g u) (hb : B ≤ B') : PG L xs B' n s q rd ps en dp lp r f g u := by
  obtain ⟨⟨f2, g2, a1, a2, a3⟩, b, c⟩ := h
  exact ⟨⟨f2, g2, a1, a2.le hb, a3⟩, b, c⟩
/-- on to what is behind a step -/
theorem p_adv (T : TT B n s q rd ps en dp lp f g u) (hB : B < 2 ^ 30) (hr : r < n) (ha : rd a = r) (hk : f 19 a 0 ≠ 401) (M : Mid rd f f1 u u1 r) (h0 : u1 82 0 r = 0) (hA : AT f1 g u1 dp r (g 19 a 2)) :
    ∃ o u2, (∀ d X, EL (mP L xs) (d + 2) 168 [rv 19 (some a)] (f1, g, X) = some (.inl (some (rv 19 o)), (f1, g, X))) ∧ (∀ d Y, EL (mP L xs) (d + 3) 217 [rv 22 (some 0), iv (nI r), iv (nI (en a))] (u1, Y) = some (.inl none, (u2, Y))) ∧ PG L xs (B + 1) n s q rd ps en dp lp r (m3 f1 18 r 4 0) (m3 g 18 r 3 o) u2 := by
  have S := SS_mid T M
  have hk1 : f1 19 a 0 ≠ 401 := by rw [mk_at M.e1 19 a 0 rfl]; exact hk
  obtain ⟨o, k, h1, h2, h3⟩ := p_beh (L := L) (xs := xs) S hr ha ((T.loc hr ha).de hk) hk1 hA
  obtain ⟨u2, h4, h5⟩ := p_go (L := L) (xs := xs) T hB hr M h0 h3 h2
  exact ⟨o, u2, h1, h4, h5⟩
/-- the stall, as RES wants it -/
theorem res_stall (T : TT B n s q rd ps en dp lp f1 g u1) (hB : B + 2 < 2 ^ 30) (hr : r < n) (h : g 18 r 3 = some a) {v : Int32} (hv : 0 < v)
    (h1 : EL (mP L xs) (d + 12) 182 [rv 17 (some 0), rv 16 (some r), rv 18 (some r), rv 19 (some a)] (f, g, X) = some (.inl (some (iv v)), (f1, g, X)))
    (h2 : ∀ u2, (∀ d Y, EL (mP L xs) (d + 4) 218 [rv 22 (some 0), iv (nI r), iv v] (u1, Y) = some (.inl none, (u2, Y))) → EL (mP L xs) (d + 12) 227 [rv 22 (some 0), iv (nI r)] (u, Y) = some (.inl (some (iv 1)), (u2, Y))) :
    RES L xs d X Y B n s q rd ps en dp lp r f g u a := by
  obtain ⟨f2, g2, u2, p1, p2, p3⟩ := p_stall (L := L) (xs := xs) T hB hr (T.live hr h) v
  exact ⟨v, f1, g, true, u2, h1, h2 u2 p2, Or.inr (Or.inr ⟨hv, rfl, f2, g2, p1 (d + 7) X, p3⟩)⟩
/-- goes on behind the step, as RES wants it -/
theorem res_adv (T : TT B n s q rd ps en dp lp f1 g u1) (hB : B < 2 ^ 30) (hr : r < n) (h : g 18 r 3 = some a) (hk : f1 19 a 0 ≠ 401)
    (h1 : ∀ o, (∀ d X, EL (mP L xs) (d + 2) 168 [rv 19 (some a)] (f1, g, X) = some (.inl (some (rv 19 o)), (f1, g, X))) → EL (mP L xs) (d + 12) 182 [rv 17 (some 0), rv 16 (some r), rv 18 (some r), rv 19 (some a)] (f, g, X) = some (.inl (some (iv 0)), (m3 f1 18 r 4 0, m3 g 18 r 3 o, X)))
    (h2 : ∀ u2, (∀ d Y, EL (mP L xs) (d + 3) 217 [rv 22 (some 0), iv (nI r), iv (nI (en a))] (u1, Y) = some (.inl none, (u2, Y))) → EL (mP L xs) (d + 12) 227 [rv 22 (some 0), iv (nI r)] (u, Y) = some (.inl (some (iv 1)), (u2, Y))) :
    RES L xs d X Y B n s q rd ps en dp lp r f g u a := by
  have A := T.live hr h
  obtain ⟨o, u2, p1, p2, p3⟩ := p_adv (L := L) (xs := xs) T hB hr A.rd hk (Mid.rf T hr) A.st A.tn
  exact ⟨0, m3 f1 18 r 4 0, m3 g 18 r 3 o, true, u2, h1 o p1, h2 u2 p2, Or.inl ⟨rfl, p3.le (by omega), (fun z => nomatch z)⟩⟩
end Perf
