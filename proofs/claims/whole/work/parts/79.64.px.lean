/-! ===== read: the class's token beside the reference's ===== -/
def TK (s tk w nm : Int32) (v : Nat) : Prop := (s = 0 ∧ tk = 0) ∨ (s = 1 ∧ tk = 4) ∨ (s = 2 ∧ tk = 2 ∧ nm = nI v) ∨ (s = 300 ∧ tk = 1 ∧ w = -1) ∨ (∃ i, i < 51 ∧ s = nI (301 + i) ∧ tk = 1 ∧ w = nI (wm i)) ∨ (∃ c, sgn c ∧ s = nI c ∧ tk = 3 ∧ nm = nI c) ∨ (∃ c, jn c ∧ s = nI (128 + c) ∧ tk = 3 ∧ nm = nI (256 + c))
theorem TK_of {b : Nat → Nat} {p e : Nat} {s tk w nm : Int32} (h1 : SRT b p e s) (h2 : TRT b p e tk w nm) : TK s tk w nm (nv b p (e - p)) := by
  rcases h1 with ⟨a1, a2, a3⟩ | ⟨a1, a2, a3⟩ | ⟨a1, a2, a3, a4⟩ | ⟨a1, a2, a3, a4⟩ | ⟨a1, a2, a3, a4, a5⟩ | ⟨a1, a2, a3, a4, a5⟩ | ⟨a1, a2, a3, a4, a5⟩ <;>
  rcases h2 with ⟨b1, b2, b3⟩ | ⟨b1, b2, b3, b4⟩ | ⟨b1, b2, b3, b4⟩ | ⟨b1, b2, b3, b4, b5⟩ | ⟨b1, b2, b3, b4, b5, b6⟩ | ⟨b1, b2, b3, b4, b5, b6⟩ | ⟨b1, b2, b3, b4, b5⟩ <;>
  first
  | exact absurd (a1.symm.trans b1) (by decide)
  | exact absurd (a2.symm.trans b2) (by decide)
  | (exfalso; omega)
  | exact Or.inr (Or.inl ⟨a3, b3⟩)
  | exact Or.inr (Or.inl ⟨a4, b4⟩)
  | exact Or.inr (Or.inr (Or.inl ⟨a4, b4, b5⟩))
  | (exfalso; exact b4 a4)
  | (exfalso; exact a4 b4)
  | exact Or.inr (Or.inr (Or.inr (Or.inr (Or.inr (Or.inr ⟨b p, a4, a5, b5, b6⟩)))))
  | exact Or.inr (Or.inr (Or.inr (Or.inr (Or.inr (Or.inl ⟨b p, a4, a5, b5, b6⟩)))))
  | exact Or.inr (Or.inl ⟨a5, b5⟩)
  | (rcases a3 with ⟨i, i1, i2, i3⟩ | ⟨a3, a4⟩
     · rcases b4 with ⟨k, k1, k2, k3⟩ | ⟨b4, b5⟩
       · have hw : wm i < 51 := by
           have : ∀ i, i < 51 → wm i < 51 := by decide +kernel
           exact this i i1
         have e := mr_uni k1 hw k3 i3
         exact Or.inr (Or.inr (Or.inr (Or.inr (Or.inl ⟨i, i1, i2, b3, by rw [k2, e]⟩))))
       · have hw : wm i < 51 := by
           have : ∀ i, i < 51 → wm i < 51 := by decide +kernel
           exact this i i1
         exact absurd i3 (b5 _ hw)
     · rcases b4 with ⟨k, k1, k2, k3⟩ | ⟨b4, b5⟩
       · exact absurd k3 (a4 k k1)
       · exact Or.inr (Or.inr (Or.inr (Or.inl ⟨a3, b3, b4⟩))))
theorem jn_lt {c : Nat} (h : jn c) : c < 63 := by
  unfold jn at h
  omega
theorem tk_sign {s tk w nm : Int32} {v c : Nat} (h : TK s tk w nm v) (h1 : 2 < c) (h2 : c < 128) : (s = nI c) = (tk = 3 ∧ nm = nI c) := by
  have n0 : ¬ (0 : Int32) = nI c := fun e => by have := (nI_eq (a := 0) (by omega) (by omega)).mp e; omega
  have n1 : ¬ (1 : Int32) = nI c := fun e => by have := (nI_eq (a := 1) (by omega) (by omega)).mp e; omega
  have n2 : ¬ (2 : Int32) = nI c := fun e => by have := (nI_eq (a := 2) (by omega) (by omega)).mp e; omega
  have n3 : ¬ (300 : Int32) = nI c := fun e => by have := (nI_eq (a := 300) (by omega) (by omega)).mp e; omega
  rcases h with ⟨a, b⟩ | ⟨a, b⟩ | ⟨a, b, -⟩ | ⟨a, b, -⟩ | ⟨i, i1, a, b, -⟩ | ⟨x, x1, a, b, e⟩ | ⟨x, x1, a, b, e⟩
  · subst a; subst b; exact propext ⟨fun z => absurd z n0, fun z => absurd z.1 (by decide)⟩
  · subst a; subst b; exact propext ⟨fun z => absurd z n1, fun z => absurd z.1 (by decide)⟩
  · subst a; subst b; exact propext ⟨fun z => absurd z n2, fun z => absurd z.1 (by decide)⟩
  · subst a; subst b; exact propext ⟨fun z => absurd z n3, fun z => absurd z.1 (by decide)⟩
  · subst a; subst b; exact propext ⟨fun z => by have := (nI_eq (by omega) (by omega)).mp z; omega, fun z => absurd z.1 (by decide)⟩
  · subst a; subst b; subst e
    exact propext ⟨fun z => ⟨rfl, z⟩, fun z => z.2⟩
  · have := jn_lt x1
    subst a; subst b; subst e
    exact propext ⟨fun z => by have := (nI_eq (by omega) (by omega)).mp z; omega, fun z => by have := (nI_eq (by omega) (by omega)).mp z.2; omega⟩
theorem tk_word {s tk w nm : Int32} {v j : Nat} (h : TK s tk w nm v) (hj : j < 51) : (s = nI (301 + j)) = (tk = 1 ∧ w = nI (wm j)) := by
  have wl : ∀ i, i < 51 → wm i < 51 := by decide +kernel
  have hw := wl j hj
  rcases h with ⟨a, b⟩ | ⟨a, b⟩ | ⟨a, b, -⟩ | ⟨a, b, c⟩ | ⟨i, i1, a, b, c⟩ | ⟨x, x1, a, b, e⟩ | ⟨x, x1, a, b, e⟩
  · subst a; subst b; exact propext ⟨fun z => by have := (nI_eq (a := 0) (by omega) (by omega)).mp z; omega, fun z => absurd z.1 (by decide)⟩
  · subst a; subst b; exact propext ⟨fun z => by have := (nI_eq (a := 1) (by omega) (by omega)).mp z; omega, fun z => absurd z.1 (by decide)⟩
  · subst a; subst b; exact propext ⟨fun z => by have := (nI_eq (a := 2) (by omega) (by omega)).mp z; omega, fun z => absurd z.1 (by decide)⟩
  · subst a; subst b; subst c; exact propext ⟨fun z => by have := (nI_eq (a := 300) (by omega) (by omega)).mp z; omega, fun z => absurd z.2.symm (nI_ne1 (by omega))⟩
  · have hw2 := wl i i1
    subst a; subst b; subst c
    refine propext ⟨fun z => ⟨rfl, ?_⟩, fun z => ?_⟩
    · have := (nI_eq (by omega) (by omega)).mp z
      rw [show i = j by omega]
    · have := wm_inj i i1 j hj ((nI_eq (by omega) (by omega)).mp z.2)
      rw [this]
  · have := sgn_lt x1
    subst a; subst b
    exact propext ⟨fun z => by have := (nI_eq (by omega) (by omega)).mp z; omega, fun z => absurd z.1 (by decide)⟩
  · have := jn_lt x1
    subst a; subst b
    exact propext ⟨fun z => by have := (nI_eq (by omega) (by omega)).mp z; omega, fun z => absurd z.1 (by decide)⟩
theorem tk_num {s tk w nm : Int32} {v : Nat} (h : TK s tk w nm v) : ((s = 2) = (tk = 2)) ∧ (s = 2 → nm = nI v) := by
  rcases h with ⟨a, b⟩ | ⟨a, b⟩ | ⟨a, b, c⟩ | ⟨a, b, -⟩ | ⟨i, i1, a, b, c⟩ | ⟨x, x1, a, b, e⟩ | ⟨x, x1, a, b, e⟩
  · subst a; subst b; exact ⟨by decide, fun z => absurd z (by decide)⟩
  · subst a; subst b; exact ⟨by decide, fun z => absurd z (by decide)⟩
  · subst a; subst b; exact ⟨rfl, fun _ => c⟩
  · subst a; subst b; exact ⟨by decide, fun z => absurd z (by decide)⟩
  · have n : ¬ nI (301 + i) = 2 := fun z => by have := (nI_eq (b := 2) (by omega) (by decide)).mp z; omega
    subst a; subst b; exact ⟨propext ⟨fun z => absurd z n, fun z => absurd z (by decide)⟩, fun z => absurd z n⟩
  · have hx := sgn_lt x1
    have n : ¬ nI x = 2 := fun z => by have := (nI_eq (b := 2) (by omega) (by decide)).mp z; omega
    subst a; subst b; exact ⟨propext ⟨fun z => absurd z n, fun z => absurd z (by decide)⟩, fun z => absurd z n⟩
  · have hx := jn_lt x1
    have n : ¬ nI (128 + x) = 2 := fun z => by have := (nI_eq (b := 2) (by omega) (by decide)).mp z; omega
    subst a; subst b; exact ⟨propext ⟨fun z => absurd z n, fun z => absurd z (by decide)⟩, fun z => absurd z n⟩
/-- a word or none; a name; the end -/
theorem tk_cls {s tk w nm : Int32} {v : Nat} (h : TK s tk w nm v) : ((s < 300) = ¬ (tk = 1)) ∧ ((s = 300) = (tk = 1 ∧ w = -1)) ∧ ((s = 0) = (tk = 0)) ∧ (tk = 1 → s = 300 ∨ ∃ i, i < 51 ∧ s = nI (301 + i) ∧ w = nI (wm i)) := by
  have wl : ∀ i, i < 51 → wm i < 51 := by decide +kernel
  rcases h with ⟨a, b⟩ | ⟨a, b⟩ | ⟨a, b, c⟩ | ⟨a, b, c⟩ | ⟨i, i1, a, b, c⟩ | ⟨x, x1, a, b, e⟩ | ⟨x, x1, a, b, e⟩
  · subst a; subst b; exact ⟨by decide, propext ⟨fun z => absurd z (by decide), fun z => absurd z.1 (by decide)⟩, rfl, fun z => absurd z (by decide)⟩
  · subst a; subst b; exact ⟨by decide, propext ⟨fun z => absurd z (by decide), fun z => absurd z.1 (by decide)⟩, by decide, fun z => absurd z (by decide)⟩
  · subst a; subst b; exact ⟨by decide, propext ⟨fun z => absurd z (by decide), fun z => absurd z.1 (by decide)⟩, by decide, fun z => absurd z (by decide)⟩
  · subst a; subst b; subst c; exact ⟨by decide, propext ⟨fun _ => ⟨rfl, rfl⟩, fun _ => rfl⟩, by decide, fun _ => Or.inl rfl⟩
  · have hw := wl i i1
    have n1 : ¬ nI (301 + i) < 300 := nI_nlt (a := 301 + i) (b := 300) (by omega) (by omega)
    have n2 : ¬ nI (301 + i) = 300 := fun z => by have := (nI_eq (b := 300) (by omega) (by decide)).mp z; omega
    have n3 : ¬ nI (301 + i) = 0 := fun z => by have := (nI_eq (b := 0) (by omega) (by decide)).mp z; omega
    subst a; subst b; subst c
    exact ⟨propext ⟨fun z => absurd z n1, fun z => absurd rfl z⟩, propext ⟨fun z => absurd z n2, fun z => absurd z.2 (nI_ne1 (by omega))⟩, propext ⟨fun z => absurd z n3, fun z => absurd z (by decide)⟩, fun _ => Or.inr ⟨i, i1, rfl, rfl⟩⟩
  · have hx := sgn_lt x1
    have n1 : nI x < 300 := nI_lt (b := 300) (by omega) (by decide)
    have n2 : ¬ nI x = 300 := fun z => by have := (nI_eq (b := 300) (by omega) (by decide)).mp z; omega
    have n3 : ¬ nI x = 0 := fun z => by have := (nI_eq (b := 0) (by omega) (by decide)).mp z; omega
    subst a; subst b
    exact ⟨propext ⟨fun _ => by decide, fun _ => n1⟩, propext ⟨fun z => absurd z n2, fun z => absurd z.1 (by decide)⟩, propext ⟨fun z => absurd z n3, fun z => absurd z (by decide)⟩, fun z => absurd z (by decide)⟩
  · have hx := jn_lt x1
    have n1 : nI (128 + x) < 300 := nI_lt (b := 300) (by omega) (by decide)
    have n2 : ¬ nI (128 + x) = 300 := fun z => by have := (nI_eq (b := 300) (by omega) (by decide)).mp z; omega
    have n3 : ¬ nI (128 + x) = 0 := fun z => by have := (nI_eq (b := 0) (by omega) (by decide)).mp z; omega
    subst a; subst b
    exact ⟨propext ⟨fun _ => by decide, fun _ => n1⟩, propext ⟨fun z => absurd z n2, fun z => absurd z.1 (by decide)⟩, propext ⟨fun z => absurd z n3, fun z => absurd z (by decide)⟩, fun z => absurd z (by decide)⟩
/-- both readers at token t, no fault yet -/
def PX (f u : MI) (N k : Nat) (b : Nat → Nat) (sg : Nat → Int32) (t : Nat) : Prop := (LC f N b k sg) ∧ (TU u N b) ∧ (t < k) ∧ (f 20 0 6 = nI t) ∧ (f 20 0 7 = 0) ∧ (u 22 0 12 = 0) ∧ (u 22 0 13 = -1) ∧ (CUT b N (tS b N t) u)
theorem PX.lc {f u : MI} {N k : Nat} {b : Nat → Nat} {sg : Nat → Int32} {t : Nat} (x : PX f u N k b sg t) : LC f N b k sg := x.1
theorem PX.tu {f u : MI} {N k : Nat} {b : Nat → Nat} {sg : Nat → Int32} {t : Nat} (x : PX f u N k b sg t) : TU u N b := x.2.1
theorem PX.tk {f u : MI} {N k : Nat} {b : Nat → Nat} {sg : Nat → Int32} {t : Nat} (x : PX f u N k b sg t) : t < k := x.2.2.1
theorem PX.at_ {f u : MI} {N k : Nat} {b : Nat → Nat} {sg : Nat → Int32} {t : Nat} (x : PX f u N k b sg t) : f 20 0 6 = nI t := x.2.2.2.1
theorem PX.fc {f u : MI} {N k : Nat} {b : Nat → Nat} {sg : Nat → Int32} {t : Nat} (x : PX f u N k b sg t) : f 20 0 7 = 0 := x.2.2.2.2.1
theorem PX.fu {f u : MI} {N k : Nat} {b : Nat → Nat} {sg : Nat → Int32} {t : Nat} (x : PX f u N k b sg t) : u 22 0 12 = 0 := x.2.2.2.2.2.1
theorem PX.f13 {f u : MI} {N k : Nat} {b : Nat → Nat} {sg : Nat → Int32} {t : Nat} (x : PX f u N k b sg t) : u 22 0 13 = -1 := x.2.2.2.2.2.2.1
theorem PX.cu {f u : MI} {N k : Nat} {b : Nat → Nat} {sg : Nat → Int32} {t : Nat} (x : PX f u N k b sg t) : CUT b N (tS b N t) u := x.2.2.2.2.2.2.2
/-- the class behind a fault -/
def ED (f : MI) (q p : Int32) : Prop := (q ≠ 0) ∧ (f 20 0 7 = q) ∧ (f 20 0 8 = p) ∧ (f 20 0 6 = 4000) ∧ (f 34 0 4000 = 0) ∧ (∃ k : Nat, k ≤ 4001 ∧ f 20 0 5 = nI k)
theorem ED.qn {f : MI} {q p : Int32} (x : ED f q p) : q ≠ 0 := x.1
theorem ED.fa {f : MI} {q p : Int32} (x : ED f q p) : f 20 0 7 = q := x.2.1
theorem ED.pl {f : MI} {q p : Int32} (x : ED f q p) : f 20 0 8 = p := x.2.2.1
theorem ED.at_ {f : MI} {q p : Int32} (x : ED f q p) : f 20 0 6 = 4000 := x.2.2.2.1
theorem ED.so {f : MI} {q p : Int32} (x : ED f q p) : f 34 0 4000 = 0 := x.2.2.2.2.1
theorem ED.kt {f : MI} {q p : Int32} (x : ED f q p) : ∃ k : Nat, k ≤ 4001 ∧ f 20 0 5 = nI k := x.2.2.2.2.2
/-- both behind the same fault -/
def BAD (f u : MI) : Prop := ∃ q p : Int32, ED f q p ∧ u 22 0 12 = q ∧ u 22 0 13 = p
section Pxs
variable {L : Nat} {xs : Nat → Int32} {d : Nat} {g : MR} {X : ML × (Nat → Nat) × Nat × Nat} {Y : MR × ML × (Nat → Nat) × Nat × Nat} {N k t : Nat} {b : Nat → Nat} {sg : Nat → Int32} {f f2 u u2 : MI}
theorem tS_k (C : LC f N b k sg) (h : t < k) (hs : sg t ≠ 0) : tS b N t < N := by
  by_cases z : t + 1 < k
  · exact (C.mid t z).1
  · have e : k - 1 = t := by omega
    rcases C.lst with ⟨h1, h2⟩ | ⟨h1, h2, -⟩
    · rw [e] at h2
      exact absurd h2 hs
    · rw [e] at h1
      exact h1
theorem PX.srt (P : PX f u N k b sg t) : (tS b N t = N ∧ sg t = 0) ∨ (tS b N t < N ∧ SRT b (tS b N t) (tE b N t) (sg t)) := by
  by_cases z : t + 1 < k
  · exact Or.inr ⟨(P.lc.mid t z).1, (P.lc.mid t z).2.1⟩
  · have htk := P.tk
    have e : k - 1 = t := by omega
    rcases P.lc.lst with ⟨h1, h2⟩ | ⟨h1, h2, h3⟩
    · rw [e] at h1 h2
      exact Or.inl ⟨h1, h2⟩
    · rw [e] at h1 h2 h3
      exact Or.inr ⟨h1, by rw [h2]; exact h3⟩
theorem PX.tkk (P : PX f u N k b sg t) : TK (sg t) (u 22 0 7) (u 22 0 11) (u 22 0 10) (nv b (tS b N t) (tE b N t - tS b N t)) := by
  obtain ⟨c1, c2⟩ := P.cu
  rcases P.srt with ⟨h1, h2⟩ | ⟨h1, h2⟩
  · rcases c2 with ⟨-, -, -, c3, -⟩ | ⟨c3, -⟩
    · exact Or.inl ⟨h2, c3⟩
    · omega
  · rcases c2 with ⟨c3, -⟩ | ⟨-, c3, c4, c5⟩
    · omega
    · rw [← (tE_in h1).1] at c5
      exact TK_of h2 c5
theorem PX.bg (P : PX f u N k b sg t) : u 22 0 8 = nI (tS b N t) := P.cu.1
theorem PX.en (P : PX f u N k b sg t) : u 22 0 9 = nI (tE b N t) ∧ u 22 0 6 = nI (tE b N t) := by
  obtain ⟨c1, c2⟩ := P.cu
  rcases c2 with ⟨c3, c4, c5, -⟩ | ⟨c3, c4, c5, -⟩
  · have : tE b N t = N := tE_N (by omega)
    rw [this]
    exact ⟨c4, c5⟩
  · rw [(tE_in c3).1]
    exact ⟨c4, c5⟩
theorem px_sort (P : PX f u N k b sg t) : EL (mP L xs) (d + 1) 40 [rv 20 (some 0)] (f, g, X) = some (.inl (some (iv (sg t))), (f, g, X)) := by
  have h1 := P.tk
  have h2 := P.lc.kp
  rw [E_Text_sort]
  simp only [P.at_, if_neg (nI_pos (show t < 2 ^ 31 by omega)), if_pos (show nI t < 4001 from nI_lt (b := 4001) (by omega) (by decide)), if_neg (nin (show t < 4001 by omega) (show 4001 < 2 ^ 31 by decide)), nI_clamp (show t < 2 ^ 31 by omega), (P.lc.ar t h1).1]
theorem px_start (P : PX f u N k b sg t) : EL (mP L xs) (d + 1) 43 [rv 20 (some 0)] (f, g, X) = some (.inl (some (iv (nI (tS b N t)))), (f, g, X)) := by
  have h1 := P.tk
  have h2 := P.lc.kp
  rw [E_Text_start]
  simp only [P.at_, if_neg (nI_pos (show t < 2 ^ 31 by omega)), if_pos (show nI t < 4001 from nI_lt (b := 4001) (by omega) (by decide)), if_neg (nin (show t < 4001 by omega) (show 4001 < 2 ^ 31 by decide)), nI_clamp (show t < 2 ^ 31 by omega), (P.lc.ar t h1).2.1]
theorem px_isWord (P : PX f u N k b sg t) : EL (mP L xs) (d + 2) 48 [rv 20 (some 0)] (f, g, X) = some (.inl (some (iv (if sg t < 300 then 0 else 1))), (f, g, X)) := by
  rw [E_Text_isWord, px_sort P, clI, ite_val]
theorem LC_fr (C : LC f N b k sg) (h : ∀ R o i, (R = 34 ∨ R = 35 ∨ R = 36 ∨ R = 40 ∨ (R = 20 ∧ (i = 4 ∨ i = 5))) → f2 R o i = f R o i) : LC f2 N b k sg := by
  refine ⟨⟨C.tc.nl, (h 20 0 4 (by omega)).trans C.tc.fl, fun i hi => (h 40 0 i (by omega)).trans (C.tc.fb i hi), C.tc.bb⟩, C.kp, (h 20 0 5 (by omega)).trans C.kt, fun i hi => ?_, C.mid, C.lst⟩
  rw [h 34 0 i (by omega), h 35 0 i (by omega), h 36 0 i (by omega)]
  exact C.ar i hi
theorem CUT_fr {s : Nat} (C : CUT b N s u) (h : ∀ i, 6 ≤ i → i ≤ 11 → u2 22 0 i = u 22 0 i) : CUT b N s u2 := by
  unfold CUT at C ⊢
  rw [h 6 (by omega) (by omega), h 7 (by omega) (by omega), h 8 (by omega) (by omega), h 9 (by omega) (by omega), h 10 (by omega) (by omega), h 11 (by omega) (by omega)]
  exact C
/-- nothing of the text's changed -/
theorem PX.fr (P : PX f u N k b sg t) (hf : ∀ R o i, (R = 34 ∨ R = 35 ∨ R = 36 ∨ R = 40 ∨ R = 20) → f2 R o i = f R o i) (hu : ∀ R o i, (R = 44 ∨ (R = 22 ∧ 5 ≤ i ∧ i ≤ 13)) → u2 R o i = u R o i) : PX f2 u2 N k b sg t :=
  ⟨LC_fr P.lc (fun R o i h => hf R o i (by omega)), ⟨P.tu.nl, (hu 22 0 5 (by omega)).trans P.tu.ul, fun i hi => (hu 44 0 i (by omega)).trans (P.tu.ub i hi), P.tu.bb⟩, P.tk, (hf 20 0 6 (by omega)).trans P.at_, (hf 20 0 7 (by omega)).trans P.fc, (hu 22 0 12 (by omega)).trans P.fu, (hu 22 0 13 (by omega)).trans P.f13, CUT_fr P.cu (fun i h1 h2 => hu 22 0 i (by omega))⟩
theorem EL_up {P : MP} {c d m : Nat} {as : List MV} {h : MH} {x : MO} (hq : EL P c m as h = some x) (hd : c ≤ d) : EL P d m as h = some x := EL_mono hd hq
/-- the next token -/
theorem px_adv (P : PX f u N k b sg t) (h0 : sg t ≠ 0) (h1 : sg t ≠ 1) : (∀ d g X, EL (mP L xs) (d + 1) 42 [rv 20 (some 0)] (f, g, X) = some (.inl none, (m3 f 20 0 6 (nI (t + 1)), g, X))) ∧ ∃ u2, EL (mP L xs) 7 101 [rv 22 (some 0)] (u, Y) = some (.inl none, (u2, Y)) ∧ Fr6 u u2 ∧ PX (m3 f 20 0 6 (nI (t + 1))) u2 N k b sg (t + 1) := by
  have htk := P.tk
  have hkp := P.lc.kp
  have hk1 : t + 1 < k := by
    by_cases z : t + 1 < k
    · exact z
    · have e : k - 1 = t := by omega
      rcases P.lc.lst with ⟨-, h2⟩ | ⟨-, h2, -⟩
      · rw [e] at h2; exact absurd h2 h0
      · rw [e] at h2; exact absurd h2 h1
  obtain ⟨m1, m2, m3'⟩ := P.lc.mid t hk1
  obtain ⟨e1, e2, e3, e4⟩ := tE_in m1
  refine ⟨fun d g X => ?_, ?_⟩
  · rw [E_Text_advance]
    simp only [P.at_, nI_1, P.lc.kt]
    rw [if_pos (nI_lt hk1 (by omega))]
  · obtain ⟨u2, a1, a2, a3⟩ := r_cut (L := L) (xs := xs) (d := 0) (Y := Y) P.tu e3 P.en.2
    refine ⟨u2, a1, a2, LC_fr P.lc (fun R o i h => m3_no (by omega)), P.tu.fr a2, hk1, m3_eq, (m3_i (by decide)).trans P.fc, (a2 22 0 12 (by omega)).trans P.fu, (a2 22 0 13 (by omega)).trans P.f13, ?_⟩
    rw [e4]
    exact a3
/-- a fault, told by both -/
theorem px_ref (P : PX f u N k b sg t) {q : Int32} (hq : q ≠ 0) : ∃ f2 u2, (∀ d g X, EL (mP L xs) (d + 1) 41 [rv 20 (some 0), iv q] (f, g, X) = some (.inl none, (f2, g, X))) ∧ (∀ d, EL (mP L xs) (d + 1) 102 [rv 22 (some 0), iv q, iv (u 22 0 8)] (u, Y) = some (.inl none, (u2, Y))) ∧ ED f2 q (nI (tS b N t)) ∧ u2 = m3 (m3 u 22 0 12 q) 22 0 13 (nI (tS b N t)) ∧ BAD f2 u2 ∧ (∀ R o i, ¬ (R = 34 ∨ R = 20) → f2 R o i = f R o i) := by
  have htk := P.tk
  have hkp := P.lc.kp
  have e1 : (m3 f 20 0 7 q) 20 0 6 = nI t := (m3_i (by decide)).trans P.at_
  have e2 : (m3 f 20 0 7 q) 35 0 t = nI (tS b N t) := (m3_r (by decide)).trans (P.lc.ar t htk).2.1
  have hE : ED (m3 (m3 (m3 (m3 f 20 0 7 q) 20 0 8 (nI (tS b N t))) 20 0 6 4000) 34 0 4000 0) q (nI (tS b N t)) := by
    refine ⟨hq, ?_, ?_, ?_, m3_eq, k, hkp.2, ?_⟩
    · rw [m3_r (by decide), m3_i (by decide), m3_i (by decide), m3_eq]
    · rw [m3_r (by decide), m3_i (by decide), m3_eq]
    · rw [m3_r (by decide), m3_eq]
    · rw [m3_r (by decide), m3_i (by decide), m3_i (by decide), m3_i (by decide)]
      exact P.lc.kt
  refine ⟨_, _, fun d g X => ?_, fun d => ?_, hE, rfl, ⟨q, nI (tS b N t), hE, ?_, m3_eq⟩, fun R o i h => ?_⟩
  · rw [E_Text_refuse]
    simp only [P.fc, if_true, e1, if_neg (nI_pos (show t < 2 ^ 31 by omega)), if_pos (show nI t < 4001 from nI_lt (b := 4001) (by omega) (by decide)), if_neg (nin (show t < 4001 by omega) (show 4001 < 2 ^ 31 by decide)), nI_clamp (show t < 2 ^ 31 by omega), e2]
  · rw [E_Ref_wrong, if_pos P.fu, P.bg]
  · rw [m3_i (by decide), m3_eq]
  · rw [m3_no (by omega), m3_no (by omega), m3_no (by omega), m3_no (by omega)]
/-- the class behind a fault: nothing more is said -/
theorem ed_sort {q p : Int32} (E : ED f q p) : EL (mP L xs) (d + 1) 40 [rv 20 (some 0)] (f, g, X) = some (.inl (some (iv 0)), (f, g, X)) := by
  rw [E_Text_sort]
  simp only [E.at_, if_neg (show ¬ (4000 : Int32) < 0 by decide), if_pos (show (4000 : Int32) < 4001 by decide), if_neg (show ¬ ino (4000 : Int32) 4001 from nin (n := 4000) (by decide) (by decide))]
  rw [show (4000 : Int32).toNatClampNeg = 4000 from rfl, E.so]
theorem ed_ref {q p v : Int32} (E : ED f q p) : EL (mP L xs) (d + 1) 41 [rv 20 (some 0), iv v] (f, g, X) = some (.inl none, (f, g, X)) := by
  rw [E_Text_refuse]
  simp only [E.fa, if_neg E.qn]
theorem ed_adv {q p : Int32} (E : ED f q p) : EL (mP L xs) (d + 1) 42 [rv 20 (some 0)] (f, g, X) = some (.inl none, (f, g, X)) := by
  obtain ⟨k, k1, k2⟩ := E.kt
  rw [E_Text_advance]
  simp only [E.at_, k2]
  rw [if_neg (show ¬ (4000 : Int32) + 1 < nI k from nI_nlt (a := 4001) (b := k) k1 (by decide))]
theorem ed_exp {q p v : Int32} (E : ED f q p) (hv : v ≠ 0) : EL (mP L xs) (d + 2) 46 [rv 20 (some 0), iv v] (f, g, X) = some (.inl none, (f, g, X)) := by
  rw [E_Text_expect, ed_sort E, clI, if_neg (fun e => hv e.symm), ed_ref E, clV]
theorem ed_isWord {q p : Int32} (E : ED f q p) : EL (mP L xs) (d + 2) 48 [rv 20 (some 0)] (f, g, X) = some (.inl (some (iv 0)), (f, g, X)) := by
  rw [E_Text_isWord, ed_sort E, clI, if_pos (by decide)]
theorem ED.fr {q p : Int32} (E : ED f q p) (h5 : f2 20 0 5 = f 20 0 5) (h6 : f2 20 0 6 = f 20 0 6) (h7 : f2 20 0 7 = f 20 0 7) (h8 : f2 20 0 8 = f 20 0 8) (h34 : f2 34 0 4000 = f 34 0 4000) : ED f2 q p := by
  obtain ⟨k, k1, k2⟩ := E.kt
  exact ⟨E.qn, h7.trans E.fa, h8.trans E.pl, h6.trans E.at_, h34.trans E.so, k, k1, h5.trans k2⟩
/-- expect beside need -/
theorem px_isSign (P : PX f u N k b sg t) {c : Nat} (h1 : 2 < c) (h2 : c < 128) : EL (mP L xs) (d + 1) 108 [rv 22 (some 0), iv (nI c)] (u, Y) = some (.inl (some (iv (if sg t = nI c then 1 else 0))), (u, Y)) := by
  rw [E_Ref_isSign]
  have e := tk_sign P.tkk h1 h2
  by_cases z : sg t = nI c
  · obtain ⟨z1, z2⟩ := e.mp z
    rw [if_pos z1, if_pos z2, if_pos z]
  · rw [if_neg z]
    by_cases y : u 22 0 7 = 3
    · rw [if_pos y, if_neg (fun w => z (e.mpr ⟨y, w⟩))]
    · rw [if_neg y]
theorem px_isW (P : PX f u N k b sg t) {j : Nat} (hj : j < 51) : EL (mP L xs) (d + 1) 120 [rv 22 (some 0), iv (nI (wm j))] (u, Y) = some (.inl (some (iv (if sg t = nI (301 + j) then 1 else 0))), (u, Y)) := by
  rw [E_Ref_isWord]
  have e := tk_word P.tkk hj
  by_cases z : sg t = nI (301 + j)
  · obtain ⟨z1, z2⟩ := e.mp z
    rw [if_pos z1, if_pos z2, if_pos z]
  · rw [if_neg z]
    by_cases y : u 22 0 7 = 1
    · rw [if_pos y, if_neg (fun w => z (e.mpr ⟨y, w⟩))]
    · rw [if_neg y]
theorem px_need (P : PX f u N k b sg t) {c : Nat} (h1 : 2 < c) (h2 : c < 128) : ∃ f2 u2, (∀ d g X, EL (mP L xs) (d + 2) 46 [rv 20 (some 0), iv (nI c)] (f, g, X) = some (.inl none, (f2, g, X))) ∧
    ((sg t = nI c ∧ EL (mP L xs) 8 112 [rv 22 (some 0), iv (nI c)] (u, Y) = some (.inl (some (iv 1)), (u2, Y)) ∧ Fr6 u u2 ∧ f2 = m3 f 20 0 6 (nI (t + 1)) ∧ PX f2 u2 N k b sg (t + 1)) ∨ (EL (mP L xs) 8 112 [rv 22 (some 0), iv (nI c)] (u, Y) = some (.inl (some (iv 0)), (u2, Y)) ∧ BAD f2 u2 ∧ (∀ R o i, ¬ (R = 34 ∨ R = 20) → f2 R o i = f R o i) ∧ (∀ R o i, ¬ (R = 22 ∧ (i = 12 ∨ i = 13)) → u2 R o i = u R o i))) := by
  have hs := fun d Y => px_isSign (L := L) (xs := xs) (d := d) (Y := Y) P h1 h2
  by_cases z : sg t = nI c
  · have n0 : sg t ≠ 0 := fun e => by rw [z] at e; have := (nI_eq (b := 0) (by omega) (by decide)).mp e; omega
    have n1 : sg t ≠ 1 := fun e => by rw [z] at e; have := (nI_eq (b := 1) (by omega) (by decide)).mp e; omega
    obtain ⟨a1, u2, a2, a3, a4⟩ := px_adv (L := L) (xs := xs) (Y := Y) P n0 n1
    refine ⟨_, u2, fun d g X => ?_, Or.inl ⟨z, ?_, a3, rfl, a4⟩⟩
    · rw [E_Text_expect, px_sort P, clI, if_pos z, a1, clV]
    · rw [E_Ref_need, hs 6 Y, clI, if_pos z, if_neg (by decide), a2, clV, if_pos a4.fu]
  · obtain ⟨f2, u2, a1, a2, a3, a4, a5, a6⟩ := px_ref (L := L) (xs := xs) (Y := Y) P (q := 1) (by decide)
    refine ⟨f2, u2, fun d g X => ?_, Or.inr ⟨?_, a5, a6, fun R o i h => ?_⟩⟩
    · rw [E_Text_expect, px_sort P, clI, if_neg z, a1, clV]
    · rw [E_Ref_need, hs 6 Y, clI, if_neg z, if_pos rfl, a2 6, clV, if_neg]
      show ¬ u2 22 0 12 = 0
      rw [a4, m3_i (by decide), m3_eq]
      decide
    · rw [a4, m3_no (by omega), m3_no (by omega)]
/-- the class's number -/
theorem nm_loop (T : TC f N b) {p e : Nat} (he : e ≤ N) : ∀ (j q : Nat), q + j = e → p ≤ q → (∀ i, i < e - p → isD (b (p + i)) = true) → RL (mP L xs) (d + 1) 44 40 [some (rv 20 (some 0)), some (iv (nI (nv b p (q - p)))), some (iv (nI e)), some (iv (nI q))] [] (f, g, X) = some (.inl (some (iv (nI (nv b p (e - p))))), (f, g, X))
  | 0, q, hq, hp, hd => by
    have hN := T.nl
    have e1 : q = e := by omega
    subst e1
    rw [K_Text_number_40, if_neg (nI_nlt (Nat.le_refl q) (by omega))]
  | j + 1, q, hq, hp, hd => by
    have hN := T.nl
    have hdq := hd (q - p) (by omega)
    rw [show p + (q - p) = q by omega] at hdq
    have h9 := isD_ne hdq
    have hcb : cb (b q) = nI (b q) := (cb_is (T.bb q) (by omega)).mpr rfl
    have ih := nm_loop T (p := p) he j (q + 1) (by omega) (by omega) hd
    have ev : nv b p (q + 1 - p) = 10 * nv b p (q - p) + b q - 48 := by
      rw [show q + 1 - p = (q - p) + 1 by omega]
      show 10 * nv b p (q - p) + b (p + (q - p)) - 48 = _
      rw [show p + (q - p) = q by omega]
    rw [K_Text_number_40, if_pos (nI_lt (show q < e by omega) (by omega)), c_bt (h := (f, g, X)) T (show q < 2 ^ 31 by omega), bt_in (show q < N by omega), clI, hcb, nI_1, show (10 : Int32) = nI 10 from rfl, nI_mul, nI_add, show nI (nv b p (q - p) * 10 + b q) - 48 = nI (nv b p (q - p) * 10 + b q - 48) from nI_sub (a := nv b p (q - p) * 10 + b q) (b := 48) (by omega), show nv b p (q - p) * 10 + b q - 48 = nv b p (q + 1 - p) by rw [ev]; omega]
    exact ih
theorem dj_all {b : Nat → Nat} : ∀ (j p i : Nat), p ≤ i → i < dj b j p → isD (b i) = true
  | 0, p, i, h1, h2 => absurd h2 (by unfold dj; omega)
  | j + 1, p, i, h1, h2 => by
    unfold dj at h2
    cases hz : isD (b p) with
    | false => rw [hz, cond_false] at h2; exact absurd h2 (by omega)
    | true =>
      rw [hz, cond_true] at h2
      by_cases y : i = p
      · subst y; exact hz
      · exact dj_all j (p + 1) i (by omega) h2
theorem px_num (P : PX f u N k b sg t) (h2 : sg t = 2) : ∃ v : Nat, v < 10000 ∧ u 22 0 10 = nI v ∧ ∀ d g X, EL (mP L xs) (d + 2) 44 [rv 20 (some 0)] (f, g, X) = some (.inl (some (iv (nI v))), (f, g, X)) := by
  have htk := P.tk
  have hkp := P.lc.kp
  have hnm := (tk_num P.tkk).2 h2
  have n0 : sg t ≠ 0 := by rw [h2]; decide
  have hs := tS_k P.lc htk n0
  obtain ⟨e1, e2, e3, e4⟩ := tE_in hs
  have hS : SRT b (tS b N t) (tE b N t) 2 := by
    rcases P.srt with ⟨h3, h4⟩ | ⟨h3, h4⟩
    · rw [h2] at h4; exact absurd h4 (by decide)
    · rw [h2] at h4; exact h4
  have hD : isL (b (tS b N t)) = false ∧ isD (b (tS b N t)) = true ∧ tE b N t - tS b N t ≤ 4 := by
    rcases hS with ⟨a1, a2, a3⟩ | ⟨a1, a2, a3⟩ | ⟨a1, a2, a3, a4⟩ | ⟨a1, a2, a3, a4⟩ | ⟨a1, a2, a3, a4, a5⟩ | ⟨a1, a2, a3, a4, a5⟩ | ⟨a1, a2, a3, a4, a5⟩
    · exact absurd a3 (by decide)
    · rcases a3 with ⟨i, i1, i2, -⟩ | ⟨a3, -⟩
      · have := (nI_eq (a := 2) (by omega) (by omega)).mp i2
        omega
      · exact absurd a3 (by decide)
    · exact absurd a4 (by decide)
    · exact ⟨a1, a2, a3⟩
    · have hx := jn_lt a4
      have := (nI_eq (a := 2) (by omega) (by omega)).mp a5
      omega
    · have hx := sgn_lt a4
      have := (nI_eq (a := 2) (by omega) (by omega)).mp a5
      omega
    · exact absurd a5 (by decide)
  have hd : ∀ i, i < tE b N t - tS b N t → isD (b (tS b N t + i)) = true := fun i hi => by
    by_cases y : i = 0
    · subst y; exact hD.2.1
    · have hw : tE b N t = dj b (N - (tS b N t + 1)) (tS b N t + 1) := by
        rw [e1]
        unfold tend
        rw [hD.1, cond_false, hD.2.1, cond_true]
      exact dj_all (b := b) (N - (tS b N t + 1)) (tS b N t + 1) (tS b N t + i) (by omega) (by rw [← hw]; omega)
  have hv : nv b (tS b N t) (tE b N t - tS b N t) < 10000 := by
    have h3 := nv_lt (b := b) (p := tS b N t) (tE b N t - tS b N t) hd
    exact Nat.lt_of_lt_of_le h3 (Nat.pow_le_pow_right (n := 10) (j := 4) (by decide) hD.2.2)
  refine ⟨_, hv, hnm, fun d g X => ?_⟩
  rw [E_Text_number]
  simp only [P.at_, if_neg (nI_pos (show t < 2 ^ 31 by omega)), if_pos (show nI t < 4001 from nI_lt (b := 4001) (by omega) (by decide)), if_neg (nin (show t < 4001 by omega) (show 4001 < 2 ^ 31 by decide)), nI_clamp (show t < 2 ^ 31 by omega), (P.lc.ar t htk).2.2, px_start P, clI]
  have := nm_loop (L := L) (xs := xs) (d := d) (g := g) (X := X) P.lc.tc (p := tS b N t) (e := tE b N t) e3 (tE b N t - tS b N t) (tS b N t) (by omega) (Nat.le_refl _) hd
  rw [Nat.sub_self] at this
  exact this
end Pxs
