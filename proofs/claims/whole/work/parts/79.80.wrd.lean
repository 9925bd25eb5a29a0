/-! ===== read: a step's word ===== -/
def W1 (f : MI) (A : Nat) (w0 pl : Int32) (t st : Nat) : MI := m3 (m3 (NF f A w0 pl) 12 0 6 (nI (st + 1))) 20 0 6 (nI (t + 1))
def iss (p : Int32) : Int32 := if p < 4 then (if p < 41 then 0 else (if 44 < p then 0 else 1)) else (if 22 < p then (if p < 41 then 0 else (if 44 < p then 0 else 1)) else 1)
section Wrd
variable {L : Nat} {xs : Nat → Int32} {Y : MR × ML × (Nat → Nat) × Nat × Nat} {N k t c q s kk st A cn sl fl r kd m : Nat} {b : Nat → Nat} {sg : Nat → Int32} {f f2 u u2 : MI} {g g2 : MR} {X X2 : ML × (Nat → Nat) × Nat × Nat} {nt ns nn : Nat → Nat} {o gd l : Option Nat} {gv lv : Int32}
theorem r_iss {d : Nat} (p : Int32) (h : MH) : EL (mP L xs) (d + 1) 109 [iv p] h = some (.inl (some (iv (iss p))), h) := by
  rw [E_Ref_isStep]
  unfold iss
  simp only [ite_val]
theorem c_45 (P : PX f u N k b sg t) (hA : X.2.1 19 = A) {d : Nat} (v1 v5 v6 w0 : Int32) (v4 : Option Nat) : RL (mP L xs) (d + 1) 80 45 [some (rv 12 (some 0)), some (iv v1), some (rv 19 o), some (rv 19 gd), some (rv 16 v4), some (iv v5), some (iv v6), none, none] [iv w0] (f, g, X) = (if v6 = 0 then (if v5 < 301 then (mclV (EL (mP L xs) (d + 1) 41 [rv 20 (some 0), iv 1] (NF f A w0 (nI (tS b N t)), NG g A o gd, NX X A)) (fun h4 => RL (mP L xs) (d + 1) 80 138 [some (rv 12 (some 0)), some (iv v1), some (rv 19 o), some (rv 19 gd), some (rv 16 v4), some (iv v5), some (iv v6), some (iv w0), some (rv 19 (some A))] [] h4) (fun e h => some (.inr e, h))) else (if 319 < v5 then (mclV (EL (mP L xs) (d + 1) 41 [rv 20 (some 0), iv 1] (NF f A w0 (nI (tS b N t)), NG g A o gd, NX X A)) (fun h5 => RL (mP L xs) (d + 1) 80 138 [some (rv 12 (some 0)), some (iv v1), some (rv 19 o), some (rv 19 gd), some (rv 16 v4), some (iv v5), some (iv v6), some (iv w0), some (rv 19 (some A))] [] h5) (fun e h => some (.inr e, h))) else (RL (mP L xs) (d + 1) 80 99 [some (rv 12 (some 0)), some (iv v1), some (rv 19 o), some (rv 19 gd), some (rv 16 v4), some (iv v5), some (iv v6), some (iv w0), some (rv 19 (some A))] [] (NF f A w0 (nI (tS b N t)), NG g A o gd, NX X A)))) else (RL (mP L xs) (d + 1) 80 99 [some (rv 12 (some 0)), some (iv v1), some (rv 19 o), some (rv 19 gd), some (rv 16 v4), some (iv v5), some (iv v6), some (iv w0), some (rv 19 (some A))] [] (NF f A w0 (nI (tS b N t)), NG g A o gd, NX X A))) := by
  have P2 : PX (m2 f 19 A 0) u N k b sg t := P.fr (fun R o i z => by unfold m2; rw [if_neg (by omega)]) (fun _ _ _ _ => rfl)
  rw [K_FairReader_step_45]
  simp only [hA, px_start P2, clI, E_Step_init, clV]
  rfl
theorem nI_33 : ∀ i, i < 19 → nI (301 + i) < 320 ∧ ¬ nI (301 + i) < 301 ∧ ¬ 319 < nI (301 + i) := by decide +kernel
theorem nI_34 : ∀ j, j < 4 → ¬ nI (320 + j) < 320 ∧ ¬ 323 < nI (320 + j) ∧ nI (320 + j) - 320 = nI j := by decide +kernel
theorem nI_35 : ∀ i, i < 51 → 23 ≤ i → ¬ nI (301 + i) < 320 ∧ 323 < nI (301 + i) ∧ 319 < nI (301 + i) ∧ ¬ nI (301 + i) < 301 := by decide +kernel
theorem iss_v : ∀ i, i < 51 → iss (nI (wm i)) = if i < 23 then 1 else 0 := by decide +kernel
theorem wm_r : ∀ j, j < 4 → wm (19 + j) = 41 + j := by decide +kernel
/-- what both do at a step's word -/
theorem st_word (H : SX N k b sg cn nt ns nn sl fl r kd f u t c q s kk st) (hA : X.2.1 19 = A) (hch : CH A f g m o l) (hm : m ≤ 9) (hl : u 22 0 54 = lv) (hlv : (lv = -1) = (l = none)) :
    (∃ i u1, i < 19 ∧ sg t = nI (301 + i) ∧ fitb kd i l.isSome = true ∧ SX N k b sg cn nt ns nn sl fl r kd (W1 f A (nI (301 + i)) (nI (tS b N t)) t st) u1 (t + 1) c q s kk (st + 1) ∧ (∀ R o i, ¬ (R = 22 ∧ ((6 ≤ i ∧ i ≤ 11) ∨ i = 53)) → u1 R o i = u R o i) ∧
      (∀ d, 8 ≤ d → EL (mP L xs) (d + 1) 80 [rv 12 (some 0), iv (nI (m + 1)), rv 19 o, rv 19 gd, rv 16 (some r)] (f, g, X) = mclV (EL (mP L xs) d 79 [rv 12 (some 0), rv 19 (some A), iv (nI (m + 1)), rv 16 (some r)] (W1 f A (nI (301 + i)) (nI (tS b N t)) t st, NG g A o gd, NX X A)) (fun h2 => some (.inl (some (rv 19 (some A))), h2)) (fun e h => some (.inr e, h))) ∧ (∀ d, 8 ≤ d → EL (mP L xs) (d + 1) 124 [rv 22 (some 0), iv (nI (m + 1)), iv gv] (u, Y) = (if nI (wm i) < 17 then RL (mP L xs) d 124 116 [some (rv 22 (some 0)), some (iv (nI (m + 1))), some (iv gv), some (iv (nI (tS b N t))), some (iv (nI (wm i)))] [] (u1, Y) else if 20 < nI (wm i) then RL (mP L xs) d 124 116 [some (rv 22 (some 0)), some (iv (nI (m + 1))), some (iv gv), some (iv (nI (tS b N t))), some (iv (nI (wm i)))] [] (u1, Y) else mclV (EL (mP L xs) d 123 [rv 22 (some 0), iv (nI (wm i)), iv (nI (tS b N t)), iv (nI (m + 1)), iv gv] (u1, Y)) (fun h2 => some (.inl none, h2)) (fun e h => some (.inr e, h))))) ∨
    (∃ j u1, j < 4 ∧ SX N k b sg cn nt ns nn sl fl r kd (W1 f A 400 (nI (tS b N t)) t st) u1 (t + 1) c q s kk (st + 1) ∧ (∀ R o i, ¬ (R = 22 ∧ ((6 ≤ i ∧ i ≤ 11) ∨ i = 53)) → u1 R o i = u R o i) ∧
      (∀ d, 8 ≤ d → EL (mP L xs) (d + 1) 80 [rv 12 (some 0), iv (nI (m + 1)), rv 19 o, rv 19 gd, rv 16 (some r)] (f, g, X) = mclV (EL (mP L xs) d 46 [rv 20 (some 0), iv 61] (m3 (W1 f A 400 (nI (tS b N t)) t st) 19 A 5 (nI j), NG g A o gd, NX X A)) (fun h4 => mclV (EL (mP L xs) d 79 [rv 12 (some 0), rv 19 (some A), iv (nI (m + 1)), rv 16 (some r)] h4) (fun h5 => some (.inl (some (rv 19 (some A))), h5)) (fun e h => some (.inr e, h))) (fun e h => some (.inr e, h))) ∧ (∀ d, 8 ≤ d → EL (mP L xs) (d + 1) 124 [rv 22 (some 0), iv (nI (m + 1)), iv gv] (u, Y) = RL (mP L xs) d 124 116 [some (rv 22 (some 0)), some (iv (nI (m + 1))), some (iv gv), some (iv (nI (tS b N t))), some (iv (nI (41 + j)))] [] (u1, Y))) ∨
    (∃ f2 g2 u2 X2, (∀ d, 13 ≤ d → EL (mP L xs) (d + 1) 80 [rv 12 (some 0), iv (nI (m + 1)), rv 19 o, rv 19 gd, rv 16 (some r)] (f, g, X) = some (.inl (some (rv 19 (some A))), (f2, g2, X2))) ∧ (∀ d, 13 ≤ d → EL (mP L xs) (d + 1) 124 [rv 22 (some 0), iv (nI (m + 1)), iv gv] (u, Y) = some (.inl none, (u2, Y))) ∧ SB k t c q s kk A none f g u X f2 g2 u2 X2) := by
  have P := H.gx.px
  have htk := P.tk
  have hkp := P.lc.kp
  have hcl := H.gx.cl
  have hsb := H.sb
  have bg := P.bg
  have c80 : ∀ d, EL (mP L xs) (d + 2) 80 [rv 12 (some 0), iv (nI (m + 1)), rv 19 o, rv 19 gd, rv 16 (some r)] (f, g, X) = if sg t < 320 then (RL (mP L xs) (d + 1) 80 45 [some (rv 12 (some 0)), some (iv (nI (m + 1))), some (rv 19 o), some (rv 19 gd), some (rv 16 (some r)), some (iv (sg t)), some (iv 0), none, none] [iv (sg t)] (f, g, X)) else (if 323 < sg t then (RL (mP L xs) (d + 1) 80 45 [some (rv 12 (some 0)), some (iv (nI (m + 1))), some (rv 19 o), some (rv 19 gd), some (rv 16 (some r)), some (iv (sg t)), some (iv 0), none, none] [iv (sg t)] (f, g, X)) else (RL (mP L xs) (d + 1) 80 45 [some (rv 12 (some 0)), some (iv (nI (m + 1))), some (rv 19 o), some (rv 19 gd), some (rv 16 (some r)), some (iv (sg t)), some (iv 1), none, none] [iv 400] (f, g, X))) := fun d => by
    rw [E_FairReader_step, px_sort P, clI]
  have r124 : ∀ d, EL (mP L xs) (d + 2) 124 [rv 22 (some 0), iv (nI (m + 1)), iv gv] (u, Y) = if u 22 0 7 = 1 then (if iss (u 22 0 11) = 0 then (mclV (EL (mP L xs) (d + 1) 102 [rv 22 (some 0), iv 1, iv (u 22 0 8)] (u, Y)) (fun h8 => RL (mP L xs) (d + 1) 124 70 [some (rv 22 (some 0)), some (iv (nI (m + 1))), some (iv gv), some (iv (u 22 0 8)), some (iv (u 22 0 11))] [] h8) (fun e h => some (.inr e, h))) else (if u 22 0 53 = 150 then (mclV (EL (mP L xs) (d + 1) 102 [rv 22 (some 0), iv 4, iv (u 22 0 8)] (u, Y)) (fun h7 => RL (mP L xs) (d + 1) 124 70 [some (rv 22 (some 0)), some (iv (nI (m + 1))), some (iv gv), some (iv (u 22 0 8)), some (iv (u 22 0 11))] [] h7) (fun e h => some (.inr e, h))) else (mclI (EL (mP L xs) (d + 1) 110 [rv 22 (some 0), iv (u 22 0 11)] (u, Y)) (fun x5 h4 => if x5 = 0 then (mclV (EL (mP L xs) (d + 1) 102 [rv 22 (some 0), iv 5, iv (u 22 0 8)] h4) (fun h6 => RL (mP L xs) (d + 1) 124 70 [some (rv 22 (some 0)), some (iv (nI (m + 1))), some (iv gv), some (iv (u 22 0 8)), some (iv (u 22 0 11))] [] h6) (fun e h => some (.inr e, h))) else (RL (mP L xs) (d + 1) 124 70 [some (rv 22 (some 0)), some (iv (nI (m + 1))), some (iv gv), some (iv (u 22 0 8)), some (iv (u 22 0 11))] [] h4)) (fun e h => some (.inr e, h))))) else (mclV (EL (mP L xs) (d + 1) 102 [rv 22 (some 0), iv 1, iv (u 22 0 8)] (u, Y)) (fun h1 => RL (mP L xs) (d + 1) 124 70 [some (rv 22 (some 0)), some (iv (nI (m + 1))), some (iv gv), some (iv (u 22 0 8)), some (iv (u 22 0 11))] [] h1) (fun e h => some (.inr e, h))) := fun d => by
    rw [E_Ref_step, r_iss, clI]
  -- refused: both sides
  have bad : ∀ (q1 w0 v6 : Int32), q1 ≠ 0 → (∀ d, 1 ≤ d → EL (mP L xs) (d + 2) 80 [rv 12 (some 0), iv (nI (m + 1)), rv 19 o, rv 19 gd, rv 16 (some r)] (f, g, X) = mclV (EL (mP L xs) (d + 1) 41 [rv 20 (some 0), iv q1] (NF f A w0 (nI (tS b N t)), NG g A o gd, NX X A)) (fun h4 => RL (mP L xs) (d + 1) 80 138 [some (rv 12 (some 0)), some (iv (nI (m + 1))), some (rv 19 o), some (rv 19 gd), some (rv 16 (some r)), some (iv (sg t)), some (iv v6), some (iv w0), some (rv 19 (some A))] [] h4) (fun e h => some (.inr e, h))) → (∀ d, EL (mP L xs) (d + 2) 124 [rv 22 (some 0), iv (nI (m + 1)), iv gv] (u, Y) = mclV (EL (mP L xs) (d + 1) 102 [rv 22 (some 0), iv q1, iv (u 22 0 8)] (u, Y)) (fun h8 => RL (mP L xs) (d + 1) 124 70 [some (rv 22 (some 0)), some (iv (nI (m + 1))), some (iv gv), some (iv (u 22 0 8)), some (iv (u 22 0 11))] [] h8) (fun e h => some (.inr e, h))) →
      (∃ f2 g2 u2 X2, (∀ d, 13 ≤ d → EL (mP L xs) (d + 1) 80 [rv 12 (some 0), iv (nI (m + 1)), rv 19 o, rv 19 gd, rv 16 (some r)] (f, g, X) = some (.inl (some (rv 19 (some A))), (f2, g2, X2))) ∧ (∀ d, 13 ≤ d → EL (mP L xs) (d + 1) 124 [rv 22 (some 0), iv (nI (m + 1)), iv gv] (u, Y) = some (.inl none, (u2, Y))) ∧ SB k t c q s kk A none f g u X f2 g2 u2 X2) := fun q1 w0 v6 hq hC hU => by
    obtain ⟨f2, g2, u2, X2, a1, a2, a3, a4⟩ := st_bad (L := L) (xs := xs) (Y := Y) (g := g) (o := o) (gd := gd) H hA hq w0 (sg t) v6
    refine ⟨f2, g2, u2, X2, fun d hd => ?_, fun d hd => ?_, a4⟩
    · have h1 := a1 d (nI (m + 1)) (some r) hd
      obtain ⟨d, rfl⟩ : ∃ d', d = d' + 1 := ⟨d - 1, by omega⟩
      rw [hC d (by omega)]
      exact h1
    · obtain ⟨d, rfl⟩ : ∃ d', d = d' + 1 := ⟨d - 1, by omega⟩
      rw [hU d, a2 d, clV, K_Ref_step_70, if_neg a3]
  -- taken: both sides
  have good : st < 150 → sg t ≠ 0 → sg t ≠ 1 → ∀ w0 : Int32, ∃ u1, SX N k b sg cn nt ns nn sl fl r kd (W1 f A w0 (nI (tS b N t)) t st) u1 (t + 1) c q s kk (st + 1) ∧ (∀ R o i, ¬ (R = 22 ∧ ((6 ≤ i ∧ i ≤ 11) ∨ i = 53)) → u1 R o i = u R o i) ∧ (∀ d g X, EL (mP L xs) (d + 1) 42 [rv 20 (some 0)] (m3 (NF f A w0 (nI (tS b N t))) 12 0 6 (nI (st + 1)), g, X) = some (.inl none, (W1 f A w0 (nI (tS b N t)) t st, g, X))) ∧ (∀ d, 7 ≤ d → EL (mP L xs) d 101 [rv 22 (some 0)] (m3 u 22 0 53 (nI (st + 1)), Y) = some (.inl none, (u1, Y))) := fun h150 n0 n1 w0 => by
    have P0 : PX (m3 (NF f A w0 (nI (tS b N t))) 12 0 6 (nI (st + 1))) (m3 u 22 0 53 (nI (st + 1))) N k b sg t := P.fr (fun R o i z => (m3_no (by omega)).trans (NF_o (by omega))) (fun R o i z => m3_no (by omega))
    obtain ⟨b1, u1, b2, b3, b4⟩ := px_adv (L := L) (xs := xs) (Y := Y) P0 n0 n1
    have hu : ∀ R o i, ¬ (R = 22 ∧ ((6 ≤ i ∧ i ≤ 11) ∨ i = 53)) → u1 R o i = u R o i := fun R o i z => (b3 R o i (by omega)).trans (m3_no (by omega))
    have hf : ∀ R o i, ¬ (R = 19 ∨ R = 12 ∨ R = 20) → W1 f A w0 (nI (tS b N t)) t st R o i = f R o i := fun R o i z => (m3_r (by omega)).trans ((m3_r (by omega)).trans (NF_o (by omega)))
    have h2 := H.gx.ql
    have h3 := H.sl
    have h4 := H.kl
    obtain ⟨a0, a1, a2, a3, a4, a5, a6, a7, a8⟩ := H.ab
    refine ⟨u1, ⟨⟨b4, (hf 10 0 3 (by omega)).trans H.gx.cc, by omega, (hu 22 0 45 (by omega)).trans H.gx.qu, by omega, H.gx.nc.fr (fun R o i z => hf R o i (by omega)), H.gx.nz.fr (fun R o i z => hu R o i (by omega))⟩, (hu 22 0 51 (by omega)).trans H.su, by omega, (hu 22 0 41 (by omega)).trans H.ku, by omega, (m3_r (by decide)).trans m3_eq, (b3 22 0 53 (by omega)).trans m3_eq, by omega, H.hf, H.hs, H.rl, H.kd, (hu 22 0 52 (by omega)).trans H.h5, (hu 49 0 r (by omega)).trans H.h4, (hf 16 r 5 (by omega)).trans H.ac, ⟨(hu 42 0 0 (by omega)).trans a0, (hu 42 0 1 (by omega)).trans a1, (hu 42 0 2 (by omega)).trans a2, (hu 42 0 3 (by omega)).trans a3, (hu 42 0 4 (by omega)).trans a4, (hu 42 0 5 (by omega)).trans a5, (hu 42 0 6 (by omega)).trans a6, (hu 42 0 7 (by omega)).trans a7, (hu 42 0 8 (by omega)).trans a8⟩⟩, hu, b1, fun d hd => EL_mono hd b2⟩
  have low : sg t < 301 → sg t < 320 → (¬ u 22 0 7 = 1 ∨ (u 22 0 7 = 1 ∧ iss (u 22 0 11) = 0)) → (∃ f2 g2 u2 X2, (∀ d, 13 ≤ d → EL (mP L xs) (d + 1) 80 [rv 12 (some 0), iv (nI (m + 1)), rv 19 o, rv 19 gd, rv 16 (some r)] (f, g, X) = some (.inl (some (rv 19 (some A))), (f2, g2, X2))) ∧ (∀ d, 13 ≤ d → EL (mP L xs) (d + 1) 124 [rv 22 (some 0), iv (nI (m + 1)), iv gv] (u, Y) = some (.inl none, (u2, Y))) ∧ SB k t c q s kk A none f g u X f2 g2 u2 X2) := fun h1 h2 h3 => by
    refine bad 1 (sg t) 0 (by decide) (fun d hd => ?_) (fun d => ?_)
    · rw [c80, if_pos h2, c_45 P hA, if_pos rfl, if_pos h1]
    · rw [r124]
      rcases h3 with h3 | ⟨h3, h4⟩
      · rw [if_neg h3]
      · rw [if_pos h3, if_pos h4]
  have f12 : ∀ w0 pl, NF f A w0 pl 12 0 6 = nI st := fun w0 pl => (NF_o (by omega)).trans H.sc
  rcases P.tkk with ⟨h1, h2⟩ | ⟨h1, h2⟩ | ⟨h1, h2, -⟩ | ⟨h1, h2, h3⟩ | ⟨i, i1, h1, h2, h3⟩ | ⟨x, x1, h1, h2, h3⟩ | ⟨x, x1, h1, h2, h3⟩
  · exact Or.inr (Or.inr (low (by rw [h1]; decide) (by rw [h1]; decide) (Or.inl (by rw [h2]; decide))))
  · exact Or.inr (Or.inr (low (by rw [h1]; decide) (by rw [h1]; decide) (Or.inl (by rw [h2]; decide))))
  · exact Or.inr (Or.inr (low (by rw [h1]; decide) (by rw [h1]; decide) (Or.inl (by rw [h2]; decide))))
  · exact Or.inr (Or.inr (low (by rw [h1]; decide) (by rw [h1]; decide) (Or.inr ⟨h2, by rw [h3]; decide⟩)))
  · have hv := iss_v i i1
    rw [← h3] at hv
    by_cases i19 : i < 19
    · obtain ⟨k1, k2, k3⟩ := nI_33 i i19
      rw [← h1] at k1 k2 k3
      rw [if_pos (show i < 23 by omega)] at hv
      have cf : ∀ d, EL (mP L xs) (d + 2) 65 [rv 19 (some A), rv 16 (some r)] (NF f A (sg t) (nI (tS b N t)), NG g A o gd, NX X A) = some (.inl (some (iv (bI (fitb kd i l.isSome)))), (NF f A (sg t) (nI (tS b N t)), NG g A o gd, NX X A)) := fun d => c_fits (A := A) (m := m) H.kd ((NF_o (by omega)).trans H.ac) i19 (NF_0.trans h1) (by rw [NG_2]; exact hch.fr (Nat.le_refl A) (fun a ha => ⟨NF_o (by omega), NG_o (by omega)⟩)) (by omega)
      have rf : ∀ d, EL (mP L xs) (d + 1) 110 [rv 22 (some 0), iv (u 22 0 11)] (u, Y) = some (.inl (some (iv (bI (fitb kd i l.isSome)))), (u, Y)) := fun d => by
        rw [h3]
        exact r_fits H.rl H.kd H.h5 H.h4 H.ab (by rw [hl, hlv]; cases l <;> simp) i19
      by_cases y : st < 150
      · have y1 : nI st < 150 := nI_lt (b := 150) (by omega) (by decide)
        have y2 : ¬ nI st = 150 := fun e => by have := (nI_eq (b := 150) (by omega) (by decide)).mp e; omega
        by_cases w : fitb kd i l.isSome = true
        · obtain ⟨u1, g1, g2, g3, g4⟩ := good y (by rw [h1]; exact (nI_sm i1).1) (by rw [h1]; exact (nI_sm i1).2.1) (nI (301 + i))
          refine Or.inl ⟨i, u1, i19, h1, w, g1, g2, fun d hd => ?_, fun d hd => ?_⟩
          · obtain ⟨d, rfl⟩ : ∃ d', d = d' + 2 := ⟨d - 2, by omega⟩
            rw [show d + 2 + 1 = (d + 1) + 2 from rfl, c80, if_pos k1, c_45 P hA, if_pos rfl, if_neg k2, if_neg k3, K_FairReader_step_99]
            simp only [f12, if_pos y1, cf, clI, w]
            rw [if_neg (by decide), K_FairReader_step_138]
            simp only [f12, nI_1, if_true]
            rw [h1, show d + 1 + 1 = d + 2 from rfl, g3, clV]
          · have hg4 := g4 d (by omega)
            obtain ⟨d, rfl⟩ : ∃ d', d = d' + 1 := ⟨d - 1, by omega⟩
            rw [r124, if_pos h2, if_neg (by rw [hv]; decide), if_neg (by rw [H.sr]; exact y2), rf, clI, w, if_neg (by decide), K_Ref_step_70, if_pos P.fu]
            simp only [H.sr, nI_1, hg4, clV, bg, h3]
        · refine Or.inr (Or.inr (bad 5 (sg t) 0 (by decide) (fun d hd => ?_) (fun d => ?_)))
          · have hw : fitb kd i l.isSome = false := by revert w; cases fitb kd i l.isSome <;> simp
            obtain ⟨d, rfl⟩ : ∃ d', d = d' + 1 := ⟨d - 1, by omega⟩
            rw [show d + 1 + 2 = (d + 1) + 2 from rfl, c80, if_pos k1, c_45 P hA, if_pos rfl, if_neg k2, if_neg k3, K_FairReader_step_99]
            simp only [f12, if_pos y1, cf, clI, hw]
            rw [if_pos (by decide)]
          · have hw : fitb kd i l.isSome = false := by revert w; cases fitb kd i l.isSome <;> simp
            rw [r124, if_pos h2, if_neg (by rw [hv]; decide), if_neg (by rw [H.sr]; exact y2), rf, clI, hw, if_pos (by decide)]
      · have e150 : st = 150 := by omega
        subst e150
        refine Or.inr (Or.inr (bad 4 (sg t) 0 (by decide) (fun d hd => ?_) (fun d => ?_)))
        · rw [c80, if_pos k1, c_45 P hA, if_pos rfl, if_neg k2, if_neg k3, K_FairReader_step_99]
          simp only [f12]
          rw [if_neg (by decide)]
        · rw [r124, if_pos h2, if_neg (by rw [hv]; decide), if_pos (by rw [H.sr]; rfl)]
    · by_cases i23 : i < 23
      · obtain ⟨j, rfl⟩ : ∃ j, i = 19 + j := ⟨i - 19, by omega⟩
        have j4 : j < 4 := by omega
        have h1' : sg t = nI (320 + j) := by rw [h1, show 301 + (19 + j) = 320 + j by omega]
        obtain ⟨k1, k2, k3⟩ := nI_34 j j4
        rw [← h1'] at k1 k2 k3
        rw [if_pos i23] at hv
        rw [wm_r j j4] at h3
        have cf : ∀ d, EL (mP L xs) (d + 1) 65 [rv 19 (some A), rv 16 (some r)] (NF f A 400 (nI (tS b N t)), NG g A o gd, NX X A) = some (.inl (some (iv 1)), (NF f A 400 (nI (tS b N t)), NG g A o gd, NX X A)) := fun d => c_fits4 NF_0
        have rf : ∀ d, EL (mP L xs) (d + 1) 110 [rv 22 (some 0), iv (u 22 0 11)] (u, Y) = some (.inl (some (iv 1)), (u, Y)) := fun d => by
          rw [h3]
          exact r_fits4 H.rl H.kd H.h5 H.h4 j4
        by_cases y : st < 150
        · have y1 : nI st < 150 := nI_lt (b := 150) (by omega) (by decide)
          have y2 : ¬ nI st = 150 := fun e => by have := (nI_eq (b := 150) (by omega) (by decide)).mp e; omega
          have v41 : ¬ nI (41 + j) < 17 ∧ 20 < nI (41 + j) := by
            have : ∀ j, j < 4 → ¬ nI (41 + j) < 17 ∧ 20 < nI (41 + j) := by decide +kernel
            exact this j j4
          obtain ⟨u1, g1, g2, g3, g4⟩ := good y (by rw [h1]; exact (nI_sm i1).1) (by rw [h1]; exact (nI_sm i1).2.1) 400
          refine Or.inr (Or.inl ⟨j, u1, j4, g1, g2, fun d hd => ?_, fun d hd => ?_⟩)
          · obtain ⟨d, rfl⟩ : ∃ d', d = d' + 1 := ⟨d - 1, by omega⟩
            rw [c80, if_neg k1, if_neg k2, c_45 P hA, if_neg (by decide), K_FairReader_step_99]
            simp only [f12, if_pos y1, cf, clI]
            rw [if_neg (by decide), K_FairReader_step_138]
            simp only [f12, nI_1]
            rw [g3, clV, if_neg (by decide), onS_s, k3]
          · have hg4 := g4 d (by omega)
            obtain ⟨d, rfl⟩ : ∃ d', d = d' + 1 := ⟨d - 1, by omega⟩
            rw [r124, if_pos h2, if_neg (by rw [hv]; decide), if_neg (by rw [H.sr]; exact y2), rf, clI, if_neg (by decide), K_Ref_step_70, if_pos P.fu]
            simp only [H.sr, nI_1, hg4, clV, bg, h3, if_neg v41.1, if_pos v41.2]
        · have e150 : st = 150 := by omega
          subst e150
          refine Or.inr (Or.inr (bad 4 400 1 (by decide) (fun d hd => ?_) (fun d => ?_)))
          · rw [c80, if_neg k1, if_neg k2, c_45 P hA, if_neg (by decide), K_FairReader_step_99]
            simp only [f12]
            rw [if_neg (by decide)]
          · rw [r124, if_pos h2, if_neg (by rw [hv]; decide), if_pos (by rw [H.sr]; rfl)]
      · obtain ⟨k1, k2, k3, k4⟩ := nI_35 i i1 (by omega)
        rw [← h1] at k1 k2 k3 k4
        rw [if_neg i23] at hv
        refine Or.inr (Or.inr (bad 1 (sg t) 0 (by decide) (fun d hd => ?_) (fun d => ?_)))
        · rw [c80, if_neg k1, if_pos k2, c_45 P hA, if_pos rfl, if_neg k4, if_pos k3]
        · rw [r124, if_pos h2, if_pos hv]
  · have := sgn_lt x1
    exact Or.inr (Or.inr (low (by rw [h1]; exact nI_lt (b := 301) (by omega) (by decide)) (by rw [h1]; exact nI_lt (b := 320) (by omega) (by decide)) (Or.inl (by rw [h2]; decide))))
  · have := jn_lt x1
    exact Or.inr (Or.inr (low (by rw [h1]; exact nI_lt (b := 301) (by omega) (by decide)) (by rw [h1]; exact nI_lt (b := 320) (by omega) (by decide)) (Or.inl (by rw [h2]; decide))))
end Wrd
