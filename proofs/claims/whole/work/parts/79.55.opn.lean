/-! ===== promise 6: open ===== -/
section Opn
variable {L : Nat} {xs : Nat → Int32} {d i B : Nat}
variable {n s q : Nat} {rd ps en dp : Nat → Nat} {lp : Nat → Option Nat} {f : MI} {g : MR} {u : MI}
theorem TD_of (T : TT B n s q rd ps en dp lp f g u) (A : ∀ k, k < s → Upto (u 58 0 k) 9) : TD n s q rd ps en dp lp f g u := by
  refine ⟨T.cn, ?_, fun k hk => ⟨(T.sf k hk).2, A k hk⟩, T.st, fun r hr => ?_⟩
  · obtain ⟨⟨kd, M⟩, -⟩ := T.rr 0 T.cn.1.1
    exact M.ar
  · obtain ⟨⟨kd, M⟩, -⟩ := T.rr r hr
    have G := M.rg
    obtain ⟨x, y, x1, x2, x3, x4⟩ := G.ab
    exact ⟨kd, M.lt, M.kl, M.kc, M.kr, M.ac, M.ix, M.m0, M.m1, M.m2, M.m3, M.m4, M.m5, M.t8, M.tx, G.n0, G.n1, G.n2, G.n3, ⟨y, x2, x4⟩, G.n5, fun h => ⟨(G.tu h).2.2.1, (G.tu h).2.2.2⟩, G.tn, fun h => ⟨(G.lf h).2.2.2.1, (G.lf h).2.2.2.2⟩, fun h => (G.la h).2⟩
theorem rf_139 : mEff 139 &&& refM = 0 := by decide +kernel
theorem cl_141 : mEff 141 &&& clsM = 0 := by decide +kernel
theorem p_open (hBB : B < 2 ^ 30) : prO (mP L xs) (d + 8) (Iv (RFx B) i) (Iv (RFx B) (i + 6)) := by
  intro h hI
  obtain ⟨ht, ⟨y1, y2, f3, f4⟩, f5⟩ := hI.1
  have f3' : h.1 21 0 5 = h.1 22 0 19 := f3
  by_cases hs : h.1 21 0 5 = 0
  · refine ⟨1, cat (thr h), (m3 h.1 22 0 90 1, (cat (thr h)).2), ?_, ?_, rfl, Iv_ro hI rfl rfl (Nat.le_refl _) (Nat.le_refl _)⟩
    · rw [E_Law_open, E_House_open, e_need0 (d := d + 5) hs]
      rfl
    · rw [E_Ref_open, if_pos (show (cat (thr h)).1 22 0 19 = 0 from f3'.symm.trans hs)]
      rfl
  · have hs' : ¬ h.1 22 0 19 = 0 := fun z => hs (f3'.trans z)
    have TX0 := Iv_tt hI hs
    have TX1 := TX0
    obtain ⟨n, s, q, rd, ps, en, dp, lp, T, A⟩ := TX0
    obtain ⟨F, G, U0, a1, -, -, -⟩ := p_begin (L := L) (xs := xs) (TD_of T A)
    have hC : EL (mP L xs) (d + 7) 139 [rv 21 (some 0)] h = some (.inl none, (F, G, h.2.2)) := by
      rw [E_House_open, e_need1 (d := d + 5) hs, clV]
      have := a1 (d + 2) h.2.2
      have this : EL (mP L xs) (d + 6) 92 [rv 11 (some 0)] h = some (.inl none, (F, G, h.2.2)) := this
      rw [this, clV]
    have FC := EL_fm (show 139 < mNo by decide +kernel) hC
    have er : rN F = rN h.1 := fm_ref rf_139 FC
    obtain ⟨n, s, q, rd, ps, en, dp, lp, T, A⟩ := TX1.cr (f' := h.1) (g' := h.2.1) (u' := m3 F 22 0 90 0) rfl rfl ((rN_thr F 0).trans er)
    obtain ⟨F2, G2, U, b1, b2, b3, b4⟩ := p_begin (L := L) (xs := xs) (TD_of T A)
    obtain ⟨-, e2⟩ := some_inl ((a1 0 h.2.2).symm.trans (b1 0 h.2.2))
    injection e2 with e2 e3
    injection e3 with e3 _
    subst e2
    subst e3
    have hU : EL (mP L xs) (d + 8) 141 [rv 22 (some 0)] (F, G, h.2.2) = some (.inl none, (U, G, h.2.2)) := by
      have e19 : F 22 0 19 = h.1 22 0 19 := rN_at er 22 0 19 rfl rfl
      have e90 : (m3 F 22 0 90 0) 22 0 90 = 0 := m3_eq
      rw [E_Ref_open]
      simp only [e19, if_neg hs', e90, if_true]
      have : EL (mP L xs) (d + 7) 129 [rv 22 (some 0)] (m3 F 22 0 90 0, G, h.2.2) = some (.inl none, (U, G, h.2.2)) := b2 (d + 6) (G, h.2.2)
      rw [this, clV]
    have FU := EL_fm (show 141 < mNo by decide +kernel) hU
    obtain ⟨c1, c2, -⟩ := fm_cls cl_141 FU
    have c1 : cN U = cN F := c1
    refine ⟨0, (F, G, h.2.2), (U, G, h.2.2), ?_, hU, ?_, ?_⟩
    · rw [E_Law_open, hC, clV]
    · have h1 := (fm_at (show 129 < mNo by decide +kernel) (b2 0 (G, h.2.2)) 22 0 90 (by decide +kernel) (by decide +kernel)).1
      exact h1.trans (show (m3 F 22 0 90 0) 22 0 90 = 0 from m3_eq)
    · refine Iv_st hI (fun j hj => ?_) (fun k => ?_) (fun j hj => ?_) (fun k => ?_) ⟨n, s, q, rd, ps, en, dp, lp, (TT_cr (f := F) (g := G) (u := U) c1 rfl rfl b3).le (Nat.zero_le _), fun k hk => ?_⟩ hBB (Nat.le_succ _) (Nat.le_add_right _ _)
      · show U 21 0 j = h.1 21 0 j
        rcases hj with rfl | rfl | rfl | rfl
        · exact (cN_at c1 21 0 4 rfl).trans (fm_g FC 21 0 4 (by decide +kernel) (by decide +kernel))
        · exact (cN_at c1 21 0 5 rfl).trans (fm_g FC 21 0 5 (by decide +kernel) (by decide +kernel))
        · exact (cN_at c1 21 0 6 rfl).trans (fm_g FC 21 0 6 (by decide +kernel) (by decide +kernel))
        · exact (cN_at c1 21 0 7 rfl).trans (fm_g FC 21 0 7 (by decide +kernel) (by decide +kernel))
      · show U 40 0 k = h.1 40 0 k
        exact (cN_at c1 40 0 k rfl).trans (fm_g FC 40 0 k (by rw [lid_arr (by decide +kernel)]; decide +kernel) (by decide +kernel))
      · show U 22 0 j = h.1 22 0 j
        rcases hj with rfl | rfl | rfl | rfl
        · exact (fm_g FU 22 0 3 (by decide +kernel) (by decide +kernel)).trans (rN_at er 22 0 3 rfl rfl)
        · exact (fm_g FU 22 0 12 (by decide +kernel) (by decide +kernel)).trans (rN_at er 22 0 12 rfl rfl)
        · exact (fm_g FU 22 0 13 (by decide +kernel) (by decide +kernel)).trans (rN_at er 22 0 13 rfl rfl)
        · exact (fm_g FU 22 0 19 (by decide +kernel) (by decide +kernel)).trans (rN_at er 22 0 19 rfl rfl)
      · show U 43 0 k = h.1 43 0 k
        exact (fm_g FU 43 0 k (by rw [lid_arr (by decide +kernel)]; decide +kernel) (by decide +kernel)).trans (rN_at er 43 0 k rfl rfl)
      · show Upto (U 58 0 k) 9
        rw [b4 k]
        exact A k hk
end Opn
