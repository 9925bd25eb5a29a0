/-! ===== promise 8: wind; and what the pairs share ===== -/
/-- an exception was made -/
def thr (h : MH) : MH := (h.1, h.2.1, h.2.2.1, h.2.2.2.1, h.2.2.2.2.1 + 1, h.2.2.2.2.2 + 6)
def cat (h : MH) : MH := (h.1, h.2.1, h.2.2.1, m1 h.2.2.2.1 0 (h.2.2.2.1 0 + 1), h.2.2.2.2)
theorem m3_in {α : Type} (f : Nat → Nat → Nat → α) (r o i : Nat) (v w : α) : (fun r' o' i' => m3 f r o i v r' o' i') = m3 f r o i v := rfl
theorem cN_put {f : MI} {r o i : Nat} {v : Int32} (h : (cs r && pl r i) = true) : cN (m3 f r o i v) = m3 (cN f) r o i v := by
  funext r' o' i'
  unfold cN m3
  by_cases e1 : r' = r
  · by_cases e2 : o' = o
    · by_cases e3 : i' = i
      · subst e1; subst e2; subst e3
        simp [h]
      · simp [e1, e2, e3]
    · simp [e1, e2]
  · simp [e1]
theorem rN_put {f : MI} {r o i : Nat} {v : Int32} (h : (rs r && pl r i) = true) (h2 : (Nat.beq r 22 && Nat.beq i 90) = false) : rN (m3 f r o i v) = m3 (rN f) r o i v := by
  funext r' o' i'
  unfold rN m3
  by_cases e1 : r' = r
  · by_cases e2 : o' = o
    · by_cases e3 : i' = i
      · subst e1; subst e2; subst e3
        rw [h, h2]
        simp
      · simp [e1, e2, e3]
    · simp [e1, e2]
  · simp [e1]
theorem rN_cls {f : MI} {r o i : Nat} {v : Int32} (h : rs r = false) : rN (m3 f r o i v) = rN f := by
  funext r' o' i'
  unfold rN m3
  by_cases e1 : r' = r
  · subst e1
    rw [h]
    rfl
  · rw [if_neg e1]
theorem cN_ref {f : MI} {r o i : Nat} {v : Int32} (h : cs r = false) : cN (m3 f r o i v) = cN f := by
  funext r' o' i'
  unfold cN m3
  by_cases e1 : r' = r
  · subst e1
    rw [h]
    rfl
  · rw [if_neg e1]
section Wind
variable {L : Nat} {xs : Nat → Int32} {d i : Nat} {SC : MI → MR → MI → Nat → Prop}
theorem e_need0 {h : MH} (hs : h.1 21 0 5 = 0) : EL (mP L xs) (d + 1) 138 [rv 21 (some 0)] h = some (.inr 1, thr h) := EL_by ((q_House_needFair_0 L xs _ _ h).trans (if_pos hs))
theorem e_need1 {h : MH} (hs : ¬ h.1 21 0 5 = 0) : EL (mP L xs) (d + 1) 138 [rv 21 (some 0)] h = some (.inl none, h) := EL_by ((q_House_needFair_0 L xs _ _ h).trans (if_neg hs))
theorem e_may (a b t : Int32) (h : MH) (ht : (if h.1 22 0 19 = 0 then 1 else if a = 0 then 2 else if b = 0 then 3 else 0) = t) : EL (mP L xs) (d + 1) 148 [rv 22 (some 0), iv a, iv b] h = some (.inl (some (iv (if t = 0 then 1 else 0))), (m3 h.1 22 0 90 t, h.2)) := by
  refine EL_by ((q_Ref_may_0 L xs _ _ a b h).trans ?_)
  subst ht
  by_cases c1 : h.1 22 0 19 = 0
  · simp only [if_pos c1]; rfl
  · simp only [if_neg c1]
    by_cases c2 : a = 0
    · simp only [if_pos c2]; rfl
    · simp only [if_neg c2]
      by_cases c3 : b = 0
      · simp only [if_pos c3]; rfl
      · simp only [if_neg c3]; rfl
theorem fair_wind {f u : MI} {g : MR} {a : Int32} (hSC : ∀ r, SC f g u r → SC (m3 f 11 0 10 a) g (m3 u 22 0 80 a) r) (h : R_fair SC f g u) : R_fair SC (m3 f 11 0 10 a) g (m3 u 22 0 80 a) := by
  obtain ⟨n, s, q, h1, ⟨g1, g2, g3, g4, g5, g6⟩, h3, h4, h5, h6⟩ := h
  exact ⟨n, s, q, h1, ⟨g1, rfl, g3, g4, g5, g6⟩, h3, h4, h5, fun r hr => ⟨(h6 r hr).1, (h6 r hr).2.1, (h6 r hr).2.2.1, (h6 r hr).2.2.2.1, hSC r (h6 r hr).2.2.2.2⟩⟩
theorem p_wind (hSC : ∀ f g u a r, SC f g u r → SC (m3 f 11 0 10 a) g (m3 u 22 0 80 a) r) (a : Int32) : prI (mP L xs) (d + 3) (Iv (R_fair SC) i) (Iv (R_fair SC) (i + 6)) 152 153 [iv a] := by
  intro h hI
  obtain ⟨ht, ⟨y1, y2, f3, f4⟩, f5⟩ := hI.1
  have f3' : h.1 21 0 5 = h.1 22 0 19 := f3
  by_cases hs : h.1 21 0 5 = 0
  · refine ⟨1, 0, cat (thr h), (m3 h.1 22 0 90 1, (cat (thr h)).2), ?_, ?_, rfl, fun z => absurd z (by decide), Iv_ro hI rfl rfl (Nat.le_refl _) (Nat.le_refl _)⟩
    · refine EL_by (j := 10) (cut := []) ?_
      rw [show minit 152 (rv 21 (some 0) :: ([iv a] ++ [rv 99 (some 0)])) = [some (rv 21 (some 0)), some (iv a), some (rv 99 (some 0)), none] from rfl, q_Law_wind_0]
      have hc : EL (mP L xs) (d + 2) 151 [rv 21 (some 0), iv a] h = some (.inr 1, thr h) := by
        refine EL_by ((q_House_wind_0 L xs _ _ a h).trans ?_)
        rw [e_need0 hs]
        rfl
      rw [hc]
      rfl
    · refine EL_mono (Nat.le_add_left 1 (d + 2)) (EL_by (d := 0) (j := 22) (cut := [23]) ?_)
      rw [show minit 153 [rv 22 (some 0), iv a] = [some (rv 22 (some 0)), some (iv a), none] from rfl, q_Ref_wind_0, if_pos (show (cat (thr h)).1 22 0 19 = 0 from f3'.symm.trans hs)]
      rfl
  · have hs' : ¬ h.1 22 0 19 = 0 := fun z => hs (f3'.trans z)
    by_cases hbad : a < 0 ∨ 199 < a
    · refine ⟨2, 0, cat (thr h), (m3 h.1 22 0 90 2, (cat (thr h)).2), ?_, ?_, rfl, fun z => absurd z (by decide), Iv_ro hI rfl rfl (Nat.le_refl _) (Nat.le_refl _)⟩
      · refine EL_by (j := 10) (cut := []) ?_
        rw [show minit 152 (rv 21 (some 0) :: ([iv a] ++ [rv 99 (some 0)])) = [some (rv 21 (some 0)), some (iv a), some (rv 99 (some 0)), none] from rfl, q_Law_wind_0]
        have hc : EL (mP L xs) (d + 2) 151 [rv 21 (some 0), iv a] h = some (.inr 2, thr h) := by
          refine EL_by ((q_House_wind_0 L xs _ _ a h).trans ?_)
          rw [e_need1 hs]
          simp only [mclV]
          by_cases z : a < 0
          · rw [if_pos z]; rfl
          · rw [if_neg z, if_pos (hbad.resolve_left z)]; rfl
        rw [hc]
        rfl
      · refine EL_mono (Nat.le_add_left 1 (d + 2)) (EL_by (d := 0) (j := 22) (cut := [23]) ?_)
        have h23 : RL (mP L xs) 0 153 23 [some (rv 22 (some 0)), some (iv a), none] [rv 22 (some 0)] (cat (thr h)) = some (.inl (some (iv 0)), (m3 h.1 22 0 90 2, (cat (thr h)).2)) := RL_cut (j := 14) (cut := [23]) (q_Ref_wind_23 L xs _ _ a _)
        rw [show minit 153 [rv 22 (some 0), iv a] = [some (rv 22 (some 0)), some (iv a), none] from rfl, q_Ref_wind_0, if_neg (show ¬ (cat (thr h)).1 22 0 19 = 0 from hs')]
        by_cases z : a < 0
        · rw [if_pos z]; exact h23
        · rw [if_neg z, if_pos (hbad.resolve_left z)]; exact h23
    · have z1 : ¬ a < 0 := fun z => hbad (Or.inl z)
      have z2 : ¬ 199 < a := fun z => hbad (Or.inr z)
      have hw : h.1 11 0 10 = h.1 22 0 80 := by
        obtain ⟨n, s, q, -, ⟨-, g2, -⟩, -⟩ := f5 (f4.resolve_left hs)
        exact g2
      refine ⟨0, h.1 22 0 80, (m3 h.1 11 0 10 a, h.2.1, m3 h.2.2.1 99 0 0 (h.1 22 0 80).toInt64, h.2.2.2), (m3 (m3 (m3 h.1 11 0 10 a) 22 0 90 0) 22 0 80 a, h.2.1, m3 h.2.2.1 99 0 0 (h.1 22 0 80).toInt64, h.2.2.2), ?_, ?_, rfl, fun _ => rfl, ⟨?_, Res_step hI.2 rfl (Nat.le_succ _) (Nat.le_add_right _ _)⟩⟩
      · refine EL_by (j := 10) (cut := []) ?_
        rw [show minit 152 (rv 21 (some 0) :: ([iv a] ++ [rv 99 (some 0)])) = [some (rv 21 (some 0)), some (iv a), some (rv 99 (some 0)), none] from rfl, q_Law_wind_0]
        have hc : EL (mP L xs) (d + 2) 151 [rv 21 (some 0), iv a] h = some (.inl (some (iv (h.1 11 0 10))), (m3 h.1 11 0 10 a, h.2)) := by
          refine EL_by ((q_House_wind_0 L xs _ _ a h).trans ?_)
          rw [e_need1 hs]
          simp only [mclV]
          rw [if_neg z1, if_neg z2]
        rw [hc, hw]
        rfl
      · refine EL_mono (Nat.le_add_left 1 (d + 2)) (EL_by (d := 0) (j := 22) (cut := [23]) ?_)
        rw [show minit 153 [rv 22 (some 0), iv a] = [some (rv 22 (some 0)), some (iv a), none] from rfl, q_Ref_wind_0, if_neg (show ¬ (m3 h.1 11 0 10 a) 22 0 19 = 0 from hs'), if_neg z1, if_neg z2]
        rfl
      · show RelF (R_fair SC) (cN (m3 (m3 (m3 h.1 11 0 10 a) 22 0 90 0) 22 0 80 a)) (gN h.2.1) (rN (m3 (m3 (m3 h.1 11 0 10 a) 22 0 90 0) 22 0 80 a))
        rw [cN_ref rfl, cN_thr, cN_put rfl, rN_put rfl rfl, rN_thr, rN_cls rfl]
        exact ⟨ht, ⟨y1, y2, f3, f4⟩, fun z => fair_wind (fun r => hSC _ _ _ a r) (f5 z)⟩
end Wind
