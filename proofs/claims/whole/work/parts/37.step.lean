/-! ===== one step of the mini machine is one of the JVM ===== -/
theorem as2_ok {as : List Nat} {q : Nat} (h : (match as with | [n, _] => decide (n = q) | _ => false) = true) : ∃ r0, as = [q, r0] := by
  match as, h with
  | [n, r0], h => exact ⟨r0, by rw [of_decide_eq_true h]⟩
section Step
variable {p : Program} {l : Launch} {e : Env} {R : Room} {s : State} {mi : MethodId} {args : Array Value} {below : List Frame} {meth : Method} {c : Code} {D : va_G} {B : Nat} {fv : Value} {P : MP} {m d : Nat} {ρ0 : Nat → Nat → Nat} {h0 : MH} {x : MO} {pc : Nat} {ls : List (Option MV)} {st : List MV} {h : MH}
variable {E : Nat → List MV → MH → MX} {k : Nat → List (Option MV) → List MV → MH → MX}
theorem go_bin (C : mCx p l s mi args meth c m) (hk : ∀ a1 a2 a3 a4, k a1 a2 a3 a4 = some x → mGo p l e R s mi args below meth c D B fv P m ρ0 h0 x a1 a2 a3 a4) {w : Nat} {i : Instr} (hdg : decode (mBy m) pc = .ok (i, 1)) (hi : (i = .iadd ∧ w = 0) ∨ (i = .isub ∧ w = 1) ∨ (i = .imul ∧ w = 2) ∨ (i = .iand ∧ w = 3) ∨ (i = .ior ∧ w = 4) ∨ (i = .ixor ∧ w = 5) ∨ (i = .ishl ∧ w = 6) ∨ (i = .ishr ∧ w = 7) ∨ (i = .iushr ∧ w = 8))
    (hq : p2i st (fun y z s => mop w y z fun v => k (pc + 1) ls (.inl v :: s) h) = some x) : mGo p l e R s mi args below meth c D B fv P m ρ0 h0 x pc ls st h := by
  obtain ⟨y, z, s', rfl, hq2⟩ := p2i_some hq
  obtain ⟨v, hv⟩ := mop_ex hq2
  exact ⟨(hk _ _ _ _ hv).1, (hk _ _ _ _ hv).2.1, fun hC ρ he => sw_bin C hdg hi hq2 (fun v hv => (hk _ _ _ _ hv).2.2 hC ρ he)⟩
theorem go_un (C : mCx p l s mi args meth c m) (hk : ∀ a1 a2 a3 a4, k a1 a2 a3 a4 = some x → mGo p l e R s mi args below meth c D B fv P m ρ0 h0 x a1 a2 a3 a4) {w : Nat} {i : Instr} (hdg : decode (mBy m) pc = .ok (i, 1)) (hi : (i = .ineg ∧ w = 0) ∨ (i = .i2b ∧ w = 1) ∨ (i = .i2c ∧ w = 2))
    (hq : p1i st (fun y s => mun w y fun v => k (pc + 1) ls (.inl v :: s) h) = some x) : mGo p l e R s mi args below meth c D B fv P m ρ0 h0 x pc ls st h := by
  obtain ⟨y, s', rfl, hq2⟩ := p1i_some hq
  obtain ⟨v, hv⟩ := mun_ex hq2
  exact ⟨(hk _ _ _ _ hv).1, (hk _ _ _ _ hv).2.1, fun hC ρ he => sw_un C hdg hi hq2 (fun v hv => (hk _ _ _ _ hv).2.2 hC ρ he)⟩
theorem go_xald (C : mCx p l s mi args meth c m) (hX : mExt D B fv P ρ0 s s.heap) (hk : ∀ a1 a2 a3 a4, k a1 a2 a3 a4 = some x → mGo p l e R s mi args below meth c D B fv P m ρ0 h0 x a1 a2 a3 a4) {t : Nat} {i : Instr} (hdg : decode (mBy m) pc = .ok (i, 1)) (hi : (i = .iaload ∧ t = 1) ∨ (i = .baload ∧ (t = 2 ∨ t = 3)))
    (hq : p1i st (fun i s => p1r s fun r o s => onS o fun j => chk (Nat.beq (rTag r) t) (chk (Nat.beq r 1 && Nat.beq P.2.1 4000) none (if ino i (rLen P r j) then none else k (pc + 1) ls (.inl (rdI P h.1 r j i.toNatClampNeg) :: s) h)) none) = some x) : mGo p l e R s mi args below meth c D B fv P m ρ0 h0 x pc ls st h := by
  obtain ⟨y, s', rfl, hq2⟩ := p1i_some hq
  obtain ⟨r, o, s2, rfl, hq3⟩ := p1r_some hq2
  obtain ⟨j, rfl, hq4⟩ := onS_some hq3
  obtain ⟨hb, hq5⟩ := chk_t hq4
  obtain ⟨hno, hq5b⟩ := chk_f hq5
  obtain ⟨hin, hq6⟩ := ite_n hq5b
  have ht := Nat.eq_of_beq_eq_true hb
  have ht0 : rTag r ≠ 0 := by rcases hi with ⟨-, z⟩ | ⟨-, z | z⟩ <;> omega
  exact go_1 (hk _ _ _ _ hq6) rfl (fun ρ he K => sw_xald C (mExt_ext he hX) (ne7 ht0) hdg hi ht hno hin K)
theorem go_xast (C : mCx p l s mi args meth c m) (hk : ∀ a1 a2 a3 a4, k a1 a2 a3 a4 = some x → mGo p l e R s mi args below meth c D B fv P m ρ0 h0 x a1 a2 a3 a4) {t : Nat} {i : Instr} {r0 : Nat} (hdg : decode (mBy m) pc = .ok (i, 1)) (hi : (i = .iastore ∧ t = 1) ∨ (i = .bastore ∧ (t = 2 ∨ t = 3)))
    (hq : p1i st (fun x s => p1i s fun i s => p1r s fun r o s => onS o fun j => chk (Nat.beq (rTag r) t) (chk (Nat.blt r 10 || !Nat.beq r r0) none (if ino i (rLen P r j) then none else mnr t x fun v => k (pc + 1) ls s (m3 h.1 r j i.toNatClampNeg v, h.2))) none) = some x) : mGo p l e R s mi args below meth c D B fv P m ρ0 h0 x pc ls st h := by
  obtain ⟨y, s', rfl, hq2⟩ := p1i_some hq
  obtain ⟨y2, s3, rfl, hq2b⟩ := p1i_some hq2
  obtain ⟨r, o, s2, rfl, hq3⟩ := p1r_some hq2b
  obtain ⟨j, rfl, hq4⟩ := onS_some hq3
  obtain ⟨hb, hq5⟩ := chk_t hq4
  obtain ⟨hb2, hq5b⟩ := chk_f hq5
  obtain ⟨hin, hq6⟩ := ite_n hq5b
  have ht := Nat.eq_of_beq_eq_true hb
  rw [Bool.or_eq_false_iff] at hb2
  replace hb2 := hb2.1
  have hr : 10 ≤ r := by
    rcases Nat.lt_or_ge r 10 with z | z
    · have : Nat.blt r 10 = true := Nat.ble_eq_true_of_le z
      rw [this] at hb2
      cases hb2
    · exact z
  obtain ⟨v, hv⟩ := mnr_ex hq6
  exact ⟨(hk _ _ _ _ hv).1, (hk _ _ _ _ hv).2.1, fun hC ρ he => sw_xast C hr hdg hi ht hin hq6 (fun v hv => (hk _ _ _ _ hv).2.2 hC ρ he)⟩
set_option maxHeartbeats 4000000 in
theorem go_step (C : mCx p l s mi args meth c m) (hf : fv = .null ∨ ∃ a, fv = .ref a) (hm : m < mNo) (hmc : ∀ m', m' < mNo → m' ≠ mLaw → mchM m' = true) (hPk : mPok P) (hX : mExt D B fv P ρ0 s s.heap) (hRf : d + 9 ≤ R.frames) (hRl : 40 * d + 240 ≤ R.locals) (hRc : x.2.2.2.2.2.1 - h0.2.2.2.2.1 ≤ R.cells) (hRs : x.2.2.2.2.2.2 - h0.2.2.2.2.2 ≤ R.slots)
    (hE : ∀ m' as h1 y, m' < mNo → m' ≠ mLaw → as.length ≤ mMx m' → E m' as h1 = some y → mMet l P d m' as h1 y) (hk : ∀ a1 a2 a3 a4, k a1 a2 a3 a4 = some x → mGo p l e R s mi args below meth c D B fv P m ρ0 h0 x a1 a2 a3 a4) {op : Nat} {as : List Nat} {c9 : Int32} (hcd : mCode m pc = some (op, as, c9))
    (i : Instr) (len : Nat) (hd : decode (mBy m) pc = .ok (i, len)) (hcm : mcmp m pc i len op as c9 = true) (hq : mexec P E k m pc ls st h op as c9 = some x) : mGo p l e R s mi args below meth c D B fv P m ρ0 h0 x pc ls st h := by
  have hXr : ∀ ρ, rext h0.2.2.2.1 ρ0 ρ → mExt D B fv P ρ s s.heap := fun ρ he => mExt_ext he hX
  have hK : ∀ (ci : Nat) (q : vw_C), vwCl[ci]? = some q → u_Kn s q.1 q.2.1 q.2.2 (D.1 ci) (D.2 ci) := hX.1
  cases i with
  | iconst n =>
    obtain ⟨rfl, rfl, rfl, hv⟩ := of_decide_eq_true hcm
    exact go_1 (hk (pc + 1) ls (iv c9 :: st) h hq) rfl (fun ρ _ K => sw_iconst C hd hv K)
  | bipush n =>
    obtain ⟨rfl, rfl, rfl, hv⟩ := of_decide_eq_true hcm
    exact go_1 (hk (pc + 2) ls (iv c9 :: st) h hq) rfl (fun ρ _ K => sw_bipush C hd hv K)
  | sipush n =>
    obtain ⟨rfl, rfl, rfl, hv⟩ := of_decide_eq_true hcm
    exact go_1 (hk (pc + 3) ls (iv c9 :: st) h hq) rfl (fun ρ _ K => sw_sipush C hd hv K)
  | iload a =>
    obtain ⟨rfl, rfl, rfl⟩ := of_decide_eq_true hcm
    have hq1 : plI (lget ls a) (fun y => k (pc + 2) ls (.inl y :: st) h) = some x := hq
    obtain ⟨y, hy, hq2⟩ := plI_some hq1
    exact go_1 (hk _ _ _ _ hq2) rfl (fun ρ _ K => sw_iload C (Or.inl ⟨hd, rfl⟩) hy K)
  | iload_n a =>
    obtain ⟨rfl, rfl, rfl⟩ := of_decide_eq_true hcm
    have hq1 : plI (lget ls a.val) (fun y => k (pc + 1) ls (.inl y :: st) h) = some x := hq
    obtain ⟨y, hy, hq2⟩ := plI_some hq1
    exact go_1 (hk _ _ _ _ hq2) rfl (fun ρ _ K => sw_iload C (Or.inr ⟨a, hd, rfl, rfl⟩) hy K)
  | aload a =>
    obtain ⟨rfl, rfl, rfl⟩ := of_decide_eq_true hcm
    have hq1 : plR (lget ls a) (fun r o => k (pc + 2) ls (rv r o :: st) h) = some x := hq
    obtain ⟨r, o, hy, hq2⟩ := plR_some hq1
    exact go_1 (hk _ _ _ _ hq2) rfl (fun ρ _ K => sw_aload C hf (Or.inl ⟨hd, rfl⟩) hy K)
  | aload_n a =>
    obtain ⟨rfl, rfl, rfl⟩ := of_decide_eq_true hcm
    have hq1 : plR (lget ls a.val) (fun r o => k (pc + 1) ls (rv r o :: st) h) = some x := hq
    obtain ⟨r, o, hy, hq2⟩ := plR_some hq1
    exact go_1 (hk _ _ _ _ hq2) rfl (fun ρ _ K => sw_aload C hf (Or.inr ⟨a, hd, rfl, rfl⟩) hy K)
  | istore a =>
    obtain ⟨rfl, rfl, rfl, hi⟩ := of_decide_eq_true hcm
    have hq1 : p1i st (fun y s => k (pc + 2) (ls.set a (some (.inl y))) s h) = some x := hq
    obtain ⟨y, s', rfl, hq2⟩ := p1i_some hq1
    exact go_1 (hk _ _ _ _ hq2) rfl (fun ρ _ K => sw_istore C hf (Or.inl ⟨hd, rfl⟩) hi K)
  | istore_n a =>
    obtain ⟨rfl, rfl, rfl, hi⟩ := of_decide_eq_true hcm
    have hq1 : p1i st (fun y s => k (pc + 1) (ls.set a.val (some (.inl y))) s h) = some x := hq
    obtain ⟨y, s', rfl, hq2⟩ := p1i_some hq1
    exact go_1 (hk _ _ _ _ hq2) rfl (fun ρ _ K => sw_istore C hf (Or.inr ⟨a, hd, rfl, rfl⟩) hi K)
  | astore a =>
    obtain ⟨rfl, rfl, rfl, hi⟩ := of_decide_eq_true hcm
    have hq1 : p1r st (fun r o s => k (pc + 2) (ls.set a (some (rv r o))) s h) = some x := hq
    obtain ⟨r, o, s', rfl, hq2⟩ := p1r_some hq1
    exact go_1 (hk _ _ _ _ hq2) rfl (fun ρ _ K => sw_astore C hf (Or.inl ⟨hd, rfl⟩) hi K)
  | astore_n a =>
    obtain ⟨rfl, rfl, rfl, hi⟩ := of_decide_eq_true hcm
    have hq1 : p1r st (fun r o s => k (pc + 1) (ls.set a.val (some (rv r o))) s h) = some x := hq
    obtain ⟨r, o, s', rfl, hq2⟩ := p1r_some hq1
    exact go_1 (hk _ _ _ _ hq2) rfl (fun ρ _ K => sw_astore C hf (Or.inr ⟨a, hd, rfl, rfl⟩) hi K)
  | iinc a n =>
    obtain ⟨rfl, rfl, rfl, hi, hv⟩ := of_decide_eq_true hcm
    have hq1 : plI (lget ls a) (fun y => k (pc + 3) (ls.set a (some (.inl (y + c9)))) st h) = some x := hq
    obtain ⟨y, hy, hq2⟩ := plI_some hq1
    exact go_1 (hk _ _ _ _ hq2) rfl (fun ρ _ K => sw_iinc C hf hd hi hy hv K)
  | iadd =>
    obtain ⟨rfl, rfl, rfl⟩ := of_decide_eq_true hcm
    exact go_bin C hk hd (Or.inl ⟨rfl, rfl⟩) hq
  | isub =>
    obtain ⟨rfl, rfl, rfl⟩ := of_decide_eq_true hcm
    exact go_bin C hk hd (Or.inr (Or.inl ⟨rfl, rfl⟩)) hq
  | imul =>
    obtain ⟨rfl, rfl, rfl⟩ := of_decide_eq_true hcm
    exact go_bin C hk hd (Or.inr (Or.inr (Or.inl ⟨rfl, rfl⟩))) hq
  | iand =>
    obtain ⟨rfl, rfl, rfl⟩ := of_decide_eq_true hcm
    exact go_bin C hk hd (Or.inr (Or.inr (Or.inr (Or.inl ⟨rfl, rfl⟩)))) hq
  | ior =>
    obtain ⟨rfl, rfl, rfl⟩ := of_decide_eq_true hcm
    exact go_bin C hk hd (Or.inr (Or.inr (Or.inr (Or.inr (Or.inl ⟨rfl, rfl⟩))))) hq
  | ixor =>
    obtain ⟨rfl, rfl, rfl⟩ := of_decide_eq_true hcm
    exact go_bin C hk hd (Or.inr (Or.inr (Or.inr (Or.inr (Or.inr (Or.inl ⟨rfl, rfl⟩)))))) hq
  | ishl =>
    obtain ⟨rfl, rfl, rfl⟩ := of_decide_eq_true hcm
    exact go_bin C hk hd (Or.inr (Or.inr (Or.inr (Or.inr (Or.inr (Or.inr (Or.inl ⟨rfl, rfl⟩))))))) hq
  | ishr =>
    obtain ⟨rfl, rfl, rfl⟩ := of_decide_eq_true hcm
    exact go_bin C hk hd (Or.inr (Or.inr (Or.inr (Or.inr (Or.inr (Or.inr (Or.inr (Or.inl ⟨rfl, rfl⟩)))))))) hq
  | iushr =>
    obtain ⟨rfl, rfl, rfl⟩ := of_decide_eq_true hcm
    exact go_bin C hk hd (Or.inr (Or.inr (Or.inr (Or.inr (Or.inr (Or.inr (Or.inr (Or.inr (⟨rfl, rfl⟩))))))))) hq
  | ineg =>
    obtain ⟨rfl, rfl, rfl⟩ := of_decide_eq_true hcm
    exact go_un C hk hd (Or.inl ⟨rfl, rfl⟩) hq
  | i2b =>
    obtain ⟨rfl, rfl, rfl⟩ := of_decide_eq_true hcm
    exact go_un C hk hd (Or.inr (Or.inl ⟨rfl, rfl⟩)) hq
  | i2c =>
    obtain ⟨rfl, rfl, rfl⟩ := of_decide_eq_true hcm
    exact go_un C hk hd (Or.inr (Or.inr ⟨rfl, rfl⟩)) hq
  | idiv =>
    obtain ⟨rfl, rfl, rfl⟩ := of_decide_eq_true hcm
    have hq1 : p2i st (fun y z s => if z = 0 then none else k (pc + 1) ls (.inl (y / z) :: s) h) = some x := hq
    obtain ⟨y, z, s', rfl, hq2⟩ := p2i_some hq1
    obtain ⟨hz, hq3⟩ := ite_n hq2
    exact go_1 (hk _ _ _ _ hq3) rfl (fun ρ _ K => sw_idiv C hd hz K)
  | irem =>
    obtain ⟨rfl, rfl, rfl⟩ := of_decide_eq_true hcm
    have hq1 : p2i st (fun y z s => if z = 0 then none else k (pc + 1) ls (.inl (y - y / z * z) :: s) h) = some x := hq
    obtain ⟨y, z, s', rfl, hq2⟩ := p2i_some hq1
    obtain ⟨hz, hq3⟩ := ite_n hq2
    exact go_1 (hk _ _ _ _ hq3) rfl (fun ρ _ K => sw_irem C hd hz K)
  | if_icmp q off =>
    have hc2 := hcm
    simp only [mcmp, Bool.and_eq_true, decide_eq_true_eq] at hc2
    obtain ⟨⟨rfl, rfl⟩, hc3⟩ := hc2
    split at hc3
    · rename_i n w t
      rw [Bool.and_eq_true, decide_eq_true_eq] at hc3
      obtain ⟨⟨rfl, rfl⟩, ht⟩ := hc3
      have hq1 : p2i st (fun y z s => mbr (cndN q) y z (k t ls s h) (k (pc + 3) ls s h)) = some x := hq
      obtain ⟨y, z, s', rfl, hq2⟩ := p2i_some hq1
      rcases mbr_or hq2 with hv | hv
      · exact ⟨(hk _ _ _ _ hv).1, (hk _ _ _ _ hv).2.1, fun hC ρ he => sw_icmp C hd (tgtB_eq ht) hq2 (fun hv => (hk _ _ _ _ hv).2.2 hC ρ he) (fun hv => (hk _ _ _ _ hv).2.2 hC ρ he)⟩
      · exact ⟨(hk _ _ _ _ hv).1, (hk _ _ _ _ hv).2.1, fun hC ρ he => sw_icmp C hd (tgtB_eq ht) hq2 (fun hv => (hk _ _ _ _ hv).2.2 hC ρ he) (fun hv => (hk _ _ _ _ hv).2.2 hC ρ he)⟩
    · cases hc3
  | ifCond q off =>
    have hc2 := hcm
    simp only [mcmp, Bool.and_eq_true, decide_eq_true_eq] at hc2
    obtain ⟨⟨rfl, rfl⟩, hc3⟩ := hc2
    split at hc3
    · rename_i n w t
      rw [Bool.and_eq_true, decide_eq_true_eq] at hc3
      obtain ⟨⟨rfl, rfl⟩, ht⟩ := hc3
      have hq1 : p1i st (fun y s => mbr (cndN q) y 0 (k t ls s h) (k (pc + 3) ls s h)) = some x := hq
      obtain ⟨y, s', rfl, hq2⟩ := p1i_some hq1
      rcases mbr_or hq2 with hv | hv
      · exact ⟨(hk _ _ _ _ hv).1, (hk _ _ _ _ hv).2.1, fun hC ρ he => sw_ifc C hd (tgtB_eq ht) hq2 (fun hv => (hk _ _ _ _ hv).2.2 hC ρ he) (fun hv => (hk _ _ _ _ hv).2.2 hC ρ he)⟩
      · exact ⟨(hk _ _ _ _ hv).1, (hk _ _ _ _ hv).2.1, fun hC ρ he => sw_ifc C hd (tgtB_eq ht) hq2 (fun hv => (hk _ _ _ _ hv).2.2 hC ρ he) (fun hv => (hk _ _ _ _ hv).2.2 hC ρ he)⟩
    · cases hc3
  | ifnull off =>
    have hc2 := hcm
    simp only [mcmp, Bool.and_eq_true, decide_eq_true_eq] at hc2
    obtain ⟨⟨rfl, rfl⟩, hc3⟩ := hc2
    split at hc3
    · rename_i n w t
      rw [Bool.and_eq_true, decide_eq_true_eq] at hc3
      obtain ⟨⟨rfl, rfl⟩, ht⟩ := hc3
      have hq1 : p1r st (fun r o s => chk (Nat.beq r 7) none (mnu 0 o (k t ls s h) (k (pc + 3) ls s h))) = some x := hq
      obtain ⟨r, o, s', rfl, hq2⟩ := p1r_some hq1
      obtain ⟨h7, hq3⟩ := chk_f hq2
      rcases mnu_or hq3 with hv | hv
      · exact ⟨(hk _ _ _ _ hv).1, (hk _ _ _ _ hv).2.1, fun hC ρ he => sw_ifnull C h7 (Or.inl ⟨hd, rfl⟩) (tgtB_eq ht) hq3 (fun hv => (hk _ _ _ _ hv).2.2 hC ρ he) (fun hv => (hk _ _ _ _ hv).2.2 hC ρ he)⟩
      · exact ⟨(hk _ _ _ _ hv).1, (hk _ _ _ _ hv).2.1, fun hC ρ he => sw_ifnull C h7 (Or.inl ⟨hd, rfl⟩) (tgtB_eq ht) hq3 (fun hv => (hk _ _ _ _ hv).2.2 hC ρ he) (fun hv => (hk _ _ _ _ hv).2.2 hC ρ he)⟩
    · cases hc3
  | ifnonnull off =>
    have hc2 := hcm
    simp only [mcmp, Bool.and_eq_true, decide_eq_true_eq] at hc2
    obtain ⟨⟨rfl, rfl⟩, hc3⟩ := hc2
    split at hc3
    · rename_i n w t
      rw [Bool.and_eq_true, decide_eq_true_eq] at hc3
      obtain ⟨⟨rfl, rfl⟩, ht⟩ := hc3
      have hq1 : p1r st (fun r o s => chk (Nat.beq r 7) none (mnu 1 o (k t ls s h) (k (pc + 3) ls s h))) = some x := hq
      obtain ⟨r, o, s', rfl, hq2⟩ := p1r_some hq1
      obtain ⟨h7, hq3⟩ := chk_f hq2
      rcases mnu_or hq3 with hv | hv
      · exact ⟨(hk _ _ _ _ hv).1, (hk _ _ _ _ hv).2.1, fun hC ρ he => sw_ifnull C h7 (Or.inr ⟨hd, rfl⟩) (tgtB_eq ht) hq3 (fun hv => (hk _ _ _ _ hv).2.2 hC ρ he) (fun hv => (hk _ _ _ _ hv).2.2 hC ρ he)⟩
      · exact ⟨(hk _ _ _ _ hv).1, (hk _ _ _ _ hv).2.1, fun hC ρ he => sw_ifnull C h7 (Or.inr ⟨hd, rfl⟩) (tgtB_eq ht) hq3 (fun hv => (hk _ _ _ _ hv).2.2 hC ρ he) (fun hv => (hk _ _ _ _ hv).2.2 hC ρ he)⟩
    · cases hc3
  | goto off =>
    have hc2 := hcm
    simp only [mcmp, Bool.and_eq_true, decide_eq_true_eq] at hc2
    obtain ⟨⟨rfl, rfl⟩, hc3⟩ := hc2
    split at hc3
    · rename_i t
      exact go_1 (hk t ls st h hq) rfl (fun ρ _ K => sw_goto C hd (tgtB_eq hc3) K)
    · cases hc3
  | tableswitch dflt lo hi offs =>
    have hc2 := hcm
    simp only [mcmp, Bool.and_eq_true, decide_eq_true_eq] at hc2
    obtain ⟨rfl, hc3⟩ := hc2
    split at hc3
    · rename_i q t
      simp only [Bool.and_eq_true, decide_eq_true_eq] at hc3
      obtain ⟨⟨ht, z1, z2, z3, z4⟩, hc4⟩ := hc3
      have hq1 : p1i st (fun y s => msw (mSwt q) y t fun t => k t ls s h) = some x := hq
      obtain ⟨y, s', rfl, hq2⟩ := p1i_some hq1
      obtain ⟨v, hv⟩ := msw_ex _ hq2
      refine ⟨(hk _ _ _ _ hv).1, (hk _ _ _ _ hv).2.1, fun hC ρ he => sw_tsw C hd (tgtB_eq ht) z1 z2 z3 z4 (fun j hj => ?_) hq2 (fun t hv => (hk _ _ _ _ hv).2.2 hC ρ he)⟩
      have h5 := List.all_eq_true.mp hc4 j (List.mem_range.mpr hj)
      cases ho : offs[j]? with
      | none => rw [ho] at h5; cases h5
      | some off =>
        cases hw : (mSwt q)[j]? with
        | none => rw [ho, hw] at h5; cases h5
        | some w =>
          rw [ho, hw] at h5
          rw [Bool.and_eq_true] at h5
          exact ⟨off, w, rfl, rfl, tgtB_eq h5.1, of_decide_eq_true h5.2⟩
    · cases hc3
  | lookupswitch dflt ps =>
    have hc2 := hcm
    simp only [mcmp, Bool.and_eq_true, decide_eq_true_eq] at hc2
    obtain ⟨rfl, hc3⟩ := hc2
    split at hc3
    · rename_i q t
      rw [Bool.and_eq_true, Bool.and_eq_true, Bool.and_eq_true, Bool.and_eq_true] at hc3
      obtain ⟨⟨⟨⟨ht, z1⟩, z2⟩, z3⟩, hc4⟩ := hc3
      have hq1 : p1i st (fun y s => msw (mSwt q) y t fun t => k t ls s h) = some x := hq
      obtain ⟨y, s', rfl, hq2⟩ := p1i_some hq1
      obtain ⟨v, hv⟩ := msw_ex _ hq2
      refine ⟨(hk _ _ _ _ hv).1, (hk _ _ _ _ hv).2.1, fun hC ρ he => sw_lsw C hd (tgtB_eq ht) (of_decide_eq_true z1) z2 (fun w hw => of_decide_eq_true (List.all_eq_true.mp z3 w hw)) (fun w hw => ?_) hq2 (fun t hv => (hk _ _ _ _ hv).2.2 hC ρ he)⟩
      have h5 := List.all_eq_true.mp hc4 w hw
      rw [Bool.and_eq_true] at h5
      exact ⟨tgtB_eq h5.1, of_decide_eq_true h5.2⟩
    · cases hc3
  | dup =>
    obtain ⟨rfl, rfl, rfl⟩ := of_decide_eq_true hcm
    have hq1 : (match (generalizing := false) st with | .inl y :: s => k (pc + 1) ls (.inl y :: .inl y :: s) h | .inr (.inl q) :: s => k (pc + 1) ls (.inr (.inl q) :: .inr (.inl q) :: s) h | _ => none) = some x := hq
    split at hq1
    · exact go_1 (hk _ _ _ _ hq1) rfl (fun ρ _ K => sw_dup C hf rfl hd K)
    · exact go_1 (hk _ _ _ _ hq1) rfl (fun ρ _ K => sw_dup C hf rfl hd K)
    · cases hq1
  | dup2 =>
    obtain ⟨rfl, rfl, rfl⟩ := of_decide_eq_true hcm
    have hq1 : p1i st (fun y s => p1r s fun r o s => k (pc + 1) ls (.inl y :: rv r o :: .inl y :: rv r o :: s) h) = some x := hq
    obtain ⟨y, s', rfl, hq2⟩ := p1i_some hq1
    obtain ⟨r, o, s2, rfl, hq3⟩ := p1r_some hq2
    exact go_1 (hk _ _ _ _ hq3) rfl (fun ρ _ K => sw_dup2 C hf rfl rfl hd K)
  | pop =>
    obtain ⟨rfl, rfl, rfl⟩ := of_decide_eq_true hcm
    have hq1 : (match (generalizing := false) st with | .inl _ :: s => k (pc + 1) ls s h | .inr (.inl _) :: s => k (pc + 1) ls s h | _ => none) = some x := hq
    split at hq1
    · exact go_1 (hk _ _ _ _ hq1) rfl (fun ρ _ K => sw_pop C hf rfl hd K)
    · exact go_1 (hk _ _ _ _ hq1) rfl (fun ρ _ K => sw_pop C hf rfl hd K)
    · cases hq1
  | iaload =>
    obtain ⟨rfl, rfl, rfl⟩ := of_decide_eq_true hcm
    exact go_xald C hX hk hd (Or.inl ⟨rfl, rfl⟩) hq
  | baload =>
    obtain ⟨rfl, rfl, has⟩ := of_decide_eq_true hcm
    rcases has with rfl | rfl
    · exact go_xald C hX hk hd (Or.inr ⟨rfl, Or.inl rfl⟩) hq
    · exact go_xald C hX hk hd (Or.inr ⟨rfl, Or.inr rfl⟩) hq
  | iastore =>
    have hc2 := hcm
    simp only [mcmp, Bool.and_eq_true, decide_eq_true_eq] at hc2
    obtain ⟨⟨rfl, rfl⟩, hc3⟩ := hc2
    split at hc3
    · obtain ⟨rfl, rfl⟩ := of_decide_eq_true hc3
      exact go_xast C hk hd (Or.inl ⟨rfl, rfl⟩) hq
    · cases hc3
  | bastore =>
    have hc2 := hcm
    simp only [mcmp, Bool.and_eq_true, decide_eq_true_eq] at hc2
    obtain ⟨⟨rfl, rfl⟩, hc3⟩ := hc2
    split at hc3
    · obtain ⟨rfl, ht⟩ := of_decide_eq_true hc3
      exact go_xast C hk hd (Or.inr ⟨rfl, ht⟩) hq
    · cases hc3
  | arraylength =>
    obtain ⟨rfl, rfl, rfl⟩ := of_decide_eq_true hcm
    have hq1 : p1r st (fun r o s => onS o fun j => chk (Nat.beq (rTag r) 0) none (chk (Nat.beq r 1 && Nat.beq P.2.1 4000) none (k (pc + 1) ls (.inl (Int32.ofNat (rLen P r j)) :: s) h))) = some x := hq
    obtain ⟨r, o, s2, rfl, hq3⟩ := p1r_some hq1
    obtain ⟨j, rfl, hq4⟩ := onS_some hq3
    obtain ⟨hb, hq4b⟩ := chk_f hq4
    obtain ⟨hno, hq5⟩ := chk_f hq4b
    have ht0 : rTag r ≠ 0 := by
      intro z
      rw [z] at hb
      cases hb
    exact go_1 (hk _ _ _ _ hq5) rfl (fun ρ he K => sw_alen C (hXr ρ he) (ne7 ht0) ht0 hno hd K)
  | getfield idx =>
    have hc2 := hcm
    simp only [mcmp, Bool.and_eq_true, decide_eq_true_eq] at hc2
    obtain ⟨rfl, hc3⟩ := hc2
    split at hc3
    · rename_i q hl
      cases hb : Nat.beq q.1 14 with
      | true =>
        rw [hb] at hc3
        simp only [cond_true, decide_eq_true_eq] at hc3
        obtain ⟨rfl, hop⟩ := hc3
        have h14 := Nat.eq_of_beq_eq_true hb
        have hq' : q = (14, q.2) := by rw [← h14]
        rw [hq'] at hl
        by_cases h0' : q.2 = 0
        · rw [if_pos h0'] at hop
          subst hop
          rw [h0'] at hl hq
          have hq1 : p1r st (fun r o s => onS o fun j => chk (Nat.beq (rCls r) 14) (k (pc + 3) ls (rv (rTgt r 0) (rdR P h.2.1 r j 0) :: s) h) none) = some x := hq
          obtain ⟨r, o, s2, rfl, hq3⟩ := p1r_some hq1
          obtain ⟨j, rfl, hq4⟩ := onS_some hq3
          obtain ⟨hb2, hq5⟩ := chk_t hq4
          have hr := Nat.eq_of_beq_eq_true hb2
          have h2 : r = 2 := str_reg r (rg_lt (Or.inl (by omega))) hr
          subst h2
          have e1 : rdR P h.2.1 2 j 0 = some j := by
            unfold rdR
            rw [hPk.2.2]
          rw [e1, tg_2] at hq5
          exact go_1 (hk _ _ _ _ hq5) rfl (fun ρ he K => sw_strV C (hXr ρ he) hl hd K)
        · rw [if_neg h0'] at hop
          subst hop
          rcases fLk_str hl with ⟨z, -⟩ | ⟨z, -⟩
          · exact absurd z h0'
          · rw [z] at hl hq
            have hq1 : p1r st (fun r o s => onS o fun j => chk (Nat.beq (rCls r) 14) (k (pc + 3) ls (.inl (rdI P h.1 r j 1) :: s) h) none) = some x := hq
            obtain ⟨r, o, s2, rfl, hq3⟩ := p1r_some hq1
            obtain ⟨j, rfl, hq4⟩ := onS_some hq3
            obtain ⟨hb2, hq5⟩ := chk_t hq4
            have hr := Nat.eq_of_beq_eq_true hb2
            have h2 : r = 2 := str_reg r (rg_lt (Or.inl (by omega))) hr
            subst h2
            exact go_1 (hk (pc + 3) ls (iv 0 :: s2) h hq5) rfl (fun ρ he K => sw_strC C (hXr ρ he) hl hd K)
      | false =>
        rw [hb] at hc3
        simp only [cond_false, decide_eq_true_eq] at hc3
        obtain ⟨rfl, hop⟩ := hc3
        have hci : q.1 < 13 := (fLk_ci hl).resolve_right (fun z => by rw [z] at hb; cases hb)
        by_cases h2' : fKd q.1 q.2 = 2
        · rw [if_pos h2'] at hop
          subst hop
          have hq1 : p1r st (fun r o s => onS o fun j => chk (Nat.beq (rCls r) q.1) (k (pc + 3) ls (rv (rTgt r q.2) (rdR P h.2.1 r j q.2) :: s) h) none) = some x := hq
          obtain ⟨r, o, s2, rfl, hq3⟩ := p1r_some hq1
          obtain ⟨j, rfl, hq4⟩ := onS_some hq3
          obtain ⟨hb2, hq5⟩ := chk_t hq4
          exact go_1 (hk _ _ _ _ hq5) rfl (fun ρ he K => sw_getR C hK hl hci (Nat.eq_of_beq_eq_true hb2) h2' hd K)
        · rw [if_neg h2'] at hop
          subst hop
          have hq1 : p1r st (fun r o s => onS o fun j => chk (Nat.beq (rCls r) q.1) (k (pc + 3) ls (.inl (rdI P h.1 r j q.2) :: s) h) none) = some x := hq
          obtain ⟨r, o, s2, rfl, hq3⟩ := p1r_some hq1
          obtain ⟨j, rfl, hq4⟩ := onS_some hq3
          obtain ⟨hb2, hq5⟩ := chk_t hq4
          exact go_1 (hk _ _ _ _ hq5) rfl (fun ρ he K => sw_getI C hK hl hci (Nat.eq_of_beq_eq_true hb2) h2' hd K)
    · cases hc3
  | putfield idx =>
    have hc2 := hcm
    simp only [mcmp, Bool.and_eq_true, decide_eq_true_eq] at hc2
    obtain ⟨rfl, hc3⟩ := hc2
    split at hc3
    · rename_i q hl
      rw [Bool.and_eq_true, Bool.and_eq_true] at hc3
      obtain ⟨⟨hci, hc4⟩, hfin⟩ := hc3
      have hci := of_decide_eq_true hci
      obtain ⟨cq, hcq, hkl, -⟩ := fLk_ok (k := q.2) (ci := q.1) hl hci
      rw [hcq] at hfin
      have hfin' : (cq.2.1 q.2).2.2.2 = false ∨ ((mNm m).name = "<init>" ∧ (cq.2.1 q.2).1 = clsN (mOw m)) := by
        simp only [Bool.or_eq_true, Bool.not_eq_true', Bool.and_eq_true, decide_eq_true_eq] at hfin
        exact hfin
      cases hb : Nat.beq (fKd q.1 q.2) 2 with
      | true =>
        rw [hb] at hc4
        simp only [cond_true, decide_eq_true_eq] at hc4
        obtain ⟨rfl, rfl⟩ := hc4
        have hkd := Nat.eq_of_beq_eq_true hb
        have hq1 : p1r st (fun r' o' s => p1r s fun r o s => onS o fun j => chk (Nat.beq (rCls r) q.1) (match (generalizing := false) P.1 r q.2 with | some _ => none | none => chk (Nat.beq r' (rTgt r q.2)) (k (pc + 3) ls s (h.1, m3 h.2.1 r j q.2 o', h.2.2)) (chk o'.isNone (k (pc + 3) ls s (h.1, m3 h.2.1 r j q.2 none, h.2.2)) none)) none) = some x := hq
        obtain ⟨r', o', s2, rfl, hq2⟩ := p1r_some hq1
        obtain ⟨r, o, s3, rfl, hq3⟩ := p1r_some hq2
        obtain ⟨j, rfl, hq4⟩ := onS_some hq3
        obtain ⟨hb2, hq5⟩ := chk_t hq4
        have hr := Nat.eq_of_beq_eq_true hb2
        cases hsr : P.1 r q.2 with
        | some _ => rw [hsr] at hq5; cases hq5
        | none =>
          rw [hsr] at hq5
          rcases chk_or hq5 with ⟨hb3, hq6⟩ | ⟨hb3, hq6⟩
          · exact go_1 (hk _ _ _ _ hq6) rfl (fun ρ he K => sw_putR C hf hK hl hci hr hkd hcq hfin' hsr (Or.inl ⟨Nat.eq_of_beq_eq_true hb3, rfl⟩) hd K)
          · obtain ⟨hb4, hq7⟩ := chk_t hq6
            exact go_1 (hk _ _ _ _ hq7) rfl (fun ρ he K => sw_putR C hf hK hl hci hr hkd hcq hfin' hsr (Or.inr ⟨Option.isNone_iff_eq_none.mp hb4, rfl⟩) hd K)
      | false =>
        rw [hb] at hc4
        simp only [cond_false, decide_eq_true_eq] at hc4
        obtain ⟨rfl, rfl⟩ := hc4
        have hq1 : p1i st (fun y s => p1r s fun r o s => onS o fun j => chk (Nat.beq (rCls r) q.1) (match (generalizing := false) fKd q.1 q.2 with | 0 => k (pc + 3) ls s (m3 h.1 r j q.2 y, h.2) | _ => if y &&& 1 = y then k (pc + 3) ls s (m3 h.1 r j q.2 y, h.2) else none) none) = some x := hq
        obtain ⟨y, s2, rfl, hq2⟩ := p1i_some hq1
        obtain ⟨r, o, s3, rfl, hq3⟩ := p1r_some hq2
        obtain ⟨j, rfl, hq4⟩ := onS_some hq3
        obtain ⟨hb2, hq5⟩ := chk_t hq4
        have hr := Nat.eq_of_beq_eq_true hb2
        rcases fKd_cases hcq hkl with hkd | hkd | hkd
        · rw [hkd] at hq5
          exact go_1 (hk (pc + 3) ls s3 (m3 h.1 r j q.2 y, h.2) hq5) rfl (fun ρ he K => sw_putI C hK hl hci hr (Or.inl hkd) hcq hfin' hd K)
        · rw [hkd] at hq5
          have hq6 : (if y &&& 1 = y then k (pc + 3) ls s3 (m3 h.1 r j q.2 y, h.2) else none) = some x := hq5
          by_cases hy : y &&& 1 = y
          · rw [if_pos hy] at hq6
            exact go_1 (hk _ _ _ _ hq6) rfl (fun ρ he K => sw_putI C hK hl hci hr (Or.inr ⟨hkd, hy⟩) hcq hfin' hd K)
          · rw [if_neg hy] at hq6
            cases hq6
        · rw [hkd] at hb
          cases hb
    · cases hc3
  | getstatic idx =>
    have hc2 := hcm
    simp only [mcmp, Bool.and_eq_true, decide_eq_true_eq] at hc2
    obtain ⟨rfl, hc3⟩ := hc2
    cases hg : gLk (mOw m) idx with
    | none => rw [hg] at hc3; cases hc3
    | some r =>
      rw [hg] at hc3
      by_cases h8 : r = 8
      · subst h8
        obtain ⟨rfl, rfl, rfl⟩ := of_decide_eq_true hc3
        exact go_1 (hk (pc + 3) ls (iv 1 :: st) h hq) rfl (fun ρ he K => sw_getc C (hXr ρ he) hg hd K)
      · have hc4 : decide (op = 34 ∧ as = [pc + 3, r, 0]) = true := by
          split at hc3
          · rename_i z
            exact absurd (Option.some.inj z) h8
          · rename_i z
            cases Option.some.inj z
            exact hc3
          · cases hc3
        obtain ⟨rfl, rfl⟩ := of_decide_eq_true hc4
        exact go_1 (hk (pc + 3) ls (rv r (some 0) :: st) h hq) rfl (fun ρ he K => sw_gets C (hXr ρ he) hg h8 hd K)
  | ldc idx =>
    have hc2 := hcm
    simp only [mcmp, Bool.and_eq_true, decide_eq_true_eq] at hc2
    obtain ⟨rfl, hc3⟩ := hc2
    split at hc3
    · rename_i j hs
      obtain ⟨rfl, rfl⟩ := of_decide_eq_true hc3
      exact go_1 (hk (pc + 2) ls (rv 2 (some j) :: st) h hq) rfl (fun ρ he K => sw_ldcs C (hXr ρ he) hs hd K)
    · cases hc3
  | aaload =>
    obtain ⟨rfl, rfl, rfl⟩ := of_decide_eq_true hcm
    have hq1 : p1i st (fun i s => p1r s fun r o s => onS o fun j => chk (Nat.beq (rTag r) 5) (if ino i (rLen P r j) then none else k (pc + 1) ls (rv (rTgt r 0) (rdR P h.2.1 r j i.toNatClampNeg) :: s) h) none) = some x := hq
    obtain ⟨y, s2, rfl, hq2⟩ := p1i_some hq1
    obtain ⟨r, o, s3, rfl, hq3⟩ := p1r_some hq2
    obtain ⟨j, rfl, hq4⟩ := onS_some hq3
    obtain ⟨hb2, hq5⟩ := chk_t hq4
    obtain ⟨hin, hq6⟩ := ite_n hq5
    have ht := Nat.eq_of_beq_eq_true hb2
    have hrl := rg_lt (r := r) (Or.inr (by omega))
    obtain ⟨h10, htg, -⟩ := rtag5 r hrl ht
    have hlt : y.toNatClampNeg < 60 := by
      have h1 : ¬ rLen P r j ≤ y.toNatClampNeg := fun z => hin (Or.inr z)
      rw [rLen_dyn h10] at h1
      have h2 := rt5_len r hrl ht
      omega
    rw [← htg _ hlt] at hq6
    exact go_1 (hk _ _ _ _ hq6) rfl (fun ρ he K => sw_aald C h10 ht hd hin K)
  | aastore =>
    obtain ⟨rfl, rfl, rfl⟩ := of_decide_eq_true hcm
    have hq1 : p1r st (fun r' o' s => p1i s fun i s => p1r s fun r o s => onS o fun j => onS o' fun j' => chk (Nat.beq (rTag r) 5) (match (generalizing := false) P.1 r 0 with | some _ => none | none => chk (Nat.beq r' (rTgt r 0)) (if ino i (rLen P r j) then none else k (pc + 1) ls s (h.1, m3 h.2.1 r j i.toNatClampNeg (some j'), h.2.2)) none) none) = some x := hq
    obtain ⟨r', o', s2, rfl, hq2⟩ := p1r_some hq1
    obtain ⟨y, s3, rfl, hq3⟩ := p1i_some hq2
    obtain ⟨r, o, s4, rfl, hq4⟩ := p1r_some hq3
    obtain ⟨j, rfl, hq5⟩ := onS_some hq4
    obtain ⟨j', rfl, hq6⟩ := onS_some hq5
    obtain ⟨hb2, hq7⟩ := chk_t hq6
    have ht := Nat.eq_of_beq_eq_true hb2
    have hrl := rg_lt (r := r) (Or.inr (by omega))
    obtain ⟨h10, htg, -⟩ := rtag5 r hrl ht
    cases hsr : P.1 r 0 with
    | some _ => rw [hsr] at hq7; cases hq7
    | none =>
      rw [hsr] at hq7
      obtain ⟨hb3, hq8⟩ := chk_t hq7
      obtain ⟨hin, hq9⟩ := ite_n hq8
      have hlt : y.toNatClampNeg < 60 := by
        have h1 : ¬ rLen P r j ≤ y.toNatClampNeg := fun z => hin (Or.inr z)
        rw [rLen_dyn h10] at h1
        have h2 := rt5_len r hrl ht
        omega
      exact go_1 (hk _ _ _ _ hq9) rfl (fun ρ he K => sw_aast C (hXr ρ he) ht (htg _ hlt) (Nat.eq_of_beq_eq_true hb3) (hPk.2.1 r ht hsr _ hlt) hd hin K)
  | laload =>
    obtain ⟨rfl, rfl, rfl⟩ := of_decide_eq_true hcm
    have hq1 : p1i st (fun i s => p1r s fun r o s => onS o fun j => chk (Nat.beq (rTag r) 4) (if ino i (rLen P r j) then none else k (pc + 1) ls (jv (h.2.2.1 r j i.toNatClampNeg) :: s) h) none) = some x := hq
    obtain ⟨y, s2, rfl, hq2⟩ := p1i_some hq1
    obtain ⟨r, o, s3, rfl, hq3⟩ := p1r_some hq2
    obtain ⟨j, rfl, hq4⟩ := onS_some hq3
    obtain ⟨hb2, hq5⟩ := chk_t hq4
    obtain ⟨hin, hq6⟩ := ite_n hq5
    have ht := Nat.eq_of_beq_eq_true hb2
    exact go_1 (hk _ _ _ _ hq6) rfl (fun ρ he K => sw_lald C (rtag4 r (rg_lt (Or.inr (by omega))) ht) ht hd hin K)
  | lastore =>
    have hc2 := hcm
    simp only [mcmp, Bool.and_eq_true, decide_eq_true_eq] at hc2
    obtain ⟨⟨rfl, rfl⟩, hc3⟩ := hc2
    obtain ⟨r0, rfl⟩ := as2_ok hc3
    have hq1 : p1j st (fun y s => p1i s fun i s => p1r s fun r o s => onS o fun j => chk (Nat.beq (rTag r) 4 && Nat.beq r r0) (if ino i (rLen P r j) then none else k (pc + 1) ls s (h.1, h.2.1, m3 h.2.2.1 r j i.toNatClampNeg y, h.2.2.2)) none) = some x := hq
    obtain ⟨y0, s1, rfl, hq1b⟩ := p1j_some hq1
    obtain ⟨y, s2, rfl, hq2⟩ := p1i_some hq1b
    obtain ⟨r, o, s3, rfl, hq3⟩ := p1r_some hq2
    obtain ⟨j, rfl, hq4⟩ := onS_some hq3
    obtain ⟨hb2, hq5⟩ := chk_t hq4
    obtain ⟨hin, hq6⟩ := ite_n hq5
    rw [Bool.and_eq_true] at hb2
    have ht := Nat.eq_of_beq_eq_true hb2.1
    exact go_1 (hk _ _ _ _ hq6) rfl (fun ρ he K => sw_last C (rtag4 r (rg_lt (Or.inr (by omega))) ht) ht hd hin K)
  | aconst_null =>
    have hc2 := hcm
    simp only [mcmp, Bool.and_eq_true, decide_eq_true_eq] at hc2
    obtain ⟨⟨rfl, rfl⟩, hc3⟩ := hc2
    split at hc3
    · rename_i n r
      obtain ⟨rfl, -⟩ := of_decide_eq_true hc3
      exact go_1 (hk (pc + 1) ls (rv r none :: st) h hq) rfl (fun ρ he K => sw_null C r hd K)
    · cases hc3
  | i2l =>
    obtain ⟨rfl, rfl, rfl⟩ := of_decide_eq_true hcm
    have hq1 : p1i st (fun y s => k (pc + 1) ls (jv y.toInt64 :: s) h) = some x := hq
    obtain ⟨y, s2, rfl, hq2⟩ := p1i_some hq1
    exact go_1 (hk _ _ _ _ hq2) rfl (fun ρ he K => sw_i2l C hd K)
  | lconst n =>
    obtain ⟨rfl, rfl, rfl⟩ := of_decide_eq_true hcm
    exact go_1 (hk (pc + 1) ls (jv (Int64.ofNat n.val) :: st) h hq) rfl (fun ρ he K => sw_lconst C hd K)
  | lcmp =>
    obtain ⟨rfl, rfl, rfl⟩ := of_decide_eq_true hcm
    have hq1 : p1j st (fun y s => p1j s fun z s => if z < y then k (pc + 1) ls (.inl (-1) :: s) h else if z = y then k (pc + 1) ls (.inl 0 :: s) h else k (pc + 1) ls (.inl 1 :: s) h) = some x := hq
    obtain ⟨y, s1, rfl, hq2⟩ := p1j_some hq1
    obtain ⟨z, s2, rfl, hq3⟩ := p1j_some hq2
    by_cases h1 : z < y
    · rw [if_pos h1] at hq3
      exact go_1 (hk _ _ _ _ hq3) rfl (fun ρ he K => sw_lcmp C hd (fun _ => K) (fun g => absurd h1 g) (fun g => absurd h1 g))
    · rw [if_neg h1] at hq3
      by_cases h2 : z = y
      · rw [if_pos h2] at hq3
        exact go_1 (hk _ _ _ _ hq3) rfl (fun ρ he K => sw_lcmp C hd (fun g => absurd g h1) (fun _ _ => K) (fun _ g => absurd h2 g))
      · rw [if_neg h2] at hq3
        exact go_1 (hk _ _ _ _ hq3) rfl (fun ρ he K => sw_lcmp C hd (fun g => absurd g h1) (fun _ g => absurd g h2) (fun _ _ => K))
  | new idx =>
    have hc2 := hcm
    simp only [mcmp, Bool.and_eq_true, decide_eq_true_eq] at hc2
    obtain ⟨rfl, hc3⟩ := hc2
    split at hc3
    · rename_i ci hl
      obtain ⟨rfl, rfl⟩ := of_decide_eq_true hc3
      have hq1 : (match (generalizing := false) P.1 (ci + 10) 1000 with | some _ => none | none => k (pc + 3) ls (rv (ci + 10) (some (h.2.2.2.1 (ci + 10))) :: st) (mnew h (ci + 10) (regL (ci + 10)))) = some x := hq
      cases hsr : P.1 (ci + 10) 1000 with
      | some _ => rw [hsr] at hq1; cases hq1
      | none =>
        rw [hsr] at hq1
        exact go_n (hk (pc + 3) ls (rv (ci + 10) (some (h.2.2.2.1 (ci + 10))) :: st) (mnew h (ci + 10) (regL (ci + 10))) hq1) (fun b1 b2 ρ he K => sw_new C hK hl (hPk.1 (ci + 10) (by omega) hsr) hd (by omega) (by omega) K)
    · cases hc3
  | newarray t =>
    have hc2 := hcm
    simp only [mcmp, Bool.and_eq_true, decide_eq_true_eq] at hc2
    obtain ⟨⟨rfl, rfl⟩, hc3⟩ := hc2
    split at hc3
    · rename_i n r
      rw [Bool.and_eq_true, decide_eq_true_eq] at hc3
      obtain ⟨⟨rfl, h10⟩, hc4⟩ := hc3
      have hat : (t = .int ∧ rTag r = 1) ∨ (t = .byte ∧ rTag r = 2) ∨ (t = .boolean ∧ rTag r = 3) ∨ (t = .long ∧ rTag r = 4) := by
        cases t with
        | int => exact Or.inl ⟨rfl, of_decide_eq_true hc4⟩
        | byte => exact Or.inr (Or.inl ⟨rfl, of_decide_eq_true hc4⟩)
        | boolean => exact Or.inr (Or.inr (Or.inl ⟨rfl, of_decide_eq_true hc4⟩))
        | long => exact Or.inr (Or.inr (Or.inr ⟨rfl, of_decide_eq_true hc4⟩))
        | _ => cases hc4
      have hq1 : p1i st (fun y s => chk (y == Int32.ofNat (regL r)) (match (generalizing := false) P.1 r 1000 with | some _ => none | none => k (pc + 2) ls (rv r (some (h.2.2.2.1 r)) :: s) (mnew h r (regL r))) none) = some x := hq
      obtain ⟨y, s2, rfl, hq2⟩ := p1i_some hq1
      obtain ⟨hb, hq3⟩ := chk_t hq2
      cases hsr : P.1 r 1000 with
      | some _ => rw [hsr] at hq3; cases hq3
      | none =>
        rw [hsr] at hq3
        exact go_n (hk (pc + 2) ls (rv r (some (h.2.2.2.1 r)) :: s2) (mnew h r (regL r)) hq3) (fun b1 b2 ρ he K => sw_newa C h10 (hPk.1 r h10 hsr) hat (eq_of_beq hb) hd (by omega) (by omega) K)
    · cases hc3
  | anewarray idx =>
    have hc2 := hcm
    simp only [mcmp, Bool.and_eq_true, decide_eq_true_eq] at hc2
    obtain ⟨⟨rfl, rfl⟩, hc3⟩ := hc2
    split at hc3
    · rename_i r hl
      have has := of_decide_eq_true hc3
      subst has
      have hq1 : p1i st (fun y s => chk (y == Int32.ofNat (regL r)) (match (generalizing := false) P.1 r 1000 with | some _ => none | none => k (pc + 3) ls (rv r (some (h.2.2.2.1 r)) :: s) (mnew h r (regL r))) none) = some x := hq
      obtain ⟨y, s2, rfl, hq2⟩ := p1i_some hq1
      obtain ⟨hb, hq3⟩ := chk_t hq2
      have ht := (aLk_ok hl).1
      have h10 := (rtag5 r (rg_lt (Or.inr (by omega))) ht).1
      cases hsr : P.1 r 1000 with
      | some _ => rw [hsr] at hq3; cases hq3
      | none =>
        rw [hsr] at hq3
        exact go_n (hk (pc + 3) ls (rv r (some (h.2.2.2.1 r)) :: s2) (mnew h r (regL r)) hq3) (fun b1 b2 ρ he K => sw_anew C (hXr ρ he) hl (hPk.1 r h10 hsr) (eq_of_beq hb) hd (by omega) (by omega) K)
    · cases hc3
  | invokevirtual idx =>
    have hc2 := hcm
    simp only [mcmp, Bool.and_eq_true, decide_eq_true_eq] at hc2
    obtain ⟨rfl, hc3⟩ := hc2
    split at hc3
    · rename_i m' hl
      simp only [Bool.and_eq_true, decide_eq_true_eq, Bool.not_eq_true'] at hc3
      obtain ⟨⟨⟨rfl, hst⟩, hnm⟩, hc4⟩ := hc3
      split at hc4
      · rename_i n kd q na rk rr
        obtain ⟨rfl, rfl, rfl, rfl, rfl, -⟩ := of_decide_eq_true hc4
        exact go_37 C hf hm hmc hX hRf hRl hRc hRs hE hk hcd hl hq (Or.inr (Or.inl ⟨rfl, hst, rfl, hnm, hd⟩))
      · cases hc4
    · cases hc3
  | invokespecial idx =>
    have hc2 := hcm
    simp only [mcmp, Bool.and_eq_true, decide_eq_true_eq] at hc2
    obtain ⟨rfl, hc3⟩ := hc2
    split at hc3
    · rename_i m' hl
      simp only [Bool.and_eq_true, decide_eq_true_eq, Bool.not_eq_true'] at hc3
      obtain ⟨⟨⟨rfl, hst⟩, hnm⟩, hc4⟩ := hc3
      split at hc4
      · rename_i n kd q na rk rr
        obtain ⟨rfl, rfl, rfl, rfl, rfl, hrt, -⟩ := of_decide_eq_true hc4
        exact go_37 C hf hm hmc hX hRf hRl hRc hRs hE hk hcd hl hq (Or.inr (Or.inr ⟨rfl, hst, rfl, hnm, hrt, hd⟩))
      · cases hc4
    · rw [Bool.and_eq_true, decide_eq_true_eq] at hc3
      obtain ⟨⟨rfl, rfl⟩, ho⟩ := hc3
      have hq1 : p1r st (fun r o s => onS o fun _ => chk (Nat.ble (mcat s) 8 && !Nat.beq r 7) (k (pc + 3) ls s h) none) = some x := hq
      obtain ⟨r, o, s2, rfl, hq2⟩ := p1r_some hq1
      obtain ⟨j, rfl, hq3⟩ := onS_some hq2
      obtain ⟨hb, hq4⟩ := chk_t hq3
      rw [Bool.and_eq_true, Bool.not_eq_true'] at hb
      exact go_1 (hk _ _ _ _ hq4) rfl (fun ρ he K => sw_obj C hf hb.2 ho (Nat.le_of_ble_eq_true hb.1) (by omega) (by omega) hd K)
  | invokestatic idx =>
    have hc2 := hcm
    simp only [mcmp, Bool.and_eq_true, decide_eq_true_eq] at hc2
    obtain ⟨rfl, hc3⟩ := hc2
    split at hc3
    · rename_i m' hl
      simp only [Bool.and_eq_true, decide_eq_true_eq] at hc3
      obtain ⟨⟨rfl, hst⟩, hc4⟩ := hc3
      split at hc4
      · rename_i n kd q na rk rr
        obtain ⟨rfl, rfl, rfl, rfl, rfl, -⟩ := of_decide_eq_true hc4
        exact go_37 C hf hm hmc hX hRf hRl hRc hRs hE hk hcd hl hq (Or.inl ⟨rfl, hst, rfl, hd⟩)
      · cases hc4
    · split at hc3
      · rename_i w hl
        obtain ⟨rfl, rfl⟩ := of_decide_eq_true hc3
        have hq1 : chk (Nat.ble (mcat st) 8) (match (generalizing := false) w with
          | 0 => p2i st fun y z s => k (pc + 3) ls (.inl (if y < z then z else y) :: s) h
          | 1 => p2i st fun y z s => k (pc + 3) ls (.inl (if z < y then z else y) :: s) h
          | _ => p1i st fun y s => k (pc + 3) ls (.inl (if 0 ≤ y then y else 0 - y) :: s) h) none = some x := hq
        obtain ⟨hb, hq2⟩ := chk_t hq1
        have hcat := Nat.le_of_ble_eq_true hb
        rcases xLk_ok hl with ⟨rfl, -⟩ | ⟨rfl, -⟩ | ⟨rfl, -⟩
        · obtain ⟨y, z, s2, rfl, hq3⟩ := p2i_some (F := fun y z s => k (pc + 3) ls (.inl (if y < z then z else y) :: s) h) hq2
          have g := hk _ _ _ _ hq3
          have b1 := g.1
          have b2 := g.2.1
          exact go_1 g rfl (fun ρ he K => sw_max C hf hl (Or.inl rfl) (by have : mcat (iv z :: iv y :: s2) = mcat s2 + 1 + 1 := rfl; omega) (by omega) (by omega) (by omega) (by omega) hd K)
        · obtain ⟨y, z, s2, rfl, hq3⟩ := p2i_some (F := fun y z s => k (pc + 3) ls (.inl (if z < y then z else y) :: s) h) hq2
          have g := hk _ _ _ _ hq3
          have b1 := g.1
          have b2 := g.2.1
          exact go_1 g rfl (fun ρ he K => sw_max C hf hl (Or.inr rfl) (by have : mcat (iv z :: iv y :: s2) = mcat s2 + 1 + 1 := rfl; omega) (by omega) (by omega) (by omega) (by omega) hd K)
        · obtain ⟨y, s2, rfl, hq3⟩ := p1i_some (F := fun y s => k (pc + 3) ls (.inl (if 0 ≤ y then y else 0 - y) :: s) h) hq2
          have g := hk _ _ _ _ hq3
          have b1 := g.1
          have b2 := g.2.1
          exact go_1 g rfl (fun ρ he K => sw_abs C hf hl (by have : mcat (iv y :: s2) = mcat s2 + 1 := rfl; omega) (by omega) (by omega) (by omega) (by omega) hd K)
      · rw [Bool.and_eq_true, Bool.and_eq_true, decide_eq_true_eq] at hc3
        obtain ⟨⟨rfl, hc4⟩, hy⟩ := hc3
        obtain ⟨r0, rfl⟩ := as2_ok hc4
        have hq1 : p1i st (fun len s => p1i s fun dp s => p1r s fun r' o' s => p1i s fun sp s => p1r s fun r o s => onS o fun j => onS o' fun j' =>
          chk (Nat.beq (rTag r) 1 && Nat.ble (mcat s) 8) (chk (Nat.beq (rTag r') 1 && Nat.beq r' r0) (chk (Nat.blt r' 10 || Nat.blt r 10) none (if len < 0 then none else if sp < 0 then none else if dp < 0 then none else if rLen P r j < sp.toNatClampNeg + len.toNatClampNeg then none else if rLen P r' j' < dp.toNatClampNeg + len.toNatClampNeg then none else
            k (pc + 3) ls s (mcp h.1 r' j' (rdI P h.1 r j) sp.toNatClampNeg dp.toNatClampNeg len.toNatClampNeg, h.2))) none) none) = some x := hq
        obtain ⟨n, s1, rfl, q1⟩ := p1i_some hq1
        obtain ⟨dp, s2, rfl, q2⟩ := p1i_some q1
        obtain ⟨r', o', s3, rfl, q3⟩ := p1r_some q2
        obtain ⟨sp, s4, rfl, q4⟩ := p1i_some q3
        obtain ⟨r, o, s5, rfl, q5⟩ := p1r_some q4
        obtain ⟨j, rfl, q6⟩ := onS_some q5
        obtain ⟨j', rfl, q7⟩ := onS_some q6
        obtain ⟨b1, q8⟩ := chk_t q7
        obtain ⟨b2, q9⟩ := chk_t q8
        obtain ⟨b3, q10⟩ := chk_f q9
        obtain ⟨g1, q11⟩ := ite_n q10
        obtain ⟨g2, q12⟩ := ite_n q11
        obtain ⟨g3, q13⟩ := ite_n q12
        obtain ⟨g4, q14⟩ := ite_n q13
        obtain ⟨g5, q15⟩ := ite_n q14
        rw [Bool.and_eq_true] at b1 b2
        rw [Bool.or_eq_false_iff] at b3
        have nb : ∀ z, Nat.blt z 10 = false → 10 ≤ z := by
          intro z hz
          rcases Nat.lt_or_ge z 10 with y | y
          · have : Nat.blt z 10 = true := Nat.ble_eq_true_of_le y
            rw [this] at hz
            cases hz
          · exact y
        exact go_1 (hk _ _ _ _ q15) rfl (fun ρ he K => sw_copy C hf (nb r b3.2) (nb r' b3.1) (Nat.eq_of_beq_eq_true b1.1) (Nat.eq_of_beq_eq_true b2.1) hy (Nat.le_of_ble_eq_true b1.2) (by omega) (Nat.le_trans nfw (by omega)) hd g1 g2 g3 g4 g5 K)
  | ireturn =>
    obtain ⟨rfl, rfl, rfl, hlt4⟩ := of_decide_eq_true hcm
    have hq1 : p1i st (fun y _ => mrn (rtN (mRt m)) y fun v => some (.inl (some (.inl v)), h)) = some x := hq
    obtain ⟨y, s2, rfl, hq2⟩ := p1i_some hq1
    exact go_nret (v' := y) C rfl hlt4 hq2 hd
  | areturn =>
    obtain ⟨rfl, rfl, hr2⟩ := of_decide_eq_true hcm
    have hq1 : p1r st (fun r o _ => some (.inl (some (rv r o)), h)) = some x := hq
    obtain ⟨r, o, s2, rfl, hq2⟩ := p1r_some hq1
    cases Option.some.inj hq2
    exact go_aret C hf hr2 hd
  | return_ =>
    obtain ⟨rfl, rfl, hr2⟩ := of_decide_eq_true hcm
    have hq1 : some (.inl none, h) = some x := hq
    cases Option.some.inj hq1
    exact go_vret C hr2 hd
  | _ => exact absurd hcm Bool.false_ne_true
theorem go_body (C : mCx p l s mi args meth c m) (hf : fv = .null ∨ ∃ a, fv = .ref a) (hm : m < mNo) (hmA : mchA m) (hmc : ∀ m', m' < mNo → m' ≠ mLaw → mchM m' = true) (hPk : mPok P) (hX : mExt D B fv P ρ0 s s.heap) (hRf : d + 9 ≤ R.frames) (hRl : 40 * d + 240 ≤ R.locals) (hRc : x.2.2.2.2.2.1 - h0.2.2.2.2.1 ≤ R.cells) (hRs : x.2.2.2.2.2.2 - h0.2.2.2.2.2 ≤ R.slots)
    (hE : ∀ m' as h1 y, m' < mNo → m' ≠ mLaw → as.length ≤ mMx m' → E m' as h1 = some y → mMet l P d m' as h1 y) (hk : ∀ a1 a2 a3 a4, k a1 a2 a3 a4 = some x → mGo p l e R s mi args below meth c D B fv P m ρ0 h0 x a1 a2 a3 a4)
    (hq : mbody P E k m pc ls st h = some x) : mGo p l e R s mi args below meth c D B fv P m ρ0 h0 x pc ls st h := by
  unfold mbody at hq
  cases hcd : mCode m pc with
  | none => rw [hcd] at hq; cases hq
  | some en =>
    rw [hcd] at hq
    obtain ⟨op, as, c9⟩ := en
    have hch := mchA_at hmA hcd
    unfold mchk at hch
    cases h46 : Nat.beq op 46 with
    | true =>
      simp only [h46, cond_true] at hch
      have := Nat.eq_of_beq_eq_true h46
      subst this
      split at hch
      · rename_i n
        have hq1 : chk (Nat.ble (mcat st) 8) (mth (mHand m pc) n ls k (h.1, h.2.1, h.2.2.1, h.2.2.2.1, h.2.2.2.2.1 + 1, h.2.2.2.2.2 + 6)) none = some x := hq
        obtain ⟨hb, hq2⟩ := chk_t hq1
        exact go_throw C hf hm hcd hch hX (Nat.le_of_ble_eq_true hb) hRf hRl hRc hRs hq2
      · cases hch
    | false =>
      simp only [h46, cond_false] at hch
      split at hch
      · rename_i i len hdc
        exact go_step C hf hm hmc hPk hX hRf hRl hRc hRs hE hk hcd i len hdc hch hq
      · cases hch
end Step
