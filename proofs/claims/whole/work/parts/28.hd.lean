/-! ===== a throw over a frame: caught there, or not ===== -/
section Cat
variable {p : Program} {l : Launch} {e : Env} {R : Room} {s : State} {mi : MethodId} {args : Array Value} {below : List Frame} {meth : Method} {c : Code} {H : Heap} {locs : List Loc} {cells slots : Nat} {Q : State → Prop}
theorem hd_W {pc t : Nat} {lr : Array Slot} {rest : List Value} {q : Addr} {ce : Cell} {k0 : Class} (hcell : H[q]? = some ce) (hv : ce.vm = .none) (hk0 : s.vm.classes[ce.cls]? = some k0)
    (hd : ∀ pl : Platform, pl.magicAccessors = ({} : Platform).magicAccessors → hdOK pl s mi.cls pc ce.cls t c.exceptionTable.toList)
    (k : W p l e R s mi args below meth c H locs cells slots Q (F0 mi t lr [.ref q])) : vx_W p l e R s mi args below meth c H locs cells slots Q (F0 mi pc lr rest) q := by
  intro T hT X
  have hpl : e.platform.magicAccessors = ({} : Platform).magicAccessors := by rw [X.admits.platform]
  obtain ⟨vm', hW', hg⟩ := hd_go (e := e) (s₀ := s) (f := F0 mi pc lr rest) (a := q) (cell := ce) (t := t) (fun z hz => by rw [hv] at hz; cases hz) hk0 _ ((T.setTop (F0 mi pc lr rest)).pushFrame (.throwing q)) X.warmed (by show T.heap[q]? = some ce; rw [hT]; exact hcell) (hd _ hpl)
  obtain ⟨t9, q1, q2⟩ := k (T.setVm vm') hT (X.noted hW')
  refine ⟨t9, ?_, q2⟩
  have hat : At T (F0 mi pc lr rest).method c below := X.here
  have hfind : ∀ (Q : Handler → Pre) (E : CtlPost) (b : Bool) (acts : List Action), wp (findHandler (F0 mi pc lr rest) q) Q E e b acts ((T.setTop (F0 mi pc lr rest)).pushFrame (.throwing q)) ↔ Q (.found t) b acts (((T.setTop (F0 mi pc lr rest)).pushFrame (.throwing q)).setVm vm') :=
    fun Q E b acts => (W.findHandler_eq X.method' X.code).trans (hg Q E b acts)
  obtain ⟨hgo, hw⟩ := hat.throwing q
  refine Steps.head hgo hw ?_
  obtain ⟨g₀, hg0⟩ := Option.isSome_iff_exists.mp hat.top
  obtain ⟨r, hr⟩ := State.topJava?_eq_some.mp hg0
  have hstep : (stepThrowing e ((T.setTop (F0 mi pc lr rest)).pushFrame (.throwing q)) q (.java (F0 mi pc lr rest) :: T.frames.tail)).Is ((((T.setTop (F0 mi pc lr rest)).pushFrame (.throwing q)).setVm vm').setFrames (.java (F0 mi t lr [.ref q]) :: T.frames.tail)) [] := by
    simp only [stepThrowing, searchFrame, vmDo]
    generalize hz : Sem.go _ e false [] ((T.setTop (F0 mi pc lr rest)).pushFrame (.throwing q)) = res
    obtain ⟨as, rfl, ha⟩ := Sem.eq_ok_of hz (a := Handler.found t) (s' := ((T.setTop (F0 mi pc lr rest)).pushFrame (.throwing q)).setVm vm') (acts' := []) (by simp [hfind _ _ _ _])
    exact ⟨rfl, ha⟩
  rw [stepThread_throwing (frames_entered hat.top _), hstep.1]
  have hr' : (T.setVm vm').frames = .java g₀ :: r := hr
  rw [State.setTop_of_frames _ hr'] at q1
  have hsw : ∀ (u : State) (F G : List Frame), ((u.setFrames F).setVm vm').setFrames G = (u.setVm vm').setFrames G := by
    intro u F G
    have z : (u.setFrames F).setVm vm' = (u.setVm vm').setFrames F := rfl
    rw [z, State.setFrames_setFrames]
  rw [hr, List.tail_cons, State.pushFrame, hsw, State.setTop_of_frames _ hr, hsw]
  exact q1
end Cat
/-- the class a row of the law's tables names -/
def eNo (i : Nat) : Nat := bif Nat.beq i 26 then 1 else bif Nat.beq i 13 then 2 else 3
def hCov (pc : Nat) (q : Nat × Nat × Nat × Nat) : Bool := decide (q.1 ≤ pc) && decide (pc < q.2.1)
def hOK (m pc : Nat) : Bool := (mCode m pc).isNone || decide (mHand m pc = ((mHt m).filter (hCov pc)).map (fun q => (eNo q.2.2.2, q.2.2.1)))
def hlOK (m : Nat) : Bool := (mHt m).all fun q => decide (q.2.2.2 ≠ 0) && lw_tbl.elem (Cond.classLink (clsN (mOw m)) q.2.2.2 (excN (eNo q.2.2.2)))
theorem hand_all : (List.range mNo).all (fun m => (List.range (mLen m)).all fun pc => hOK m pc) = true := by decide +kernel
theorem hl_all : (List.range mNo).all hlOK = true := by decide +kernel
theorem mCode_lt {m pc : Nat} {e : Nat × List Nat × Int32} (hc : mCode m pc = some e) : pc < mLen m := by
  unfold mCode at hc
  cases hb : Nat.blt pc (mLen m) with
  | false => rw [hb] at hc; cases hc
  | true => exact Nat.le_of_ble_eq_true hb
theorem hand_ok {m pc : Nat} {e : Nat × List Nat × Int32} (hm : m < mNo) (hc : mCode m pc = some e) : mHand m pc = ((mHt m).filter (hCov pc)).map (fun q => (eNo q.2.2.2, q.2.2.1)) := by
  have h := List.all_eq_true.mp (List.all_eq_true.mp hand_all m (List.mem_range.mpr hm)) pc (List.mem_range.mpr (mCode_lt hc))
  unfold hOK at h
  rw [hc] at h
  exact of_decide_eq_true h
theorem hl_ok {m : Nat} (hm : m < mNo) : ∀ q ∈ mHt m, q.2.2.2 ≠ 0 ∧ Cond.classLink (clsN (mOw m)) q.2.2.2 (excN (eNo q.2.2.2)) ∈ gTs := by
  intro q hq
  have h := List.all_eq_true.mp (List.all_eq_true.mp hl_all m (List.mem_range.mpr hm)) q hq
  rw [Bool.and_eq_true] at h
  exact ⟨of_decide_eq_true h.1, List.mem_filter.mpr ⟨List.mem_of_elem_eq_true h.2, rfl⟩⟩
theorem eNo_in (i : Nat) : 1 ≤ eNo i ∧ eNo i ≤ 3 := by
  unfold eNo
  cases Nat.beq i 26
  · cases Nat.beq i 13
    · exact ⟨by decide, by decide⟩
    · exact ⟨by decide, by decide⟩
  · exact ⟨Nat.le_refl 1, (by show 1 ≤ 3; decide)⟩
theorem mth2_hd {s : State} {args : Array Value} {own : String} {d : ClassId} {pc x : Nat} {th : ClassId} (hown : s.vm.findClass own = some d) (hx : 1 ≤ x ∧ x ≤ 3) (hth : s.vm.findClass (excN x) = some th)
    (hN : ∀ a b, 1 ≤ a → a ≤ 3 → 1 ≤ b → b ≤ 3 → a ≠ b → va_Nc (excN a) (excN b) s) {ls : List (Option MV)} {k : Nat → List (Option MV) → List MV → MH → MX} {h : MH} {z : (Option MV ⊕ Nat) × MH} :
    ∀ hh : List (Nat × Nat × Nat × Nat), (∀ q ∈ hh, q.2.2.2 ≠ 0 ∧ (Cond.classLink own q.2.2.2 (excN (eNo q.2.2.2))).before args s = true) → mth2 ((hh.filter (hCov pc)).map (fun q => (eNo q.2.2.2, q.2.2.1))) x ls k h = some z →
      ∃ t, (∀ pl : Platform, pl.magicAccessors = ({} : Platform).magicAccessors → hdOK pl s d pc th t (tableOf hh)) ∧ k t ls [rv 0 (some (h.2.2.2.1 0))] (h.1, h.2.1, h.2.2.1, m1 h.2.2.2.1 0 (h.2.2.2.1 0 + 1), h.2.2.2.2) = some z
  | [], _, hq => nomatch hq
  | q :: r, hl, hq => by
    obtain ⟨h0, hlk⟩ := hl q List.mem_cons_self
    have hr : ∀ q ∈ r, q.2.2.2 ≠ 0 ∧ (Cond.classLink own q.2.2.2 (excN (eNo q.2.2.2))).before args s = true := fun z hz => hl z (List.mem_cons_of_mem _ hz)
    cases hc : hCov pc q with
    | false =>
      rw [List.filter_cons_of_neg (by rw [hc]; decide)] at hq
      obtain ⟨t, t1, t2⟩ := mth2_hd hown hx hth hN r hr hq
      exact ⟨t, fun pl hpl => Or.inl ⟨hc, t1 pl hpl⟩, t2⟩
    | true =>
      rw [List.filter_cons_of_pos hc] at hq
      simp only [List.map_cons, mth2] at hq
      by_cases hxe : x = eNo q.2.2.2
      · rw [if_pos hxe] at hq
        refine ⟨_, fun pl hpl => Or.inr ⟨hc, h0, ?_⟩, hq⟩
        obtain ⟨c, hc1, hc2⟩ := Cond.classLink_spec hown hlk pl hpl
        rw [← hxe, hth] at hc1
        cases hc1
        exact ⟨th, hc2, Or.inl ⟨Vm.assignable_self _ _, rfl⟩⟩
      · rw [if_neg hxe] at hq
        obtain ⟨t, t1, t2⟩ := mth2_hd hown hx hth hN r hr hq
        refine ⟨t, fun pl hpl => Or.inr ⟨hc, h0, ?_⟩, t2⟩
        obtain ⟨c, hc1, hc2⟩ := Cond.classLink_spec hown hlk pl hpl
        obtain ⟨c', t', g1, g2, g3⟩ := hN x (eNo q.2.2.2) hx.1 hx.2 (eNo_in _).1 (eNo_in _).2 hxe
        rw [hth] at g1
        rw [hc1] at g2
        cases g1; cases g2
        exact ⟨c, hc2, Or.inr ⟨g3, t1 pl hpl⟩⟩
