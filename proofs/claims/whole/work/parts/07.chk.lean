/-! ===== what the tables say, checked against the Statement's words and the decoder ===== -/
def fLk (own idx : Nat) : Option (Nat × Nat) := (fTab.find? (fun q => Nat.beq q.1 own && Nat.beq q.2.1 idx)).map (fun q => (q.2.2.1, q.2.2.2.1))
def cLk (own idx : Nat) : Option Nat := (cTab.find? (fun q => Nat.beq q.1 own && Nat.beq q.2.1 idx)).map (fun q => q.2.2.1)
def nLk (own idx : Nat) : Option Nat := (nTab.find? (fun q => Nat.beq q.1 own && Nat.beq q.2.1 idx)).map (fun q => q.2.2.1)
def sLk (own idx : Nat) : Option Nat := (sTab.find? (fun q => Nat.beq q.1 own && Nat.beq q.2.1 idx)).map (fun q => q.2.2)
def gLk (own idx : Nat) : Option Nat := (gTab.find? (fun q => Nat.beq q.1 own && Nat.beq q.2.1 idx)).map (fun q => q.2.2.1)
def oLk (own idx : Nat) : Bool := (oTab.find? (fun q => Nat.beq q.1 own && Nat.beq q.2.1 idx)).isSome
def yLk (own idx : Nat) : Bool := (yTab.find? (fun q => Nat.beq q.1 own && Nat.beq q.2.1 idx)).isSome
def xLk (own idx : Nat) : Option Nat := (xTab.find? (fun q => Nat.beq q.1 own && Nat.beq q.2.1 idx)).map (fun q => q.2.2.1)
def aLk (own idx : Nat) : Option Nat := (aTab.find? (fun q => Nat.beq q.1 own && Nat.beq q.2.1 idx)).map (fun q => q.2.2.1)
def cndN (c : ClassFile.Cond) : Nat := match c with
  | .eq => 0
  | .ne => 1
  | .lt => 2
  | .ge => 3
  | .gt => 4
  | .le => 5
def kArgs (m : Nat) : Nat := match parseMethodDescriptor (mNm m).desc with
  | some d => d.parameters.length
  | none => 0
def rtN (t : Option FieldType) : Nat := match t with
  | some .int => 0
  | some .boolean => 1
  | some .byte => 2
  | some .char => 3
  | _ => 9
def retK (t : Option FieldType) : Nat := match t with
  | none => 0
  | some (.object _) => 2
  | some (.array _) => 3
  | some .long => 4
  | _ => 1
def excN (e : Nat) : String := match e with
  | 1 => "java/lang/IllegalStateException"
  | 2 => "java/lang/IllegalArgumentException"
  | _ => "java/lang/IndexOutOfBoundsException"
/-- the entry of a throw: new, dup, ldc, <init>, athrow -/
def mchT (m pc x : Nat) : Bool := match decode (mBy m) pc, decode (mBy m) (pc + 4), decode (mBy m) (pc + 6) with
  | .ok (.new ik, 3), .ok (.ldc is, 2), .ok (.invokespecial ic, 3) => (match decode (mBy m) (pc + 3), decode (mBy m) (pc + 9) with
    | .ok (.dup, 1), .ok (.athrow, 1) => decide (1 ≤ x ∧ x ≤ 3) && (sLk (mOw m) is).isSome && decide (mHt m = []) &&
        lw_tbl.elem (Cond.classLink (clsN (mOw m)) ik (excN x)) && ((vx_atS (clsN (mOw m)) ic (excN x) ["java/lang/RuntimeException", "java/lang/Exception"]).all fun w => lw_tbl.elem w)
    | _, _ => false)
  | _, _, _ => false
def tgtB (pc : Nat) (off : Int) (t : Nat) : Bool := decide ((pc : Int) + off = (t : Int))
def mcmp (m pc : Nat) (i : Instr) (l : Nat) (op : Nat) (as : List Nat) (c : Int32) : Bool := match i with
  | .iconst n => decide (l = 1 ∧ op = 0 ∧ as = [pc + 1] ∧ Int32.ofInt n = c)
  | .bipush n => decide (l = 2 ∧ op = 0 ∧ as = [pc + 2] ∧ (Int8.ofInt n).toInt32 = c)
  | .sipush n => decide (l = 3 ∧ op = 0 ∧ as = [pc + 3] ∧ (Int16.ofInt n).toInt32 = c)
  | .iload a => decide (l = 2 ∧ op = 1 ∧ as = [pc + 2, a])
  | .iload_n a => decide (l = 1 ∧ op = 1 ∧ as = [pc + 1, a.val])
  | .aload a => decide (l = 2 ∧ op = 2 ∧ as = [pc + 2, a])
  | .aload_n a => decide (l = 1 ∧ op = 2 ∧ as = [pc + 1, a.val])
  | .istore a => decide (l = 2 ∧ op = 3 ∧ as = [pc + 2, a] ∧ a < mMx m)
  | .istore_n a => decide (l = 1 ∧ op = 3 ∧ as = [pc + 1, a.val] ∧ a.val < mMx m)
  | .astore a => decide (l = 2 ∧ op = 4 ∧ as = [pc + 2, a] ∧ a < mMx m)
  | .astore_n a => decide (l = 1 ∧ op = 4 ∧ as = [pc + 1, a.val] ∧ a.val < mMx m)
  | .iinc a n => decide (l = 3 ∧ op = 5 ∧ as = [pc + 3, a] ∧ a < mMx m ∧ Int32.ofInt n = c)
  | .iadd => decide (l = 1 ∧ op = 6 ∧ as = [pc + 1, 0])
  | .isub => decide (l = 1 ∧ op = 6 ∧ as = [pc + 1, 1])
  | .imul => decide (l = 1 ∧ op = 6 ∧ as = [pc + 1, 2])
  | .iand => decide (l = 1 ∧ op = 6 ∧ as = [pc + 1, 3])
  | .ior => decide (l = 1 ∧ op = 6 ∧ as = [pc + 1, 4])
  | .ixor => decide (l = 1 ∧ op = 6 ∧ as = [pc + 1, 5])
  | .ishl => decide (l = 1 ∧ op = 6 ∧ as = [pc + 1, 6])
  | .ishr => decide (l = 1 ∧ op = 6 ∧ as = [pc + 1, 7])
  | .iushr => decide (l = 1 ∧ op = 6 ∧ as = [pc + 1, 8])
  | .idiv => decide (l = 1 ∧ op = 7 ∧ as = [pc + 1])
  | .irem => decide (l = 1 ∧ op = 8 ∧ as = [pc + 1])
  | .ineg => decide (l = 1 ∧ op = 9 ∧ as = [pc + 1, 0])
  | .i2b => decide (l = 1 ∧ op = 9 ∧ as = [pc + 1, 1])
  | .i2c => decide (l = 1 ∧ op = 9 ∧ as = [pc + 1, 2])
  | .if_icmp q off => decide (l = 3 ∧ op = 10) && (match as with | [n, w, t] => decide (n = pc + 3 ∧ w = cndN q) && tgtB pc off t | _ => false)
  | .ifCond q off => decide (l = 3 ∧ op = 11) && (match as with | [n, w, t] => decide (n = pc + 3 ∧ w = cndN q) && tgtB pc off t | _ => false)
  | .ifnull off => decide (l = 3 ∧ op = 12) && (match as with | [n, w, t] => decide (n = pc + 3 ∧ w = 0) && tgtB pc off t | _ => false)
  | .ifnonnull off => decide (l = 3 ∧ op = 12) && (match as with | [n, w, t] => decide (n = pc + 3 ∧ w = 1) && tgtB pc off t | _ => false)
  | .goto off => decide (l = 3 ∧ op = 13) && (match as with | [t] => tgtB pc off t | _ => false)
  | .tableswitch d lo hi offs => decide (op = 14) && (match as with
      | [q, t] => tgtB pc d t && decide (-2147483648 ≤ lo ∧ hi < 2147483648 ∧ hi - lo + 1 = (offs.size : Int) ∧ (mSwt q).length = offs.size) && ((List.range offs.size).all fun j => match offs[j]?, (mSwt q)[j]? with | some off, some v => tgtB pc off v.2 && decide (v.1 = Int32.ofInt (lo + (j : Int))) | _, _ => false)
      | _ => false)
  | .lookupswitch d ps => decide (op = 14) && (match as with
      | [q, t] => tgtB pc d t && decide ((mSwt q).length = ps.size) && ((ps.toList.zip (ps.toList.drop 1)).all (fun (a, next) => a.1 < next.1)) && (ps.toList.all fun z => decide (-2147483648 ≤ z.1 ∧ z.1 < 2147483648)) && ((ps.toList.zip (mSwt q)).all fun z => tgtB pc z.1.2 z.2.2 && decide (z.2.1 = Int32.ofInt z.1.1))
      | _ => false)
  | .dup => decide (l = 1 ∧ op = 15 ∧ as = [pc + 1])
  | .dup2 => decide (l = 1 ∧ op = 16 ∧ as = [pc + 1])
  | .pop => decide (l = 1 ∧ op = 17 ∧ as = [pc + 1])
  | .getfield idx => decide (l = 3) && (match fLk (mOw m) idx with
      | some q => (bif Nat.beq q.1 14 then decide (as = [pc + 3, 14, q.2] ∧ op = (if q.2 = 0 then 21 else 20)) else decide (as = [pc + 3, q.1, q.2] ∧ op = (if fKd q.1 q.2 = 2 then 21 else 20)))
      | none => false)
  | .putfield idx => decide (l = 3) && (match fLk (mOw m) idx with
      | some q => decide (q.1 < 13) && (bif Nat.beq (fKd q.1 q.2) 2 then decide (op = 23 ∧ as = [pc + 3, q.1, q.2]) else decide (op = 22 ∧ as = [pc + 3, q.1, q.2, fKd q.1 q.2])) && (match vwCl[q.1]? with | some r => !(r.2.1 q.2).2.2.2 || (decide ((mNm m).name = "<init>") && decide ((r.2.1 q.2).1 = clsN (mOw m))) | none => false)
      | none => false)
  | .getstatic idx => decide (l = 3) && (match gLk (mOw m) idx with
      | some 8 => decide (op = 0 ∧ as = [pc + 3] ∧ c = 1)
      | some r => decide (op = 34 ∧ as = [pc + 3, r, 0])
      | none => false)
  | .ldc idx => decide (l = 2) && (match sLk (mOw m) idx with | some j => decide (op = 34 ∧ as = [pc + 2, 2, j]) | none => false)
  | .arraylength => decide (l = 1 ∧ op = 24 ∧ as = [pc + 1])
  | .iaload => decide (l = 1 ∧ op = 25 ∧ as = [pc + 1, 1])
  | .baload => decide (l = 1 ∧ op = 25 ∧ (as = [pc + 1, 2] ∨ as = [pc + 1, 3]))
  | .iastore => decide (l = 1 ∧ op = 26) && (match as with | [n, t, _] => decide (n = pc + 1 ∧ t = 1) | _ => false)
  | .bastore => decide (l = 1 ∧ op = 26) && (match as with | [n, t, _] => decide (n = pc + 1 ∧ (t = 2 ∨ t = 3)) | _ => false)
  | .aaload => decide (l = 1 ∧ op = 27 ∧ as = [pc + 1])
  | .aastore => decide (l = 1 ∧ op = 28 ∧ as = [pc + 1])
  | .laload => decide (l = 1 ∧ op = 29 ∧ as = [pc + 1])
  | .lastore => decide (l = 1 ∧ op = 30) && (match as with | [n, _] => decide (n = pc + 1) | _ => false)
  | .new idx => decide (l = 3) && (match nLk (mOw m) idx with | some ci => decide (op = 31 ∧ as = [pc + 3, ci + 10]) | none => false)
  | .newarray t => decide (l = 2 ∧ op = 32) && (match as with | [n, r] => decide (n = pc + 2 ∧ 10 ≤ r) && (match t with | .int => decide (rTag r = 1) | .byte => decide (rTag r = 2) | .boolean => decide (rTag r = 3) | .long => decide (rTag r = 4) | _ => false) | _ => false)
  | .anewarray idx => decide (l = 3 ∧ op = 33) && (match aLk (mOw m) idx with | some r => decide (as = [pc + 3, r]) | none => false)
  | .aconst_null => decide (l = 1 ∧ op = 36) && (match as with | [n, r] => decide (n = pc + 1 ∧ r ≠ 7) | _ => false)
  | .invokevirtual idx => decide (l = 3) && (match cLk (mOw m) idx with
      | some m' => decide (op = 37) && !mSt m' && decide ((mNm m').name ≠ "<init>") && (match as with | [n, kd, q, na, rk, rr] => decide (n = pc + 3 ∧ kd = mOw m' + 1 ∧ q = m' ∧ na = kArgs m' + 1 ∧ rk = retK (mRt m') ∧ rr ≠ 7) | _ => false)
      | none => false)
  | .invokespecial idx => decide (l = 3) && (match cLk (mOw m) idx with
      | some m' => decide (op = 37) && !mSt m' && decide ((mNm m').name = "<init>") && (match as with | [n, kd, q, na, rk, rr] => decide (n = pc + 3 ∧ kd = mOw m' + 1 ∧ q = m' ∧ na = kArgs m' + 1 ∧ rk = 0 ∧ mRt m' = none ∧ rr ≠ 7) | _ => false)
      | none => decide (op = 44 ∧ as = [pc + 3]) && oLk (mOw m) idx)
  | .invokestatic idx => decide (l = 3) && (match cLk (mOw m) idx with
      | some m' => decide (op = 37) && mSt m' && (match as with | [n, kd, q, na, rk, rr] => decide (n = pc + 3 ∧ kd = 0 ∧ q = m' ∧ na = kArgs m' ∧ rk = retK (mRt m') ∧ rr ≠ 7) | _ => false)
      | none => (match xLk (mOw m) idx with | some w => decide (op = 47 ∧ as = [pc + 3, w]) | none => decide (op = 45) && (match as with | [n, _] => decide (n = pc + 3) | _ => false) && yLk (mOw m) idx))
  | .ireturn => decide (l = 1 ∧ op = 38 ∧ as = [rtN (mRt m)] ∧ rtN (mRt m) < 4)
  | .areturn => decide (l = 1 ∧ op = 39 ∧ (retK (mRt m) = 2))
  | .return_ => decide (l = 1 ∧ op = 40 ∧ mRt m = none)
  | .i2l => decide (l = 1 ∧ op = 41 ∧ as = [pc + 1])
  | .lcmp => decide (l = 1 ∧ op = 42 ∧ as = [pc + 1])
  | .lconst n => decide (l = 1 ∧ op = 43 ∧ as = [pc + 1, n.val])
  | _ => false
def mchk (m pc : Nat) (e : Nat × List Nat × Int32) : Bool := bif Nat.beq e.1 46 then (match e.2.1 with | [x] => mchT m pc x | _ => false) else (match decode (mBy m) pc with
  | .ok (i, l) => mcmp m pc i l e.1 e.2.1 e.2.2
  | _ => false)
def mchR (m a n : Nat) : Bool := (List.range n).all fun j => match mCode m (a + j) with
  | none => true
  | some e => mchk m (a + j) e
def mchA (m : Nat) : Prop := ∀ j, 64 * j < mLen m → mchR m (64 * j) 64 = true
theorem mchA_of {m n : Nat} {l : List Nat} (hn : mLen m = n) (hK : n ≤ 64 * l.length) (hl : List.range l.length = l) (h : ∀ j ∈ l, mchR m (64 * j) 64 = true) : mchA m := by
  intro j hj
  rw [hn] at hj
  refine h j ?_
  rw [← hl]
  exact List.mem_range.mpr (by omega)
theorem mchA_at {m pc : Nat} {e : Nat × List Nat × Int32} (h : mchA m) (hc : mCode m pc = some e) : mchk m pc e = true := by
  have hp : pc < mLen m := by
    unfold mCode at hc
    cases hb : Nat.blt pc (mLen m) with
    | false => rw [hb] at hc; cases hc
    | true => exact Nat.le_of_ble_eq_true hb
  have h1 := h (pc / 64) (by omega)
  simp only [mchR, List.all_eq_true, List.mem_range] at h1
  have h2 := h1 (pc % 64) (by omega)
  rw [show 64 * (pc / 64) + pc % 64 = pc by omega, hc] at h2
  exact h2
/-- a method's own words -/
def mchM (m : Nat) : Bool := match mPos[m]? with
  | none => false
  | some q => decide ((mNm m).cls = clsN (mOw m)) && plainName (mNm m).cls && decide ((mNm m).cls ≠ "java/lang/invoke/MethodHandle" ∧ (mNm m).cls ≠ "java/lang/invoke/VarHandle") && (parseMethodDescriptor (mNm m).desc).isSome &&
      (match lw_tbl[q.1]? with
        | some (.code y _ mx rt) => decide (y = mNm m ∧ mx = mMx m ∧ rt = mRt m ∧ mHt m = [])
        | some (.codeWith y _ mx rt hh) => decide (y = mNm m ∧ mx = mMx m ∧ rt = mRt m ∧ mHt m = hh ∧ hh ≠ [])
        | _ => false) &&
      (bif mSt m then decide (lw_tbl[q.2.1]? = some (Cond.static (mNm m))) else decide (lw_tbl[q.2.1]? = some (Cond.instanceMethod (mNm m))) && (decide ((mNm m).name = "<init>") || decide (lw_tbl[q.2.2.1]? = some (Cond.selects (mNm m).cls (mNm m) (mNm m))))) &&
      decide (lw_tbl[q.2.2.2]? = some (Cond.initialized (mNm m).cls))
