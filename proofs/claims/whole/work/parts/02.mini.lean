/-! ===== THE MINI MACHINE: typed regions instead of addresses, everything that a step asks of the tables decided beforehand ===== -/
abbrev MV : Type := Int32 ⊕ ((Nat × Option Nat) ⊕ Int64)
abbrev MI : Type := Nat → Nat → Nat → Int32
abbrev MR : Type := Nat → Nat → Nat → Option Nat
abbrev ML : Type := Nat → Nat → Nat → Int64
/-- ints, references, longs, how many objects a region has, cells made, slots made -/
abbrev MH : Type := MI × MR × ML × (Nat → Nat) × Nat × Nat
abbrev MX : Type := Option ((Option MV ⊕ Nat) × MH)
/-- what a run takes as given: references that never change, the script's length, the script -/
abbrev MP : Type := (Nat → Nat → Option (Nat → Option Nat)) × Nat × (Nat → Int32)
abbrev iv (x : Int32) : MV := .inl x
abbrev rv (r : Nat) (o : Option Nat) : MV := .inr (.inl (r, o))
abbrev jv (x : Int64) : MV := .inr (.inr x)
def m3 {α : Type} (f : Nat → Nat → Nat → α) (r o i : Nat) (v : α) : Nat → Nat → Nat → α := fun r' o' i' => if r' = r then (if o' = o then (if i' = i then v else f r' o' i') else f r' o' i') else f r' o' i'
def m2 {α : Type} (f : Nat → Nat → Nat → α) (r o : Nat) (v : α) : Nat → Nat → Nat → α := fun r' o' i' => if r' = r then (if o' = o then v else f r' o' i') else f r' o' i'
def m1 (f : Nat → Nat) (r v : Nat) : Nat → Nat := fun r' => if r' = r then v else f r'
/-- row r o of f: the places dp .. dp+n-1 become what g has at sp .. -/
def mcp (f : MI) (r o : Nat) (g : Nat → Int32) (sp dp n : Nat) : MI := fun r' o' i' => if r' = r then (if o' = o then (if dp ≤ i' ∧ i' < dp + n then g (sp + (i' - dp)) else f r' o' i') else f r' o' i') else f r' o' i'
abbrev ino (i : Int32) (n : Nat) : Prop := i < 0 ∨ n ≤ i.toNatClampNeg
def rdI (P : MP) (f : MI) (r o i : Nat) : Int32 := bif Nat.blt 9 r then f r o i else (bif Nat.beq r 1 then P.2.2 i else bif Nat.beq r 3 then strB o i else bif Nat.beq r 2 then 0 else tabB r i)
def rdR (P : MP) (f : MR) (r o i : Nat) : Option Nat := match P.1 r i with
  | some g => g o
  | none => f r o i
def rLen (P : MP) (r o : Nat) : Nat := bif Nat.beq r 1 then P.2.1 else bif Nat.beq r 3 then strL o else regL r
-- checks of what is known beforehand: a head of its own, so that the kernel never opens the 'if's that stay
def ch1 (b : Bool) (x y : MX) : MX := match b with
  | true => x
  | false => y
def ch2 (b : Bool) (x y : MX) : MX := ch1 b x y
def ch3 (b : Bool) (x y : MX) : MX := ch2 b x y
def ch4 (b : Bool) (x y : MX) : MX := ch3 b x y
def ch5 (b : Bool) (x y : MX) : MX := ch4 b x y
def chk (b : Bool) (x y : MX) : MX := ch5 b x y
def onS (o : Option Nat) (f : Nat → MX) : MX := match o with
  | none => none
  | some j => f j
def a1 (l : List Nat) (f : Nat → MX) : MX := match l with
  | [a] => f a
  | _ => none
def a2 (l : List Nat) (f : Nat → Nat → MX) : MX := match l with
  | [a, b] => f a b
  | _ => none
def a3 (l : List Nat) (f : Nat → Nat → Nat → MX) : MX := match l with
  | [a, b, c] => f a b c
  | _ => none
def a4 (l : List Nat) (f : Nat → Nat → Nat → Nat → MX) : MX := match l with
  | [a, b, c, d] => f a b c d
  | _ => none
def a6 (l : List Nat) (f : Nat → Nat → Nat → Nat → Nat → Nat → MX) : MX := match l with
  | [a, b, c, d, e, g] => f a b c d e g
  | _ => none
def p1i (st : List MV) (f : Int32 → List MV → MX) : MX := match st with
  | .inl x :: s => f x s
  | _ => none
def p2i (st : List MV) (f : Int32 → Int32 → List MV → MX) : MX := match st with
  | .inl y :: .inl x :: s => f x y s
  | _ => none
def p1r (st : List MV) (f : Nat → Option Nat → List MV → MX) : MX := match st with
  | .inr (.inl q) :: s => f q.1 q.2 s
  | _ => none
def p1j (st : List MV) (f : Int64 → List MV → MX) : MX := match st with
  | .inr (.inr x) :: s => f x s
  | _ => none
def plI (v : Option MV) (f : Int32 → MX) : MX := match v with
  | some (.inl x) => f x
  | _ => none
def plR (v : Option MV) (f : Nat → Option Nat → MX) : MX := match v with
  | some (.inr (.inl q)) => f q.1 q.2
  | _ => none
def lget (ls : List (Option MV)) (i : Nat) : Option MV := match ls[i]? with
  | some v => v
  | none => none
def mop (w : Nat) (x y : Int32) (f : Int32 → MX) : MX := match w with
  | 0 => f (x + y)
  | 1 => f (x - y)
  | 2 => f (x * y)
  | 3 => f (x &&& y)
  | 4 => f (x ||| y)
  | 5 => f (x ^^^ y)
  | 6 => f (x <<< (y &&& 31))
  | 7 => f (x >>> (y &&& 31))
  | _ => f ((x.toUInt32 >>> (y.toUInt32 &&& Int32.toUInt32 31)).toInt32)
def mun (w : Nat) (x : Int32) (f : Int32 → MX) : MX := match w with
  | 0 => f (-x)
  | 1 => f (x.toInt8.toInt32)
  | _ => f ((x.toUInt32 % 65536).toInt32)
def mbr (w : Nat) (x y : Int32) (a b : MX) : MX := match w with
  | 0 => if x = y then a else b
  | 1 => if x = y then b else a
  | 2 => if x < y then a else b
  | 3 => if x < y then b else a
  | 4 => if y < x then a else b
  | _ => if y < x then b else a
def mnu (w : Nat) (o : Option Nat) (a b : MX) : MX := match w with
  | 0 => if o = none then a else b
  | _ => if o = none then b else a
def msw (l : List (Int32 × Nat)) (x : Int32) (d : Nat) (f : Nat → MX) : MX := match l with
  | [] => f d
  | (v, t) :: r => if x = v then f t else msw r x d f
def mnr (t : Nat) (x : Int32) (f : Int32 → MX) : MX := match t with
  | 1 => f x
  | 2 => f x.toInt8.toInt32
  | _ => f (x &&& 1)
def mrn (t : Nat) (x : Int32) (f : Int32 → MX) : MX := match t with
  | 0 => f x
  | 1 => f (x &&& 1)
  | 2 => f x.toInt8.toInt32
  | _ => f (x.toUInt32 % 65536).toInt32
/-- behind a call: a value of the callee's kind goes on; a throw goes to the handler or on -/
def mclV (x : MX) (f : MH → MX) (g : Nat → MH → MX) : MX := match x with
  | some (.inl none, h) => f h
  | some (.inr e, h) => g e h
  | _ => none
def mclI (x : MX) (f : Int32 → MH → MX) (g : Nat → MH → MX) : MX := match x with
  | some (.inl (some (.inl v)), h) => f v h
  | some (.inr e, h) => g e h
  | _ => none
def mclR (x : MX) (rr : Nat) (f : Option Nat → MH → MX) (g : Nat → MH → MX) : MX := match x with
  | some (.inl (some (.inr (.inl q))), h) => if q.1 = rr then f q.2 h else if q.2 = none then f none h else none
  | some (.inr e, h) => g e h
  | _ => none
/-- a throw: the handlers that cover the place, in their order; where there are handlers, one of them takes it -/
def mth2 (l : List (Nat × Nat)) (e : Nat) (ls : List (Option MV)) (k : Nat → List (Option MV) → List MV → MH → MX) (h : MH) : MX := match l with
  | [] => none
  | q :: r => if e = q.1 then k q.2 ls [rv 0 (some (h.2.2.2.1 0))] (h.1, h.2.1, h.2.2.1, m1 h.2.2.2.1 0 (h.2.2.2.1 0 + 1), h.2.2.2.2) else mth2 r e ls k h
def mth (l : List (Nat × Nat)) (e : Nat) (ls : List (Option MV)) (k : Nat → List (Option MV) → List MV → MH → MX) (h : MH) : MX := match l with
  | [] => some (.inr e, h)
  | q :: r => mth2 (q :: r) e ls k h
def mret (x : MX) (rk rr : Nat) (st : List MV) (k : List MV → MH → MX) (g : Nat → MH → MX) : MX := match rk with
  | 0 => mclV x (fun h => k st h) g
  | 1 => mclI x (fun v h => k (.inl v :: st) h) g
  | _ => mclR x rr (fun o h => k (rv rr o :: st) h) g
/-- a new object of region r with n slots -/
def mnew (h : MH) (r n : Nat) : MH := (m2 h.1 r (h.2.2.2.1 r) 0, m2 h.2.1 r (h.2.2.2.1 r) none, m2 h.2.2.1 r (h.2.2.2.1 r) 0, m1 h.2.2.2.1 r (h.2.2.2.1 r + 1), h.2.2.2.2.1 + 1, h.2.2.2.2.2 + n)
def notJ (v : MV) : Bool := match v with
  | .inr (.inr _) => false
  | _ => true
def mcat (l : List MV) : Nat := match l with
  | [] => 0
  | .inr (.inr _) :: r => mcat r + 2
  | _ :: r => mcat r + 1
def mexec (P : MP) (E : Nat → List MV → MH → MX) (k : Nat → List (Option MV) → List MV → MH → MX) (m pc : Nat) (ls : List (Option MV)) (st : List MV) (h : MH) (op : Nat) (as : List Nat) (c : Int32) : MX := match op with
  | 0 => a1 as fun n => k n ls (.inl c :: st) h
  | 1 => a2 as fun n a => plI (lget ls a) fun x => k n ls (.inl x :: st) h
  | 2 => a2 as fun n a => plR (lget ls a) fun r o => k n ls (rv r o :: st) h
  | 3 => a2 as fun n a => p1i st fun x s => k n (ls.set a (some (.inl x))) s h
  | 4 => a2 as fun n a => p1r st fun r o s => k n (ls.set a (some (rv r o))) s h
  | 5 => a2 as fun n a => plI (lget ls a) fun x => k n (ls.set a (some (.inl (x + c)))) st h
  | 6 => a2 as fun n w => p2i st fun x y s => mop w x y fun v => k n ls (.inl v :: s) h
  | 7 => a1 as fun n => p2i st fun x y s => if y = 0 then none else k n ls (.inl (x / y) :: s) h
  | 8 => a1 as fun n => p2i st fun x y s => if y = 0 then none else k n ls (.inl (x - x / y * y) :: s) h
  | 9 => a2 as fun n w => p1i st fun x s => mun w x fun v => k n ls (.inl v :: s) h
  | 10 => a3 as fun n w t => p2i st fun x y s => mbr w x y (k t ls s h) (k n ls s h)
  | 11 => a3 as fun n w t => p1i st fun x s => mbr w x 0 (k t ls s h) (k n ls s h)
  | 12 => a3 as fun n w t => p1r st fun r o s => chk (Nat.beq r 7) none (mnu w o (k t ls s h) (k n ls s h))
  | 13 => a1 as fun t => k t ls st h
  | 14 => a2 as fun q d => p1i st fun x s => msw (mSwt q) x d fun t => k t ls s h
  | 15 => a1 as fun n => (match st with | .inl x :: s => k n ls (.inl x :: .inl x :: s) h | .inr (.inl q) :: s => k n ls (.inr (.inl q) :: .inr (.inl q) :: s) h | _ => none)
  | 16 => a1 as fun n => p1i st fun x s => p1r s fun r o s => k n ls (.inl x :: rv r o :: .inl x :: rv r o :: s) h
  | 17 => a1 as fun n => (match st with | .inl _ :: s => k n ls s h | .inr (.inl _) :: s => k n ls s h | _ => none)
  | 20 => a3 as fun n ci f => p1r st fun r o s => onS o fun j => chk (Nat.beq (rCls r) ci) (k n ls (.inl (rdI P h.1 r j f) :: s) h) none
  | 21 => a3 as fun n ci f => p1r st fun r o s => onS o fun j => chk (Nat.beq (rCls r) ci) (k n ls (rv (rTgt r f) (rdR P h.2.1 r j f) :: s) h) none
  | 22 => a4 as fun n ci f z => p1i st fun x s => p1r s fun r o s => onS o fun j => chk (Nat.beq (rCls r) ci) (match z with | 0 => k n ls s (m3 h.1 r j f x, h.2) | _ => if x &&& 1 = x then k n ls s (m3 h.1 r j f x, h.2) else none) none
  | 23 => a3 as fun n ci f => p1r st fun r' o' s => p1r s fun r o s => onS o fun j => chk (Nat.beq (rCls r) ci) (match P.1 r f with | some _ => none | none => chk (Nat.beq r' (rTgt r f)) (k n ls s (h.1, m3 h.2.1 r j f o', h.2.2)) (chk o'.isNone (k n ls s (h.1, m3 h.2.1 r j f none, h.2.2)) none)) none
  | 24 => a1 as fun n => p1r st fun r o s => onS o fun j => chk (Nat.beq (rTag r) 0) none (chk (Nat.beq r 1 && Nat.beq P.2.1 4000) none (k n ls (.inl (Int32.ofNat (rLen P r j)) :: s) h))
  | 25 => a2 as fun n t => p1i st fun i s => p1r s fun r o s => onS o fun j => chk (Nat.beq (rTag r) t) (chk (Nat.beq r 1 && Nat.beq P.2.1 4000) none (if ino i (rLen P r j) then none else k n ls (.inl (rdI P h.1 r j i.toNatClampNeg) :: s) h)) none
  | 26 => a3 as fun n t r0 => p1i st fun x s => p1i s fun i s => p1r s fun r o s => onS o fun j => chk (Nat.beq (rTag r) t) (chk (Nat.blt r 10 || !Nat.beq r r0) none (if ino i (rLen P r j) then none else mnr t x fun v => k n ls s (m3 h.1 r j i.toNatClampNeg v, h.2))) none
  | 27 => a1 as fun n => p1i st fun i s => p1r s fun r o s => onS o fun j => chk (Nat.beq (rTag r) 5) (if ino i (rLen P r j) then none else k n ls (rv (rTgt r 0) (rdR P h.2.1 r j i.toNatClampNeg) :: s) h) none
  | 28 => a1 as fun n => p1r st fun r' o' s => p1i s fun i s => p1r s fun r o s => onS o fun j => onS o' fun j' => chk (Nat.beq (rTag r) 5) (match P.1 r 0 with | some _ => none | none => chk (Nat.beq r' (rTgt r 0)) (if ino i (rLen P r j) then none else k n ls s (h.1, m3 h.2.1 r j i.toNatClampNeg (some j'), h.2.2)) none) none
  | 29 => a1 as fun n => p1i st fun i s => p1r s fun r o s => onS o fun j => chk (Nat.beq (rTag r) 4) (if ino i (rLen P r j) then none else k n ls (jv (h.2.2.1 r j i.toNatClampNeg) :: s) h) none
  | 30 => a2 as fun n r0 => p1j st fun x s => p1i s fun i s => p1r s fun r o s => onS o fun j => chk (Nat.beq (rTag r) 4 && Nat.beq r r0) (if ino i (rLen P r j) then none else k n ls s (h.1, h.2.1, m3 h.2.2.1 r j i.toNatClampNeg x, h.2.2.2)) none
  | 31 => a2 as fun n r => (match P.1 r 1000 with | some _ => none | none => k n ls (rv r (some (h.2.2.2.1 r)) :: st) (mnew h r (regL r)))
  | 32 => a2 as fun n r => p1i st fun x s => chk (x == Int32.ofNat (regL r)) (match P.1 r 1000 with | some _ => none | none => k n ls (rv r (some (h.2.2.2.1 r)) :: s) (mnew h r (regL r))) none
  | 33 => a2 as fun n r => p1i st fun x s => chk (x == Int32.ofNat (regL r)) (match P.1 r 1000 with | some _ => none | none => k n ls (rv r (some (h.2.2.2.1 r)) :: s) (mnew h r (regL r))) none
  | 34 => a3 as fun n r j => k n ls (rv r (some j) :: st) h
  | 36 => a2 as fun n r => k n ls (rv r none :: st) h
  | 37 => a6 as fun n kd m' na rk rr => chk (Nat.ble (mcat (st.drop na)) 8 && (st.take na).all notJ && Nat.ble na st.length) (match kd with
      | 0 => mret (E m' (st.take na).reverse h) rk rr (st.drop na) (k n ls) (fun e h => mth (mHand m pc) e ls k h)
      | _ => (match (st.take na).reverse with
        | .inr (.inl q) :: as' => onS q.2 fun j => chk (Nat.beq (rCls q.1) (kd - 1)) (mret (E m' (rv q.1 (some j) :: as') h) rk rr (st.drop na) (k n ls) (fun e h => mth (mHand m pc) e ls k h)) none
        | _ => none)) none
  | 38 => a1 as fun t => p1i st fun x _ => mrn t x fun v => some (.inl (some (.inl v)), h)
  | 39 => p1r st fun r o _ => some (.inl (some (rv r o)), h)
  | 40 => some (.inl none, h)
  | 41 => a1 as fun n => p1i st fun x s => k n ls (jv x.toInt64 :: s) h
  | 42 => a1 as fun n => p1j st fun y s => p1j s fun x s => if x < y then k n ls (.inl (-1) :: s) h else if x = y then k n ls (.inl 0 :: s) h else k n ls (.inl 1 :: s) h
  | 43 => a2 as fun n c => k n ls (jv (Int64.ofNat c) :: st) h
  | 44 => a1 as fun n => p1r st fun r o s => onS o fun _ => chk (Nat.ble (mcat s) 8 && !Nat.beq r 7) (k n ls s h) none
  | 45 => a2 as fun n r0 => p1i st fun len s => p1i s fun dp s => p1r s fun r' o' s => p1i s fun sp s => p1r s fun r o s => onS o fun j => onS o' fun j' =>
      chk (Nat.beq (rTag r) 1 && Nat.ble (mcat s) 8) (chk (Nat.beq (rTag r') 1 && Nat.beq r' r0) (chk (Nat.blt r' 10 || Nat.blt r 10) none (if len < 0 then none else if sp < 0 then none else if dp < 0 then none else if rLen P r j < sp.toNatClampNeg + len.toNatClampNeg then none else if rLen P r' j' < dp.toNatClampNeg + len.toNatClampNeg then none else
        k n ls s (mcp h.1 r' j' (rdI P h.1 r j) sp.toNatClampNeg dp.toNatClampNeg len.toNatClampNeg, h.2))) none) none
  | 46 => a1 as fun e => chk (Nat.ble (mcat st) 8) (mth (mHand m pc) e ls k (h.1, h.2.1, h.2.2.1, h.2.2.2.1, h.2.2.2.2.1 + 1, h.2.2.2.2.2 + 6)) none
  | 47 => a2 as fun n w => chk (Nat.ble (mcat st) 8) (match w with
      | 0 => p2i st fun x y s => k n ls (.inl (if x < y then y else x) :: s) h
      | 1 => p2i st fun x y s => k n ls (.inl (if y < x then y else x) :: s) h
      | _ => p1i st fun x s => k n ls (.inl (if 0 ≤ x then x else 0 - x) :: s) h) none
  | _ => none
def mbody (P : MP) (E : Nat → List MV → MH → MX) (k : Nat → List (Option MV) → List MV → MH → MX) (m pc : Nat) (ls : List (Option MV)) (st : List MV) (h : MH) : MX := match mCode m pc with
  | none => none
  | some e => mexec P E k m pc ls st h e.1 e.2.1 e.2.2
/-- at most j steps, the continuation k taken at the places of 'cut' (but not at once) and where the steps end -/
def mrunc (P : MP) (E : Nat → List MV → MH → MX) (k : Nat → List (Option MV) → List MV → MH → MX) (m : Nat) (cut : List Nat) : Nat → Nat → List (Option MV) → List MV → MH → MX
  | 0, pc, ls, st, h => k pc ls st h
  | j + 1, pc, ls, st, h => mbody P E (fun pc' ls' st' h' => chk (cut.elem pc') (k pc' ls' st' h') (mrunc P E k m cut j pc' ls' st' h')) m pc ls st h
def mP (L : Nat) (xs : Nat → Int32) : MP := (srT, L, xs)
