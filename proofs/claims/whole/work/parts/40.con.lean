/-! ===== the constructors: run once, before the script is looked at ===== -/
def hN0 : MH := (fun _ _ _ => 0, fun _ _ _ => none, fun _ _ _ => 0, fun _ => 0, 0, 0)
def pN0 : MP := (srE, 4000, fun _ => 0)
def hA1 : MH := mnew hN0 21 (regL 21)
def xA : MX := mev pN0 9 400 10 [rv 21 (some 0)] hA1
def xOk (x : MX) : Bool := match x with
  | some (.inl none, _) => true
  | _ => false
def xHp (x : MX) : MH := match x with
  | some y => y.2
  | none => hN0
theorem xOk_eq {x : MX} (h : xOk x = true) : x = some (.inl none, xHp x) := by
  match x, h with
  | some (.inl none, _), _ => rfl
def hA2 : MH := xHp xA
theorem xA_ok : xOk xA = true := by decide +kernel
def hA3 : MH := mnew hA2 22 (regL 22)
def xB : MX := mev pN0 9 2000 11 [rv 22 (some 0)] hA3
def hA4 : MH := xHp xB
theorem xB_ok : xOk xB = true := by decide +kernel
def hS0 : MH := mnew hA4 99 (regL 99)
theorem cnt_22 : hA2.2.2.2.1 22 = 0 := by decide +kernel
theorem cnt_99 : hA4.2.2.2.1 99 = 0 := by decide +kernel
theorem num_S0 : hS0.2.2.2.2.1 = 177 ∧ hS0.2.2.2.2.2 = 108421 := by decide +kernel
