/-! what the constructors make -/
def pWi0 : Nat → Nat → Int32
  | 0 => fun _ => 0
  | n + 1 => upd (pWi0 n) n (if n < 16 then nI n else -1)
def pPl0 : Nat → Nat → Nat
  | 0 => fun _ => 0
  | n + 1 => va_up (pPl0 n) n n
def pS0 : zS := (fun _ => 0, fun _ => 0, pWi0 18, pPl0 16, fun _ => 0, fun _ => 0, fun _ => 0, upd (fun _ => 0) 0 20, 0, 0, 0, 0, 0)
def pG0 : Nat → Nat → Int32
  | 0 => upd (fun _ => 0) 0 20
  | n + 1 => upd (pG0 n) (259 + n) (nI n)
abbrev pT00 : zT := (fun _ => 0, 0, fun _ => 0, fun _ => 0, 0, 0, 0)
abbrev pM0 : zM := (pG0 16, fun _ => 0, fun _ => 0, fun _ => 0, fun _ => 0, 0, 0, 0, 0, 0, 0, 0)
