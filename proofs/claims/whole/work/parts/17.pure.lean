/-! the class's way to the dearest number -/
def pDrop (m : Int32) : Nat → Int32
  | 0 => m
  | n + 1 => pDrop m n &&& (pDrop m n - 1)
def pLow (m : Int32) (n : Nat) : Int32 := m ^^^ pDrop m n
def pHalf (h : Nat) : Int32 := if pop13 h < 6 then pLow ((nI h ^^^ (-1)) &&& 4095) (6 - pop13 h) else pLow (nI h) (pop13 h - 7)
theorem low_neg {p : Nat} (hp : p ≤ 13) : ∀ i : Nat, i < 2 ^ 31 → ((nI p - 7 : Int32) ≤ nI i ↔ p - 7 ≤ i) := by
  intro i hi
  have e1 : (nI p - nI 7).toInt = (p : Int) - 7 := pk_sub_toInt (by omega) (by decide)
  rw [show (7 : Int32) = nI 7 from rfl, Int32.le_iff_toInt_le, e1, nI_toInt hi]
  omega
theorem low_pos {n : Nat} (hn : n < 2 ^ 31) : ∀ i : Nat, i < 2 ^ 31 → (nI n ≤ nI i ↔ n ≤ i) := fun _ hi => nI_leI hn hi
/-- the dearest number of a slot as the class works it out: h what it holds as a number, st its stuck cells -/
def pDi (h : Nat) (st : Int32) : Int32 :=
  if st &&& 4096 = 0 then (if st = 0 then pHalf h else nI h ^^^ st) else nI h ^^^ ((st ^^^ (-1)) &&& 4095)
