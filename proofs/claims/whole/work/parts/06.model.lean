/-! bits of thirteen cells; the reference's state in the words of the class's -/
theorem z_and (a b : Nat) : nI a &&& nI b = nI (a &&& b) := by
  apply Int32.toBitVec_inj.1
  show BitVec.ofNat 32 a &&& BitVec.ofNat 32 b = BitVec.ofNat 32 (a &&& b)
  apply BitVec.eq_of_getLsbD_eq
  intro i hi
  simp [hi]
theorem z_or (a b : Nat) : nI a ||| nI b = nI (a ||| b) := by
  apply Int32.toBitVec_inj.1
  show BitVec.ofNat 32 a ||| BitVec.ofNat 32 b = BitVec.ofNat 32 (a ||| b)
  apply BitVec.eq_of_getLsbD_eq
  intro i hi
  simp [hi]
theorem z_xor (a b : Nat) : nI a ^^^ nI b = nI (a ^^^ b) := by
  apply Int32.toBitVec_inj.1
  show BitVec.ofNat 32 a ^^^ BitVec.ofNat 32 b = BitVec.ofNat 32 (a ^^^ b)
  apply BitVec.eq_of_getLsbD_eq
  intro i hi
  simp [hi]
def pop : Nat → Nat → Nat
  | 0, _ => 0
  | k + 1, n => n % 2 + pop k (n / 2)
abbrev pop13 (n : Nat) : Nat := pop 13 n
theorem z_all {P : Nat → Bool} {N : Nat} (h : (List.range N).all P = true) {n : Nat} (hn : n < N) : P n = true := List.all_eq_true.mp h n (List.mem_range.mpr hn)
theorem pop13_t : (List.range 8192).all (fun n => decide (pBC (nI n) = nI (pop13 n))) = true := by decide +kernel
theorem pBC_nI {n : Nat} (h : n < 8192) : pBC (nI n) = nI (pop13 n) := of_decide_eq_true (z_all pop13_t h)
theorem kern_t : (List.range 8192).all (fun n => decide (n = 0 ∨ pop13 (n &&& (n - 1)) + 1 = pop13 n)) = true := by decide +kernel
theorem kern_s {n : Nat} (h : n < 8192) (h0 : n ≠ 0) : pop13 (n &&& (n - 1)) + 1 = pop13 n := (of_decide_eq_true (z_all kern_t h)).resolve_left h0
theorem pop_not_t : (List.range 8192).all (fun n => decide (pop13 n + pop13 (n ^^^ 8191) = 13)) = true := by decide +kernel
theorem pop_not {n : Nat} (h : n < 8192) : pop13 n + pop13 (n ^^^ 8191) = 13 := of_decide_eq_true (z_all pop_not_t h)
theorem z_small {n : Nat} (h : n < 8192) : pop13 n ≤ 13 := by
  have := pop_not h
  omega
theorem not12_t : (List.range 4096).all (fun n => decide ((nI n ^^^ (-1)) &&& 4095 = nI (n ^^^ 4095))) = true := by decide +kernel
theorem z_not12 {n : Nat} (h : n < 4096) : (nI n ^^^ (-1)) &&& 4095 = nI (n ^^^ 4095) := of_decide_eq_true (z_all not12_t h)
/-- the number turned, with the cell 12 -/
theorem pTurn_nI {n : Nat} (h : n < 4096) : pTurn (nI n) = nI ((n ^^^ 4095) ||| 4096) := by
  unfold pTurn
  rw [z_not12 h, show (4096 : Int32) = nI 4096 from rfl, z_or]
theorem turn_t : (List.range 4096).all (fun n => decide ((n ^^^ 4095) ||| 4096 = n ^^^ 8191)) = true := by decide +kernel
theorem pTurn_x {n : Nat} (h : n < 4096) : pTurn (nI n) = nI (n ^^^ 8191) := by
  rw [pTurn_nI h, of_decide_eq_true (z_all turn_t h)]
theorem xor_lt {a b : Nat} (ha : a < 8192) (hb : b < 8192) : a ^^^ b < 8192 := Nat.xor_lt_two_pow (n := 13) ha hb
/-- a word of thirteen bits -/
abbrev z13 (x : Int32) : Prop := ∃ n, n < 8192 ∧ x = nI n
theorem z13_nI {n : Nat} (h : n < 8192) : z13 (nI n) := ⟨n, h, rfl⟩
theorem z13_xor {x y : Int32} (hx : z13 x) (hy : z13 y) : z13 (x ^^^ y) := by
  obtain ⟨a, ha, rfl⟩ := hx
  obtain ⟨b, hb, rfl⟩ := hy
  exact ⟨a ^^^ b, xor_lt ha hb, z_xor a b⟩
theorem z13_turn {n : Nat} (h : n < 4096) : z13 (pTurn (nI n)) := ⟨_, xor_lt (by omega) (by decide), pTurn_x h⟩
theorem pWay_13 {h st : Int32} {n : Nat} (hn : n < 4096) (hw : ¬ pWay h (nI n) st = -1) : z13 (pWay h (nI n) st) := by
  have h1 : z13 (nI n) := z13_nI (by omega)
  have h2 : z13 (pTurn (nI n)) := z13_turn hn
  unfold pWay at hw ⊢
  split
  · split
    · split
      · exact h1
      · exact h2
    · exact h1
  · split
    · exact h2
    · next q1 q2 => rw [if_neg q1, if_neg q2] at hw; exact absurd rfl hw
/-- both ways together change each of the thirteen cells once -/
theorem z_tie {h : Int32} {n : Nat} (hh : z13 h) (hn : n < 4096) : ¬ pBC (h ^^^ nI n) = pBC (h ^^^ pTurn (nI n)) := by
  obtain ⟨a, ha, rfl⟩ := hh
  rw [pTurn_x hn, z_xor, z_xor, ← Nat.xor_assoc, pBC_nI (xor_lt ha (by omega)), pBC_nI (xor_lt (xor_lt ha (by omega)) (by decide))]
  have h1 := pop_not (xor_lt ha (show n < 8192 by omega))
  intro q
  rw [nI_eq (by omega) (by omega)] at q
  omega
/-- the way as the reference takes it -/
def pTak (h n st : Int32) : Int32 :=
  if ¬ ((h ^^^ n) &&& st = 0 ∧ (h ^^^ pTurn n) &&& st = 0) then (if (h ^^^ n) &&& st = 0 then n else if (h ^^^ pTurn n) &&& st = 0 then pTurn n else -1)
  else if pBC (h ^^^ n) < pBC (h ^^^ pTurn n) ∨ (pBC (h ^^^ n) = pBC (h ^^^ pTurn n) ∧ ¬ 4096 ≤ h) then n else pTurn n
theorem pTak_eq {h st : Int32} {n : Nat} (hh : z13 h) (hn : n < 4096) : pTak h (nI n) st = pWay h (nI n) st := by
  have ht := z_tie hh hn
  unfold pTak pWay
  by_cases q1 : (h ^^^ nI n) &&& st = 0
  · by_cases q2 : (h ^^^ pTurn (nI n)) &&& st = 0
    · rw [if_neg (fun z => z ⟨q1, q2⟩), if_pos q1, if_pos q2]
      by_cases q3 : pBC (h ^^^ nI n) < pBC (h ^^^ pTurn (nI n))
      · rw [if_pos (Or.inl q3), if_pos (Int32.le_of_lt q3)]
      · rw [if_neg (fun z => z.elim q3 (fun y => ht y.1)), if_neg]
        intro q4
        rcases Int32.lt_or_eq_of_le q4 with q5 | q5
        · exact q3 q5
        · exact ht q5
    · rw [if_pos (fun z => q2 z.2), if_pos q1, if_pos q1, if_neg q2]
  · rw [if_pos (fun z => q1 z.1), if_neg q1, if_neg q1]
theorem z13_lt {x : Int32} (h : z13 x) : (x &&& 4096 = 0 ↔ x < 4096) ∧ 0 ≤ x := by
  obtain ⟨n, hn, rfl⟩ := h
  have t : (List.range 8192).all (fun n => decide ((nI n &&& 4096 = 0 ↔ nI n < 4096) ∧ 0 ≤ nI n)) = true := by decide +kernel
  exact of_decide_eq_true (z_all t hn)
theorem z12_m1 {n : Nat} (h : n < 4096) : ¬ nI n = -1 := nI_m1 (by omega)
theorem pNum_ge {h : Int32} (hh : z13 h) : pNum h = if 4096 ≤ h then (h ^^^ (-1)) &&& 4095 else h := by
  unfold pNum
  have h1 := (z13_lt hh).1
  by_cases q : h < 4096
  · rw [if_pos (h1.mpr q), if_neg (Int32.not_le.mpr q)]
  · rw [if_neg (fun z => q (h1.mp z)), if_pos (Int32.not_lt.mp q)]
def pCost (h n st : Int32) : Int32 := if pWay h n st = -1 then -1 else pBC (h ^^^ pWay h n st)
def pWo (f : Nat → Int32) (k : Nat) : Nat → Option Nat
  | 0 => none
  | n + 1 => if f n = nI k then some n else pWo f k n
theorem pWo_lt {f : Nat → Int32} {k : Nat} : ∀ {n j : Nat}, pWo f k n = some j → j < n
  | 0, j, h => by cases h
  | n + 1, j, h => by
    unfold pWo at h
    split at h
    · cases h; omega
    · have := pWo_lt h; omega
abbrev gpl (g : Nat → Int32) (w : Nat) : Nat := (g (259 + w)).toNatClampNeg
/-- the reference's numbers as a state of the class -/
abbrev gS (g : Nat → Int32) : zS := (fun k => g (7 + k), fun k => g (25 + k), fun k => zo (pWo (fun w => g (259 + w)) k 16), gpl g, fun w => g (275 + w), fun w => g (291 + w), fun w => g (307 + w), g, g 2, g 3, g 4, g 5, g 6)
abbrev gok (g : Nat → Int32) : Prop := ∀ w, w < 16 → gpl g w < 18 ∧ g (259 + w) = nI (gpl g w)
abbrev gbt (g : Nat → Int32) : Prop := ∀ k, k < 18 → z13 (g (7 + k))
theorem gok_upd {g : Nat → Int32} {k : Nat} {x : Int32} (h : gok g) (hk : k < 259 ∨ 275 ≤ k) : gok (upd g k x) := by
  intro w hw
  have e : upd g k x (259 + w) = g (259 + w) := by unfold upd; rw [if_neg (by omega)]
  show (upd g k x (259 + w)).toNatClampNeg < 18 ∧ upd g k x (259 + w) = nI ((upd g k x (259 + w)).toNatClampNeg)
  rw [e]
  exact h w hw
theorem gok_put {g : Nat → Int32} {k t : Nat} (h : gok g) (ht : t < 18) : gok (upd g (259 + k) (nI t)) := by
  intro w hw
  show (upd g (259 + k) (nI t) (259 + w)).toNatClampNeg < 18 ∧ upd g (259 + k) (nI t) (259 + w) = nI ((upd g (259 + k) (nI t) (259 + w)).toNatClampNeg)
  unfold upd
  split
  · rw [nI_clamp (by omega)]
    exact ⟨ht, rfl⟩
  · exact h w hw
theorem gbt_upd {g : Nat → Int32} {k : Nat} {x : Int32} (h : gbt g) (hk : k < 7 ∨ 25 ≤ k) : gbt (upd g k x) := by
  intro w hw
  have e : upd g k x (7 + w) = g (7 + w) := by unfold upd; rw [if_neg (by omega)]
  rw [e]
  exact h w hw
theorem gbt_put {g : Nat → Int32} {k : Nat} {x : Int32} (h : gbt g) (hx : z13 x) : gbt (upd g (7 + k) x) := by
  intro w hw
  unfold upd
  split
  · exact hx
  · exact h w hw
/-- one write of the reference, step by step -/
def pGw (f : Nat → Int32) (b : Nat) (mk : Int32) : Nat → Nat → Int32
  | 0 => f
  | n + 1 => upd (pGw f b mk n) (25 + (b + n)) (pGw f b mk n (25 + (b + n)) + ((mk >>> (nI n &&& 31)) &&& 1))
theorem pGw_other {f : Nat → Int32} {b : Nat} {mk : Int32} : ∀ {n k : Nat}, (k < 25 + b ∨ 25 + b + n ≤ k) → pGw f b mk n k = f k
  | 0, _, _ => rfl
  | n + 1, k, h => by
    unfold pGw upd
    rw [if_neg (by omega)]
    exact pGw_other (by omega)
