/-! the whole world of an object of the class -/
abbrev zCW (c0 : Nat) (ad ae ah ax : Nat → Nat) (ar : Nat → Nat → Nat) (cI cS : ClassId) (σ τ : zS) (o n : Nat) (hs : Nat → zS) (ω : zT) : va_W := (zCo c0 ad ae ah ax ++ (zW ad cI σ ++ (zW ae cI τ ++ (zHW ah ar cI cS o n hs ++ zTW ax cI ω))))
theorem nI_ro {j a b : Nat} (h0 : a ≤ j) (h : j ≤ b) (hb : b < 2 ^ 31) : ¬ (nI j < nI a ∨ ¬ nI j ≤ nI b) := by
  intro q
  rcases q with q | q
  · exact absurd ((nI_ltI (a := j) (b := a) (by omega) (by omega)).mp q) (by omega)
  · exact q ((nI_leI (by omega) hb).mpr h)
/-- the parsed writes are placed, k of them left, i placed -/
def pPP (ω : zT) : Nat → Nat → zS → Nat × zS
  | 0, i, σ => (i, σ)
  | k + 1, i, σ => match ptg σ (tw ω i) (nI (tn ω i)) with
    | none => (i, σ)
    | some t => pPP ω k (i + 1) (pPlace σ (tw ω i) (nI (tn ω i)) t)
theorem pPP_go {ω : zT} {k i : Nat} {σ : zS} {t : Nat} (h : ptg σ (tw ω i) (nI (tn ω i)) = some t) : pPP ω (k + 1) i σ = pPP ω k (i + 1) (pPlace σ (tw ω i) (nI (tn ω i)) t) := by
  rw [pPP, h]
theorem pPP_end {ω : zT} {k i : Nat} {σ : zS} (h : ptg σ (tw ω i) (nI (tn ω i)) = none) : pPP ω (k + 1) i σ = (i, σ) := by
  rw [pPP, h]
