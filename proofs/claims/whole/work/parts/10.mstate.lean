/-! the reference's object: now, then, past, text, told; kept, typed, thrown, at, isFault, value, tolds -/
abbrev zM : Type := (Nat → Int32) × (Nat → Int32) × (Nat → Int32) × (Nat → Nat) × (Nat → Nat) × Nat × Nat × Int32 × Nat × Int32 × Nat × Nat
abbrev mg (μ : zM) : Nat → Int32 := μ.1
abbrev mh (μ : zM) : Nat → Int32 := μ.2.1
abbrev mp (μ : zM) : Nat → Int32 := μ.2.2.1
abbrev mx (μ : zM) : Nat → Nat := μ.2.2.2.1
abbrev mt (μ : zM) : Nat → Nat := μ.2.2.2.2.1
abbrev mk (μ : zM) : Nat := μ.2.2.2.2.2.1
abbrev my (μ : zM) : Nat := μ.2.2.2.2.2.2.1
abbrev mth (μ : zM) : Int32 := μ.2.2.2.2.2.2.2.1
abbrev mat (μ : zM) : Nat := μ.2.2.2.2.2.2.2.2.1
abbrev mfl (μ : zM) : Int32 := μ.2.2.2.2.2.2.2.2.2.1
abbrev mva (μ : zM) : Nat := μ.2.2.2.2.2.2.2.2.2.2.1
abbrev mtn (μ : zM) : Nat := μ.2.2.2.2.2.2.2.2.2.2.2
abbrev zMW (ad : Nat → Nat) (cI : ClassId) (μ : zM) : va_W := [(ad 0, .inr (4, [.ref (ad 1), .ref (ad 2), .ref (ad 3), .int (nI (mk μ)), .ref (ad 4), .int (nI (my μ)), .int (mth μ), .int (nI (mat μ)), .int (mfl μ), .int (nI (mva μ)), .ref (ad 5), .int (nI (mtn μ))])), (ad 1, .inl (cI, 323, .inl (mg μ))), (ad 2, .inl (cI, 323, .inl (mh μ))), (ad 3, .inl (cI, 1938, .inl (mp μ))), (ad 4, .inl (cI, 60, .inl (fun w => nI (mx μ w)))), (ad 5, .inl (cI, 62, .inl (fun w => nI (mt μ w))))]
/-- what holds of it always -/
abbrev zMok (μ : zM) : Prop := gok (mg μ) ∧ gbt (mg μ) ∧ mk μ ≤ 6 ∧ my μ ≤ 60
/-- the first cells of a whole copy -/
theorem cpy_all {f t : Nat → Int32} {p n : Nat} : ∀ k, k < n → va_cpy f t p 0 n k = f (p + k) := by
  intro k hk
  unfold va_cpy
  rw [if_pos ⟨Nat.zero_le _, by omega⟩, Nat.sub_zero]
def pSh (p : Nat → Int32) (c : Nat) : Nat → Int32 := fun k => if k < c then p (k + 323) else p k
theorem pSh_0 (p : Nat → Int32) : pSh p 0 = p := by
  funext k
  unfold pSh
  rw [if_neg (by omega)]
theorem pSh_s (p : Nat → Int32) (c : Nat) : upd (pSh p c) c (pSh p c (c + 323)) = pSh p (c + 1) := by
  funext k
  unfold upd pSh
  by_cases h : k = c
  · subst h
    rw [if_pos rfl, if_neg (by omega), if_pos (by omega)]
  · rw [if_neg h]
    by_cases h2 : k < c
    · rw [if_pos h2, if_pos (by omega)]
    · rw [if_neg h2, if_neg (by omega)]
def pSvp (g p : Nat → Int32) (k : Nat) : Nat → Int32 := if k = 6 then va_cpy g (pSh p 1615) 0 (323 * 5) 323 else va_cpy g p 0 (323 * k) 323
def pSvk (k : Nat) : Nat := if k = 6 then 6 else k + 1
/-- with the state saved -/
abbrev pSv (μ : zM) : zM := (mg μ, mh μ, pSvp (mg μ) (mp μ) (mk μ), mx μ, mt μ, pSvk (mk μ), my μ, mth μ, mat μ, mfl μ, mva μ, mtn μ)
abbrev mset_th (μ : zM) (x : Int32) : zM := (mg μ, mh μ, mp μ, mx μ, mt μ, mk μ, my μ, x, mat μ, mfl μ, mva μ, mtn μ)
abbrev mset_g (μ : zM) (g : Nat → Int32) : zM := (g, mh μ, mp μ, mx μ, mt μ, mk μ, my μ, mth μ, mat μ, mfl μ, mva μ, mtn μ)
abbrev mset_h (μ : zM) (h : Nat → Int32) : zM := (mg μ, h, mp μ, mx μ, mt μ, mk μ, my μ, mth μ, mat μ, mfl μ, mva μ, mtn μ)
theorem pSvk_le {k : Nat} (h : k ≤ 6) : pSvk k ≤ 6 ∧ 0 < pSvk k := by
  unfold pSvk
  split <;> omega
/-- the words, the slots, the numbers: what may be asked for -/
abbrev inR (x : Int32) (n : Int32) : Prop := ¬ x < 0 ∧ ¬ n < x
theorem inR_nat {x : Int32} {n : Nat} (hn : n < 2 ^ 31) (h : ¬ x < 0 ∧ ¬ nI n < x) : ∃ j : Nat, j < n + 1 ∧ x = nI j := by
  obtain ⟨j, hj, rfl⟩ := nI_of h.1
  refine ⟨j, ?_, rfl⟩
  have := h.2
  rw [nI_ltI hn hj] at this
  omega
