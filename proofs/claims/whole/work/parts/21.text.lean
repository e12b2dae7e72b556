theorem z_ifc {P Q : Prop} [Decidable P] [Decidable Q] (h : P ↔ Q) : (if P then (1 : Int32) else 0) = if Q then 1 else 0 := by
  by_cases hp : P
  · rw [if_pos hp, if_pos (h.mp hp)]
  · rw [if_neg hp, if_neg (fun q => hp (h.mpr q))]
/-! the buffer of the class: codes, length; parsedWord, parsedNumber, parsed; stage, word -/
abbrev zT : Type := (Nat → Nat) × Nat × (Nat → Nat) × (Nat → Nat) × Nat × Nat × Int32
abbrev tx (τ : zT) : Nat → Nat := τ.1
abbrev tl (τ : zT) : Nat := τ.2.1
abbrev tw (τ : zT) : Nat → Nat := τ.2.2.1
abbrev tn (τ : zT) : Nat → Nat := τ.2.2.2.1
abbrev tc (τ : zT) : Nat := τ.2.2.2.2.1
abbrev ts (τ : zT) : Nat := τ.2.2.2.2.2.1
abbrev td (τ : zT) : Int32 := τ.2.2.2.2.2.2
abbrev zTW (ax : Nat → Nat) (cI : ClassId) (τ : zT) : va_W := [(ax 0, .inr (2, [.ref (ax 1), .int (nI (tl τ)), .ref (ax 2), .ref (ax 3), .int (nI (tc τ)), .int (nI (ts τ)), .int (td τ)])), (ax 1, .inl (cI, 60, .inl (fun w => nI (tx τ w)))), (ax 2, .inl (cI, 60, .inl (fun w => nI (tw τ w)))), (ax 3, .inl (cI, 60, .inl (fun w => nI (tn τ w))))]
theorem chr_t : (List.range 128).all (fun c => decide (((nI c - 48 < 0 ∨ ¬ nI c - 48 ≤ 9) ↔ ¬ (48 ≤ c ∧ c ≤ 57)) ∧ ((nI c - 97 < 0 ∨ ¬ nI c - 97 ≤ 15) ↔ ¬ (97 ≤ c ∧ c ≤ 112)))) = true := by decide +kernel
theorem chr_d {c : Nat} (h : c < 128) : (nI c - 48 < 0 ∨ ¬ nI c - 48 ≤ 9) ↔ ¬ (48 ≤ c ∧ c ≤ 57) := (of_decide_eq_true (z_all chr_t h)).1
theorem chr_a {c : Nat} (h : c < 128) : (nI c - 97 < 0 ∨ ¬ nI c - 97 ≤ 15) ↔ ¬ (97 ≤ c ∧ c ≤ 112) := (of_decide_eq_true (z_all chr_t h)).2
theorem tx_t : (List.range 60).all (fun n => decide (¬ (nI n < 0 ∨ ¬ nI n ≤ 59))) = true := by decide +kernel
theorem tx_in {n : Nat} (h : n < 60) : ¬ (nI n < 0 ∨ ¬ nI n ≤ 59) := of_decide_eq_true (z_all tx_t h)
abbrev pDig (c : Nat) : Prop := 48 ≤ c ∧ c ≤ 57
def pFD (τ : zT) (c : Nat) : zT := if pDig c then (tx τ, tl τ, va_up (tw τ) (tc τ) (iN (td τ)), va_up (tn τ) (tc τ) (c - 48), tc τ + 1, 3, td τ) else τ
abbrev pInP (τ : zT) (c : Nat) : Prop := pDig c ∧ tn τ (tc τ - 1) ≠ 0 ∧ tn τ (tc τ - 1) * 10 + (c - 48) ≤ 4095
def pIN (τ : zT) (c : Nat) : zT :=
  if c = 44 then (tx τ, tl τ, tw τ, tn τ, tc τ, 2, td τ) else if c = 59 then (tx τ, tl τ, tw τ, tn τ, tc τ, 0, td τ)
  else if pInP τ c then (tx τ, tl τ, tw τ, va_up (tn τ) (tc τ - 1) (tn τ (tc τ - 1) * 10 + (c - 48)), tc τ, ts τ, td τ) else τ
abbrev pTkB (τ : zT) (c : Nat) : Prop :=
  if ts τ = 0 then 97 ≤ c ∧ c ≤ 112 else if ts τ = 1 then c = 61 else if ts τ = 2 then pDig c else c = 44 ∨ c = 59 ∨ pInP τ c
def pTkS (τ : zT) (c : Nat) : zT :=
  if ts τ = 0 then (tx τ, tl τ, tw τ, tn τ, tc τ, 1, nI c - 97) else if ts τ = 1 then (tx τ, tl τ, tw τ, tn τ, tc τ, 2, td τ) else if ts τ = 2 then pFD τ c else pIN τ c
theorem pTkB_dec (τ : zT) (c : Nat) : pTkB τ c ∨ ¬ pTkB τ c := Classical.em _
/-- what the parser keeps to, i characters read -/
abbrev tInv (τ : zT) (i : Nat) : Prop := ts τ < 4 ∧ (1 ≤ ts τ → td τ = nI (iN (td τ)) ∧ iN (td τ) < 16) ∧ tc τ ≤ i ∧ (ts τ = 2 → tc τ < i) ∧ (ts τ = 3 → 1 ≤ tc τ) ∧ ∀ j, j < tc τ → tn τ j < 4096 ∧ tw τ j < 16
theorem pTk_same {τ : zT} {c : Nat} : tx (pTkS τ c) = tx τ ∧ tl (pTkS τ c) = tl τ := by
  unfold pTkS
  split
  · exact ⟨rfl, rfl⟩
  · split
    · exact ⟨rfl, rfl⟩
    · split
      · unfold pFD; split <;> exact ⟨rfl, rfl⟩
      · unfold pIN; split
        · exact ⟨rfl, rfl⟩
        · split
          · exact ⟨rfl, rfl⟩
          · split <;> exact ⟨rfl, rfl⟩
theorem pTk_inv {τ : zT} {c i : Nat} (h : tInv τ i) (hc : c < 128) (hb : pTkB τ c) : tInv (pTkS τ c) (i + 1) := by
  obtain ⟨h1, h2, h3, h4, h5, h6⟩ := h
  unfold pTkB at hb
  unfold pTkS
  by_cases q0 : ts τ = 0
  · rw [if_pos q0] at hb
    rw [if_pos q0]
    have e : (nI c - 97 : Int32) = nI (c - 97) := pk_sub (a := c) (b := 97) hb.1
    refine ⟨by show 1 < 4; omega, fun _ => ?_, by show tc τ ≤ i + 1; omega, fun q => (by cases q), fun q => (by cases q), h6⟩
    show (nI c - 97 : Int32) = nI (iN (nI c - 97)) ∧ iN (nI c - 97) < 16
    rw [e, show iN (nI (c - 97)) = c - 97 from nI_clamp (by omega)]
    exact ⟨rfl, by omega⟩
  · rw [if_neg q0] at hb
    rw [if_neg q0]
    by_cases q1 : ts τ = 1
    · rw [if_pos q1]
      exact ⟨by show 2 < 4; omega, fun _ => h2 (by omega), by show tc τ ≤ i + 1; omega, fun _ => by show tc τ < i + 1; omega, fun q => (by cases q), h6⟩
    · rw [if_neg q1] at hb
      rw [if_neg q1]
      by_cases q2 : ts τ = 2
      · rw [if_pos q2] at hb
        rw [if_pos q2]
        unfold pFD
        rw [if_pos hb]
        have h7 := h4 q2
        have h8 := h2 (by omega)
        have h9 : 48 ≤ c ∧ c ≤ 57 := hb
        refine ⟨by show 3 < 4; omega, fun _ => h8, by show tc τ + 1 ≤ i + 1; omega, fun q => (by cases q), fun _ => by show 1 ≤ tc τ + 1; omega, fun j hj => ?_⟩
        have hj' : j < tc τ + 1 := hj
        show va_up (tn τ) (tc τ) (c - 48) j < 4096 ∧ va_up (tw τ) (tc τ) (iN (td τ)) j < 16
        unfold va_up
        by_cases qj : j = tc τ
        · rw [if_pos qj, if_pos qj]
          exact ⟨by omega, h8.2⟩
        · rw [if_neg qj, if_neg qj]
          exact h6 j (by omega)
      · rw [if_neg q2] at hb
        rw [if_neg q2]
        have q3 : ts τ = 3 := by omega
        have h8 := h2 (by omega)
        have h9 := h5 q3
        unfold pIN
        by_cases r1 : c = 44
        · rw [if_pos r1]
          exact ⟨by show 2 < 4; omega, fun _ => h8, by show tc τ ≤ i + 1; omega, fun _ => by show tc τ < i + 1; omega, fun q => (by cases q), h6⟩
        · rw [if_neg r1]
          by_cases r2 : c = 59
          · rw [if_pos r2]
            exact ⟨by show 0 < 4; omega, fun q => (by cases q), by show tc τ ≤ i + 1; omega, fun q => (by cases q), fun q => (by cases q), h6⟩
          · rw [if_neg r2]
            have r3 : pInP τ c := hb.resolve_left r1 |>.resolve_left r2
            rw [if_pos r3]
            refine ⟨h1, fun _ => h8, by show tc τ ≤ i + 1; omega, fun q => absurd q q2, fun _ => h9, fun j hj => ?_⟩
            have hj' : j < tc τ := hj
            show va_up (tn τ) (tc τ - 1) (tn τ (tc τ - 1) * 10 + (c - 48)) j < 4096 ∧ tw τ j < 16
            unfold va_up
            have h10 := r3.2.2
            by_cases qj : j = tc τ - 1
            · rw [if_pos qj]
              exact ⟨by omega, (h6 j hj').2⟩
            · rw [if_neg qj]
              exact h6 j hj'
/-- the parser's way: k characters left, i read -/
def pPar : Nat → Nat → zT → Nat × zT
  | 0, i, τ => (i, τ)
  | k + 1, i, τ => if pTkB τ (tx τ i) then pPar k (i + 1) (pTkS τ (tx τ i)) else (i, pTkS τ (tx τ i))
theorem pPar_go {k i : Nat} {τ : zT} (h : pTkB τ (tx τ i)) : pPar (k + 1) i τ = pPar k (i + 1) (pTkS τ (tx τ i)) := by
  rw [pPar]
  exact if_pos h
theorem pPar_end {k i : Nat} {τ : zT} (h : ¬ pTkB τ (tx τ i)) : pPar (k + 1) i τ = (i, pTkS τ (tx τ i)) := by
  rw [pPar]
  exact if_neg h
abbrev pT0 (τ : zT) : zT := (tx τ, tl τ, tw τ, tn τ, 0, 0, td τ)
def pParse (τ : zT) : Nat × zT := pPar (tl τ) 0 (pT0 τ)
def pHashA (f : Nat → Nat) : Nat → Int64 → Int64
  | 0, h => h
  | n + 1, h => 31 * pHashA f n h + (nI (f n)).toInt64
theorem tInv0 (τ : zT) : tInv (pT0 τ) 0 := ⟨by show 0 < 4; omega, fun q => (by cases q), Nat.le_refl _, fun q => (by cases q), fun q => (by cases q), fun j hj => absurd hj (Nat.not_lt_zero _)⟩
theorem tx_num {b c : Nat} (h : 48 ≤ c) : nI (b * 10) + (nI c - 48) = nI (b * 10 + (c - 48)) := by
  rw [show (nI c - 48 : Int32) = nI (c - 48) from pk_sub (a := c) (b := 48) h]
  exact nI_add _ _
theorem pPar_f (n : Nat) (f : Nat → Nat) (hf : ∀ i, i < n → f i < 128) : ∀ (k i : Nat) (τ : zT), tInv τ i → tx τ = f → i + k = n → (pPar k i τ).1 ≤ n ∧ tx (pPar k i τ).2 = f ∧ tl (pPar k i τ).2 = tl τ ∧ (ts (pPar k i τ).2 < 4) ∧ ((pPar k i τ).1 = n → tInv (pPar k i τ).2 n)
  | 0, i, τ, h, hx, hn => ⟨by show i ≤ n; omega, hx, rfl, h.1, fun _ => by rw [← hn]; exact h⟩
  | k + 1, i, τ, h, hx, hn => by
    by_cases hb : pTkB τ (tx τ i)
    · rw [pPar_go hb]
      have hc : tx τ i < 128 := by rw [hx]; exact hf i (by omega)
      have q := pPar_f n f hf k (i + 1) (pTkS τ (tx τ i)) (pTk_inv h hc hb) (by rw [pTk_same.1]; exact hx) (by omega)
      rw [pTk_same.2] at q
      exact q
    · rw [pPar_end hb]
      refine ⟨by show i ≤ n; omega, by rw [← hx]; exact pTk_same.1, pTk_same.2, ?_, fun z => absurd (show i = n from z) (by omega)⟩
      show ts (pTkS τ (tx τ i)) < 4
      have h1 := h.1
      unfold pTkS
      split
      · show 1 < 4; omega
      · split
        · show 2 < 4; omega
        · split
          · unfold pFD; split
            · show 3 < 4; omega
            · exact h1
          · unfold pIN; split
            · show 2 < 4; omega
            · split
              · show 0 < 4; omega
              · split <;> exact h1
theorem pParse_f {τ : zT} (hf : ∀ i, i < tl τ → tx τ i < 128) : (pParse τ).1 ≤ tl τ ∧ tx (pParse τ).2 = tx τ ∧ tl (pParse τ).2 = tl τ ∧ ts (pParse τ).2 < 4 ∧ ((pParse τ).1 = tl τ → tInv (pParse τ).2 (tl τ)) := pPar_f (tl τ) (tx τ) hf (tl τ) 0 (pT0 τ) (tInv0 τ) rfl (by omega)
