/-! the class's parser and the reference's -/
theorem va_up_up {f : Nat → Nat} {i v w : Nat} : va_up (va_up f i v) i w = va_up f i w := by
  funext x
  unfold va_up
  by_cases q : x = i
  · rw [if_pos q, if_pos q]
  · rw [if_neg q, if_neg q, if_neg q]
theorem va_up_s {f : Nat → Nat} {i v : Nat} : va_up f i v i = v := by unfold va_up; rw [if_pos rfl]
theorem va_up_o {f : Nat → Nat} {i v x : Nat} (h : x ≠ i) : va_up f i v x = f x := by unfold va_up; rw [if_neg h]
section TK
variable {τ : zT} {c : Nat}
theorem tk0 (h : ts τ = 0) : pTkB τ c ↔ (97 ≤ c ∧ c ≤ 112) := by unfold pTkB; rw [if_pos h]
theorem tk1 (h : ts τ = 1) : pTkB τ c ↔ c = 61 := by unfold pTkB; rw [if_neg (by omega), if_pos h]
theorem tk2 (h : ts τ = 2) : pTkB τ c ↔ pDig c := by unfold pTkB; rw [if_neg (by omega), if_neg (by omega), if_pos h]
theorem tk3 (h : ts τ = 3) : pTkB τ c ↔ (c = 44 ∨ c = 59 ∨ pInP τ c) := by unfold pTkB; rw [if_neg (by omega), if_neg (by omega), if_neg (by omega)]
theorem sk0 (h : ts τ = 0) : pTkS τ c = (tx τ, tl τ, tw τ, tn τ, tc τ, 1, nI c - 97) := by unfold pTkS; rw [if_pos h]
theorem sk1 (h : ts τ = 1) : pTkS τ c = (tx τ, tl τ, tw τ, tn τ, tc τ, 2, td τ) := by unfold pTkS; rw [if_neg (by omega), if_pos h]
theorem sk2 (h : ts τ = 2) : pTkS τ c = pFD τ c := by unfold pTkS; rw [if_neg (by omega), if_neg (by omega), if_pos h]
theorem sk3 (h : ts τ = 3) : pTkS τ c = pIN τ c := by unfold pTkS; rw [if_neg (by omega), if_neg (by omega), if_neg (by omega)]
end TK
/-- in a number, v read so far -/
abbrev mkT (τ : zT) (v : Nat) : zT := (tx τ, tl τ, tw τ, va_up (tn τ) (tc τ - 1) v, tc τ, 3, td τ)
theorem mkT_num {τ : zT} {v : Nat} : tn (mkT τ v) (tc (mkT τ v) - 1) = v := by
  show va_up (tn τ) (tc τ - 1) v (tc τ - 1) = v
  exact va_up_s
theorem par_dig {τ : zT} {n : Nat} : ∀ (k a v : Nat), a ≤ n → n - a ≤ k → pPar (n - a) a (mkT τ v) = pPar (n - (qD (tx τ) n k a v).1) (qD (tx τ) n k a v).1 (mkT τ (qD (tx τ) n k a v).2)
  | 0, a, v, ha, hk => rfl
  | k + 1, a, v, ha, hk => by
    by_cases h : v ≠ 0 ∧ qA (tx τ) n a 48 57 ∧ v * 10 + (tx τ a - 48) ≤ 4095
    · have h48 := h.2.1.2.1
      have hlt := h.2.1.1
      rw [qD_go h]
      have hp : pInP (mkT τ v) (tx τ a) := ⟨h.2.1.2, by rw [mkT_num]; exact h.1, by rw [mkT_num]; exact h.2.2⟩
      have e : pTkS (mkT τ v) (tx τ a) = mkT τ (v * 10 + (tx τ a - 48)) := by
        rw [sk3 rfl]
        unfold pIN
        rw [if_neg (by omega), if_neg (by omega), if_pos hp, mkT_num]
        show (tx τ, tl τ, tw τ, va_up (va_up (tn τ) (tc τ - 1) v) (tc τ - 1) (v * 10 + (tx τ a - 48)), tc τ, 3, td τ) = _
        rw [va_up_up]
      have e2 : pPar (n - a) a (mkT τ v) = pPar (n - (a + 1)) (a + 1) (pTkS (mkT τ v) (tx τ a)) := by
        rw [show n - a = (n - (a + 1)) + 1 by omega]
        exact pPar_go (τ := mkT τ v) ((tk3 rfl).mpr (Or.inr (Or.inr hp)))
      rw [e2, e]
      exact par_dig k (a + 1) _ (by omega) (by omega)
    · rw [qD_end h]
theorem qD_fin {f : Nat → Nat} {n : Nat} : ∀ (k a v : Nat), a ≤ n → n - a ≤ k → ¬ ((qD f n k a v).2 ≠ 0 ∧ qA f n (qD f n k a v).1 48 57 ∧ (qD f n k a v).2 * 10 + (f (qD f n k a v).1 - 48) ≤ 4095)
  | 0, a, v, ha, hk => fun z => by
    have : a < n := z.2.1.1
    omega
  | k + 1, a, v, ha, hk => by
    by_cases h : v ≠ 0 ∧ qA f n a 48 57 ∧ v * 10 + (f a - 48) ≤ 4095
    · have hlt := h.2.1.1
      rw [qD_go h]
      exact qD_fin k (a + 1) _ (by omega) (by omega)
    · rw [qD_end h]
      exact h
abbrev oneT (τ : zT) (w : Nat) : zT := (tx τ, tl τ, va_up (tw τ) (tc τ) w, tn τ, tc τ + 1, 3, td τ)
theorem par_val {τ : zT} {n w a : Nat} (h2 : ts τ = 2) (hd : td τ = nI w) (hw : w < 16) (ha : qA (tx τ) n a 48 57) : pPar (n - a) a τ = pPar (n - (qD0 (tx τ) n a).1) (qD0 (tx τ) n a).1 (mkT (oneT τ w) (qD0 (tx τ) n a).2) := by
  have hlt := ha.1
  have e : pFD τ (tx τ a) = mkT (oneT τ w) (tx τ a - 48) := by
    unfold pFD
    rw [if_pos ha.2, show iN (td τ) = w by rw [hd]; exact nI_clamp (by omega)]
    rfl
  have e2 : pPar (n - a) a τ = pPar (n - (a + 1)) (a + 1) (pTkS τ (tx τ a)) := by
    rw [show n - a = (n - (a + 1)) + 1 by omega]
    exact pPar_go ((tk2 h2).mpr ha.2)
  rw [e2, sk2 h2, e]
  exact par_dig (τ := oneT τ w) n (a + 1) _ (by omega) (by omega)
/-- what is told is what is parsed -/
abbrev tR (tt : Nat → Nat) (τ : zT) : Prop := ∀ i, i < tc τ → tt (2 * i) = tw τ i ∧ tt (2 * i + 1) = tn τ i
/-- it ends there: a fault, or too short -/
abbrev tFl (n : Nat) (P : Nat × zT) (q : zQ) : Prop := P.1 = ka q ∧ ka q ≤ n ∧ kf q = qF n (ka q) ∧ (ka q = n → ¬ ts P.2 = 3)
/-- a part ends there -/
abbrev tGo (f : Nat → Nat) (n : Nat) (P : Nat × zT) (q : zQ) : Prop := ∃ τ : zT, P = pPar (n - ka q) (ka q) τ ∧ tx τ = f ∧ ts τ = 3 ∧ tc τ = kn q ∧ tR (kt q) τ ∧ ka q ≤ n ∧ (ka q < n → ¬ f (ka q) = 44 ∧ ¬ pInP τ (f (ka q)))
theorem par_stop {f : Nat → Nat} {τ : zT} {n a : Nat} (hx : tx τ = f) (ha : a ≤ n) (h3 : ¬ ts τ = 3) (hno : a < n → ¬ pTkB τ (f a)) : (pPar (n - a) a τ).1 = a ∧ (a = n → ¬ ts (pPar (n - a) a τ).2 = 3) := by
  by_cases q : a < n
  · rw [show n - a = (n - (a + 1)) + 1 by omega, pPar_end (by rw [hx]; exact hno q)]
    exact ⟨rfl, fun z => by omega⟩
  · rw [show n - a = 0 by omega]
    exact ⟨rfl, fun _ => h3⟩
theorem par_loop {f : Nat → Nat} {n w : Nat} (hw : w < 16) : ∀ (k : Nat) (q : zQ) (τ : zT), tx τ = f → ts τ = 2 → td τ = nI w → tc τ = kn q → tR (kt q) τ → ka q + 1 ≤ n → n - ka q ≤ k →
    ((qL f n w k q).1 = true → tGo f n (pPar (n - (ka q + 1)) (ka q + 1) τ) (qL f n w k q).2) ∧ ((qL f n w k q).1 = false → tFl n (pPar (n - (ka q + 1)) (ka q + 1) τ) (qL f n w k q).2)
  | 0, q, τ, _, _, _, _, _, h, hk => by omega
  | k + 1, q, τ, hx, h2, hd, hc, hR, h, hk => by
    by_cases h1 : qA f n (ka (qS q)) 48 57
    · have h1' : qA (tx τ) n (ka q + 1) 48 57 := by rw [hx]; exact h1
      have hv := par_val h2 hd hw h1'
      rw [hx] at hv
      have hb := qD_b (f := f) (n := n) n (ka q + 1 + 1) (f (ka q + 1) - 48) h1.1 (by have := h1.2; show f (ka (qS q)) - 48 ≤ 4095; omega)
      have hfin := qD_fin (f := f) (n := n) n (ka q + 1 + 1) (f (ka q + 1) - 48) h1.1 (by omega)
      have eV : qV f n (qS q) = ((qD0 f n (ka q + 1)).1, (qD0 f n (ka q + 1)).2, kf q, kt q, kn q) := by unfold qV; exact if_pos h1
      obtain ⟨a', ea⟩ : ∃ x, x = (qD0 f n (ka q + 1)).1 := ⟨_, rfl⟩
      obtain ⟨v', ev⟩ : ∃ x, x = (qD0 f n (ka q + 1)).2 := ⟨_, rfl⟩
      rw [← ea, ← ev] at hv eV
      have hb' : ka q + 1 + 1 ≤ a' ∧ a' ≤ n ∧ v' ≤ 4095 := by rw [ea, ev]; exact hb
      have hfin' : ¬ (v' ≠ 0 ∧ qA f n a' 48 57 ∧ v' * 10 + (f a' - 48) ≤ 4095) := by rw [ea, ev]; exact hfin
      have hRT : tR (kt (qT w (qV f n (qS q)))) (mkT (oneT τ w) v') := by
        rw [eV]
        intro i hi
        have hi' : i < tc τ + 1 := hi
        show va_up (va_up (kt q) (2 * kn q) w) (2 * kn q + 1) v' (2 * i) = va_up (tw τ) (tc τ) w i ∧ va_up (va_up (kt q) (2 * kn q) w) (2 * kn q + 1) v' (2 * i + 1) = va_up (tn τ) (tc τ) v' i
        rw [← hc]
        by_cases qi : i = tc τ
        · subst qi
          rw [va_up_o (by omega), va_up_s, va_up_s, va_up_s, va_up_s]
          exact ⟨rfl, rfl⟩
        · rw [va_up_o (by omega), va_up_o (by omega), va_up_o qi, va_up_o (by omega), va_up_o (by omega), va_up_o qi]
          exact hR i (by omega)
      have hnP : a' < n → ¬ pInP (mkT (oneT τ w) v') (f a') := fun hlt z => by
        have z2 := z.2
        rw [mkT_num] at z2
        exact hfin' ⟨z2.1, ⟨hlt, z.1⟩, z2.2⟩
      by_cases h3 : qA f n (ka (qV f n (qS q))) 44 44
      · rw [qL_go h1 h3]
        have h3' : qA f n a' 44 44 := by rw [eV] at h3; exact h3
        have hlt := h3'.1
        have c44 : f a' = 44 := by have := h3'.2; omega
        have e44 : pPar (n - a') a' (mkT (oneT τ w) v') = pPar (n - (a' + 1)) (a' + 1) (tx τ, tl τ, va_up (tw τ) (tc τ) w, va_up (tn τ) (tc τ) v', tc τ + 1, 2, td τ) := by
          have g1 : pPar (n - a') a' (mkT (oneT τ w) v') = pPar (n - (a' + 1)) (a' + 1) (pTkS (mkT (oneT τ w) v') (tx τ a')) := by
            rw [show n - a' = (n - (a' + 1)) + 1 by omega]
            exact pPar_go (τ := mkT (oneT τ w) v') ((tk3 rfl).mpr (Or.inl (by show tx τ a' = 44; rw [hx]; exact c44)))
          rw [g1, sk3 rfl]
          unfold pIN
          rw [if_pos (by rw [hx]; exact c44)]
          rfl
        rw [hv, e44]
        have eka : ka (qT w (qV f n (qS q))) = a' := by rw [eV]
        have ekn : kn (qT w (qV f n (qS q))) = kn q + 1 := by rw [eV]
        have i := par_loop (f := f) (n := n) hw k (qT w (qV f n (qS q))) (tx τ, tl τ, va_up (tw τ) (tc τ) w, va_up (tn τ) (tc τ) v', tc τ + 1, 2, td τ) hx rfl hd (by rw [ekn, ← hc]) (fun i hi => hRT i hi) (by rw [eka]; omega) (by rw [eka]; omega)
        rw [eka] at i
        exact i
      · rw [qL_stop h1 h3]
        have h3' : ¬ qA f n a' 44 44 := by rw [eV] at h3; exact h3
        refine ⟨fun _ => ?_, fun z => nomatch z⟩
        have eka : ka (qT w (qV f n (qS q))) = a' := by rw [eV]
        have ekn : kn (qT w (qV f n (qS q))) = kn q + 1 := by rw [eV]
        refine ⟨mkT (oneT τ w) v', by rw [hv, eka], hx, rfl, by rw [ekn, ← hc], hRT, by rw [eka]; exact hb'.2.1, fun hlt => ?_⟩
        rw [eka] at hlt ⊢
        exact ⟨fun z => h3' ⟨hlt, by omega, by omega⟩, hnP hlt⟩
    · rw [qL_end h1]
      have eV : qV f n (qS q) = (ka (qS q), kv (qS q), qF n (ka (qS q)), kt (qS q), kn (qS q)) := by unfold qV; exact if_neg h1
      refine ⟨(fun z => nomatch z), fun _ => ?_⟩
      rw [eV]
      have s := par_stop (f := f) hx h (by omega) (fun hlt z => h1 ⟨hlt, (tk2 h2).mp z⟩)
      exact ⟨s.1, h, rfl, s.2⟩
theorem par_part {f : Nat → Nat} {n : Nat} {q : zQ} {τ : zT} (hx : tx τ = f) (h0 : ts τ = 0) (hc : tc τ = kn q) (hR : tR (kt q) τ) (ha : ka q ≤ n) :
    ((qP f n q).1 = true → tGo f n (pPar (n - ka q) (ka q) τ) (qP f n q).2) ∧ ((qP f n q).1 = false → tFl n (pPar (n - ka q) (ka q) τ) (qP f n q).2) := by
  unfold qP
  by_cases h1 : qA f n (ka q) 97 112
  · rw [if_pos h1]
    have hlt := h1.1
    have h12 := h1.2
    have e1 : pPar (n - ka q) (ka q) τ = pPar (n - (ka q + 1)) (ka q + 1) (tx τ, tl τ, tw τ, tn τ, tc τ, 1, nI (f (ka q) - 97)) := by
      have g1 : pPar (n - ka q) (ka q) τ = pPar (n - (ka q + 1)) (ka q + 1) (pTkS τ (tx τ (ka q))) := by
        rw [show n - ka q = (n - (ka q + 1)) + 1 by omega]
        exact pPar_go ((tk0 h0).mpr (by rw [hx]; exact h12))
      rw [g1, sk0 h0, hx, show (nI (f (ka q)) - 97 : Int32) = nI (f (ka q) - 97) from pk_sub (a := f (ka q)) (b := 97) h12.1]
    by_cases h2 : qA f n (ka (qS q)) 61 61
    · rw [if_pos h2]
      have hlt2 : ka q + 1 < n := h2.1
      have c61 : f (ka q + 1) = 61 := by have : 61 ≤ f (ka q + 1) ∧ f (ka q + 1) ≤ 61 := h2.2; omega
      have e2 : pPar (n - (ka q + 1)) (ka q + 1) (tx τ, tl τ, tw τ, tn τ, tc τ, 1, nI (f (ka q) - 97)) = pPar (n - (ka q + 1 + 1)) (ka q + 1 + 1) (tx τ, tl τ, tw τ, tn τ, tc τ, 2, nI (f (ka q) - 97)) := by
        have g1 : pPar (n - (ka q + 1)) (ka q + 1) (tx τ, tl τ, tw τ, tn τ, tc τ, 1, nI (f (ka q) - 97)) = pPar (n - (ka q + 1 + 1)) (ka q + 1 + 1) (pTkS (tx τ, tl τ, tw τ, tn τ, tc τ, 1, nI (f (ka q) - 97)) (tx τ (ka q + 1))) := by
          rw [show n - (ka q + 1) = (n - (ka q + 1 + 1)) + 1 by omega]
          exact pPar_go (τ := (tx τ, tl τ, tw τ, tn τ, tc τ, 1, nI (f (ka q) - 97))) ((tk1 rfl).mpr (by show tx τ (ka q + 1) = 61; rw [hx]; exact c61))
        rw [g1, sk1 rfl]
      rw [e1, e2]
      exact par_loop (by omega) n (qS q) (tx τ, tl τ, tw τ, tn τ, tc τ, 2, nI (f (ka q) - 97)) hx rfl rfl hc hR hlt2 (by omega)
    · rw [if_neg h2]
      refine ⟨(fun z => nomatch z), fun _ => ?_⟩
      rw [e1]
      have s := par_stop (f := f) (τ := (tx τ, tl τ, tw τ, tn τ, tc τ, 1, nI (f (ka q) - 97))) (a := ka q + 1) hx hlt (by show ¬ 1 = 3; omega) (fun hl z => h2 (by have c := (tk1 rfl).mp z; exact ⟨hl, by show 61 ≤ f (ka q + 1); omega, by show f (ka q + 1) ≤ 61; omega⟩))
      exact ⟨s.1, hlt, rfl, s.2⟩
  · rw [if_neg h1]
    refine ⟨(fun z => nomatch z), fun _ => ?_⟩
    have s := par_stop (f := f) hx ha (by omega) (fun hl z => h1 ⟨hl, (tk0 h0).mp z⟩)
    exact ⟨s.1, ha, rfl, s.2⟩
theorem par_text {f : Nat → Nat} {n : Nat} : ∀ (k : Nat) (q : zQ) (τ : zT), tx τ = f → ts τ = 0 → tc τ = kn q → tR (kt q) τ → ka q ≤ n → n - ka q + 1 ≤ k →
    ((qX f n k q).1 = true → (pPar (n - ka q) (ka q) τ).1 = n ∧ ts (pPar (n - ka q) (ka q) τ).2 = 3 ∧ tc (pPar (n - ka q) (ka q) τ).2 = kn (qX f n k q).2 ∧ tR (kt (qX f n k q).2) (pPar (n - ka q) (ka q) τ).2) ∧ ((qX f n k q).1 = false → tFl n (pPar (n - ka q) (ka q) τ) (qX f n k q).2)
  | 0, q, τ, _, _, _, _, _, hk => by omega
  | k + 1, q, τ, hx, h0, hc, hR, ha, hk => by
    obtain ⟨p1, p2⟩ := par_part hx h0 hc hR ha
    by_cases h1 : (qP f n q).1 = true
    · obtain ⟨τ', e, gx, g3, gc, gR, ga, gno⟩ := p1 h1
      by_cases h2 : qA f n (ka (qP f n q).2) 59 59
      · rw [qX_go h1 h2]
        have hlt := h2.1
        have c59 : f (ka (qP f n q).2) = 59 := by have := h2.2; omega
        have hgt : ka q ≤ ka (qP f n q).2 := by
          unfold qP at h1 ⊢
          by_cases z1 : qA f n (ka q) 97 112
          · rw [if_pos z1] at h1 ⊢
            by_cases z2 : qA f n (ka (qS q)) 61 61
            · rw [if_pos z2] at h1 ⊢
              have z3 : ∀ (k : Nat) (r : zQ), ka r ≤ ka (qL f n (f (ka q) - 97) k r).2 := fun k => by
                induction k with
                | zero => intro r; exact Nat.le_refl _
                | succ k ih =>
                  intro r
                  by_cases y1 : qA f n (ka (qS r)) 48 57
                  · have y3 := (qV_ok y1).1
                    have y4 : ka r + 1 + 1 ≤ ka (qV f n (qS r)) := y3
                    by_cases y2 : qA f n (ka (qV f n (qS r))) 44 44
                    · rw [qL_go y1 y2]
                      have := ih (qT (f (ka q) - 97) (qV f n (qS r)))
                      have y5 : ka (qV f n (qS r)) ≤ ka (qL f n (f (ka q) - 97) k (qT (f (ka q) - 97) (qV f n (qS r)))).2 := this
                      omega
                    · rw [qL_stop y1 y2]
                      show ka r ≤ ka (qV f n (qS r))
                      omega
                  · rw [qL_end y1]
                    have y6 : qV f n (qS r) = (ka (qS r), kv (qS r), qF n (ka (qS r)), kt (qS r), kn (qS r)) := by unfold qV; exact if_neg y1
                    rw [y6]
                    show ka r ≤ ka r + 1
                    omega
              have := z3 n (qS q)
              have z4 : ka q + 1 ≤ ka (qL f n (f (ka q) - 97) n (qS q)).2 := this
              omega
            · rw [if_neg z2] at h1; cases h1
          · rw [if_neg z1] at h1; cases h1
        have e59 : pPar (n - ka (qP f n q).2) (ka (qP f n q).2) τ' = pPar (n - (ka (qP f n q).2 + 1)) (ka (qP f n q).2 + 1) (tx τ', tl τ', tw τ', tn τ', tc τ', 0, td τ') := by
          have g1 : pPar (n - ka (qP f n q).2) (ka (qP f n q).2) τ' = pPar (n - (ka (qP f n q).2 + 1)) (ka (qP f n q).2 + 1) (pTkS τ' (tx τ' (ka (qP f n q).2))) := by
            rw [show n - ka (qP f n q).2 = (n - (ka (qP f n q).2 + 1)) + 1 by omega]
            exact pPar_go ((tk3 g3).mpr (Or.inr (Or.inl (by rw [gx]; exact c59))))
          have c59' : tx τ' (ka (qP f n q).2) = 59 := by rw [gx]; exact c59
          rw [g1, sk3 g3, c59']
          unfold pIN
          rw [if_neg (by decide), if_pos rfl]
        rw [e, e59]
        exact par_text k (qS (qP f n q).2) (tx τ', tl τ', tw τ', tn τ', tc τ', 0, td τ') gx rfl gc gR hlt (by show n - (ka (qP f n q).2 + 1) + 1 ≤ k; omega)
      · rw [qX_stop h1 h2, e]
        by_cases qn : ka (qP f n q).2 = n
        · refine ⟨fun _ => ?_, fun z => absurd qn (of_decide_eq_false z)⟩
          rw [qn, Nat.sub_self]
          exact ⟨rfl, g3, gc, gR⟩
        · refine ⟨fun z => absurd (of_decide_eq_true z) qn, fun _ => ?_⟩
          have hlt : ka (qP f n q).2 < n := by omega
          have hg := gno hlt
          have hB : ¬ pTkB τ' (tx τ' (ka (qP f n q).2)) := fun z => by
            rw [gx] at z
            rcases (tk3 g3).mp z with y | y | y
            · exact hg.1 y
            · exact h2 ⟨hlt, by omega, by omega⟩
            · exact hg.2 y
          have eE : pPar (n - ka (qP f n q).2) (ka (qP f n q).2) τ' = (ka (qP f n q).2, pTkS τ' (tx τ' (ka (qP f n q).2))) := by
            rw [show n - ka (qP f n q).2 = (n - (ka (qP f n q).2 + 1)) + 1 by omega]
            exact pPar_end hB
          rw [eE]
          exact ⟨rfl, ga, rfl, fun z => absurd z qn⟩
    · rw [qX_end h1]
      have h1' : (qP f n q).1 = false := by
        cases y : (qP f n q).1 with
        | false => rfl
        | true => exact absurd y h1
      exact ⟨(fun z => nomatch z), fun _ => p2 h1'⟩
/-- both parsers -/
theorem parse_rel {ω : zT} {μ : zM} (hx : tx ω = mx μ) (hl : tl ω = my μ) :
    ((qText μ).1 = true ↔ (pParse ω).1 = tl ω ∧ ts (pParse ω).2 = 3) ∧ (rFirst μ).2 = nI (pParse ω).1 ∧ ((qText μ).1 = true → tc (pParse ω).2 = kn (qText μ).2 ∧ tR (kt (qText μ).2) (pParse ω).2) := by
  have h := par_text (f := mx μ) (n := my μ) (my μ + 1) (0, mva μ, 0, mt μ, 0) (pT0 ω) hx rfl rfl (fun i hi => absurd hi (Nat.not_lt_zero _)) (Nat.zero_le _) (by show my μ - 0 + 1 ≤ my μ + 1; omega)
  have e : pPar (my μ - ka ((0, mva μ, 0, mt μ, 0) : zQ)) (ka ((0, mva μ, 0, mt μ, 0) : zQ)) (pT0 ω) = pParse ω := by
    show pPar (my μ - 0) 0 (pT0 ω) = pPar (tl ω) 0 (pT0 ω)
    rw [Nat.sub_zero, hl]
  rw [e] at h
  obtain ⟨h1, h2⟩ := h
  have er : (rFirst μ).2 = nI (if ¬ (qText μ).1 = true ∧ ¬ kf (qText μ).2 = 0 then ka (qText μ).2 else my μ) := rfl
  cases q : (qText μ).1 with
  | true =>
    obtain ⟨a1, a2, a3, a4⟩ := h1 q
    refine ⟨⟨fun _ => ⟨a1.trans hl.symm, a2⟩, fun _ => rfl⟩, ?_, fun _ => ⟨a3, a4⟩⟩
    rw [er, q, if_neg (fun z => z.1 rfl), a1]
  | false =>
    obtain ⟨a1, a2, a3, a4⟩ := h2 q
    refine ⟨⟨(fun z => nomatch z), fun z => absurd z.2 (a4 (a1.symm.trans (z.1.trans hl)))⟩, ?_, fun z => nomatch z⟩
    have a1' : (pParse ω).1 = ka (qText μ).2 := a1
    have a2' : ka (qText μ).2 ≤ my μ := a2
    have a3' : kf (qText μ).2 = qF (my μ) (ka (qText μ).2) := a3
    rw [er, q, a1']
    by_cases qa : ka (qText μ).2 < my μ
    · rw [if_pos ⟨(fun z => nomatch z), by rw [a3']; unfold qF; rw [if_pos qa]; decide⟩]
    · rw [if_neg (fun z => z.2 (by rw [a3']; unfold qF; rw [if_neg qa]))]
      exact congrArg nI (by omega)
