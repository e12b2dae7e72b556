/-! the reference's parser in words: a text f of n characters; where it stands, the value read, the fault, what is told -/
abbrev qA (f : Nat → Nat) (n a lo hi : Nat) : Prop := a < n ∧ lo ≤ f a ∧ f a ≤ hi
abbrev qF (n a : Nat) : Int32 := if a < n then 1 else 0
def qD (f : Nat → Nat) (n : Nat) : Nat → Nat → Nat → Nat × Nat
  | 0, a, v => (a, v)
  | k + 1, a, v => if v ≠ 0 ∧ qA f n a 48 57 ∧ v * 10 + (f a - 48) ≤ 4095 then qD f n k (a + 1) (v * 10 + (f a - 48)) else (a, v)
abbrev qD0 (f : Nat → Nat) (n a : Nat) : Nat × Nat := qD f n n (a + 1) (f a - 48)
abbrev zQ : Type := Nat × Nat × Int32 × (Nat → Nat) × Nat
abbrev ka (q : zQ) : Nat := q.1
abbrev kv (q : zQ) : Nat := q.2.1
abbrev kf (q : zQ) : Int32 := q.2.2.1
abbrev kt (q : zQ) : Nat → Nat := q.2.2.2.1
abbrev kn (q : zQ) : Nat := q.2.2.2.2
abbrev mset_q (μ : zM) (q : zQ) : zM := (mg μ, mh μ, mp μ, mx μ, kt q, mk μ, my μ, mth μ, ka q, kf q, kv q, kn q)
abbrev mQ (μ : zM) : zQ := (mat μ, mva μ, mfl μ, mt μ, mtn μ)
/-- isValue -/
abbrev qV (f : Nat → Nat) (n : Nat) (q : zQ) : zQ := if qA f n (ka q) 48 57 then ((qD0 f n (ka q)).1, (qD0 f n (ka q)).2, kf q, kt q, kn q) else (ka q, kv q, qF n (ka q), kt q, kn q)
/-- told -/
abbrev qT (w : Nat) (q : zQ) : zQ := (ka q, kv q, kf q, va_up (va_up (kt q) (2 * kn q) w) (2 * kn q + 1) (kv q), kn q + 1)
abbrev qS (q : zQ) : zQ := (ka q + 1, kv q, kf q, kt q, kn q)
/-- the loop of isPart -/
def qL (f : Nat → Nat) (n w : Nat) : Nat → zQ → Bool × zQ
  | 0, q => (true, q)
  | k + 1, q => if qA f n (ka (qS q)) 48 57 then
      (if qA f n (ka (qV f n (qS q))) 44 44 then qL f n w k (qT w (qV f n (qS q))) else (true, qT w (qV f n (qS q))))
    else (false, qV f n (qS q))
abbrev qE (n : Nat) (q : zQ) : zQ := (ka q, kv q, qF n (ka q), kt q, kn q)
def qP (f : Nat → Nat) (n : Nat) (q : zQ) : Bool × zQ :=
  if qA f n (ka q) 97 112 then (if qA f n (ka (qS q)) 61 61 then qL f n (f (ka q) - 97) n (qS q) else (false, qE n (qS q))) else (false, qE n q)
def qX (f : Nat → Nat) (n : Nat) : Nat → zQ → Bool × zQ
  | 0, q => (true, q)
  | k + 1, q => if (qP f n q).1 = true then
      (if qA f n (ka (qP f n q).2) 59 59 then qX f n k (qS (qP f n q).2) else (decide (ka (qP f n q).2 = n), qE n (qP f n q).2))
    else (false, (qP f n q).2)
def qText (μ : zM) : Bool × zQ := qX (mx μ) (my μ) (my μ + 1) (0, mva μ, 0, mt μ, 0)
theorem qD_go {f : Nat → Nat} {n k a v : Nat} (h : v ≠ 0 ∧ qA f n a 48 57 ∧ v * 10 + (f a - 48) ≤ 4095) : qD f n (k + 1) a v = qD f n k (a + 1) (v * 10 + (f a - 48)) := by
  rw [qD, if_pos h]
theorem qD_end {f : Nat → Nat} {n k a v : Nat} (h : ¬ (v ≠ 0 ∧ qA f n a 48 57 ∧ v * 10 + (f a - 48) ≤ 4095)) : qD f n k a v = (a, v) := by
  cases k with
  | zero => rfl
  | succ k => rw [qD, if_neg h]
theorem qD_b {f : Nat → Nat} {n : Nat} : ∀ (k a v : Nat), a ≤ n → v ≤ 4095 → a ≤ (qD f n k a v).1 ∧ (qD f n k a v).1 ≤ n ∧ (qD f n k a v).2 ≤ 4095
  | 0, a, v, ha, hv => ⟨Nat.le_refl _, ha, hv⟩
  | k + 1, a, v, ha, hv => by
    by_cases h : v ≠ 0 ∧ qA f n a 48 57 ∧ v * 10 + (f a - 48) ≤ 4095
    · rw [qD_go h]
      have := qD_b (f := f) (n := n) k (a + 1) (v * 10 + (f a - 48)) h.2.1.1 h.2.2
      omega
    · rw [qD_end h]
      exact ⟨Nat.le_refl _, ha, hv⟩
theorem qL_end {f : Nat → Nat} {n w k : Nat} {q : zQ} (h : ¬ qA f n (ka (qS q)) 48 57) : qL f n w (k + 1) q = (false, qV f n (qS q)) := by
  rw [qL, if_neg h]
theorem qL_go {f : Nat → Nat} {n w k : Nat} {q : zQ} (h : qA f n (ka (qS q)) 48 57) (h2 : qA f n (ka (qV f n (qS q))) 44 44) : qL f n w (k + 1) q = qL f n w k (qT w (qV f n (qS q))) := by
  rw [qL, if_pos h, if_pos h2]
theorem qL_stop {f : Nat → Nat} {n w k : Nat} {q : zQ} (h : qA f n (ka (qS q)) 48 57) (h2 : ¬ qA f n (ka (qV f n (qS q))) 44 44) : qL f n w (k + 1) q = (true, qT w (qV f n (qS q))) := by
  rw [qL, if_pos h, if_neg h2]
theorem qX_end {f : Nat → Nat} {n k : Nat} {q : zQ} (h : ¬ (qP f n q).1 = true) : qX f n (k + 1) q = (false, (qP f n q).2) := by
  rw [qX, if_neg h]
theorem qX_go {f : Nat → Nat} {n k : Nat} {q : zQ} (h : (qP f n q).1 = true) (h2 : qA f n (ka (qP f n q).2) 59 59) : qX f n (k + 1) q = qX f n k (qS (qP f n q).2) := by
  rw [qX, if_pos h, if_pos h2]
theorem qX_stop {f : Nat → Nat} {n k : Nat} {q : zQ} (h : (qP f n q).1 = true) (h2 : ¬ qA f n (ka (qP f n q).2) 59 59) : qX f n (k + 1) q = (decide (ka (qP f n q).2 = n), qE n (qP f n q).2) := by
  rw [qX, if_pos h, if_neg h2]
/-- what is told is told within its row, and small -/
abbrev qok (n : Nat) (q : zQ) (d : Nat) : Prop := ka q ≤ n ∧ 2 * kn q + d ≤ ka q ∧ ∀ i, i < kn q → kt q (2 * i) < 16 ∧ kt q (2 * i + 1) < 4096
theorem qV_ok {f : Nat → Nat} {n : Nat} {q : zQ} (h : qA f n (ka q) 48 57) : ka q + 1 ≤ ka (qV f n q) ∧ ka (qV f n q) ≤ n ∧ kv (qV f n q) ≤ 4095 ∧ kt (qV f n q) = kt q ∧ kn (qV f n q) = kn q ∧ kf (qV f n q) = kf q := by
  have hb := qD_b (f := f) (n := n) n (ka q + 1) (f (ka q) - 48) h.1 (by have := h.2.2; omega)
  unfold qV
  rw [if_pos h]
  exact ⟨hb.1, hb.2.1, hb.2.2, rfl, rfl, rfl⟩
theorem qT_ok {f : Nat → Nat} {n w : Nat} {q : zQ} (hw : w < 16) (h : qA f n (ka (qS q)) 48 57) (ho : qok n q 1) : qok n (qT w (qV f n (qS q))) 1 := by
  obtain ⟨v1, v2, v3, v4, v5, v6⟩ := qV_ok h
  obtain ⟨o1, o2, o3⟩ := ho
  refine ⟨v2, ?_, ?_⟩
  · show 2 * (kn (qV f n (qS q)) + 1) + 1 ≤ ka (qV f n (qS q))
    rw [v5]
    have : ka q + 1 + 1 ≤ ka (qV f n (qS q)) := v1
    show 2 * (kn q + 1) + 1 ≤ _
    omega
  · intro i hi
    have hi' : i < kn q + 1 := by
      have : i < kn (qV f n (qS q)) + 1 := hi
      rw [v5] at this
      exact this
    show va_up (va_up (kt (qV f n (qS q))) (2 * kn (qV f n (qS q))) w) (2 * kn (qV f n (qS q)) + 1) (kv (qV f n (qS q))) (2 * i) < 16 ∧ va_up (va_up (kt (qV f n (qS q))) (2 * kn (qV f n (qS q))) w) (2 * kn (qV f n (qS q)) + 1) (kv (qV f n (qS q))) (2 * i + 1) < 4096
    rw [v4, v5]
    show va_up (va_up (kt q) (2 * kn q) w) (2 * kn q + 1) (kv (qV f n (qS q))) (2 * i) < 16 ∧ va_up (va_up (kt q) (2 * kn q) w) (2 * kn q + 1) (kv (qV f n (qS q))) (2 * i + 1) < 4096
    by_cases hq : i = kn q
    · subst hq
      refine ⟨?_, ?_⟩
      · unfold va_up
        rw [if_neg (by omega), if_pos rfl]
        exact hw
      · unfold va_up
        rw [if_pos rfl]
        omega
    · have := o3 i (by omega)
      refine ⟨?_, ?_⟩
      · unfold va_up
        rw [if_neg (by omega), if_neg (by omega)]
        exact this.1
      · unfold va_up
        rw [if_neg (by omega), if_neg (by omega)]
        exact this.2
theorem qL_ok {f : Nat → Nat} {n w : Nat} (hw : w < 16) : ∀ (k : Nat) (q : zQ), ka q + 1 ≤ n → qok n q 1 → n - ka q ≤ k → ka q ≤ ka (qL f n w k q).2 ∧ ka (qL f n w k q).2 ≤ n ∧ ((qL f n w k q).1 = true → qok n (qL f n w k q).2 1)
  | 0, q, h, ho, hk => by omega
  | k + 1, q, h, ho, hk => by
    by_cases h1 : qA f n (ka (qS q)) 48 57
    · have ho2 := qT_ok hw h1 ho
      obtain ⟨v1, v2, v3, v4, v5, v6⟩ := qV_ok h1
      have v1' : ka q + 1 + 1 ≤ ka (qV f n (qS q)) := v1
      by_cases h2 : qA f n (ka (qV f n (qS q))) 44 44
      · rw [qL_go h1 h2]
        have h3 : ka (qV f n (qS q)) < n := h2.1
        have := qL_ok (f := f) hw k (qT w (qV f n (qS q))) (show ka (qV f n (qS q)) + 1 ≤ n from h3) ho2 (show n - ka (qV f n (qS q)) ≤ k by omega)
        refine ⟨Nat.le_trans (show ka q ≤ ka (qT w (qV f n (qS q))) from ?_) this.1, this.2⟩
        show ka q ≤ ka (qV f n (qS q))
        omega
      · rw [qL_stop h1 h2]
        exact ⟨show ka q ≤ ka (qV f n (qS q)) by omega, v2, fun _ => ho2⟩
    · rw [qL_end h1]
      have e : qV f n (qS q) = (ka (qS q), kv (qS q), qF n (ka (qS q)), kt (qS q), kn (qS q)) := by unfold qV; rw [if_neg h1]
      rw [e]
      exact ⟨show ka q ≤ ka q + 1 by omega, h, fun z => nomatch z⟩
theorem qP_ok {f : Nat → Nat} {n : Nat} {q : zQ} (h : qok n q 0) : ka q ≤ ka (qP f n q).2 ∧ ka (qP f n q).2 ≤ n ∧ ((qP f n q).1 = true → qok n (qP f n q).2 0 ∧ ka q < ka (qP f n q).2) := by
  unfold qP
  by_cases h1 : qA f n (ka q) 97 112
  · rw [if_pos h1]
    have hs : qok n (qS q) 1 := ⟨h1.1, by have := h.2.1; show 2 * kn q + 1 ≤ ka q + 1; omega, h.2.2⟩
    by_cases h2 : qA f n (ka (qS q)) 61 61
    · rw [if_pos h2]
      have := qL_ok (f := f) (n := n) (w := f (ka q) - 97) (by have := h1.2; omega) n (qS q) h2.1 hs (by omega)
      have h3 : ka q + 1 ≤ ka (qL f n (f (ka q) - 97) n (qS q)).2 := this.1
      exact ⟨by omega, this.2.1, fun z => ⟨⟨(this.2.2 z).1, by have := (this.2.2 z).2.1; omega, (this.2.2 z).2.2⟩, by omega⟩⟩
    · rw [if_neg h2]
      exact ⟨show ka q ≤ ka q + 1 by omega, h1.1, fun z => nomatch z⟩
  · rw [if_neg h1]
    exact ⟨Nat.le_refl _, h.1, fun z => nomatch z⟩
theorem qX_ok {f : Nat → Nat} {n : Nat} : ∀ (k : Nat) (q : zQ), qok n q 0 → n - ka q + 1 ≤ k → ka (qX f n k q).2 ≤ n ∧ ((qX f n k q).1 = true → qok n (qX f n k q).2 0)
  | 0, q, h, hk => by omega
  | k + 1, q, h, hk => by
    obtain ⟨p1, p2, p3⟩ := qP_ok (f := f) h
    by_cases h1 : (qP f n q).1 = true
    · obtain ⟨p4, p5⟩ := p3 h1
      by_cases h2 : qA f n (ka (qP f n q).2) 59 59
      · rw [qX_go h1 h2]
        have h3 : ka (qP f n q).2 < n := h2.1
        exact qX_ok k (qS (qP f n q).2) ⟨h3, by have := p4.2.1; show 2 * kn (qP f n q).2 + 0 ≤ ka (qP f n q).2 + 1; omega, p4.2.2⟩ (show n - (ka (qP f n q).2 + 1) + 1 ≤ k by omega)
      · rw [qX_stop h1 h2]
        exact ⟨p2, fun _ => p4⟩
    · rw [qX_end h1]
      exact ⟨p2, fun z => nomatch z⟩
theorem qText_ok (μ : zM) : ka (qText μ).2 ≤ my μ ∧ ((qText μ).1 = true → qok (my μ) (qText μ).2 0) :=
  qX_ok (my μ + 1) _ ⟨Nat.zero_le _, Nat.le_refl _, fun i hi => absurd hi (Nat.not_lt_zero _)⟩ (by show my μ - 0 + 1 ≤ my μ + 1; omega)
/-- the writes of what is told: k left, i made -/
def pMW (tt : Nat → Nat) : Nat → Nat → (Nat → Int32) → (Nat → Int32) × Nat
  | 0, i, g => (g, i)
  | k + 1, i, g => if pWres g (tt (2 * i)) (tt (2 * i + 1)) = -1 then (pWst g (tt (2 * i)) (tt (2 * i + 1)), i)
    else pMW tt k (i + 1) (pWst g (tt (2 * i)) (tt (2 * i + 1)))
theorem pMW_end {tt : Nat → Nat} {k i : Nat} {g : Nat → Int32} (h : pWres g (tt (2 * i)) (tt (2 * i + 1)) = -1) : pMW tt (k + 1) i g = (pWst g (tt (2 * i)) (tt (2 * i + 1)), i) := by
  rw [pMW, if_pos h]
theorem pMW_go {tt : Nat → Nat} {k i : Nat} {g : Nat → Int32} (h : ¬ pWres g (tt (2 * i)) (tt (2 * i + 1)) = -1) : pMW tt (k + 1) i g = pMW tt k (i + 1) (pWst g (tt (2 * i)) (tt (2 * i + 1))) := by
  rw [pMW, if_neg h]
theorem pMW_ok {tt : Nat → Nat} : ∀ {k i : Nat} {g : Nat → Int32}, (∀ j, j < i + k → tt (2 * j) < 16 ∧ tt (2 * j + 1) < 4096) → gok g → gbt g → gok (pMW tt k i g).1 ∧ gbt (pMW tt k i g).1
  | 0, _, _, _, h, h2 => ⟨h, h2⟩
  | k + 1, i, g, hb, h, h2 => by
    have b := hb i (by omega)
    have h3 := pWst_ok (v := tt (2 * i + 1)) h b.1
    have h4 := pWst_bt (w := tt (2 * i)) h2 b.2
    by_cases q : pWres g (tt (2 * i)) (tt (2 * i + 1)) = -1
    · rw [pMW_end q]
      exact ⟨h3, h4⟩
    · rw [pMW_go q]
      exact pMW_ok (fun j hj => hb j (by omega)) h3 h4
abbrev mset_y (μ : zM) (y : Nat) : zM := (mg μ, mh μ, mp μ, mx μ, mt μ, mk μ, y, mth μ, mat μ, mfl μ, mva μ, mtn μ)
def rFirst (μ : zM) : zM × Int32 := (mset_th (mset_q μ (qText μ).2) 0, nI (if ¬ (qText μ).1 = true ∧ ¬ kf (qText μ).2 = 0 then ka (qText μ).2 else my μ))
def rWriteAll (μ : zM) : zM × Int32 :=
  if (qText μ).1 = true then (mset_g (mset_y (pSv (mset_th (mset_q μ (qText μ).2) 0)) 0) (pMW (kt (qText μ).2) (kn (qText μ).2) 0 (mg μ)).1, nI (pMW (kt (qText μ).2) (kn (qText μ).2) 0 (mg μ)).2)
  else (mset_th (mset_q μ (qText μ).2) 1, 0)
theorem isnum_iff {m : Nat} (hm : m < 2 ^ 31) : (¬ nI m < 0 ∧ ¬ (4095 : Int32) < nI m) ↔ m ≤ 4095 := by
  rw [show (4095 : Int32) = nI 4095 from rfl, nI_ltI (by decide) hm]
  exact ⟨fun h => by omega, fun h => ⟨nI_pos hm, by omega⟩⟩
theorem in_iff {c lo hi : Nat} (hc : c < 2 ^ 31) (hlo : lo < 2 ^ 31) (hhi : hi < 2 ^ 31) : (¬ nI c < nI lo ∧ ¬ nI hi < nI c) ↔ lo ≤ c ∧ c ≤ hi := by
  rw [nI_ltI hc hlo, nI_ltI hhi hc]
  omega
