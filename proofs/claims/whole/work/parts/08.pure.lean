/-! the reference's writes as numbers -/
theorem gok_pGw {f : Nat → Int32} {b : Nat} {mk : Int32} (h : gok f) (hb : b ≤ 221) : ∀ {n : Nat}, n ≤ 13 → gok (pGw f b mk n)
  | 0, _ => h
  | n + 1, hn => gok_upd (gok_pGw h hb (by omega)) (by omega)
theorem gbt_pGw {f : Nat → Int32} {b : Nat} {mk : Int32} (h : gbt f) : ∀ {n : Nat}, gbt (pGw f b mk n)
  | 0 => h
  | n + 1 => gbt_upd (gbt_pGw h) (by omega)
theorem z12_not {n : Nat} (h : n < 4096) : n ^^^ 4095 < 4096 := Nat.xor_lt_two_pow (n := 12) h (by decide)
theorem pNum_13 {h : Int32} (hh : z13 h) : z13 (pNum h) := by
  unfold pNum
  split
  · exact hh
  · obtain ⟨n, hn, rfl⟩ := hh
    have t : (List.range 8192).all (fun n => decide ((nI n ^^^ (-1)) &&& 4095 = nI ((n ^^^ 8191) &&& 4095) ∧ ((n ^^^ 8191) &&& 4095) < 8192)) = true := by decide +kernel
    have := of_decide_eq_true (z_all t hn)
    exact ⟨_, this.2, this.1⟩
theorem pff_may {σ : zS} {n : Int32} : ∀ {k c : Nat}, pFree (pwr σ) (fun k => decide (zwi σ k = -1) && !decide (pwy σ k n = -1)) c = some k → zwi σ k = -1 ∧ ¬ pwy σ k n = -1
  | k, 0, h => by cases h
  | k, c + 1, h => by
    unfold pFree at h
    split at h
    · next q =>
      simp at q
      unfold pLess at h
      split at h
      · cases h; exact q
      · next j hj =>
        split at h
        · cases h; exact pff_may hj
        · cases h; exact q
    · exact pff_may h
theorem ptg_way {σ : zS} {w t : Nat} {n : Int32} (h : ptg σ w n = some t) : ¬ pwy σ t n = -1 := by
  unfold ptg at h
  split at h
  · next q => cases h; exact q.1
  · split at h
    · split at h
      · next q => cases h; exact q
      · cases h
    · next k hk => cases h; exact (pff_may hk).2
def pWr (g : Nat → Int32) (w v t : Nat) : Nat → Int32 :=
  let way := pwy (gS g) t (nI v)
  let ch := g (7 + t) ^^^ way
  let g1 := upd g 2 (g 2 + 1)
  let g2 := upd g1 3 (g1 3 + pBC ch)
  let g3 := upd g2 4 (g2 4 + pBC (pnm (gS g2) w ^^^ nI v))
  let g4 := upd g3 5 (g3 5 + if t ≠ gpl g w then 1 else 0)
  let g5 := upd g4 6 (g4 6 + if 4096 ≤ way then 1 else 0)
  let g6 := pGw g5 (t * 13) ch 13
  let g7 := upd g6 (7 + t) way
  let g8 := upd g7 (259 + w) (nI t)
  let g9 := upd g8 (275 + w) (if t ≠ gpl g w then 0 else g8 (275 + w) + 1)
  let g10 := upd g9 (291 + w) (g9 (291 + w) + 1)
  upd g10 (307 + w) (g10 (307 + w) + if t ≠ gpl g w then 1 else 0)
theorem pWr_ok {g : Nat → Int32} {w v t : Nat} (h : gok g) (ht : t < 18) : gok (pWr g w v t) := by
  unfold pWr
  exact gok_upd (gok_upd (gok_upd (gok_put (gok_upd (gok_pGw (gok_upd (gok_upd (gok_upd (gok_upd (gok_upd h (by omega)) (by omega)) (by omega)) (by omega)) (by omega)) (by omega) (by omega)) (by omega)) ht) (by omega)) (by omega)) (by omega)
theorem pWr_bt {g : Nat → Int32} {w v t : Nat} (h : gbt g) (hv : v < 4096) (hw : ¬ pwy (gS g) t (nI v) = -1) : gbt (pWr g w v t) := by
  unfold pWr
  exact gbt_upd (gbt_upd (gbt_upd (gbt_upd (gbt_put (gbt_pGw (gbt_upd (gbt_upd (gbt_upd (gbt_upd (gbt_upd h (by omega)) (by omega)) (by omega)) (by omega)) (by omega))) (pWay_13 hv hw)) (by omega)) (by omega)) (by omega)) (by omega)
def pWst (g : Nat → Int32) (w v : Nat) : Nat → Int32 := match ptg (gS g) w (nI v) with
  | none => g
  | some t => pWr g w v t
def pWres (g : Nat → Int32) (w v : Nat) : Int32 := match ptg (gS g) w (nI v) with
  | none => -1
  | some t => pBC (g (7 + t) ^^^ pwy (gS g) t (nI v))
theorem pWst_none {g : Nat → Int32} {w v : Nat} (h : ptg (gS g) w (nI v) = none) : pWst g w v = g ∧ pWres g w v = -1 := by
  unfold pWst pWres
  rw [h]
  exact ⟨rfl, rfl⟩
theorem pWst_some {g : Nat → Int32} {w v t : Nat} (h : ptg (gS g) w (nI v) = some t) : pWst g w v = pWr g w v t ∧ pWres g w v = pBC (g (7 + t) ^^^ pwy (gS g) t (nI v)) := by
  unfold pWst pWres
  rw [h]
  exact ⟨rfl, rfl⟩
theorem ptg_ltG {g : Nat → Int32} {w v : Nat} (h : gok g) (hw : w < 16) : ∀ k, ptg (gS g) w (nI v) = some k → k < 18 := ptg_lt ((h w hw).1)
theorem pWst_ok {g : Nat → Int32} {w v : Nat} (h : gok g) (hw : w < 16) : gok (pWst g w v) := by
  cases q : ptg (gS g) w (nI v) with
  | none => rw [(pWst_none q).1]; exact h
  | some t => rw [(pWst_some q).1]; exact pWr_ok h (ptg_ltG h hw t q)
theorem pWst_bt {g : Nat → Int32} {w v : Nat} (h : gbt g) (hv : v < 4096) : gbt (pWst g w v) := by
  cases q : ptg (gS g) w (nI v) with
  | none => rw [(pWst_none q).1]; exact h
  | some t => rw [(pWst_some q).1]; exact pWr_bt h hv (ptg_way q)
/-- hammering, of the reference; c writes are made -/
def pAlt (v c : Nat) : Nat := if c % 2 = 0 then v else v ^^^ 4095
theorem pAlt_lt {v c : Nat} (hv : v < 4096) : pAlt v c < 4096 := by
  unfold pAlt
  split
  · exact hv
  · exact z12_not hv
def pHam (w v : Nat) : Nat → Nat → (Nat → Int32) → (Nat → Int32) × Nat
  | 0, _, g => (g, 0)
  | k + 1, c, g => if pWres g w (pAlt v c) = -1 then (pWst g w (pAlt v c), 0)
    else ((pHam w v k (c + 1) (pWst g w (pAlt v c))).1, (pHam w v k (c + 1) (pWst g w (pAlt v c))).2 + 1)
theorem pHam_end {w v k c : Nat} {g : Nat → Int32} (h : pWres g w (pAlt v c) = -1) : pHam w v (k + 1) c g = (pWst g w (pAlt v c), 0) := by
  rw [pHam, if_pos h]
theorem pHam_go {w v k c : Nat} {g : Nat → Int32} (h : ¬ pWres g w (pAlt v c) = -1) : pHam w v (k + 1) c g = ((pHam w v k (c + 1) (pWst g w (pAlt v c))).1, (pHam w v k (c + 1) (pWst g w (pAlt v c))).2 + 1) := by
  rw [pHam, if_neg h]
theorem pHam_ok {w v : Nat} (hw : w < 16) : ∀ {k c : Nat} {g : Nat → Int32}, gok g → gok (pHam w v k c g).1
  | 0, _, _, h => h
  | k + 1, c, g, h => by
    by_cases q : pWres g w (pAlt v c) = -1
    · rw [pHam_end q]; exact pWst_ok h hw
    · rw [pHam_go q]; exact pHam_ok hw (pWst_ok h hw)
theorem pHam_bt {w v : Nat} (hv : v < 4096) : ∀ {k c : Nat} {g : Nat → Int32}, gbt g → gbt (pHam w v k c g).1
  | 0, _, _, h => h
  | k + 1, c, g, h => by
    by_cases q : pWres g w (pAlt v c) = -1
    · rw [pHam_end q]; exact pWst_bt h (pAlt_lt hv)
    · rw [pHam_go q]; exact pHam_bt hv (pWst_bt h (pAlt_lt hv))
theorem cpy_0 {α : Type} (f g : Nat → α) (p q : Nat) : va_cpy f g p q 0 = g := by
  funext k
  unfold va_cpy
  rw [if_neg (by omega)]
theorem cpy_s (f g : Nat → Int32) (p q n : Nat) : upd (va_cpy f g p q n) (q + n) (f (p + n)) = va_cpy f g p q (n + 1) := by
  funext k
  unfold upd va_cpy
  by_cases h : k = q + n
  · subst h
    rw [if_pos rfl, if_pos (by omega), show q + n - q = n by omega]
  · rw [if_neg h]
    by_cases h2 : q ≤ k ∧ k < q + n
    · rw [if_pos h2, if_pos (by omega)]
    · rw [if_neg h2, if_neg (by omega)]
