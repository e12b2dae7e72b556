/-! a write of the class and a write of the reference -/
theorem upd_o {f : Nat → Int32} {k i : Nat} {x : Int32} (h : i ≠ k) : upd f k x i = f i := by unfold upd; rw [if_neg h]
theorem upd_s {f : Nat → Int32} {k : Nat} {x : Int32} : upd f k x k = x := by unfold upd; rw [if_pos rfl]
section WR
variable {g : Nat → Int32} {w v t : Nat}
theorem pWr_7 (hw : w < 16) {k : Nat} (hk : k < 18) : pWr g w v t (7 + k) = upd (fun k => g (7 + k)) t (pwy (gS g) t (nI v)) k := by
  unfold pWr
  try dsimp only
  rw [upd_o (by omega), upd_o (by omega), upd_o (by omega), upd_o (by omega)]
  by_cases q : k = t
  · subst q
    rw [upd_s, upd_s]
  · rw [upd_o (by omega), pGw_other (by omega), upd_o (by omega), upd_o (by omega), upd_o (by omega), upd_o (by omega), upd_o (by omega), upd_o q]
theorem pWr_25 (hw : w < 16) (ht : t < 18) {k : Nat} (hk : k < 234) : pWr g w v t (25 + k) = pWear (fun k => g (25 + k)) (t * 13) (g (7 + t) ^^^ pwy (gS g) t (nI v)) 13 k := by
  have e : ∀ f : Nat → Int32, (∀ j, 25 ≤ j → f j = g j) → pGw f (t * 13) (g (7 + t) ^^^ pwy (gS g) t (nI v)) 13 (25 + k) = pWear (fun k => g (25 + k)) (t * 13) (g (7 + t) ^^^ pwy (gS g) t (nI v)) 13 k := fun f hf => by
    rw [pGw_cg hf _ (by omega), pGw_wear]
  unfold pWr
  try dsimp only
  rw [upd_o (by omega), upd_o (by omega), upd_o (by omega), upd_o (by omega), upd_o (by omega)]
  exact e _ (fun j hj => by rw [upd_o (by omega), upd_o (by omega), upd_o (by omega), upd_o (by omega), upd_o (by omega)])
theorem pWr_259 (hw : w < 16) (ht : t < 18) {x : Nat} (hx : x < 16) : pWr g w v t (259 + x) = if x = w then nI t else g (259 + x) := by
  unfold pWr
  try dsimp only
  rw [upd_o (by omega), upd_o (by omega), upd_o (by omega)]
  by_cases q : x = w
  · subst q
    rw [upd_s, if_pos rfl]
  · rw [upd_o (by omega), upd_o (by omega), pGw_other (by omega), upd_o (by omega), upd_o (by omega), upd_o (by omega), upd_o (by omega), upd_o (by omega), if_neg q]
theorem pWr_275 (hw : w < 16) (ht : t < 18) {x : Nat} (hx : x < 16) : pWr g w v t (275 + x) = upd (fun x => g (275 + x)) w (if t ≠ gpl g w then 0 else g (275 + w) + 1) x := by
  unfold pWr
  try dsimp only
  rw [upd_o (by omega), upd_o (by omega)]
  by_cases q : x = w
  · subst q
    rw [upd_s, upd_s, upd_o (by omega), upd_o (by omega), pGw_other (by omega), upd_o (by omega), upd_o (by omega), upd_o (by omega), upd_o (by omega), upd_o (by omega)]
  · rw [upd_o (by omega), upd_o (by omega), upd_o (by omega), pGw_other (by omega), upd_o (by omega), upd_o (by omega), upd_o (by omega), upd_o (by omega), upd_o (by omega), upd_o q]
theorem pWr_291 (hw : w < 16) (ht : t < 18) {x : Nat} (hx : x < 16) : pWr g w v t (291 + x) = upd (fun x => g (291 + x)) w (g (291 + w) + 1) x := by
  unfold pWr
  try dsimp only
  rw [upd_o (by omega)]
  by_cases q : x = w
  · subst q
    rw [upd_s, upd_s, upd_o (by omega), upd_o (by omega), upd_o (by omega), pGw_other (by omega), upd_o (by omega), upd_o (by omega), upd_o (by omega), upd_o (by omega), upd_o (by omega)]
  · rw [upd_o (by omega), upd_o (by omega), upd_o (by omega), upd_o (by omega), pGw_other (by omega), upd_o (by omega), upd_o (by omega), upd_o (by omega), upd_o (by omega), upd_o (by omega), upd_o q]
theorem pWr_307 (hw : w < 16) (ht : t < 18) {x : Nat} (hx : x < 16) : pWr g w v t (307 + x) = upd (fun x => g (307 + x)) w (g (307 + w) + if t ≠ gpl g w then 1 else 0) x := by
  unfold pWr
  try dsimp only
  by_cases q : x = w
  · subst q
    rw [upd_s, upd_s, upd_o (by omega), upd_o (by omega), upd_o (by omega), upd_o (by omega), pGw_other (by omega), upd_o (by omega), upd_o (by omega), upd_o (by omega), upd_o (by omega), upd_o (by omega)]
  · rw [upd_o (by omega), upd_o (by omega), upd_o (by omega), upd_o (by omega), upd_o (by omega), pGw_other (by omega), upd_o (by omega), upd_o (by omega), upd_o (by omega), upd_o (by omega), upd_o (by omega), upd_o q]
theorem pWr_lo {k : Nat} (hk : k < 7) : ∃ f : Nat → Int32, pWr g w v t k = f k ∧ f = upd (upd (upd (upd (upd g 2 (g 2 + 1)) 3 (upd g 2 (g 2 + 1) 3 + pBC (g (7 + t) ^^^ pwy (gS g) t (nI v)))) 4 (upd (upd g 2 (g 2 + 1)) 3 (upd g 2 (g 2 + 1) 3 + pBC (g (7 + t) ^^^ pwy (gS g) t (nI v))) 4 + pBC (pnm (gS (upd (upd g 2 (g 2 + 1)) 3 (upd g 2 (g 2 + 1) 3 + pBC (g (7 + t) ^^^ pwy (gS g) t (nI v))))) w ^^^ nI v))) 5 (upd (upd (upd g 2 (g 2 + 1)) 3 (upd g 2 (g 2 + 1) 3 + pBC (g (7 + t) ^^^ pwy (gS g) t (nI v)))) 4 (upd (upd g 2 (g 2 + 1)) 3 (upd g 2 (g 2 + 1) 3 + pBC (g (7 + t) ^^^ pwy (gS g) t (nI v))) 4 + pBC (pnm (gS (upd (upd g 2 (g 2 + 1)) 3 (upd g 2 (g 2 + 1) 3 + pBC (g (7 + t) ^^^ pwy (gS g) t (nI v))))) w ^^^ nI v)) 5 + if t ≠ gpl g w then 1 else 0)) 6 (upd (upd (upd (upd g 2 (g 2 + 1)) 3 (upd g 2 (g 2 + 1) 3 + pBC (g (7 + t) ^^^ pwy (gS g) t (nI v)))) 4 (upd (upd g 2 (g 2 + 1)) 3 (upd g 2 (g 2 + 1) 3 + pBC (g (7 + t) ^^^ pwy (gS g) t (nI v))) 4 + pBC (pnm (gS (upd (upd g 2 (g 2 + 1)) 3 (upd g 2 (g 2 + 1) 3 + pBC (g (7 + t) ^^^ pwy (gS g) t (nI v))))) w ^^^ nI v))) 5 (upd (upd (upd g 2 (g 2 + 1)) 3 (upd g 2 (g 2 + 1) 3 + pBC (g (7 + t) ^^^ pwy (gS g) t (nI v)))) 4 (upd (upd g 2 (g 2 + 1)) 3 (upd g 2 (g 2 + 1) 3 + pBC (g (7 + t) ^^^ pwy (gS g) t (nI v))) 4 + pBC (pnm (gS (upd (upd g 2 (g 2 + 1)) 3 (upd g 2 (g 2 + 1) 3 + pBC (g (7 + t) ^^^ pwy (gS g) t (nI v))))) w ^^^ nI v)) 5 + if t ≠ gpl g w then 1 else 0) 6 + if 4096 ≤ pwy (gS g) t (nI v) then 1 else 0) := by
  refine ⟨_, ?_, rfl⟩
  unfold pWr
  try dsimp only
  rw [upd_o (by omega), upd_o (by omega), upd_o (by omega), upd_o (by omega), upd_o (by omega), pGw_other (by omega)]
theorem pnm_hi {f : Nat → Int32} (h : ∀ i, 7 ≤ i → f i = g i) : pnm (gS f) w = pnm (gS g) w := by
  show pNum (f (7 + (f (259 + w)).toNatClampNeg)) = pNum (g (7 + (g (259 + w)).toNatClampNeg))
  rw [h (259 + w) (by omega), h _ (by omega)]
theorem pWr_01 {k : Nat} (hk : k < 2) : pWr g w v t k = g k := by
  obtain ⟨f, e, ef⟩ := pWr_lo (g := g) (w := w) (v := v) (t := t) (k := k) (by omega)
  rw [e, ef, upd_o (by omega), upd_o (by omega), upd_o (by omega), upd_o (by omega), upd_o (by omega)]
theorem pWr_2 : pWr g w v t 2 = g 2 + 1 := by
  obtain ⟨f, e, ef⟩ := pWr_lo (g := g) (w := w) (v := v) (t := t) (k := 2) (by omega)
  rw [e, ef, upd_o (by omega), upd_o (by omega), upd_o (by omega), upd_o (by omega), upd_s]
theorem pWr_3 : pWr g w v t 3 = g 3 + pBC (g (7 + t) ^^^ pwy (gS g) t (nI v)) := by
  obtain ⟨f, e, ef⟩ := pWr_lo (g := g) (w := w) (v := v) (t := t) (k := 3) (by omega)
  rw [e, ef, upd_o (by omega), upd_o (by omega), upd_o (by omega), upd_s, upd_o (by omega)]
theorem pWr_4 : pWr g w v t 4 = g 4 + pBC (pnm (gS g) w ^^^ nI v) := by
  obtain ⟨f, e, ef⟩ := pWr_lo (g := g) (w := w) (v := v) (t := t) (k := 4) (by omega)
  rw [e, ef, upd_o (by omega), upd_o (by omega), upd_s, upd_o (by omega), upd_o (by omega), pnm_hi (g := g) (fun i hi => by rw [upd_o (by omega), upd_o (by omega)])]
theorem pWr_5 : pWr g w v t 5 = g 5 + if t ≠ gpl g w then 1 else 0 := by
  obtain ⟨f, e, ef⟩ := pWr_lo (g := g) (w := w) (v := v) (t := t) (k := 5) (by omega)
  rw [e, ef, upd_o (by omega), upd_s, upd_o (by omega), upd_o (by omega), upd_o (by omega)]
theorem pWr_6 : pWr g w v t 6 = g 6 + if 4096 ≤ pwy (gS g) t (nI v) then 1 else 0 := by
  obtain ⟨f, e, ef⟩ := pWr_lo (g := g) (w := w) (v := v) (t := t) (k := 6) (by omega)
  rw [e, ef, upd_s, upd_o (by omega), upd_o (by omega), upd_o (by omega), upd_o (by omega)]
end WR
theorem pSettle_s {σ : zS} {w t : Nat} (q : t = zpl σ w) : pSettle σ w t = (zhd σ, zwn σ, zwi σ, zpl σ, upd (zwh σ) w (zwh σ w + 1), upd (zwo σ) w (zwo σ w + 1), zmo σ, zst σ, zc0 σ, zc1 σ, zc2 σ, zc3 σ, zc4 σ) := by
  unfold pSettle
  exact if_pos q
theorem pSettle_m {σ : zS} {w t : Nat} (q : ¬ t = zpl σ w) : pSettle σ w t = (zhd σ, zwn σ, upd (upd (zwi σ) (zpl σ w) (-1)) t (nI w), va_up (zpl σ) w t, upd (zwh σ) w 0, upd (zwo σ) w (zwo σ w + 1), upd (zmo σ) w (zmo σ w + 1), zst σ, zc0 σ, zc1 σ, zc2 σ, zc3 σ + 1, zc4 σ) := by
  unfold pSettle
  exact if_neg q
theorem upd_same {f : Nat → Int32} {w : Nat} {y : Int32} (h : y = f w) : ∀ x, upd f w y x = f x := by
  intro x
  by_cases q : x = w
  · rw [q, upd_s, h]
  · rw [upd_o q]
theorem rel_place {g : Nat → Int32} {w v t : Nat} (hok : gok g) (hin : ginj g) (hw : w < 16) (ht : t < 18) (hv : v < 4096) (hway : ¬ pwy (gS g) t (nI v) = -1) (hfree : t = gpl g w ∨ ∀ x, x < 16 → ¬ g (259 + x) = nI t) : sEq (pPlace (gS g) w (nI v) t) (gS (pWr g w v t)) := by
  have hwa : (pwy (gS g) t (nI v) &&& 4096 = 0 ↔ pwy (gS g) t (nI v) < 4096) := (z13_lt (pWay_13 hv hway)).1
  have e4 : (if pwy (gS g) t (nI v) &&& 4096 = 0 then g 6 else g 6 + 1) = g 6 + if 4096 ≤ pwy (gS g) t (nI v) then 1 else 0 := by
    by_cases q : pwy (gS g) t (nI v) &&& 4096 = 0
    · rw [if_pos q, if_neg (Int32.not_le.mpr (hwa.mp q)), Int32.add_zero]
    · rw [if_neg q, if_pos (Int32.not_lt.mp (fun z => q (hwa.mpr z)))]
  unfold pPlace
  by_cases q : t = gpl g w
  · rw [pSettle_s q]
    refine ⟨⟨fun k hk => (pWr_7 hw hk).symm, fun k hk => (pWr_25 hw ht hk).symm, fun k hk => ?_, fun x hx => ?_⟩, ⟨fun x hx => ?_, fun x hx => (pWr_291 hw ht hx).symm, fun x hx => ?_, fun k hk => (pWr_01 hk).symm⟩, pWr_2.symm, pWr_3.symm, pWr_4.symm, ?_, e4.trans pWr_6.symm⟩
    · show zo (pWo (fun w => g (259 + w)) k 16) = zo (pWo (fun x => pWr g w v t (259 + x)) k 16)
      refine congrArg zo (pWo_iff (fun x hx => ?_))
      show g (259 + x) = nI k ↔ pWr g w v t (259 + x) = nI k
      rw [pWr_259 hw ht hx]
      by_cases qx : x = w
      · rw [if_pos qx, qx, (hok w hw).2, q]
      · rw [if_neg qx]
    · show gpl g x = (pWr g w v t (259 + x)).toNatClampNeg
      rw [pWr_259 hw ht hx]
      by_cases qx : x = w
      · rw [if_pos qx, qx, nI_clamp (by omega), q]
      · rw [if_neg qx]
    · show upd (fun x => g (275 + x)) w (g (275 + w) + 1) x = pWr g w v t (275 + x)
      rw [pWr_275 hw ht hx, if_neg (not_not_intro q)]
    · show g (307 + x) = pWr g w v t (307 + x)
      rw [pWr_307 hw ht hx, if_neg (not_not_intro q), upd_same (Int32.add_zero _)]
    · show g 5 = pWr g w v t 5
      rw [pWr_5, if_neg (not_not_intro q), Int32.add_zero]
  · rw [pSettle_m q]
    have hf := hfree.resolve_left q
    refine ⟨⟨fun k hk => (pWr_7 hw hk).symm, fun k hk => (pWr_25 hw ht hk).symm, fun k hk => ?_, fun x hx => ?_⟩, ⟨fun x hx => ?_, fun x hx => (pWr_291 hw ht hx).symm, fun x hx => ?_, fun k hk => (pWr_01 hk).symm⟩, pWr_2.symm, pWr_3.symm, pWr_4.symm, ?_, e4.trans pWr_6.symm⟩
    · show upd (upd (fun k => zo (pWo (fun w => g (259 + w)) k 16)) (gpl g w) (-1)) t (nI w) k = zo (pWo (fun x => pWr g w v t (259 + x)) k 16)
      rw [← wi_move (f := fun w => g (259 + w)) (p := gpl g) hw ht hk (fun x hx => hok x hx) hin hf]
      refine congrArg zo (pWo_iff (fun x hx => ?_))
      show (if x = w then nI t else g (259 + x)) = nI k ↔ pWr g w v t (259 + x) = nI k
      rw [pWr_259 hw ht hx]
    · show va_up (gpl g) w t x = (pWr g w v t (259 + x)).toNatClampNeg
      rw [pWr_259 hw ht hx]
      unfold va_up
      by_cases qx : x = w
      · rw [if_pos qx, if_pos qx, nI_clamp (by omega)]
      · rw [if_neg qx, if_neg qx]
    · show upd (fun x => g (275 + x)) w 0 x = pWr g w v t (275 + x)
      rw [pWr_275 hw ht hx, if_pos q]
    · show upd (fun x => g (307 + x)) w (g (307 + w) + 1) x = pWr g w v t (307 + x)
      rw [pWr_307 hw ht hx, if_pos q]
    · show g 5 + 1 = pWr g w v t 5
      rw [pWr_5, if_pos q]
theorem ginj_place {g : Nat → Int32} {w v t : Nat} (hok : gok g) (hin : ginj g) (hw : w < 16) (ht : t < 18) (hfree : t = gpl g w ∨ ∀ x, x < 16 → ¬ g (259 + x) = nI t) : ginj (pWr g w v t) := by
  intro x y hx hy h
  rw [pWr_259 hw ht hx, pWr_259 hw ht hy] at h
  have hs : t = gpl g w → g (259 + w) = nI t := fun q => by rw [q]; exact (hok w hw).2
  by_cases qx : x = w
  · by_cases qy : y = w
    · rw [qx, qy]
    · rw [if_pos qx, if_neg qy] at h
      rcases hfree with q | q
      · exact hin x y hx hy (by rw [qx, hs q]; exact h)
      · exact absurd h.symm (q y hy)
  · by_cases qy : y = w
    · rw [if_neg qx, if_pos qy] at h
      rcases hfree with q | q
      · exact hin x y hx hy (by rw [qy, hs q]; exact h)
      · exact absurd h (q x hx)
    · rw [if_neg qx, if_neg qy] at h
      exact hin x y hx hy h
theorem ptg_free {g : Nat → Int32} {w t : Nat} {n : Int32} (h : ptg (gS g) w n = some t) : t = gpl g w ∨ ∀ x, x < 16 → ¬ g (259 + x) = nI t := by
  have key : ∀ k, pff (gS g) n = some k → ∀ x, x < 16 → ¬ g (259 + x) = nI k := fun k hk => by
    have h1 := (pff_may hk).1
    exact pWo_of_none (zo_m1 (fun j hj => Nat.lt_trans (pWo_lt hj) (by decide)) h1)
  unfold ptg at h
  split at h
  · cases h; exact Or.inl rfl
  · split at h
    · split at h
      · cases h; exact Or.inl rfl
      · cases h
    · next k hk => cases h; exact Or.inr (key _ hk)
/-- what is counted stays small -/
abbrev gbd (B : Nat) (g : Nat → Int32) : Prop := ∃ a b, a ≤ B ∧ b ≤ B ∧ g 3 = nI a ∧ g 4 = nI b
theorem bc13_t : (List.range 8192).all (fun n => decide (pBC (nI n) = nI (pop13 n) ∧ pop13 n ≤ 13)) = true := by decide +kernel
theorem bc13 {x : Int32} (h : z13 x) : ∃ p, p ≤ 13 ∧ pBC x = nI p := by
  obtain ⟨n, hn, rfl⟩ := h
  have := of_decide_eq_true (z_all bc13_t hn)
  exact ⟨_, this.2, this.1⟩
theorem gbd_place {g : Nat → Int32} {w v t B : Nat} (hok : gok g) (hbt : gbt g) (hw : w < 16) (ht : t < 18) (hv : v < 4096) (hway : ¬ pwy (gS g) t (nI v) = -1) (hb : gbd B g) : gbd (B + 13) (pWr g w v t) := by
  obtain ⟨a, b, ha, hb', ea, eb⟩ := hb
  obtain ⟨p, hp, ep⟩ := bc13 (z13_xor (hbt t ht) (pWay_13 hv hway))
  obtain ⟨q, hq, eq⟩ := bc13 (z13_xor (pNum_13 (hbt (gpl g w) (hok w hw).1)) (z13_nI (show v < 8192 by omega)))
  refine ⟨a + p, b + q, by omega, by omega, ?_, ?_⟩
  · rw [pWr_3, ea, ep, nI_add]
  · rw [pWr_4, eb, eq, nI_add]
theorem gbd_mono {B C : Nat} {g : Nat → Int32} (h : gbd B g) (hBC : B ≤ C) : gbd C g := by
  obtain ⟨a, b, ha, hb', ea, eb⟩ := h
  exact ⟨a, b, by omega, by omega, ea, eb⟩
/-- all that holds of the reference's numbers -/
abbrev gAll (B : Nat) (g : Nat → Int32) : Prop := gok g ∧ gbt g ∧ ginj g ∧ gbd B g
theorem gAll_place {g : Nat → Int32} {w v t B : Nat} (h : gAll B g) (hw : w < 16) (hv : v < 4096) (ht : ptg (gS g) w (nI v) = some t) : gAll (B + 13) (pWr g w v t) := by
  obtain ⟨h1, h2, h3, h4⟩ := h
  have ht18 := ptg_ltG h1 hw t ht
  exact ⟨pWr_ok h1 ht18, pWr_bt h2 hv (ptg_way ht), ginj_place h1 h3 hw ht18 (ptg_free ht), gbd_place h1 h2 hw ht18 hv (ptg_way ht) h4⟩
theorem gAll_st {g : Nat → Int32} {w v B : Nat} (h : gAll B g) (hw : w < 16) (hv : v < 4096) : gAll (B + 13) (pWst g w v) := by
  cases q : ptg (gS g) w (nI v) with
  | none => rw [(pWst_none q).1]; exact ⟨h.1, h.2.1, h.2.2.1, gbd_mono h.2.2.2 (by omega)⟩
  | some t => rw [(pWst_some q).1]; exact gAll_place h hw hv q
/-- one write, both sides -/
theorem rel_write {σ : zS} {g : Nat → Int32} {w v t B : Nat} (h : sEq σ (gS g)) (ha : gAll B g) (hw : w < 16) (hv : v < 4096) (ht : ptg (gS g) w (nI v) = some t) : sEq (pPlace σ w (nI v) t) (gS (pWst g w v)) ∧ pBC (pch σ t (nI v)) = pWres g w v ∧ ∃ p, p ≤ 13 ∧ pWres g w v = nI p := by
  have ht18 := ptg_ltG ha.1 hw t ht
  have hok : zok (gS g) := fun x hx => (ha.1 x hx).1
  rw [(pWst_some ht).1, (pWst_some ht).2]
  refine ⟨(pPlace_cg h hok hw ht18).tr (rel_place ha.1 ha.2.2.1 hw ht18 hv (ptg_way ht) (ptg_free ht)), ?_, bc13 (z13_xor (ha.2.1 t ht18) (pWay_13 hv (ptg_way ht)))⟩
  show pBC (zhd σ t ^^^ pwy σ t (nI v)) = pBC (zhd (gS g) t ^^^ pwy (gS g) t (nI v))
  rw [h.hd ht18, sq_wy h ht18]
theorem alt_x {v : Nat} (hv : v < 4096) (c : Nat) : nI (pAlt v c) ^^^ 4095 = nI (pAlt v (c + 1)) := by
  rw [show (4095 : Int32) = nI 4095 from rfl, z_xor]
  unfold pAlt
  by_cases q : c % 2 = 0
  · rw [if_pos q, if_neg (by omega)]
  · rw [if_neg q, if_pos (by omega), Nat.xor_assoc, Nat.xor_self, Nat.xor_zero]
theorem rel_turns {w v : Nat} (hw : w < 16) (hv : v < 4096) : ∀ {k c B : Nat} {σ : zS} {g : Nat → Int32}, sEq σ (gS g) → gAll B g → sEq (pTurns w k σ (nI (pAlt v c))).1 (gS (pHam w v k c g).1) ∧ (pTurns w k σ (nI (pAlt v c))).2 = (pHam w v k c g).2 ∧ gAll (B + 13 * k) (pHam w v k c g).1
  | 0, c, B, σ, g, h, ha => ⟨h, rfl, ha⟩
  | k + 1, c, B, σ, g, h, ha => by
    have hok : zok (gS g) := fun x hx => (ha.1 x hx).1
    have e := sq_tg h hok (n := nI (pAlt v c)) hw
    cases q : ptg (gS g) w (nI (pAlt v c)) with
    | none =>
      rw [pTurns_none (e.trans q), pHam_end (pWst_none q).2, (pWst_none q).1]
      exact ⟨h, rfl, ha.1, ha.2.1, ha.2.2.1, gbd_mono ha.2.2.2 (by omega)⟩
    | some t =>
      obtain ⟨r1, r2, p, hp, r3⟩ := rel_write h ha hw (pAlt_lt hv) q
      rw [pTurns_some (e.trans q), pHam_go (by rw [r3]; exact nI_m1 (by omega)), alt_x hv]
      obtain ⟨i1, i2, i3⟩ := rel_turns hw hv (k := k) (c := c + 1) r1 (gAll_st ha hw (pAlt_lt hv))
      refine ⟨i1, congrArg (· + 1) i2, i3.1, i3.2.1, i3.2.2.1, gbd_mono i3.2.2.2 (by omega)⟩
