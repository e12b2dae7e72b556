/-! the class's whole state against the reference's -/
abbrev zK : Type := zS × zS × Nat × Nat × (Nat → zS) × zT
abbrev uS (κ : zK) : zS := κ.1
abbrev uA (κ : zK) : zS := κ.2.1
abbrev uo (κ : zK) : Nat := κ.2.2.1
abbrev un (κ : zK) : Nat := κ.2.2.2.1
abbrev uh (κ : zK) : Nat → zS := κ.2.2.2.2.1
abbrev ut (κ : zK) : zT := κ.2.2.2.2.2
abbrev hRel (B o n : Nat) (hs : Nat → zS) (p : Nat → Int32) : Prop := ∀ i, i < n → sEq (hs ((o + i) % 6)) (gS (fun j => p (323 * i + j))) ∧ gAll B (fun j => p (323 * i + j))
abbrev tRel (ω : zT) (f : Nat → Nat) (n : Nat) : Prop := tx ω = f ∧ tl ω = n ∧ n ≤ 60 ∧ ∀ i, i < n → f i < 128
abbrev kRel (B : Nat) (κ : zK) (μ : zM) : Prop := sEq (uS κ) (gS (mg μ)) ∧ gAll B (mg μ) ∧ uo κ < 6 ∧ un κ = mk μ ∧ mk μ ≤ 6 ∧ hRel B (uo κ) (un κ) (uh κ) (mp μ) ∧ tRel (ut κ) (mx μ) (my μ)
theorem kRel.se {B : Nat} {κ : zK} {μ : zM} (h : kRel B κ μ) : sEq (uS κ) (gS (mg μ)) := h.1
theorem kRel.al {B : Nat} {κ : zK} {μ : zM} (h : kRel B κ μ) : gAll B (mg μ) := h.2.1
theorem kRel.o6 {B : Nat} {κ : zK} {μ : zM} (h : kRel B κ μ) : uo κ < 6 := h.2.2.1
theorem kRel.nk {B : Nat} {κ : zK} {μ : zM} (h : kRel B κ μ) : un κ = mk μ := h.2.2.2.1
theorem kRel.k6 {B : Nat} {κ : zK} {μ : zM} (h : kRel B κ μ) : mk μ ≤ 6 := h.2.2.2.2.1
theorem kRel.hh {B : Nat} {κ : zK} {μ : zM} (h : kRel B κ μ) : hRel B (uo κ) (un κ) (uh κ) (mp μ) := h.2.2.2.2.2.1
theorem kRel.tt {B : Nat} {κ : zK} {μ : zM} (h : kRel B κ μ) : tRel (ut κ) (mx μ) (my μ) := h.2.2.2.2.2.2
section RL
variable {B : Nat} {κ : zK} {μ : zM}
theorem kRel.zok (h : kRel B κ μ) : zok (uS κ) := h.se.ok (fun w hw => (h.al.1 w hw).1)
theorem kRel.bt (h : kRel B κ μ) : zbt (uS κ) := h.se.bt (fun k hk => h.al.2.1 k hk)
theorem kRel.mok (h : kRel B κ μ) : zMok μ := ⟨h.al.1, h.al.2.1, h.k6, h.tt.2.2.1⟩
theorem kRel.n6 (h : kRel B κ μ) : un κ ≤ 6 := by rw [h.nk]; exact h.k6
theorem gAll_mono {B C : Nat} {g : Nat → Int32} (h : gAll B g) (hBC : B ≤ C) : gAll C g := ⟨h.1, h.2.1, h.2.2.1, gbd_mono h.2.2.2 hBC⟩
theorem gAll_cg {f g : Nat → Int32} (h : gAll B f) (e : ∀ k, k < 323 → g k = f k) : gAll B g := by
  refine ⟨gok_cong h.1 e, gbt_cong h.2.1 e, fun x y hx hy q => ?_, ?_⟩
  · rw [e (259 + x) (by omega), e (259 + y) (by omega)] at q
    exact h.2.2.1 x y hx hy q
  · obtain ⟨a, b, ha, hb, h3, h4⟩ := h.2.2.2
    exact ⟨a, b, ha, hb, by rw [e 3 (by omega)]; exact h3, by rw [e 4 (by omega)]; exact h4⟩
theorem sEq_g {f g : Nat → Int32} (e : ∀ k, k < 323 → g k = f k) : sEq (gS f) (gS g) := by
  refine ⟨⟨fun k hk => (e (7 + k) (by omega)).symm, fun k hk => (e (25 + k) (by omega)).symm, fun k hk => ?_, fun w hw => ?_⟩, ⟨fun w hw => (e (275 + w) (by omega)).symm, fun w hw => (e (291 + w) (by omega)).symm, fun w hw => (e (307 + w) (by omega)).symm, fun k hk => (e k (by omega)).symm⟩, (e 2 (by omega)).symm, (e 3 (by omega)).symm, (e 4 (by omega)).symm, (e 5 (by omega)).symm, (e 6 (by omega)).symm⟩
  · show zo (pWo (fun w => f (259 + w)) k 16) = zo (pWo (fun w => g (259 + w)) k 16)
    rw [pWo_iff (f := fun w => f (259 + w)) (g := fun w => g (259 + w)) (fun x hx => by rw [e (259 + x) (by omega)])]
  · show (f (259 + w)).toNatClampNeg = (g (259 + w)).toNatClampNeg
    rw [e (259 + w) (by omega)]
theorem kRel.mono {C : Nat} (h : kRel B κ μ) (hBC : B ≤ C) : kRel C κ μ := ⟨h.se, gAll_mono h.al hBC, h.o6, h.nk, h.k6, fun i hi => ⟨(h.hh i hi).1, gAll_mono (h.hh i hi).2 hBC⟩, h.tt⟩
theorem hRel.cg {B o n : Nat} {hs : Nat → zS} {p q : Nat → Int32} {o' : Nat} {hs' : Nat → zS} {i i' : Nat} (h : hRel B o n hs p) (hi : i' < n) (e1 : hs' ((o' + i) % 6) = hs ((o + i') % 6)) (e2 : ∀ j, j < 323 → q (323 * i + j) = p (323 * i' + j)) : sEq (hs' ((o' + i) % 6)) (gS (fun j => q (323 * i + j))) ∧ gAll B (fun j => q (323 * i + j)) := by
  rw [e1]
  exact ⟨(h i' hi).1.tr (sEq_g (fun k hk => e2 k hk)), gAll_cg (h i' hi).2 (fun k hk => e2 k hk)⟩
theorem hRel_keep {o n : Nat} {hs : Nat → zS} {p g : Nat → Int32} {σ : zS} (ho : o < 6) (hn : n ≤ 6) (h : hRel B o n hs p) (hg : sEq σ (gS g)) (ha : gAll B g) : hRel B (hKeepO o n) (hKeepN n) (hKeepH o n hs σ) (pSvp g p n) := by
  intro i hi
  by_cases q : n = 6
  · subst q
    have hi6 : i < 6 := hi
    have eN : hKeepN 6 = 6 := rfl
    have eO : hKeepO o 6 = (o + 1) % 6 := rfl
    have ep : pSvp g p 6 = va_cpy g (pSh p 1615) 0 1615 323 := rfl
    rw [ep, eO]
    unfold hKeepH
    rw [eN, eO]
    by_cases q5 : i = 5
    · subst q5
      rw [show (o + 1) % 6 + 6 - 1 = (o + 1) % 6 + 5 by omega, va_up, if_pos rfl]
      have e : ∀ j, j < 323 → va_cpy g (pSh p 1615) 0 1615 323 (323 * 5 + j) = g j := fun j hj => by
        unfold va_cpy
        rw [if_pos (by omega), show 0 + (323 * 5 + j - 1615) = j by omega]
      exact ⟨hg.tr (sEq_g e), gAll_cg ha e⟩
    · refine hRel.cg (i' := i + 1) h (by omega) ?_ (fun j hj => ?_)
      · unfold va_up
        rw [if_neg (by omega), show ((o + 1) % 6 + i) % 6 = (o + (i + 1)) % 6 by omega]
      · unfold va_cpy pSh
        rw [if_neg (by omega), if_pos (by omega), show 323 * i + j + 323 = 323 * (i + 1) + j by omega]
  · have eN : hKeepN n = n + 1 := by unfold hKeepN; rw [if_neg q]
    have eO : hKeepO o n = o := by unfold hKeepO; rw [if_neg q]
    have ep : pSvp g p n = va_cpy g p 0 (323 * n) 323 := by unfold pSvp; rw [if_neg q]
    rw [eN] at hi
    rw [ep, eO]
    unfold hKeepH
    rw [eN, eO, show o + (n + 1) - 1 = o + n by omega]
    by_cases q5 : i = n
    · subst q5
      rw [va_up, if_pos rfl]
      have e : ∀ j, j < 323 → va_cpy g p 0 (323 * i) 323 (323 * i + j) = g j := fun j hj => by
        unfold va_cpy
        rw [if_pos (by omega), show 0 + (323 * i + j - 323 * i) = j by omega]
      exact ⟨hg.tr (sEq_g e), gAll_cg ha e⟩
    · refine hRel.cg (i' := i) h (by omega) ?_ (fun j hj => ?_)
      · unfold va_up
        rw [if_neg (by omega)]
      · unfold va_cpy
        rw [if_neg (by omega)]
/-- kept, then changed -/
abbrev uKeep (κ : zK) (σ : zS) : zK := (σ, uA κ, hKeepO (uo κ) (un κ), hKeepN (un κ), hKeepH (uo κ) (un κ) (uh κ) (uS κ), ut κ)
theorem kRel.keep (h : kRel B κ μ) {σ : zS} {g : Nat → Int32} {z : Int32} (h1 : sEq σ (gS g)) (h2 : gAll (B + 6500) g) : kRel (B + 6500) (uKeep κ σ) (mset_g (pSv (mset_th μ z)) g) := by
  have hb := hKeep_b h.o6 h.n6
  have hm := h.mono (C := B + 6500) (by omega)
  refine ⟨h1, h2, hb.1, ?_, ?_, ?_, hm.tt⟩
  · show hKeepN (un κ) = pSvk (mk μ)
    rw [h.nk]
    rfl
  · show pSvk (mk μ) ≤ 6
    have := h.k6
    unfold pSvk
    split <;> omega
  · show hRel (B + 6500) (hKeepO (uo κ) (un κ)) (hKeepN (un κ)) (hKeepH (uo κ) (un κ) (uh κ) (uS κ)) (pSvp (mg μ) (mp μ) (mk μ))
    rw [← h.nk]
    exact hRel_keep h.o6 h.n6 hm.hh hm.se hm.al
theorem kRel.same (h : kRel B κ μ) (z : Int32) : kRel (B + 6500) κ (mset_th μ z) := by
  have hm := h.mono (C := B + 6500) (by omega)
  exact ⟨hm.se, hm.al, hm.o6, hm.nk, hm.k6, hm.hh, hm.tt⟩
/-! the writers -/
theorem in_15 {x : Int32} (h : inL x 0 15) : iN x < 16 ∧ x = nI (iN x) := by
  obtain ⟨j, -, hj, rfl⟩ := inRl_nat (lo := 0) (hi := 15) (by decide) h
  rw [show iN (nI j) = j from nI_clamp (by omega)]
  exact ⟨by omega, rfl⟩
theorem in_b {x : Int32} {lo hi : Nat} (hn : lo < 2 ^ 31 ∧ hi < 2 ^ 31) (h : inL x (nI lo) (nI hi)) : lo ≤ iN x ∧ iN x ≤ hi ∧ x = nI (iN x) := by
  obtain ⟨j, h1, hj, rfl⟩ := inRl_nat hn h
  rw [show iN (nI j) = j from nI_clamp (by omega)]
  exact ⟨h1, hj, rfl⟩
def sWrite (κ : zK) (x y : Int32) : zK × Int32 := match ptg (uS κ) (iN x) y with
  | none => (κ, 0)
  | some t => (uKeep κ (pPlace (uS κ) (iN x) y t), pBC (pch (uS κ) t y))
theorem cdWrite_0 {σ : zS} {x y : Int32} (h : cdWrite σ x y = 0) : inL x 0 15 ∧ inL y 0 4095 ∧ ∃ t, ptg σ (iN x) y = some t := by
  unfold cdWrite at h
  by_cases q1 : inL x 0 15
  · rw [if_pos q1] at h
    by_cases q2 : inL y 0 4095
    · rw [if_pos q2] at h
      by_cases q3 : ptg σ (iN x) y = none
      · rw [if_pos q3] at h; exact absurd h (by decide)
      · exact ⟨q1, q2, Option.ne_none_iff_exists'.mp q3⟩
    · rw [if_neg q2] at h; exact absurd h (by decide)
  · rw [if_neg q1] at h; exact absurd h (by decide)
theorem cdWrite_cg {σ τ : zS} (h : sEq σ τ) (hok : zok τ) (x y : Int32) : cdWrite σ x y = cdWrite τ x y := by
  unfold cdWrite
  by_cases q1 : inL x 0 15
  · rw [if_pos q1, if_pos q1, sq_tg h hok (in_15 q1).1]
  · rw [if_neg q1, if_neg q1]
theorem rel_Write (h : kRel B κ μ) (x y : Int32) : cdWrite (uS κ) x y = mth (rWrite μ x y).1 ∧ (cdWrite (uS κ) x y = 0 → (sWrite κ x y).2 = (rWrite μ x y).2) ∧ kRel (B + 6500) (if cdWrite (uS κ) x y = 0 then (sWrite κ x y).1 else κ) (rWrite μ x y).1 := by
  have hok := fun w hw => (h.al.1 w hw).1
  have e := cdWrite_cg h.se hok x y
  unfold rWrite
  by_cases q : cdWrite (gS (mg μ)) x y = 0
  · rw [if_pos q, e, q, if_pos rfl]
    obtain ⟨hx, hy, t, ht⟩ := cdWrite_0 (e.trans q)
    obtain ⟨hw, ex⟩ := in_15 hx
    obtain ⟨-, hv, ey⟩ := in_b (lo := 0) (hi := 4095) (by decide) hy
    have hs : sWrite κ x y = (uKeep κ (pPlace (uS κ) (iN x) y t), pBC (pch (uS κ) t y)) := by unfold sWrite; rw [ht]
    have ht' : ptg (gS (mg μ)) (iN x) (nI (iN y)) = some t := by rw [← ey, ← sq_tg h.se hok hw]; exact ht
    have hr := rel_write h.se h.al hw (by omega) ht'
    rw [hs]
    rw [← ey] at hr
    exact ⟨rfl, fun _ => hr.2.1, h.keep hr.1 (gAll_mono (gAll_st h.al hw (by omega)) (by omega))⟩
  · rw [if_neg q, e, if_neg q]
    exact ⟨rfl, fun q' => absurd q' q, h.same _⟩
end RL
