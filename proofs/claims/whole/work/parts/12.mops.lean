/-! what the reference's public methods answer and leave behind; the codes (0: no exception) are words of the state alone -/
theorem inRl_nat {x : Int32} {lo hi : Nat} (hn : lo < 2 ^ 31 ∧ hi < 2 ^ 31) (h : ¬ x < nI lo ∧ ¬ nI hi < x) : ∃ j : Nat, lo ≤ j ∧ j ≤ hi ∧ x = nI j := by
  have h0 : ¬ x < 0 := fun q => by
    have h1 := h.1
    rw [Int32.lt_iff_toInt_lt, nI_toInt hn.1] at h1
    rw [Int32.lt_iff_toInt_lt] at q
    have : (0 : Int32).toInt = 0 := rfl
    omega
  obtain ⟨j, hj, rfl⟩ := nI_of h0
  refine ⟨j, ?_, ?_, rfl⟩
  · have := h.1
    rw [nI_ltI hj hn.1] at this
    omega
  · have := h.2
    rw [nI_ltI hn.2 hj] at this
    omega
theorem outR_nat {x : Int32} {lo hi : Nat} (hn : lo < 2 ^ 31 ∧ hi < 2 ^ 31) (h : ¬ (x < nI lo ∨ ¬ x ≤ nI hi)) : ∃ j : Nat, lo ≤ j ∧ j ≤ hi ∧ x = nI j :=
  inRl_nat hn ⟨fun q => h (Or.inl q), fun q => h (Or.inr (Int32.not_le.mpr q))⟩
theorem i10 : ((1 : Int32) = 0) = False := eq_false (by decide)
theorem i20 : ((2 : Int32) = 0) = False := eq_false (by decide)
theorem i30 : ((3 : Int32) = 0) = False := eq_false (by decide)
abbrev inL (x lo hi : Int32) : Prop := ¬ x < lo ∧ ¬ hi < x
abbrev iN (x : Int32) : Nat := x.toNatClampNeg
def cdWrite (σ : zS) (x y : Int32) : Int32 := if inL x 0 15 then (if inL y 0 4095 then (if ptg σ (iN x) y = none then 3 else 0) else 2) else 1
def cdHammer (x y z : Int32) : Int32 := if inL x 0 15 then (if inL y 0 4095 then (if inL z 1 500 then 0 else 2) else 2) else 1
def cdPair (x y hi : Int32) : Int32 := if inL x 0 15 then (if inL y 0 hi then 0 else 1) else 1
def cdWear (σ : zS) (x y z : Int32) : Int32 := if inL x 0 17 then (if inL y 0 12 then (if inL z 1 999 then (if zwn σ (iN x * 13 + iN y) + z ≤ 99999 then 0 else 3) else 2) else 1) else 1
def cdSet (x y : Int32) : Int32 := if inL x 0 1 then (if iN x = 0 then (if inL y 1 999 then 0 else 2) else (if inL y 0 99 then 0 else 2)) else 1
def cdAppend (n : Nat) (x : Int32) : Int32 := if inL x 33 126 then (if n = 60 then 2 else 0) else 1
/-- two arguments: an index that is wrong is 1, another that is wrong is 2 -/
def cd12 (x xhi y yhi : Int32) : Int32 := if inL x 0 xhi then (if inL y 0 yhi then 0 else 2) else 1
def cd11 (x xhi y yhi : Int32) : Int32 := if inL x 0 xhi then (if inL y 0 yhi then 0 else 1) else 1
def cd1 (x xhi : Int32) : Int32 := if inL x 0 xhi then 0 else 1
def rWrite (μ : zM) (x y : Int32) : zM × Int32 :=
  if cdWrite (gS (mg μ)) x y = 0 then (mset_g (pSv (mset_th μ 0)) (pWst (mg μ) (iN x) (iN y)), pWres (mg μ) (iN x) (iN y))
  else (mset_th μ (cdWrite (gS (mg μ)) x y), 0)
def rHammer (μ : zM) (x y z : Int32) : zM × Int32 :=
  if cdHammer x y z = 0 then (mset_g (pSv (mset_th μ 0)) (pHam (iN x) (iN y) (iN z) 0 (mg μ)).1, nI (pHam (iN x) (iN y) (iN z) 0 (mg μ)).2)
  else (mset_th μ (cdHammer x y z), 0)
def pExch (g : Nat → Int32) (w v : Nat) : Nat → Int32 :=
  let g1 := upd g (259 + w) (g (259 + v))
  let g2 := upd g1 (259 + v) (g (259 + w))
  let g3 := upd g2 (275 + w) 0
  upd g3 (275 + v) 0
def rExch (μ : zM) (x y : Int32) : zM × Int32 :=
  if cd11 x 15 y 15 = 0 then (mset_g (pSv (mset_th μ 0)) (pExch (mg μ) (iN x) (iN y)), pExch (mg μ) (iN x) (iN y) (259 + iN x))
  else (mset_th μ (cd11 x 15 y 15), 0)
def rWear (μ : zM) (x y z : Int32) : zM × Int32 :=
  if cdWear (gS (mg μ)) x y z = 0 then (mset_g (pSv (mset_th μ 0)) (upd (mg μ) (25 + (iN x * 13 + iN y)) (mg μ (25 + (iN x * 13 + iN y)) + z)), mg μ (25 + (iN x * 13 + iN y)) + z)
  else (mset_th μ (cdWear (gS (mg μ)) x y z), 0)
def rSet (μ : zM) (x y : Int32) : zM × Int32 :=
  if cdSet x y = 0 then (mset_g (pSv (mset_th μ 0)) (upd (mg μ) (iN x) y), mg μ (iN x)) else (mset_th μ (cdSet x y), 0)
def rAppend (μ : zM) (x : Int32) : zM × Int32 :=
  if cdAppend (my μ) x = 0 then ((mg μ, mh μ, mp μ, va_up (mx μ) (my μ) (iN x), mt μ, mk μ, my μ + 1, 0, mat μ, mfl μ, mva μ, mtn μ), nI (my μ + 1)) else (mset_th μ (cdAppend (my μ) x), 0)
def rUndo (μ : zM) : zM × Int32 :=
  if mk μ = 0 then (mset_th μ 1, 0) else ((fun j => mp μ (323 * (mk μ - 1) + j), mh μ, mp μ, mx μ, mt μ, mk μ - 1, my μ, 0, mat μ, mfl μ, mva μ, mtn μ), nI (mk μ - 1))
theorem gok_cong {f g : Nat → Int32} (h : gok f) (e : ∀ k, k < 323 → g k = f k) : gok g := by
  intro w hw
  have e1 := e (259 + w) (by omega)
  show (g (259 + w)).toNatClampNeg < 18 ∧ g (259 + w) = nI ((g (259 + w)).toNatClampNeg)
  rw [e1]
  exact h w hw
theorem gbt_cong {f g : Nat → Int32} (h : gbt f) (e : ∀ k, k < 323 → g k = f k) : gbt g := by
  intro w hw
  rw [e (7 + w) (by omega)]
  exact h w hw
