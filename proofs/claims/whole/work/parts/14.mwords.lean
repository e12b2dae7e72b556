/-! more words: a word's and a slot's properties, counts, the dearest number, shares -/
def vWord (σ : zS) (w : Nat) : Nat → Int32
  | 0 => nI (zpl σ w)
  | 1 => zwh σ w
  | 2 => zwo σ w
  | 3 => zmo σ w
  | _ => if pht σ w then 1 else 0
def vSlot (σ : zS) (k : Nat) : Nat → Int32
  | 0 => zwi σ k
  | 1 => zhd σ k &&& 4095
  | 2 => if zhd σ k &&& 4096 = 0 then 0 else 1
  | 3 => pwr σ k
  | 4 => pst σ k
  | _ => pMost (fun c => zwn σ (k * 13 + c)) 13
def vCount (σ : zS) (hn : Nat) : Nat → Int32
  | 0 => zc0 σ
  | 1 => zc1 σ
  | 2 => zc2 σ
  | 3 => zc3 σ
  | 4 => zc4 σ
  | 5 => pSum (fun k => pBC (pst σ k)) 18
  | 6 => zo (pfr σ)
  | 7 => pSum (fun w => if pht σ w then 1 else 0) 16
  | 8 => pSum (pnm σ) 16
  | _ => nI hn
theorem vWord_R {g : Nat → Int32} {w q : Nat} (h : gok g) (hw : w < 16) (hq : q < 4) : g (259 + 16 * q + w) = vWord (gS g) w q := by
  match q, hq with
  | 0, _ => rw [show 259 + 16 * 0 + w = 259 + w by omega]; exact (h w hw).2
  | 1, _ => rw [show 259 + 16 * 1 + w = 275 + w by omega]; rfl
  | 2, _ => rw [show 259 + 16 * 2 + w = 291 + w by omega]; rfl
  | 3, _ => rw [show 259 + 16 * 3 + w = 307 + w by omega]; rfl
theorem vWord_4 {σ : zS} {w : Nat} : vWord σ w 4 = if pht σ w then 1 else 0 := rfl
theorem vCount_lo {g : Nat → Int32} {hn q : Nat} (hq : q < 5) : g (2 + q) = vCount (gS g) hn q := by
  match q, hq with
  | 0, _ => rfl
  | 1, _ => rfl
  | 2, _ => rfl
  | 3, _ => rfl
  | 4, _ => rfl
theorem z13_div {x : Int32} (h : z13 x) : x / 4096 = if x &&& 4096 = 0 then 0 else 1 := by
  obtain ⟨n, hn, rfl⟩ := h
  have t : (List.range 8192).all (fun n => decide (nI n / 4096 = if nI n &&& 4096 = 0 then 0 else 1)) = true := by decide +kernel
  exact of_decide_eq_true (z_all t hn)
/-- the dearest of the first n numbers, the lowest of several, and what it costs -/
def pDr (f : Nat → Int32) : Nat → Option Nat × Int32
  | 0 => (none, -1)
  | n + 1 => if f n ≤ (pDr f n).2 then pDr f n else (some n, f n)
abbrev pdr (σ : zS) (k : Nat) : Int32 := zo (pDr (fun v => pCost (zhd σ k) (nI v) (pst σ k)) 4096).1
theorem pDr_lt {f : Nat → Int32} : ∀ {n k : Nat}, (pDr f n).1 = some k → k < n
  | 0, k, h => by cases h
  | n + 1, k, h => by
    unfold pDr at h
    split at h
    · have := pDr_lt h; omega
    · cases h; omega
def pShare (a b : Int32) : UInt64 := if b = 0 then FP.dconst1 else FP.ddiv (FP.i2d a) (FP.i2d b)
def rRead (μ : zM) (x : Int32) : zM × Int32 := (mset_th μ (cd1 x 15), if cd1 x 15 = 0 then pnm (gS (mg μ)) (iN x) else 0)
def rWord (μ : zM) (x y : Int32) : zM × Int32 := (mset_th μ (cd12 x 15 y 4), if cd12 x 15 y 4 = 0 then vWord (gS (mg μ)) (iN x) (iN y) else 0)
def rSlot (μ : zM) (x y : Int32) : zM × Int32 := (mset_th μ (cd12 x 17 y 5), if cd12 x 17 y 5 = 0 then vSlot (gS (mg μ)) (iN x) (iN y) else 0)
def rWearOf (μ : zM) (x y : Int32) : zM × Int32 := (mset_th μ (cd11 x 17 y 12), if cd11 x 17 y 12 = 0 then mg μ (25 + (iN x * 13 + iN y)) else 0)
def rCount (μ : zM) (x : Int32) : zM × Int32 := (mset_th μ (cd1 x 9), if cd1 x 9 = 0 then vCount (gS (mg μ)) (mk μ) (iN x) else 0)
def rSetting (μ : zM) (x : Int32) : zM × Int32 := (mset_th μ (cd1 x 1), if cd1 x 1 = 0 then mg μ (iN x) else 0)
def rCost (μ : zM) (x y : Int32) : zM × Int32 := (mset_th μ (cd12 x 17 y 4095), if cd12 x 17 y 4095 = 0 then pCost (mg μ (7 + iN x)) (nI (iN y)) (pst (gS (mg μ)) (iN x)) else 0)
def rIfW (μ : zM) (x y : Int32) : zM × Int32 := (mset_th μ (cd12 x 15 y 4095), if cd12 x 15 y 4095 = 0 then zo (ptg (gS (mg μ)) (iN x) (nI (iN y))) else 0)
def rDear (μ : zM) (x : Int32) : zM × Int32 := (mset_th μ (cd1 x 15), if cd1 x 15 = 0 then pdr (gS (mg μ)) (zpl (gS (mg μ)) (iN x)) else 0)
def rLife (μ : zM) (x y : Int32) : zM × Int32 := if cd12 x 15 y 4095 = 0 then (mset_h (mset_th μ 0) (pHam (iN x) (iN y) 500 0 (mg μ)).1, nI (pHam (iN x) (iN y) 500 0 (mg μ)).2) else (mset_th μ (cd12 x 15 y 4095), 0)
def rClear (μ : zM) : zM × Int32 := ((mg μ, mh μ, mp μ, mx μ, mt μ, mk μ, 0, 0, mat μ, mfl μ, mva μ, mtn μ), nI (my μ))
theorem shl_t : (List.range 13).all (fun n => decide ((1 : Int32) <<< (nI n &&& 31) = nI (2 ^ n))) = true := by decide +kernel
theorem pStuck_b {f : Nat → Int32} {b : Int32} : ∀ {n : Nat}, n ≤ 13 → ∃ m, m < 2 ^ n ∧ pStuck f b n = nI m
  | 0, _ => ⟨0, by decide, rfl⟩
  | n + 1, hn => by
    obtain ⟨m, hm, e⟩ := pStuck_b (f := f) (b := b) (n := n) (by omega)
    have h2 : 2 ^ n < 2 ^ (n + 1) := Nat.pow_lt_pow_right (by decide) (Nat.lt_succ_self n)
    unfold pStuck
    split
    · exact ⟨m, Nat.lt_trans hm h2, e⟩
    · refine ⟨m ||| 2 ^ n, Nat.or_lt_two_pow (Nat.lt_trans hm h2) h2, ?_⟩
      rw [e, of_decide_eq_true (z_all shl_t (show n < 13 by omega)), z_or]
theorem pStuck_13 {f : Nat → Int32} {b : Int32} : z13 (pStuck f b 13) := pStuck_b (Nat.le_refl _)
