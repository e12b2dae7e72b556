/-! the class against the reference, call by call -/
section RM
variable {B : Nat} {κ : zK} {μ : zM}
theorem rel_if {c : Int32} {A : zM × Int32} {s : zK × Int32} (h : kRel B κ μ) (hm : mth A.1 = 0) (k : c = 0 → s.2 = A.2 ∧ kRel (B + 6500) s.1 A.1) :
    c = mth (if c = 0 then A else (mset_th μ c, 0)).1 ∧ (c = 0 → s.2 = (if c = 0 then A else (mset_th μ c, 0)).2) ∧ kRel (B + 6500) (if c = 0 then s.1 else κ) (if c = 0 then A else (mset_th μ c, 0)).1 := by
  by_cases q : c = 0
  · rw [if_pos q, if_pos q]
    exact ⟨q.trans hm.symm, fun _ => (k q).1, (k q).2⟩
  · rw [if_neg q, if_neg q]
    exact ⟨rfl, fun z => absurd z q, h.same c⟩
def sHammer (κ : zK) (x y z : Int32) : zK × Int32 := (uKeep κ (pTurns (iN x) (iN z) (uS κ) y).1, nI (pTurns (iN x) (iN z) (uS κ) y).2)
theorem cdHammer_0 {x y z : Int32} (h : cdHammer x y z = 0) : inL x 0 15 ∧ inL y 0 4095 ∧ inL z 1 500 := by
  unfold cdHammer at h
  by_cases q1 : inL x 0 15
  · rw [if_pos q1] at h
    by_cases q2 : inL y 0 4095
    · rw [if_pos q2] at h
      by_cases q3 : inL z 1 500
      · exact ⟨q1, q2, q3⟩
      · rw [if_neg q3] at h; exact absurd h (by decide)
    · rw [if_neg q2] at h; exact absurd h (by decide)
  · rw [if_neg q1] at h; exact absurd h (by decide)
theorem rel_Hammer (h : kRel B κ μ) (x y z : Int32) : cdHammer x y z = mth (rHammer μ x y z).1 ∧ (cdHammer x y z = 0 → (sHammer κ x y z).2 = (rHammer μ x y z).2) ∧ kRel (B + 6500) (if cdHammer x y z = 0 then (sHammer κ x y z).1 else κ) (rHammer μ x y z).1 := by
  unfold rHammer
  refine rel_if h rfl (fun q => ?_)
  obtain ⟨hx, hy, hz⟩ := cdHammer_0 q
  obtain ⟨hw, ex⟩ := in_15 hx
  obtain ⟨-, hv, ey⟩ := in_b (lo := 0) (hi := 4095) (by decide) hy
  obtain ⟨-, hb, ez⟩ := in_b (lo := 1) (hi := 500) (by decide) hz
  have hr := rel_turns (w := iN x) (v := iN y) hw (by omega) (k := iN z) (c := 0) h.se h.al
  rw [show pAlt (iN y) 0 = iN y from if_pos rfl, ← ey] at hr
  exact ⟨congrArg nI hr.2.1, h.keep hr.1 (gAll_mono hr.2.2 (by omega))⟩
/-! exchange -/
def psw (w v x : Nat) : Nat := if x = v then w else if x = w then v else x
theorem psw_lt {w v x : Nat} (hw : w < 16) (hv : v < 16) (hx : x < 16) : psw w v x < 16 := by
  unfold psw
  split
  · exact hw
  · split
    · exact hv
    · exact hx
theorem psw_inj {w v a b : Nat} (q : psw w v a = psw w v b) : a = b := by
  unfold psw at q
  repeat' split at q
  all_goals omega
theorem pEx_at (g : Nat → Int32) (w v k : Nat) : pExch g w v k = if k = 275 + v then 0 else if k = 275 + w then 0 else if k = 259 + v then g (259 + w) else if k = 259 + w then g (259 + v) else g k := rfl
theorem pEx_o {g : Nat → Int32} {w v k : Nat} (hw : w < 16) (hv : v < 16) (h : k < 259 ∨ 291 ≤ k) : pExch g w v k = g k := by
  rw [pEx_at, if_neg (by omega), if_neg (by omega), if_neg (by omega), if_neg (by omega)]
theorem pEx_p {g : Nat → Int32} {w v x : Nat} (hx : x < 16) : pExch g w v (259 + x) = g (259 + psw w v x) := by
  rw [pEx_at, if_neg (by omega), if_neg (by omega)]
  unfold psw
  by_cases q1 : x = v
  · rw [if_pos (by omega), if_pos q1]
  · rw [if_neg (by omega), if_neg q1]
    by_cases q2 : x = w
    · rw [if_pos (by omega), if_pos q2]
    · rw [if_neg (by omega), if_neg q2]
theorem pEx_h {g : Nat → Int32} {w v x : Nat} (hx : x < 16) (hw : w < 16) (hv : v < 16) : pExch g w v (275 + x) = upd (upd (fun x => g (275 + x)) w 0) v 0 x := by
  rw [pEx_at]
  unfold upd
  by_cases q1 : x = v
  · rw [if_pos (by omega), if_pos q1]
  · rw [if_neg (by omega), if_neg q1]
    by_cases q2 : x = w
    · rw [if_pos (by omega), if_pos q2]
    · rw [if_neg (by omega), if_neg q2, if_neg (by omega), if_neg (by omega)]
theorem gAll_exch {g : Nat → Int32} {w v : Nat} (h : gAll B g) (hw : w < 16) (hv : v < 16) : gAll B (pExch g w v) := by
  refine ⟨fun x hx => ?_, fun k hk => ?_, fun x y hx hy q => ?_, ?_⟩
  · show (pExch g w v (259 + x)).toNatClampNeg < 18 ∧ pExch g w v (259 + x) = nI (pExch g w v (259 + x)).toNatClampNeg
    rw [pEx_p hx]
    exact h.1 _ (psw_lt hw hv hx)
  · rw [pEx_o hw hv (by omega)]
    exact h.2.1 k hk
  · rw [pEx_p hx, pEx_p hy] at q
    exact psw_inj (h.2.2.1 _ _ (psw_lt hw hv hx) (psw_lt hw hv hy) q)
  · obtain ⟨a, b, ha, hb, h3, h4⟩ := h.2.2.2
    exact ⟨a, b, ha, hb, by rw [pEx_o hw hv (by omega)]; exact h3, by rw [pEx_o hw hv (by omega)]; exact h4⟩
theorem wi_swap {f : Nat → Int32} {p : Nat → Nat} {w v k : Nat} (hw : w < 16) (hv : v < 16) (hk : k < 18) (hp : ∀ x, x < 16 → p x < 18 ∧ f x = nI (p x)) (hi : ∀ a b, a < 16 → b < 16 → f a = f b → a = b) :
    zo (pWo (fun x => f (psw w v x)) k 16) = upd (upd (fun k => zo (pWo f k 16)) (p v) (nI w)) (p w) (nI v) k := by
  have hin : ∀ a b, a < 16 → b < 16 → f (psw w v a) = f (psw w v b) → a = b := fun a b ha hb q => psw_inj (hi _ _ (psw_lt hw hv ha) (psw_lt hw hv hb) q)
  have e0 : ∀ a b : Nat, a < 18 → b < 18 → nI a = nI b → a = b := fun a b ha hb q => (nI_eq (by omega) (by omega)).mp q
  have s1 : psw w v v = w := if_pos rfl
  have s2 : psw w v w = v := by
    unfold psw
    by_cases q : w = v
    · rw [if_pos q]; exact q
    · rw [if_neg q, if_pos rfl]
  unfold upd
  by_cases k1 : k = p w
  · rw [if_pos k1, pWo_some (x := v) hv (by show f (psw w v v) = nI k; rw [s1, k1]; exact (hp w hw).2) hin]
    rfl
  · rw [if_neg k1]
    by_cases k2 : k = p v
    · rw [if_pos k2, pWo_some (x := w) hw (by show f (psw w v w) = nI k; rw [s2, k2]; exact (hp v hv).2) hin]
      rfl
    · rw [if_neg k2]
      refine congrArg zo (pWo_iff (fun x hx => ?_))
      unfold psw
      by_cases q1 : x = v
      · rw [if_pos q1, q1, (hp w hw).2, (hp v hv).2]
        exact ⟨fun z => absurd (e0 _ _ (hp w hw).1 hk z).symm k1, fun z => absurd (e0 _ _ (hp v hv).1 hk z).symm k2⟩
      · rw [if_neg q1]
        by_cases q2 : x = w
        · rw [if_pos q2, q2, (hp w hw).2, (hp v hv).2]
          exact ⟨fun z => absurd (e0 _ _ (hp v hv).1 hk z).symm k2, fun z => absurd (e0 _ _ (hp w hw).1 hk z).symm k1⟩
        · rw [if_neg q2]
theorem va_sw {p : Nat → Nat} {w v x : Nat} : va_up (va_up p w (p v)) v (p w) x = p (psw w v x) := by
  unfold va_up psw
  by_cases q1 : x = v
  · rw [if_pos q1, if_pos q1]
  · rw [if_neg q1, if_neg q1]
    by_cases q2 : x = w
    · rw [if_pos q2, if_pos q2]
    · rw [if_neg q2, if_neg q2]
theorem rel_swap {g : Nat → Int32} {w v : Nat} {σ : zS} (h : sEq σ (gS g)) (ha : gAll B g) (hw : w < 16) (hv : v < 16) : sEq (pSwap σ w v) (gS (pExch g w v)) := by
  have s1 : psw w v v = w := if_pos rfl
  have s2 : psw w v w = v := by
    unfold psw
    by_cases q : w = v
    · rw [if_pos q]; exact q
    · rw [if_neg q, if_pos rfl]
  refine ⟨⟨fun k hk => ?_, fun k hk => ?_, fun k hk => ?_, fun x hx => ?_⟩, ⟨fun x hx => ?_, fun x hx => ?_, fun x hx => ?_, fun k hk => ?_⟩, ?_, ?_, ?_, ?_, ?_⟩
  · exact (h.hd hk).trans (pEx_o (k := 7 + k) hw hv (by omega)).symm
  · exact (h.wn hk).trans (pEx_o (k := 25 + k) hw hv (by omega)).symm
  · show upd (upd (zwi σ) (va_up (va_up (zpl σ) w (zpl σ v)) v (zpl σ w) w) (nI w)) (va_up (va_up (zpl σ) w (zpl σ v)) v (zpl σ w) v) (nI v) k = zo (pWo (fun x => pExch g w v (259 + x)) k 16)
    rw [va_sw, va_sw, s1, s2, h.pl hw, h.pl hv, pWo_iff (f := fun x => pExch g w v (259 + x)) (g := fun x => (fun x => g (259 + x)) (psw w v x)) (fun x hx => by rw [pEx_p hx]), wi_swap (f := fun x => g (259 + x)) (p := gpl g) hw hv hk (fun x hx => ha.1 x hx) ha.2.2.1]
    exact upd_cg (n := 18) (upd_cg (n := 18) (fun k hk => h.wi hk) rfl) rfl k hk
  · show va_up (va_up (zpl σ) w (zpl σ v)) v (zpl σ w) x = (pExch g w v (259 + x)).toNatClampNeg
    rw [va_sw, pEx_p hx]
    exact h.pl (psw_lt hw hv hx)
  · show upd (upd (zwh σ) w 0) v 0 x = pExch g w v (275 + x)
    rw [pEx_h hx hw hv]
    exact upd_cg (n := 16) (upd_cg (n := 16) (fun k hk => h.wh hk) rfl) rfl x hx
  · exact (h.wo hx).trans (pEx_o (k := 291 + x) hw hv (by omega)).symm
  · exact (h.mo hx).trans (pEx_o (k := 307 + x) hw hv (by omega)).symm
  · exact (h.st hk).trans (pEx_o (k := k) hw hv (by omega)).symm
  · exact h.c0.trans (pEx_o (k := 2) hw hv (by omega)).symm
  · exact h.c1.trans (pEx_o (k := 3) hw hv (by omega)).symm
  · exact h.c2.trans (pEx_o (k := 4) hw hv (by omega)).symm
  · exact h.c3.trans (pEx_o (k := 5) hw hv (by omega)).symm
  · exact h.c4.trans (pEx_o (k := 6) hw hv (by omega)).symm
def sExch (κ : zK) (x y : Int32) : zK × Int32 := (uKeep κ (pSwap (uS κ) (iN x) (iN y)), nI (zpl (pSwap (uS κ) (iN x) (iN y)) (iN x)))
theorem cd11_0 {x y hx hy : Int32} (h : cd11 x hx y hy = 0) : inL x 0 hx ∧ inL y 0 hy := by
  unfold cd11 at h
  by_cases q1 : inL x 0 hx
  · rw [if_pos q1] at h
    by_cases q2 : inL y 0 hy
    · exact ⟨q1, q2⟩
    · rw [if_neg q2] at h; exact absurd h (by decide)
  · rw [if_neg q1] at h; exact absurd h (by decide)
theorem cd12_0 {x y hx hy : Int32} (h : cd12 x hx y hy = 0) : inL x 0 hx ∧ inL y 0 hy := by
  unfold cd12 at h
  by_cases q1 : inL x 0 hx
  · rw [if_pos q1] at h
    by_cases q2 : inL y 0 hy
    · exact ⟨q1, q2⟩
    · rw [if_neg q2] at h; exact absurd h (by decide)
  · rw [if_neg q1] at h; exact absurd h (by decide)
theorem cd1_0 {x hx : Int32} (h : cd1 x hx = 0) : inL x 0 hx := by
  unfold cd1 at h
  by_cases q1 : inL x 0 hx
  · exact q1
  · rw [if_neg q1] at h; exact absurd h (by decide)
theorem rel_Exch (h : kRel B κ μ) (x y : Int32) : cd11 x 15 y 15 = mth (rExch μ x y).1 ∧ (cd11 x 15 y 15 = 0 → (sExch κ x y).2 = (rExch μ x y).2) ∧ kRel (B + 6500) (if cd11 x 15 y 15 = 0 then (sExch κ x y).1 else κ) (rExch μ x y).1 := by
  unfold rExch
  refine rel_if h rfl (fun q => ?_)
  obtain ⟨hx, hy⟩ := cd11_0 q
  obtain ⟨hw, ex⟩ := in_15 hx
  obtain ⟨hv, ey⟩ := in_15 hy
  have hr := rel_swap h.se h.al hw hv
  have ha := gAll_exch h.al hw hv
  refine ⟨?_, h.keep hr (gAll_mono ha (by omega))⟩
  show nI (zpl (pSwap (uS κ) (iN x) (iN y)) (iN x)) = pExch (mg μ) (iN x) (iN y) (259 + iN x)
  rw [hr.pl hw]
  exact (ha.1 _ hw).2.symm
/-! wear, settings -/
def sWear (κ : zK) (x y z : Int32) : zK × Int32 := (uKeep κ (zhd (uS κ), upd (zwn (uS κ)) (iN x * 13 + iN y) (zwn (uS κ) (iN x * 13 + iN y) + z), zwi (uS κ), zpl (uS κ), zwh (uS κ), zwo (uS κ), zmo (uS κ), zst (uS κ), zc0 (uS κ), zc1 (uS κ), zc2 (uS κ), zc3 (uS κ), zc4 (uS κ)), zwn (uS κ) (iN x * 13 + iN y) + z)
theorem cdWear_0 {σ : zS} {x y z : Int32} (h : cdWear σ x y z = 0) : inL x 0 17 ∧ inL y 0 12 ∧ inL z 1 999 ∧ zwn σ (iN x * 13 + iN y) + z ≤ 99999 := by
  unfold cdWear at h
  by_cases q1 : inL x 0 17
  · rw [if_pos q1] at h
    by_cases q2 : inL y 0 12
    · rw [if_pos q2] at h
      by_cases q3 : inL z 1 999
      · rw [if_pos q3] at h
        by_cases q4 : zwn σ (iN x * 13 + iN y) + z ≤ 99999
        · exact ⟨q1, q2, q3, q4⟩
        · rw [if_neg q4] at h; exact absurd h (by decide)
      · rw [if_neg q3] at h; exact absurd h (by decide)
    · rw [if_neg q2] at h; exact absurd h (by decide)
  · rw [if_neg q1] at h; exact absurd h (by decide)
theorem in_17 {x : Int32} (h : inL x 0 17) : iN x < 18 ∧ x = nI (iN x) := by
  have := in_b (lo := 0) (hi := 17) (by decide) h
  exact ⟨by omega, this.2.2⟩
theorem in_12 {x : Int32} (h : inL x 0 12) : iN x < 13 ∧ x = nI (iN x) := by
  have := in_b (lo := 0) (hi := 12) (by decide) h
  exact ⟨by omega, this.2.2⟩
theorem cdWear_cg {σ τ : zS} (h : sEq σ τ) (x y z : Int32) : cdWear σ x y z = cdWear τ x y z := by
  unfold cdWear
  by_cases q1 : inL x 0 17
  · rw [if_pos q1, if_pos q1]
    by_cases q2 : inL y 0 12
    · have a := (in_17 q1).1
      have b := (in_12 q2).1
      rw [if_pos q2, if_pos q2, h.wn (k := iN x * 13 + iN y) (by omega)]
    · rw [if_neg q2, if_neg q2]
  · rw [if_neg q1, if_neg q1]
theorem gAll_wn {g : Nat → Int32} {k : Nat} {y : Int32} (h : gAll B g) (hk : k < 2 ∨ 25 ≤ k ∧ k < 259) : gAll B (upd g k y) := by
  refine ⟨gok_upd h.1 (by omega), gbt_upd h.2.1 (by omega), fun a b ha hb q => ?_, ?_⟩
  · rw [upd_o (by omega), upd_o (by omega)] at q
    exact h.2.2.1 a b ha hb q
  · obtain ⟨a, b, ha, hb, h3, h4⟩ := h.2.2.2
    exact ⟨a, b, ha, hb, by rw [upd_o (by omega)]; exact h3, by rw [upd_o (by omega)]; exact h4⟩
theorem rel_Wear (h : kRel B κ μ) (x y z : Int32) : cdWear (uS κ) x y z = mth (rWear μ x y z).1 ∧ (cdWear (uS κ) x y z = 0 → (sWear κ x y z).2 = (rWear μ x y z).2) ∧ kRel (B + 6500) (if cdWear (uS κ) x y z = 0 then (sWear κ x y z).1 else κ) (rWear μ x y z).1 := by
  have e := cdWear_cg h.se x y z
  unfold rWear
  rw [e]
  refine rel_if h rfl (fun q => ?_)
  obtain ⟨hx, hy, hz, -⟩ := cdWear_0 q
  obtain ⟨hw, ex⟩ := in_17 hx
  obtain ⟨hv, ey⟩ := in_12 hy
  have e1 : zwn (uS κ) (iN x * 13 + iN y) = mg μ (25 + (iN x * 13 + iN y)) := h.se.wn (by omega)
  refine ⟨congrArg (· + z) e1, h.keep ?_ (gAll_mono (gAll_wn h.al (by omega)) (by omega))⟩
  rw [e1]
  have hk : iN x * 13 + iN y < 234 := by omega
  clear e1 q hx hy hz hw hv ex ey e
  have hs := h.se
  generalize iN x * 13 + iN y = k at hk ⊢
  refine ⟨⟨fun j hj => ?_, fun j hj => ?_, fun j hj => ?_, fun j hj => ?_⟩, ⟨fun j hj => ?_, fun j hj => ?_, fun j hj => ?_, fun j hj => ?_⟩, ?_, ?_, ?_, ?_, ?_⟩
  · exact (hs.hd hj).trans (upd_o (i := 7 + j) (by omega)).symm
  · show upd (zwn (uS κ)) k (mg μ (25 + k) + z) j = upd (mg μ) (25 + k) (mg μ (25 + k) + z) (25 + j)
    unfold upd
    by_cases q : j = k
    · rw [if_pos q, if_pos (by omega)]
    · rw [if_neg q, if_neg (by omega)]
      exact hs.wn hj
  · refine (hs.wi hj).trans (congrArg zo (pWo_iff (fun x hx => ?_)))
    show _ ↔ upd (mg μ) (25 + k) (mg μ (25 + k) + z) (259 + x) = nI j
    rw [upd_o (by omega)]
  · refine (hs.pl hj).trans ?_
    show _ = (upd (mg μ) (25 + k) (mg μ (25 + k) + z) (259 + j)).toNatClampNeg
    rw [upd_o (by omega)]
  · exact (hs.wh hj).trans (upd_o (i := 275 + j) (by omega)).symm
  · exact (hs.wo hj).trans (upd_o (i := 291 + j) (by omega)).symm
  · exact (hs.mo hj).trans (upd_o (i := 307 + j) (by omega)).symm
  · exact (hs.st hj).trans (upd_o (i := j) (by omega)).symm
  · exact hs.c0.trans (upd_o (i := 2) (by omega)).symm
  · exact hs.c1.trans (upd_o (i := 3) (by omega)).symm
  · exact hs.c2.trans (upd_o (i := 4) (by omega)).symm
  · exact hs.c3.trans (upd_o (i := 5) (by omega)).symm
  · exact hs.c4.trans (upd_o (i := 6) (by omega)).symm
def sSet (κ : zK) (x y : Int32) : zK × Int32 := (uKeep κ (zhd (uS κ), zwn (uS κ), zwi (uS κ), zpl (uS κ), zwh (uS κ), zwo (uS κ), zmo (uS κ), upd (zst (uS κ)) (iN x) y, zc0 (uS κ), zc1 (uS κ), zc2 (uS κ), zc3 (uS κ), zc4 (uS κ)), zst (uS κ) (iN x))
theorem in_1 {x : Int32} (h : inL x 0 1) : iN x < 2 ∧ x = nI (iN x) := by
  have := in_b (lo := 0) (hi := 1) (by decide) h
  exact ⟨by omega, this.2.2⟩
theorem cdSet_0 {x y : Int32} (h : cdSet x y = 0) : inL x 0 1 ∧ ¬ (if iN x = 0 then (y < 1 ∨ ¬ y ≤ 999) else (y < 0 ∨ ¬ y ≤ 99)) := by
  unfold cdSet at h
  by_cases q1 : inL x 0 1
  · rw [if_pos q1] at h
    refine ⟨q1, ?_⟩
    by_cases q2 : iN x = 0
    · rw [if_pos q2] at h ⊢
      by_cases q3 : inL y 1 999
      · exact fun z => z.elim q3.1 (fun w => w (Int32.not_lt.mp q3.2))
      · rw [if_neg q3] at h; exact absurd h (by decide)
    · rw [if_neg q2] at h ⊢
      by_cases q3 : inL y 0 99
      · exact fun z => z.elim q3.1 (fun w => w (Int32.not_lt.mp q3.2))
      · rw [if_neg q3] at h; exact absurd h (by decide)
  · rw [if_neg q1] at h; exact absurd h (by decide)
theorem rel_Set (h : kRel B κ μ) (x y : Int32) : cdSet x y = mth (rSet μ x y).1 ∧ (cdSet x y = 0 → (sSet κ x y).2 = (rSet μ x y).2) ∧ kRel (B + 6500) (if cdSet x y = 0 then (sSet κ x y).1 else κ) (rSet μ x y).1 := by
  unfold rSet
  refine rel_if h rfl (fun q => ?_)
  obtain ⟨hx, -⟩ := cdSet_0 q
  obtain ⟨hk, ex⟩ := in_1 hx
  have hs := h.se
  refine ⟨hs.st hk, h.keep ?_ (gAll_mono (gAll_wn h.al (by omega)) (by omega))⟩
  clear ex hx q
  generalize iN x = k at hk ⊢
  refine ⟨⟨fun j hj => ?_, fun j hj => ?_, fun j hj => ?_, fun j hj => ?_⟩, ⟨fun j hj => ?_, fun j hj => ?_, fun j hj => ?_, fun j hj => ?_⟩, ?_, ?_, ?_, ?_, ?_⟩
  · exact (hs.hd hj).trans (upd_o (i := 7 + j) (by omega)).symm
  · exact (hs.wn hj).trans (upd_o (i := 25 + j) (by omega)).symm
  · refine (hs.wi hj).trans (congrArg zo (pWo_iff (fun x hx => ?_)))
    show _ ↔ upd (mg μ) k y (259 + x) = nI j
    rw [upd_o (by omega)]
  · refine (hs.pl hj).trans ?_
    show _ = (upd (mg μ) k y (259 + j)).toNatClampNeg
    rw [upd_o (by omega)]
  · exact (hs.wh hj).trans (upd_o (i := 275 + j) (by omega)).symm
  · exact (hs.wo hj).trans (upd_o (i := 291 + j) (by omega)).symm
  · exact (hs.mo hj).trans (upd_o (i := 307 + j) (by omega)).symm
  · exact upd_cg (n := 2) (fun k hk => hs.st hk) rfl j hj
  · exact hs.c0.trans (upd_o (i := 2) (by omega)).symm
  · exact hs.c1.trans (upd_o (i := 3) (by omega)).symm
  · exact hs.c2.trans (upd_o (i := 4) (by omega)).symm
  · exact hs.c3.trans (upd_o (i := 5) (by omega)).symm
  · exact hs.c4.trans (upd_o (i := 6) (by omega)).symm
/-! the text -/
abbrev uText (κ : zK) (ω : zT) : zK := (uS κ, uA κ, uo κ, un κ, uh κ, ω)
abbrev tAdd (ω : zT) (b : Nat) : zT := (va_up (tx ω) (tl ω) b, tl ω + 1, tw ω, tn ω, tc ω, ts ω, td ω)
def sAppend (κ : zK) (x : Int32) : zK × Int32 := (uText κ (tAdd (ut κ) (iN x)), nI (tl (ut κ) + 1))
theorem cdAppend_0 {n : Nat} {x : Int32} (h : cdAppend n x = 0) : 33 ≤ iN x ∧ iN x ≤ 126 ∧ x = nI (iN x) ∧ n ≠ 60 := by
  unfold cdAppend at h
  by_cases q1 : inL x 33 126
  · rw [if_pos q1] at h
    by_cases q2 : n = 60
    · rw [if_pos q2] at h; exact absurd h (by decide)
    · have := in_b (lo := 33) (hi := 126) (by decide) q1
      exact ⟨this.1, this.2.1, this.2.2, q2⟩
  · rw [if_neg q1] at h; exact absurd h (by decide)
theorem rel_Append (h : kRel B κ μ) (x : Int32) : cdAppend (tl (ut κ)) x = mth (rAppend μ x).1 ∧ (cdAppend (tl (ut κ)) x = 0 → (sAppend κ x).2 = (rAppend μ x).2) ∧ kRel (B + 6500) (if cdAppend (tl (ut κ)) x = 0 then (sAppend κ x).1 else κ) (rAppend μ x).1 := by
  have ht := h.tt
  unfold rAppend
  rw [ht.2.1]
  refine rel_if h rfl (fun q => ?_)
  obtain ⟨h1, h2, -, h3⟩ := cdAppend_0 q
  have hm := h.mono (C := B + 6500) (by omega)
  refine ⟨by show nI (tl (ut κ) + 1) = nI (my μ + 1); rw [ht.2.1], hm.se, hm.al, hm.o6, hm.nk, hm.k6, hm.hh, ?_, ?_, ?_, ?_⟩
  · show va_up (tx (ut κ)) (tl (ut κ)) (iN x) = va_up (mx μ) (my μ) (iN x)
    rw [ht.1, ht.2.1]
  · show tl (ut κ) + 1 = my μ + 1
    rw [ht.2.1]
  · show my μ + 1 ≤ 60
    have := ht.2.2.1
    omega
  · intro i hi
    show va_up (mx μ) (my μ) (iN x) i < 128
    have hi' : i < my μ + 1 := hi
    unfold va_up
    by_cases q : i = my μ
    · rw [if_pos q]; omega
    · rw [if_neg q]; exact ht.2.2.2 i (by omega)
abbrev tNone (ω : zT) : zT := (tx ω, 0, tw ω, tn ω, tc ω, ts ω, td ω)
def sClear (κ : zK) : zK × Int32 := (uText κ (tNone (ut κ)), nI (tl (ut κ)))
theorem rel_Clear (h : kRel B κ μ) : (sClear κ).2 = (rClear μ).2 ∧ kRel (B + 6500) (sClear κ).1 (rClear μ).1 := by
  have hm := h.mono (C := B + 6500) (by omega)
  have ht := h.tt
  exact ⟨congrArg nI ht.2.1, hm.se, hm.al, hm.o6, hm.nk, hm.k6, hm.hh, ht.1, rfl, Nat.zero_le _, fun i hi => absurd hi (Nat.not_lt_zero _)⟩
def sFirst (κ : zK) : zK × Int32 := (uText κ (pParse (ut κ)).2, nI (pParse (ut κ)).1)
theorem tRel.f (h : tRel (ut κ) (mx μ) (my μ)) : ∀ i, i < tl (ut κ) → tx (ut κ) i < 128 := by
  rw [h.1, h.2.1]
  exact h.2.2.2
theorem tRel.parse (h : tRel (ut κ) (mx μ) (my μ)) : tRel (pParse (ut κ)).2 (mx μ) (my μ) := by
  have := pParse_f (tRel.f (κ := κ) (μ := μ) h)
  exact ⟨this.2.1.trans h.1, this.2.2.1.trans h.2.1, h.2.2⟩
theorem rel_First (h : kRel B κ μ) : (sFirst κ).2 = (rFirst μ).2 ∧ kRel (B + 6500) (sFirst κ).1 (rFirst μ).1 := by
  have hm := h.mono (C := B + 6500) (by omega)
  exact ⟨(parse_rel h.tt.1 h.tt.2.1).2.1.symm, hm.se, hm.al, hm.o6, hm.nk, hm.k6, hm.hh, tRel.parse h.tt⟩
def cdUndo (n : Nat) : Int32 := if n = 0 then 1 else 0
def sUndo (κ : zK) : zK × Int32 := ((uh κ ((uo κ + un κ - 1) % 6), uA κ, uo κ, un κ - 1, uh κ, ut κ), nI (un κ - 1))
theorem rel_Undo (h : kRel B κ μ) : cdUndo (un κ) = mth (rUndo μ).1 ∧ (cdUndo (un κ) = 0 → (sUndo κ).2 = (rUndo μ).2) ∧ kRel (B + 6500) (if cdUndo (un κ) = 0 then (sUndo κ).1 else κ) (rUndo μ).1 := by
  have hm := h.mono (C := B + 6500) (by omega)
  unfold rUndo cdUndo
  rw [h.nk]
  by_cases q : mk μ = 0
  · rw [if_pos q, if_pos q, if_neg (by decide)]
    exact ⟨rfl, fun z => absurd z (by decide), h.same 1⟩
  · rw [if_neg q, if_neg q, if_pos rfl]
    have e := h.nk
    have k6 := h.k6
    have hl := hm.hh (mk μ - 1) (by rw [e]; omega)
    refine ⟨rfl, fun _ => by show nI (un κ - 1) = _; rw [e], ?_, hl.2, hm.o6, by show un κ - 1 = mk μ - 1; rw [e], by show mk μ - 1 ≤ 6; omega, fun i hi => hm.hh i ?_, hm.tt⟩
    · show sEq (uh κ ((uo κ + un κ - 1) % 6)) _
      rw [e, show uo κ + mk μ - 1 = uo κ + (mk μ - 1) by omega]
      exact hl.1
    · have hi' : i < un κ - 1 := hi
      omega
/-! all the text's writes -/
theorem pWres_none {g : Nat → Int32} {w v : Nat} (h : ptg (gS g) w (nI v) = none) : pWst g w v = g ∧ pWres g w v = -1 := pWst_none h
theorem rel_pp {ω : zT} {tt : Nat → Nat} : ∀ {k i B : Nat} {σ : zS} {g : Nat → Int32}, (∀ j, j < i + k → tt (2 * j) = tw ω j ∧ tt (2 * j + 1) = tn ω j ∧ tw ω j < 16 ∧ tn ω j < 4096) → sEq σ (gS g) → gAll B g →
    (pPP ω k i σ).1 = (pMW tt k i g).2 ∧ sEq (pPP ω k i σ).2 (gS (pMW tt k i g).1) ∧ gAll (B + 13 * k) (pMW tt k i g).1
  | 0, i, B, σ, g, _, h, ha => ⟨rfl, h, ha⟩
  | k + 1, i, B, σ, g, hb, h, ha => by
    obtain ⟨e1, e2, hw, hv⟩ := hb i (by omega)
    have hok := fun w hw => (ha.1 w hw).1
    cases q : ptg σ (tw ω i) (nI (tn ω i)) with
    | none =>
      have q' : ptg (gS g) (tw ω i) (nI (tn ω i)) = none := by rw [← sq_tg h hok hw]; exact q
      have r := pWst_none q'
      rw [pPP_end q, pMW_end (by rw [e1, e2]; exact r.2), e1, e2, r.1]
      exact ⟨rfl, h, gAll_mono ha (by omega)⟩
    | some t =>
      have q' : ptg (gS g) (tw ω i) (nI (tn ω i)) = some t := by rw [← sq_tg h hok hw]; exact q
      obtain ⟨r1, r2, p, hp, r3⟩ := rel_write h ha hw hv q'
      have hn : ¬ pWres g (tt (2 * i)) (tt (2 * i + 1)) = -1 := by
        rw [e1, e2, r3]
        exact nI_m1 (by omega)
      rw [pPP_go q, pMW_go hn, e1, e2]
      have := rel_pp (k := k) (i := i + 1) (fun j hj => hb j (by omega)) r1 (gAll_st ha hw hv)
      exact ⟨this.1, this.2.1, gAll_mono this.2.2 (by omega)⟩
def cdWriteAll (ω : zT) : Int32 := if (pParse ω).1 = tl ω ∧ ts (pParse ω).2 = 3 then 0 else 1
def sWriteAll (κ : zK) : zK × Int32 := if (pParse (ut κ)).1 = tl (ut κ) ∧ ts (pParse (ut κ)).2 = 3 then (uText (uKeep κ (pPP (pWA (ut κ)) (tc (pWA (ut κ))) 0 (uS κ)).2) (pWA (ut κ)), nI (pPP (pWA (ut κ)) (tc (pWA (ut κ))) 0 (uS κ)).1) else (uText κ (pParse (ut κ)).2, 0)
theorem rel_WriteAll (h : kRel B κ μ) : cdWriteAll (ut κ) = mth (rWriteAll μ).1 ∧ (cdWriteAll (ut κ) = 0 → (sWriteAll κ).2 = (rWriteAll μ).2) ∧ kRel (B + 6500) (sWriteAll κ).1 (rWriteAll μ).1 := by
  have hm := h.mono (C := B + 6500) (by omega)
  obtain ⟨hc, -, hr⟩ := parse_rel h.tt.1 h.tt.2.1
  have hp := pParse_f (tRel.f (κ := κ) (μ := μ) h.tt)
  have hpt := tRel.parse h.tt
  unfold cdWriteAll sWriteAll rWriteAll
  by_cases q : (pParse (ut κ)).1 = tl (ut κ) ∧ ts (pParse (ut κ)).2 = 3
  · have q' := hc.mpr q
    rw [if_pos q, if_pos q, if_pos q']
    obtain ⟨e1, hR⟩ := hr q'
    have hI := hp.2.2.2.2 q.1
    have hl : tl (ut κ) ≤ 60 := by rw [h.tt.2.1]; exact h.tt.2.2.1
    have hb := pWA_f hl (tRel.f (κ := κ) (μ := μ) h.tt) q.1
    have hpp := rel_pp (ω := pWA (ut κ)) (tt := kt (qText μ).2) (k := tc (pWA (ut κ))) (i := 0) (fun j hj => by
      have hj' : j < tc (pParse (ut κ)).2 := by rw [Nat.zero_add] at hj; exact hj
      obtain ⟨-, -, -, -, -, q6⟩ := hI
      exact ⟨(hR j hj').1, (hR j hj').2, (q6 j hj').2, (q6 j hj').1⟩) h.se h.al
    have e1' : tc (pWA (ut κ)) = kn (qText μ).2 := e1
    rw [e1'] at hpp ⊢
    have hk := h.keep (z := 0) hpp.2.1 (gAll_mono hpp.2.2 (by
      have : kn (qText μ).2 ≤ 60 := by rw [← e1]; exact hb.1
      omega))
    refine ⟨rfl, fun _ => congrArg nI hpp.1, hk.se, hk.al, hk.o6, hk.nk, hk.k6, hk.hh, hpt.1, rfl, Nat.zero_le _, fun i hi => absurd hi (Nat.not_lt_zero _)⟩
  · have q' : ¬ (qText μ).1 = true := fun z => q (hc.mp z)
    rw [if_neg q, if_neg q, if_neg q']
    exact ⟨rfl, fun z => absurd z (by decide), hm.se, hm.al, hm.o6, hm.nk, hm.k6, hm.hh, hpt⟩
end RM
