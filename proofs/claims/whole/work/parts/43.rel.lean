/-! the class's state against the reference's numbers: alike where both are read -/
def sEq (σ τ : zS) : Prop := ((∀ k, k < 18 → zhd σ k = zhd τ k) ∧ (∀ k, k < 234 → zwn σ k = zwn τ k) ∧ (∀ k, k < 18 → zwi σ k = zwi τ k) ∧ (∀ w, w < 16 → zpl σ w = zpl τ w)) ∧ ((∀ w, w < 16 → zwh σ w = zwh τ w) ∧ (∀ w, w < 16 → zwo σ w = zwo τ w) ∧ (∀ w, w < 16 → zmo σ w = zmo τ w) ∧ (∀ k, k < 2 → zst σ k = zst τ k)) ∧ zc0 σ = zc0 τ ∧ zc1 σ = zc1 τ ∧ zc2 σ = zc2 τ ∧ zc3 σ = zc3 τ ∧ zc4 σ = zc4 τ
section SQ
variable {σ τ : zS}
theorem sEq.hd (h : sEq σ τ) {k : Nat} (hk : k < 18) : zhd σ k = zhd τ k := h.1.1 k hk
theorem sEq.wn (h : sEq σ τ) {k : Nat} (hk : k < 234) : zwn σ k = zwn τ k := h.1.2.1 k hk
theorem sEq.wi (h : sEq σ τ) {k : Nat} (hk : k < 18) : zwi σ k = zwi τ k := h.1.2.2.1 k hk
theorem sEq.pl (h : sEq σ τ) {w : Nat} (hw : w < 16) : zpl σ w = zpl τ w := h.1.2.2.2 w hw
theorem sEq.wh (h : sEq σ τ) {w : Nat} (hw : w < 16) : zwh σ w = zwh τ w := h.2.1.1 w hw
theorem sEq.wo (h : sEq σ τ) {w : Nat} (hw : w < 16) : zwo σ w = zwo τ w := h.2.1.2.1 w hw
theorem sEq.mo (h : sEq σ τ) {w : Nat} (hw : w < 16) : zmo σ w = zmo τ w := h.2.1.2.2.1 w hw
theorem sEq.st (h : sEq σ τ) {k : Nat} (hk : k < 2) : zst σ k = zst τ k := h.2.1.2.2.2 k hk
theorem sEq.c0 (h : sEq σ τ) : zc0 σ = zc0 τ := h.2.2.1
theorem sEq.c1 (h : sEq σ τ) : zc1 σ = zc1 τ := h.2.2.2.1
theorem sEq.c2 (h : sEq σ τ) : zc2 σ = zc2 τ := h.2.2.2.2.1
theorem sEq.c3 (h : sEq σ τ) : zc3 σ = zc3 τ := h.2.2.2.2.2.1
theorem sEq.c4 (h : sEq σ τ) : zc4 σ = zc4 τ := h.2.2.2.2.2.2
theorem sEq.ok (h : sEq σ τ) (hok : zok τ) : zok σ := fun w hw => by rw [h.pl hw]; exact hok w hw
theorem sEq.bt (h : sEq σ τ) (hbt : zbt τ) : zbt σ := fun k hk => by rw [h.hd hk]; exact hbt k hk
end SQ
theorem pStuck_cg {f g : Nat → Int32} {b : Int32} : ∀ {n : Nat}, (∀ c, c < n → f c = g c) → pStuck f b n = pStuck g b n
  | 0, _ => rfl
  | n + 1, h => by unfold pStuck; rw [h n (Nat.lt_succ_self n), pStuck_cg (fun c hc => h c (Nat.lt_succ_of_lt hc))]
theorem pSum_cg {f g : Nat → Int32} : ∀ {n : Nat}, (∀ c, c < n → f c = g c) → pSum f n = pSum g n
  | 0, _ => rfl
  | n + 1, h => by unfold pSum; rw [h n (Nat.lt_succ_self n), pSum_cg (fun c hc => h c (Nat.lt_succ_of_lt hc))]
theorem pMost_cg {f g : Nat → Int32} : ∀ {n : Nat}, (∀ c, c < n → f c = g c) → pMost f n = pMost g n
  | 0, _ => rfl
  | n + 1, h => by unfold pMost; rw [h n (Nat.lt_succ_self n), pMost_cg (fun c hc => h c (Nat.lt_succ_of_lt hc))]
theorem pHs_cg {f g : Nat → Int32} {x : Int64} : ∀ {n : Nat}, (∀ c, c < n → f c = g c) → pHs f n x = pHs g n x
  | 0, _ => rfl
  | n + 1, h => by unfold pHs; rw [h n (Nat.lt_succ_self n), pHs_cg (fun c hc => h c (Nat.lt_succ_of_lt hc))]
theorem pHashA_cg {f g : Nat → Nat} {x : Int64} : ∀ {n : Nat}, (∀ c, c < n → f c = g c) → pHashA f n x = pHashA g n x
  | 0, _ => rfl
  | n + 1, h => by unfold pHashA; rw [h n (Nat.lt_succ_self n), pHashA_cg (fun c hc => h c (Nat.lt_succ_of_lt hc))]
theorem pFold_cg {f g : Nat → Int64 → Int64} : ∀ {n : Nat} {x y : Int64}, x = y → (∀ c, c < n → ∀ z, f c z = g c z) → pFold f n x = pFold g n y
  | 0, _, _, e, _ => e
  | n + 1, _, _, e, h => by unfold pFold; rw [h n (Nat.lt_succ_self n), pFold_cg e (fun c hc => h c (Nat.lt_succ_of_lt hc))]
theorem pLess_cg {f g : Nat → Int32} {o : Option Nat} {n : Nat} (h : ∀ j, o = some j → f j = g j) (hn : f n = g n) : pLess f o n = pLess g o n := by
  cases o with
  | none => rfl
  | some j =>
    show (if f j ≤ f n then some j else some n) = if g j ≤ g n then some j else some n
    rw [h j rfl, hn]
theorem pFree_cg {f g : Nat → Int32} {m m' : Nat → Bool} : ∀ {n : Nat}, (∀ k, k < n → f k = g k) → (∀ k, k < n → m k = m' k) → pFree f m n = pFree g m' n
  | 0, _, _ => rfl
  | n + 1, h, hm => by
    unfold pFree
    rw [hm n (Nat.lt_succ_self n), pFree_cg (fun c hc => h c (Nat.lt_succ_of_lt hc)) (fun c hc => hm c (Nat.lt_succ_of_lt hc)), pLess_cg (f := f) (g := g) (fun j hj => h j (Nat.lt_succ_of_lt (pFree_lt hj))) (h n (Nat.lt_succ_self n))]
section SR
variable {σ τ : zS} (h : sEq σ τ)
theorem sq_st (h : sEq σ τ) {k : Nat} (hk : k < 18) : pst σ k = pst τ k := by
  show pStuck (fun c => zwn σ (k * 13 + c)) (zst σ 0) 13 = pStuck (fun c => zwn τ (k * 13 + c)) (zst τ 0) 13
  rw [h.st (by decide : 0 < 2)]
  exact pStuck_cg (fun c hc => h.wn (by omega))
theorem sq_wr (h : sEq σ τ) {k : Nat} (hk : k < 18) : pwr σ k = pwr τ k := pSum_cg (fun c hc => h.wn (by omega))
theorem sq_mw (h : sEq σ τ) {k : Nat} (hk : k < 18) : pMost (fun c => zwn σ (k * 13 + c)) 13 = pMost (fun c => zwn τ (k * 13 + c)) 13 := pMost_cg (fun c hc => h.wn (by omega))
theorem sq_wy (h : sEq σ τ) {k : Nat} {n : Int32} (hk : k < 18) : pwy σ k n = pwy τ k n := by
  show pWay (zhd σ k) n (pst σ k) = pWay (zhd τ k) n (pst τ k)
  rw [h.hd hk, sq_st h hk]
theorem sq_ht (h : sEq σ τ) {w : Nat} (hw : w < 16) : pht σ w ↔ pht τ w := by
  show (¬ zst σ 1 ≤ 0 ∧ ¬ zwh σ w < zst σ 1) ↔ (¬ zst τ 1 ≤ 0 ∧ ¬ zwh τ w < zst τ 1)
  rw [h.st (by decide : 1 < 2), h.wh hw]
theorem sq_nm (h : sEq σ τ) (hok : zok τ) {w : Nat} (hw : w < 16) : pnm σ w = pnm τ w := by
  show pNum (zhd σ (zpl σ w)) = pNum (zhd τ (zpl τ w))
  rw [h.pl hw, h.hd (hok w hw)]
theorem sq_fr (h : sEq σ τ) : pfr σ = pfr τ := pFree_cg (fun k hk => sq_wr h hk) (fun k hk => by rw [h.wi hk])
theorem sq_ff (h : sEq σ τ) {n : Int32} : pff σ n = pff τ n := pFree_cg (fun k hk => sq_wr h hk) (fun k hk => by rw [h.wi hk, sq_wy h hk])
theorem sq_tg (h : sEq σ τ) (hok : zok τ) {w : Nat} {n : Int32} (hw : w < 16) : ptg σ w n = ptg τ w n := by
  have e1 : pwy σ (zpl σ w) n = pwy τ (zpl τ w) n := by rw [h.pl hw]; exact sq_wy h (hok w hw)
  have e2 := sq_ht h hw
  unfold ptg
  rw [sq_ff h]
  by_cases q : ¬ pwy τ (zpl τ w) n = -1 ∧ ¬ pht τ w
  · rw [if_pos q, if_pos ⟨by rw [e1]; exact q.1, fun z => q.2 (e2.mp z)⟩, h.pl hw]
  · rw [if_neg q, if_neg (fun z => q ⟨by rw [← e1]; exact z.1, fun y => z.2 (e2.mpr y)⟩)]
    cases pff τ n with
    | some k => rfl
    | none =>
      by_cases q2 : ¬ pwy τ (zpl τ w) n = -1
      · show (if ¬ pwy σ (zpl σ w) n = -1 then some (zpl σ w) else none) = if ¬ pwy τ (zpl τ w) n = -1 then some (zpl τ w) else none
        rw [if_pos q2, if_pos (by rw [e1]; exact q2), h.pl hw]
      · show (if ¬ pwy σ (zpl σ w) n = -1 then some (zpl σ w) else none) = if ¬ pwy τ (zpl τ w) n = -1 then some (zpl τ w) else none
        rw [if_neg q2, if_neg (by rw [e1]; exact q2)]
theorem pWear_cg {f g : Nat → Int32} {b : Nat} {mk : Int32} (hfg : ∀ k, k < 234 → f k = g k) : ∀ {n : Nat}, b + n ≤ 234 → ∀ k, k < 234 → pWear f b mk n k = pWear g b mk n k
  | 0, _ => hfg
  | n + 1, hb => fun k hk => by
    unfold pWear upd
    rw [pWear_cg hfg (by omega) k hk, pWear_cg hfg (by omega) (b + n) (by omega)]
theorem upd_cg {f g : Nat → Int32} {j n : Nat} {x y : Int32} (h : ∀ k, k < n → f k = g k) (e : x = y) : ∀ k, k < n → upd f j x k = upd g j y k := by
  intro k hk
  unfold upd
  rw [h k hk, e]
theorem pSettle_cg (h : sEq σ τ) {w t : Nat} (hw : w < 16) : sEq (pSettle σ w t) (pSettle τ w t) := by
  obtain ⟨⟨a1, a2, a3, a4⟩, ⟨b1, b2, b3, b4⟩, c0, c1, c2, c3, c4⟩ := id h
  unfold pSettle
  rw [h.pl hw]
  by_cases q : t = zpl τ w
  · rw [if_pos q, if_pos q]
    exact ⟨⟨a1, a2, a3, a4⟩, ⟨upd_cg b1 (by rw [h.wh hw]), upd_cg b2 (by rw [h.wo hw]), b3, b4⟩, c0, c1, c2, c3, c4⟩
  · rw [if_neg q, if_neg q]
    refine ⟨⟨a1, a2, upd_cg (upd_cg a3 rfl) rfl, fun k hk => ?_⟩, ⟨upd_cg b1 rfl, upd_cg b2 (by rw [h.wo hw]), upd_cg b3 (by rw [h.mo hw]), b4⟩, c0, c1, c2, ?_, c4⟩
    · show va_up (zpl σ) w t k = va_up (zpl τ) w t k
      unfold va_up
      rw [a4 k hk]
    · show zc3 σ + 1 = zc3 τ + 1
      rw [h.c3]
theorem pPlace_cg (h : sEq σ τ) (hok : zok τ) {w t : Nat} {n : Int32} (hw : w < 16) (ht : t < 18) : sEq (pPlace σ w n t) (pPlace τ w n t) := by
  obtain ⟨⟨a1, a2, a3, a4⟩, ⟨b1, b2, b3, b4⟩, c0, c1, c2, c3, c4⟩ := id h
  have ew := sq_wy h (n := n) ht
  have ec : pch σ t n = pch τ t n := by
    show zhd σ t ^^^ pwy σ t n = zhd τ t ^^^ pwy τ t n
    rw [h.hd ht, ew]
  unfold pPlace
  refine pSettle_cg ?_ hw
  refine ⟨⟨upd_cg a1 ew, ?_, a3, a4⟩, ⟨b1, b2, b3, b4⟩, ?_, ?_, ?_, c3, ?_⟩
  · rw [ec]
    exact pWear_cg a2 (by omega)
  · show zc0 σ + 1 = zc0 τ + 1
    rw [h.c0]
  · show zc1 σ + pBC (pch σ t n) = zc1 τ + pBC (pch τ t n)
    rw [h.c1, ec]
  · show zc2 σ + pBC (pnm σ w ^^^ n) = zc2 τ + pBC (pnm τ w ^^^ n)
    rw [h.c2, sq_nm h hok hw]
  · show (if pwy σ t n &&& 4096 = 0 then zc4 σ else zc4 σ + 1) = if pwy τ t n &&& 4096 = 0 then zc4 τ else zc4 τ + 1
    rw [ew, h.c4]
end SR
theorem sEq.rf {σ : zS} : sEq σ σ := ⟨⟨fun _ _ => rfl, fun _ _ => rfl, fun _ _ => rfl, fun _ _ => rfl⟩, ⟨fun _ _ => rfl, fun _ _ => rfl, fun _ _ => rfl, fun _ _ => rfl⟩, rfl, rfl, rfl, rfl, rfl⟩
theorem sEq.tr {σ τ υ : zS} (h : sEq σ τ) (k : sEq τ υ) : sEq σ υ := ⟨⟨fun _ q => (h.hd q).trans (k.hd q), fun _ q => (h.wn q).trans (k.wn q), fun _ q => (h.wi q).trans (k.wi q), fun _ q => (h.pl q).trans (k.pl q)⟩, ⟨fun _ q => (h.wh q).trans (k.wh q), fun _ q => (h.wo q).trans (k.wo q), fun _ q => (h.mo q).trans (k.mo q), fun _ q => (h.st q).trans (k.st q)⟩, h.c0.trans k.c0, h.c1.trans k.c1, h.c2.trans k.c2, h.c3.trans k.c3, h.c4.trans k.c4⟩
/-- which word has a slot -/
theorem pWo_none {f : Nat → Int32} {k : Nat} : ∀ {n : Nat}, (∀ x, x < n → ¬ f x = nI k) → pWo f k n = none
  | 0, _ => rfl
  | n + 1, h => by unfold pWo; rw [if_neg (h n (Nat.lt_succ_self n))]; exact pWo_none (fun x hx => h x (Nat.lt_succ_of_lt hx))
theorem pWo_of_none {f : Nat → Int32} {k : Nat} : ∀ {n : Nat}, pWo f k n = none → ∀ x, x < n → ¬ f x = nI k
  | 0, _, x, hx => absurd hx (Nat.not_lt_zero _)
  | n + 1, h, x, hx => by
    unfold pWo at h
    by_cases q : f n = nI k
    · rw [if_pos q] at h; cases h
    · rw [if_neg q] at h
      by_cases e : x = n
      · rw [e]; exact q
      · exact pWo_of_none h x (by omega)
theorem pWo_some {f : Nat → Int32} {k x : Nat} : ∀ {n : Nat}, x < n → f x = nI k → (∀ a b, a < n → b < n → f a = f b → a = b) → pWo f k n = some x
  | 0, hx, _, _ => absurd hx (Nat.not_lt_zero _)
  | n + 1, hx, hf, hi => by
    unfold pWo
    by_cases q : f n = nI k
    · rw [if_pos q, hi n x (Nat.lt_succ_self n) hx (q.trans hf.symm)]
    · rw [if_neg q]
      have : x ≠ n := fun e => q (by rw [← e]; exact hf)
      exact pWo_some (by omega) hf (fun a b ha hb => hi a b (Nat.lt_succ_of_lt ha) (Nat.lt_succ_of_lt hb))
theorem pWo_iff {f g : Nat → Int32} {k : Nat} : ∀ {n : Nat}, (∀ x, x < n → (f x = nI k ↔ g x = nI k)) → pWo f k n = pWo g k n
  | 0, _ => rfl
  | n + 1, h => by
    unfold pWo
    rw [pWo_iff (fun x hx => h x (Nat.lt_succ_of_lt hx))]
    by_cases q : f n = nI k
    · rw [if_pos q, if_pos ((h n (Nat.lt_succ_self n)).mp q)]
    · rw [if_neg q, if_neg (fun z => q ((h n (Nat.lt_succ_self n)).mpr z))]
theorem zo_m1 {o : Option Nat} (ho : ∀ k, o = some k → k < 2 ^ 31) (h : zo o = -1) : o = none := by
  cases o with
  | none => rfl
  | some k => exact absurd h (nI_m1 (ho k rfl))
abbrev ginj (g : Nat → Int32) : Prop := ∀ x y, x < 16 → y < 16 → g (259 + x) = g (259 + y) → x = y
/-- a moved word: who is where -/
theorem wi_move {f : Nat → Int32} {p : Nat → Nat} {w t k : Nat} (hw : w < 16) (ht : t < 18) (hk : k < 18) (hp : ∀ x, x < 16 → p x < 18 ∧ f x = nI (p x)) (hi : ∀ a b, a < 16 → b < 16 → f a = f b → a = b) (hfree : ∀ x, x < 16 → ¬ f x = nI t) :
    zo (pWo (fun x => if x = w then nI t else f x) k 16) = upd (upd (fun k => zo (pWo f k 16)) (p w) (-1)) t (nI w) k := by
  have hq := hp w hw
  have e0 : ∀ a b : Nat, a < 18 → b < 18 → nI a = nI b → a = b := fun a b ha hb q => (nI_eq (by omega) (by omega)).mp q
  unfold upd
  by_cases k1 : k = t
  · rw [if_pos k1, pWo_some (x := w) hw (by rw [if_pos rfl, k1]) ?_]
    · rfl
    · intro a b ha hb q
      by_cases qa : a = w
      · by_cases qb : b = w
        · rw [qa, qb]
        · rw [if_pos qa, if_neg qb] at q; exact absurd q.symm (hfree b hb)
      · by_cases qb : b = w
        · rw [if_neg qa, if_pos qb] at q; exact absurd q (hfree a ha)
        · rw [if_neg qa, if_neg qb] at q; exact hi a b ha hb q
  · rw [if_neg k1]
    by_cases k2 : k = p w
    · rw [if_pos k2, pWo_none (fun x hx => ?_)]
      · rfl
      · by_cases qx : x = w
        · rw [if_pos qx]; exact fun z => k1 (e0 _ _ ht hk z).symm
        · rw [if_neg qx]; exact fun z => qx (hi x w hx hw (by rw [z, hq.2, k2]))
    · rw [if_neg k2]
      refine congrArg zo (pWo_iff (fun x hx => ?_))
      by_cases qx : x = w
      · rw [if_pos qx, qx, hq.2]
        exact ⟨fun z => absurd (e0 _ _ ht hk z).symm k1, fun z => absurd (e0 _ _ hq.1 hk z).symm k2⟩
      · rw [if_neg qx]
theorem pGw_wear {g : Nat → Int32} {b : Nat} {mk : Int32} : ∀ {n : Nat} (k : Nat), pGw g b mk n (25 + k) = pWear (fun k => g (25 + k)) b mk n k
  | 0, _ => rfl
  | n + 1, k => by
    unfold pGw pWear upd
    rw [pGw_wear k, pGw_wear (b + n)]
    by_cases q : k = b + n
    · rw [if_pos q, if_pos (by omega)]
    · rw [if_neg q, if_neg (by omega)]
theorem pGw_cg {f g : Nat → Int32} {b : Nat} {mk : Int32} (hfg : ∀ k, 25 ≤ k → f k = g k) : ∀ {n : Nat} (k : Nat), 25 ≤ k → pGw f b mk n k = pGw g b mk n k
  | 0, k, hk => hfg k hk
  | n + 1, k, hk => by
    unfold pGw upd
    rw [pGw_cg hfg k hk, pGw_cg hfg (25 + (b + n)) (by omega)]
