/-! the dearest number: the reference looks at all, the class works it out -/
theorem and_m2 (a b : Nat) : (a &&& b) % 2 = (a % 2) * (b % 2) := by
  have h := Nat.and_mod_two_eq_one (a := a) (b := b)
  have h2 := Nat.mod_two_eq_zero_or_one (a &&& b)
  rcases Nat.mod_two_eq_zero_or_one a with p | p <;> rcases Nat.mod_two_eq_zero_or_one b with q | q <;> rw [p, q] at h ⊢ <;> omega
theorem xor_m2 (a b : Nat) : (a ^^^ b) % 2 = (a % 2 + b % 2) % 2 := by
  have h := Nat.xor_mod_two_eq_one (a := a) (b := b)
  have h2 := Nat.mod_two_eq_zero_or_one (a ^^^ b)
  rcases Nat.mod_two_eq_zero_or_one a with p | p <;> rcases Nat.mod_two_eq_zero_or_one b with q | q <;> rw [p, q] at h ⊢ <;> omega
theorem pop_s (k n : Nat) : pop (k + 1) n = n % 2 + pop k (n / 2) := rfl
theorem pop_sub : ∀ (k d e : Nat), d < 2 ^ k → e < 2 ^ k → d &&& e = d → pop k d ≤ pop k e ∧ (pop k d = pop k e → d = e)
  | 0, d, e, hd, he, _ => ⟨Nat.le_refl _, fun _ => by rw [Nat.pow_zero] at hd he; omega⟩
  | k + 1, d, e, hd, he, h => by
    have h2 : d / 2 &&& e / 2 = d / 2 := by rw [← Nat.and_div_two, h]
    have h1 : (d % 2) * (e % 2) = d % 2 := by rw [← and_m2, h]
    rw [Nat.pow_succ] at hd he
    obtain ⟨i1, i2⟩ := pop_sub k (d / 2) (e / 2) (by omega) (by omega) h2
    have h3 : d % 2 ≤ e % 2 := by
      rcases Nat.mod_two_eq_zero_or_one e with q | q
      · rw [q] at h1; omega
      · omega
    rw [pop_s, pop_s]
    exact ⟨by omega, fun hq => by have := i2 (by omega); omega⟩
theorem pop_and : ∀ (k a b : Nat), pop k (a &&& b) ≤ pop k a
  | 0, _, _ => Nat.le_refl _
  | k + 1, a, b => by
    have i := pop_and k (a / 2) (b / 2)
    rw [pop_s, pop_s, Nat.and_div_two, and_m2]
    rcases Nat.mod_two_eq_zero_or_one a with p | p <;> rcases Nat.mod_two_eq_zero_or_one b with q | q <;> rw [p, q] <;> omega
theorem pop_up : ∀ (k h M v : Nat), h + M + 1 = 2 ^ k → pop k (h ^^^ v) ≤ pop k h + pop k (M &&& v)
  | 0, _, _, _, _ => Nat.zero_le _
  | k + 1, h, M, v, e => by
    rw [Nat.pow_succ] at e
    have i := pop_up k (h / 2) (M / 2) (v / 2) (by omega)
    rw [pop_s, pop_s, pop_s, Nat.and_div_two, Nat.xor_div_two, and_m2, xor_m2]
    have e2 : h % 2 + M % 2 = 1 := by omega
    rcases Nat.mod_two_eq_zero_or_one h with p | p <;> rcases Nat.mod_two_eq_zero_or_one v with q | q <;> (have p2 : M % 2 = 1 - h % 2 := by omega) <;> rw [p2, p, q] <;> omega
theorem pop_dn : ∀ (k h v : Nat), pop k h ≤ pop k (h ^^^ v) + pop k (h &&& v)
  | 0, _, _ => Nat.zero_le _
  | k + 1, h, v => by
    have i := pop_dn k (h / 2) (v / 2)
    rw [pop_s, pop_s, pop_s, Nat.and_div_two, Nat.xor_div_two, and_m2, xor_m2]
    rcases Nat.mod_two_eq_zero_or_one h with p | p <;> rcases Nat.mod_two_eq_zero_or_one v with q | q <;> rw [p, q] <;> omega
/-- the lowest c bits of M -/
def lowN : Nat → Nat → Nat → Nat
  | 0, _, _ => 0
  | _ + 1, _, 0 => 0
  | k + 1, M, c + 1 => if M % 2 = 1 then 1 + 2 * lowN k (M / 2) c else 2 * lowN k (M / 2) (c + 1)
theorem lowN_0 (k M : Nat) : lowN k M 0 = 0 := by cases k <;> rfl
theorem lowN_s (k M c : Nat) : lowN (k + 1) M (c + 1) = if M % 2 = 1 then 1 + 2 * lowN k (M / 2) c else 2 * lowN k (M / 2) (c + 1) := rfl
theorem lowN_mono : ∀ (k M c : Nat), c + 1 ≤ pop k M → lowN k M c < lowN k M (c + 1)
  | 0, M, c, h => absurd h (Nat.not_succ_le_zero _)
  | k + 1, M, 0, h => by
    rw [pop_s] at h
    rw [lowN_0, lowN_s]
    split
    · omega
    · have i := lowN_mono k (M / 2) 0 (by omega)
      omega
  | k + 1, M, c + 1, h => by
    rw [pop_s] at h
    rw [lowN_s, lowN_s]
    split
    · have i := lowN_mono k (M / 2) c (by omega)
      omega
    · have i := lowN_mono k (M / 2) (c + 1) (by omega)
      omega
theorem lowN_le : ∀ (k M v c : Nat), c ≤ pop k (M &&& v) → lowN k M c ≤ v
  | 0, _, _, _, _ => Nat.zero_le _
  | k + 1, M, v, 0, _ => Nat.zero_le _
  | k + 1, M, v, c + 1, h => by
    rw [pop_s, Nat.and_div_two, and_m2] at h
    rw [lowN_s]
    by_cases p : M % 2 = 1
    · rw [if_pos p]
      rw [p, Nat.one_mul] at h
      rcases Nat.mod_two_eq_zero_or_one v with q | q
      · have i := lowN_le k (M / 2) (v / 2) (c + 1) (by omega)
        have j := lowN_mono k (M / 2) c (Nat.le_trans (show c + 1 ≤ pop k (M / 2 &&& v / 2) by omega) (pop_and k (M / 2) (v / 2)))
        omega
      · have i := lowN_le k (M / 2) (v / 2) c (by omega)
        omega
    · rw [if_neg p]
      have p0 : M % 2 = 0 := by omega
      rw [p0, Nat.zero_mul] at h
      have i := lowN_le k (M / 2) (v / 2) (c + 1) (by omega)
      omega
theorem pDr_up {f : Nat → Int32} {y : Int32} (h0 : -1 < y) : ∀ {n : Nat}, (∀ j, j < n → f j < y) → (pDr f n).2 < y
  | 0, _ => h0
  | n + 1, h => by
    unfold pDr
    split
    · exact pDr_up h0 (fun j hj => h j (Nat.lt_succ_of_lt hj))
    · exact h n (Nat.lt_succ_self n)
theorem pDr_is {f : Nat → Int32} {k : Nat} (h0 : -1 < f k) : ∀ {n : Nat}, k < n → (∀ j, j < n → f j ≤ f k) → (∀ j, j < k → f j < f k) → pDr f n = (some k, f k)
  | 0, hk, _, _ => absurd hk (Nat.not_lt_zero _)
  | n + 1, hk, h1, h2 => by
    unfold pDr
    by_cases q : k = n
    · subst q
      rw [if_neg (Int32.not_le.mpr (pDr_up h0 h2))]
    · have i := pDr_is h0 (n := n) (by omega) (fun j hj => h1 j (Nat.lt_succ_of_lt hj)) h2
      rw [i, if_pos (h1 n (Nat.lt_succ_self n))]
/-- the cost of changing x of the thirteen cells or all the others, m stuck -/
def cst (x m : Nat) : Int32 :=
  if x &&& m = 0 then (if (x ^^^ 8191) &&& m = 0 then nI (min (pop13 x) (13 - pop13 x)) else nI (pop13 x)) else (if (x ^^^ 8191) &&& m = 0 then nI (13 - pop13 x) else -1)
theorem nI_z {a : Nat} (ha : a < 2 ^ 31) : nI a = 0 ↔ a = 0 := nI_eq (b := 0) ha (by decide)
theorem and_lt13 {a m : Nat} (ha : a < 8192) : a &&& m < 2 ^ 31 := Nat.lt_of_le_of_lt Nat.and_le_left (by omega)
theorem x_not {x : Nat} (h : x < 8192) : pop13 (x ^^^ 8191) = 13 - pop13 x := by have := pop_not h; omega
theorem cost_cst {n v m : Nat} (hn : n < 8192) (hv : v < 4096) : pCost (nI n) (nI v) (nI m) = cst (n ^^^ v) m := by
  have hx : n ^^^ v < 8192 := xor_lt hn (by omega)
  have hy : (n ^^^ v) ^^^ 8191 < 8192 := xor_lt hx (by decide)
  have ez : ∀ w, nI v = w ∨ nI (v ^^^ 8191) = w → w = -1 → False := fun w hw e => by
    rcases hw with q | q
    · exact nI_m1 (k := v) (by omega) (q.trans e)
    · exact nI_m1 (k := v ^^^ 8191) (Nat.lt_of_lt_of_le (xor_lt (by omega) (by decide)) (by decide)) (q.trans e)
  have e1 : (nI n ^^^ nI v) &&& nI m = 0 ↔ (n ^^^ v) &&& m = 0 := by rw [z_xor, z_and]; exact nI_z (and_lt13 hx)
  have e2 : (nI n ^^^ pTurn (nI v)) &&& nI m = 0 ↔ ((n ^^^ v) ^^^ 8191) &&& m = 0 := by rw [pTurn_x hv, z_xor, z_and, ← Nat.xor_assoc]; exact nI_z (and_lt13 hy)
  have p1 : pBC (nI n ^^^ nI v) = nI (pop13 (n ^^^ v)) := by rw [z_xor, pBC_nI hx]
  have p2 : pBC (nI n ^^^ pTurn (nI v)) = nI (13 - pop13 (n ^^^ v)) := by rw [pTurn_x hv, z_xor, ← Nat.xor_assoc, pBC_nI hy, x_not hx]
  have s := z_small hx
  unfold pCost pWay cst
  by_cases q1 : (nI n ^^^ nI v) &&& nI m = 0
  · rw [if_pos (e1.mp q1)]
    by_cases q2 : (nI n ^^^ pTurn (nI v)) &&& nI m = 0
    · rw [if_pos (e2.mp q2), if_pos q1, if_pos q2]
      by_cases q3 : pBC (nI n ^^^ nI v) ≤ pBC (nI n ^^^ pTurn (nI v))
      · rw [if_pos q3, if_neg (fun z => ez _ (Or.inl rfl) z), p1]
        rw [p1, p2, nI_leI (by omega) (by omega)] at q3
        rw [Nat.min_eq_left q3]
      · rw [if_neg q3, if_neg (fun z => ez _ (Or.inr (pTurn_x hv).symm) z), p2]
        rw [p1, p2, nI_leI (by omega) (by omega)] at q3
        rw [Nat.min_eq_right (by omega)]
    · rw [if_neg (fun z => q2 (e2.mpr z)), if_pos q1, if_neg q2, if_neg (fun z => ez _ (Or.inl rfl) z), p1]
  · rw [if_neg (fun z => q1 (e1.mpr z))]
    by_cases q2 : (nI n ^^^ pTurn (nI v)) &&& nI m = 0
    · rw [if_pos (e2.mp q2), if_neg q1, if_pos q2, if_neg (fun z => ez _ (Or.inr (pTurn_x hv).symm) z), p2]
    · rw [if_neg (fun z => q2 (e2.mpr z)), if_neg q1, if_neg q2, if_pos rfl]
theorem cst_not {x m : Nat} (hx : x < 8192) : cst (x ^^^ 8191) m = cst x m := by
  have s := z_small hx
  have e : (x ^^^ 8191) ^^^ 8191 = x := by rw [Nat.xor_assoc, Nat.xor_self, Nat.xor_zero]
  unfold cst
  rw [e, x_not hx]
  have e13 : 13 - (13 - pop13 x) = pop13 x := by omega
  by_cases q1 : x &&& m = 0
  · by_cases q2 : (x ^^^ 8191) &&& m = 0
    · simp only [q1, q2, if_true]
      rw [e13, Nat.min_comm]
    · simp only [q1, q2, if_true, if_false]
      rw [e13]
  · by_cases q2 : (x ^^^ 8191) &&& m = 0
    · simp only [q1, q2, if_true, if_false]
    · simp only [q1, q2, if_false]
/-- the number held: n or n turned -/
abbrev hN (n : Nat) : Nat := if n < 4096 then n else 8191 - n
theorem hN_lt {n : Nat} (hn : n < 8192) : hN n < 4096 := by
  unfold hN
  split <;> omega
theorem sub_xor_t : (List.range 8192).all (fun n => decide (8191 - n = n ^^^ 8191)) = true := by decide +kernel
theorem sub_xor {n : Nat} (h : n < 8192) : 8191 - n = n ^^^ 8191 := of_decide_eq_true (z_all sub_xor_t h)
theorem cost_h {n v m : Nat} (hn : n < 8192) (hv : v < 4096) : pCost (nI n) (nI v) (nI m) = cst (hN n ^^^ v) m := by
  rw [cost_cst hn hv]
  unfold hN
  by_cases q : n < 4096
  · rw [if_pos q]
  · rw [if_neg q, sub_xor hn, Nat.xor_assoc, Nat.xor_comm 8191 v, ← Nat.xor_assoc, cst_not (xor_lt hn (by omega))]
theorem and12 {d : Nat} (hd : d < 4096) : d &&& 8191 = d := by
  rw [show 8191 = 2 ^ 13 - 1 from rfl, Nat.and_two_pow_sub_one_eq_mod, Nat.mod_eq_of_lt (by omega)]
theorem and12' {d : Nat} (hd : d < 4096) : d &&& 4095 = d := by
  rw [show 4095 = 2 ^ 12 - 1 from rfl, Nat.and_two_pow_sub_one_eq_mod, Nat.mod_eq_of_lt (by omega)]
theorem and13 {d : Nat} (hd : d < 8192) : d &&& 8191 = d := by
  rw [show 8191 = 2 ^ 13 - 1 from rfl, Nat.and_two_pow_sub_one_eq_mod, Nat.mod_eq_of_lt (by omega)]
/-- the cells that are not stuck -/
abbrev dFree (m : Nat) : Nat := (m ^^^ 8191) &&& 4095
theorem dFree_lt (m : Nat) : dFree m < 4096 := Nat.lt_of_le_of_lt Nat.and_le_right (by decide)
theorem dFree_sub {d m : Nat} (hd : d < 4096) (h : d &&& m = 0) : d &&& dFree m = d := by
  unfold dFree
  rw [← Nat.and_assoc, Nat.and_xor_distrib_left, h, Nat.zero_xor, and12 hd, and12' hd]
theorem dFree_and {m : Nat} (hm : m < 8192) : dFree m &&& m = 0 := by
  unfold dFree
  rw [Nat.and_assoc, Nat.and_comm 4095 m, ← Nat.and_assoc, Nat.and_comm (m ^^^ 8191) m, Nat.and_xor_distrib_left, Nat.and_self, and13 hm, Nat.xor_self, Nat.zero_and]
theorem top_and {a b : Nat} (ha : 4096 ≤ a) (ha2 : a < 8192) (hb : 4096 ≤ b) (hb2 : b < 8192) : ¬ a &&& b = 0 := by
  intro h
  have e := Nat.and_div_two_pow (a := a) (b := b) (n := 12)
  rw [h, show a / 2 ^ 12 = 1 by omega, show b / 2 ^ 12 = 1 by omega] at e
  exact absurd e (by decide)
theorem not_top {d : Nat} (hd : d < 4096) : 4096 ≤ d ^^^ 8191 ∧ d ^^^ 8191 < 8192 := by
  rw [← sub_xor (by omega)]
  omega
theorem x12_lt {a b : Nat} (ha : a < 4096) (hb : b < 4096) : a ^^^ b < 4096 := Nat.xor_lt_two_pow (n := 12) ha hb
theorem x_inj {h a b : Nat} (q : h ^^^ a = b) : a = h ^^^ b := by rw [← q, ← Nat.xor_assoc, Nat.xor_self, Nat.zero_xor]
theorem x_x {h a : Nat} : h ^^^ (h ^^^ a) = a := by rw [← Nat.xor_assoc, Nat.xor_self, Nat.zero_xor]
theorem nI_lt13 {a b : Nat} (h : a < b) (hb : b < 8192) : nI a < nI b := (nI_ltI (by omega) (by omega)).mpr h
theorem m1_lt {a : Nat} (h : a < 8192) : (-1 : Int32) < nI a := Int32.lt_of_lt_of_le (by decide) (nI_pos' (by omega))
/-- one that is dearer than all others -/
theorem pDr_one {f : Nat → Int32} {k : Nat} (hk : k < 4096) (h0 : -1 < f k) (h : ∀ j, j < 4096 → j ≠ k → f j < f k) : (pDr f 4096).1 = some k := by
  rw [pDr_is h0 hk (fun j hj => ?_) (fun j hj => h j (by omega) (by omega))]
  by_cases q : j = k
  · rw [q]; exact Int32.le_refl _
  · exact Int32.le_of_lt (h j hj q)
theorem pDr_cg {f g : Nat → Int32} : ∀ {n : Nat}, (∀ k, k < n → f k = g k) → pDr f n = pDr g n
  | 0, _ => rfl
  | n + 1, h => by
    unfold pDr
    rw [pDr_cg (fun k hk => h k (Nat.lt_succ_of_lt hk)), h n (Nat.lt_succ_self n)]
theorem dear_A {h m : Nat} (hh : h < 4096) (hm : m < 8192) (h12 : 4096 ≤ m) : (pDr (fun v => cst (h ^^^ v) m) 4096).1 = some (h ^^^ dFree m) := by
  have hc : ∀ d, d < 4096 → cst d m = if d &&& m = 0 then nI (pop13 d) else -1 := fun d hd => by
    have hn := not_top hd
    unfold cst
    rw [if_neg (top_and hn.1 hn.2 h12 hm), if_neg (top_and hn.1 hn.2 h12 hm)]
  have hf := dFree_lt m
  have s := z_small (show dFree m < 8192 by omega)
  have ek : cst (h ^^^ (h ^^^ dFree m)) m = nI (pop13 (dFree m)) := by rw [x_x, hc _ hf, if_pos (dFree_and hm)]
  refine pDr_one (x12_lt hh hf) (by show -1 < cst (h ^^^ (h ^^^ dFree m)) m; rw [ek]; exact m1_lt (by omega)) (fun j hj hne => ?_)
  show cst (h ^^^ j) m < cst (h ^^^ (h ^^^ dFree m)) m
  rw [ek, hc _ (x12_lt hh hj)]
  by_cases q : (h ^^^ j) &&& m = 0
  · rw [if_pos q]
    obtain ⟨p1, p2⟩ : pop13 (h ^^^ j) ≤ pop13 (dFree m) ∧ (pop13 (h ^^^ j) = pop13 (dFree m) → h ^^^ j = dFree m) := pop_sub 13 (h ^^^ j) (dFree m) (by have := x12_lt hh hj; omega) (by omega) (dFree_sub (x12_lt hh hj) q)
    have p3 : pop13 (h ^^^ j) ≠ pop13 (dFree m) := fun z => hne (x_inj (p2 z))
    exact nI_lt13 (by omega) (by omega)
  · rw [if_neg q]
    exact m1_lt (by omega)
theorem pop_free_t : (List.range 4096).all (fun m => decide (pop13 (dFree m) + pop13 m = 12)) = true := by decide +kernel
theorem dear_B {h m : Nat} (hh : h < 4096) (hm : m < 4096) (h0 : m ≠ 0) : (pDr (fun v => cst (h ^^^ v) m) 4096).1 = some (h ^^^ m) := by
  have s := z_small (show m < 8192 by omega)
  have pf : pop13 (dFree m) + pop13 m = 12 := of_decide_eq_true (z_all pop_free_t hm)
  have xm : ∀ d, (d ^^^ 8191) &&& m = (d &&& m) ^^^ m := fun d => by rw [Nat.and_xor_distrib_right, Nat.and_comm 8191 m, and12 hm]
  have ek : cst (h ^^^ (h ^^^ m)) m = nI (13 - pop13 m) := by
    rw [x_x]
    unfold cst
    rw [Nat.and_self, if_neg h0, if_pos (by rw [xm, Nat.and_self, Nat.xor_self])]
  refine pDr_one (x12_lt hh hm) (by show -1 < cst (h ^^^ (h ^^^ m)) m; rw [ek]; exact m1_lt (by omega)) (fun j hj hne => ?_)
  show cst (h ^^^ j) m < cst (h ^^^ (h ^^^ m)) m
  rw [ek]
  have hd := x12_lt hh hj
  have hdm : h ^^^ j ≠ m := fun z => hne (x_inj z)
  generalize h ^^^ j = d at hd hdm
  unfold cst
  by_cases q : d &&& m = 0
  · have q2 : ¬ (d ^^^ 8191) &&& m = 0 := by rw [xm, q, Nat.zero_xor]; exact h0
    rw [if_pos q, if_neg q2]
    have p1 : pop13 d ≤ pop13 (dFree m) := (pop_sub 13 d (dFree m) (by omega) (by have := dFree_lt m; omega) (dFree_sub hd q)).1
    exact nI_lt13 (by omega) (by omega)
  · rw [if_neg q]
    by_cases q2 : (d ^^^ 8191) &&& m = 0
    · rw [if_pos q2]
      rw [xm] at q2
      have q3 : m &&& d = m := by
        rw [Nat.and_comm]
        have := congrArg (· ^^^ m) q2
        simpa [Nat.xor_assoc] using this
      obtain ⟨p1, p2⟩ : pop13 m ≤ pop13 d ∧ (pop13 m = pop13 d → m = d) := pop_sub 13 m d (by omega) (by omega) q3
      have p3 : pop13 m ≠ pop13 d := fun z => hdm (p2 z).symm
      have sd := z_small (show d < 8192 by omega)
      exact nI_lt13 (by omega) (by omega)
    · rw [if_neg q2]
      exact m1_lt (by omega)
def kH (h : Nat) : Nat := if pop13 h < 6 then lowN 12 (h ^^^ 4095) (6 - pop13 h) else lowN 12 h (pop13 h - 7)
theorem kH_t : (List.range 4096).all (fun h => decide (kH h < 4096 ∧ (pop13 (h ^^^ kH h) = 6 ∨ pop13 (h ^^^ kH h) = 7) ∧ pHalf h = nI (kH h) ∧ pop13 h = pop 12 h ∧ h + (h ^^^ 4095) + 1 = 2 ^ 12)) = true := by decide +kernel
theorem dear_C {h : Nat} (hh : h < 4096) : (pDr (fun v => cst (h ^^^ v) 0) 4096).1 = some (kH h) := by
  obtain ⟨k1, k2, k3, k4, k5⟩ := of_decide_eq_true (z_all kH_t hh)
  have hc : ∀ x, cst x 0 = nI (min (pop13 x) (13 - pop13 x)) := fun x => by
    unfold cst
    rw [Nat.and_zero, Nat.and_zero, if_pos rfl, if_pos rfl]
  have ek : cst (h ^^^ kH h) 0 = nI 6 := by
    rw [hc]
    rcases k2 with q | q <;> rw [q] <;> rfl
  have le6 : ∀ j, cst (h ^^^ j) 0 ≤ nI 6 := fun j => by
    rw [hc, nI_leI (by omega) (by decide)]
    omega
  rw [pDr_is (k := kH h) (by show -1 < cst (h ^^^ kH h) 0; rw [ek]; decide) k1 (fun j hj => by show cst (h ^^^ j) 0 ≤ cst (h ^^^ kH h) 0; rw [ek]; exact le6 j) (fun j hj => ?_)]
  show cst (h ^^^ j) 0 < cst (h ^^^ kH h) 0
  have hj4 : j < 4096 := by omega
  have hx := x12_lt hh hj4
  have p12 : pop13 (h ^^^ j) = pop 12 (h ^^^ j) := (of_decide_eq_true (z_all kH_t hx)).2.2.2.1
  rw [ek, hc, nI_ltI (by omega) (by decide)]
  have hno : ¬ (pop13 (h ^^^ j) = 6 ∨ pop13 (h ^^^ j) = 7) := by
    intro z
    unfold kH at hj
    by_cases q : pop13 h < 6
    · rw [if_pos q] at hj
      have u := pop_up 12 h (h ^^^ 4095) j k5
      have := lowN_le 12 (h ^^^ 4095) j (6 - pop13 h) (by omega)
      omega
    · rw [if_neg q] at hj
      have u := pop_dn 12 h j
      have := lowN_le 12 h j (pop13 h - 7) (by omega)
      omega
  omega
theorem hNum {n : Nat} (hn : n < 8192) : pNum (nI n) = nI (hN n) := of_decide_eq_true (z_all num13_t hn)
theorem stfree_t : (List.range 8192).all (fun m => decide ((nI m ^^^ (-1)) &&& 4095 = nI (dFree m))) = true := by decide +kernel
/-- what the class works out is what the reference finds -/
theorem dear_eq {σ : zS} {k : Nat} (hbt : zbt σ) (hk : k < 18) : pdr σ k = pDi (iN (pNum (zhd σ k))) (pst σ k) := by
  obtain ⟨n, hn, en⟩ := hbt k hk
  obtain ⟨m, hm, em⟩ : z13 (pst σ k) := pStuck_13
  have hh := hN_lt hn
  show zo (pDr (fun v => pCost (zhd σ k) (nI v) (pst σ k)) 4096).1 = _
  rw [en, em, hNum hn, show iN (nI (hN n)) = hN n from nI_clamp (by omega), pDr_cg (g := fun v => cst (hN n ^^^ v) m) (fun v hv => cost_h hn hv)]
  unfold pDi
  have e12 : nI m &&& 4096 = 0 ↔ m < 4096 := (z13_lt ⟨m, hm, rfl⟩).1.trans (nI_ltI (by omega) (by decide))
  by_cases q : m < 4096
  · rw [if_pos (e12.mpr q)]
    by_cases q0 : m = 0
    · rw [if_pos ((nI_z (by omega)).mpr q0), q0, dear_C hh]
      exact (of_decide_eq_true (z_all kH_t hh)).2.2.1.symm
    · rw [if_neg (fun z => q0 ((nI_z (by omega)).mp z)), dear_B hh q q0, z_xor]
      rfl
  · rw [if_neg (fun z => q (e12.mp z)), dear_A hh hm (by omega), of_decide_eq_true (z_all stfree_t hm), z_xor]
    rfl
