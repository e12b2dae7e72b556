/-! the class's state as numbers, and its cells -/
theorem upd_nI (f : Nat → Nat) (k t : Nat) : upd (fun w => nI (f w)) k (nI t) = (fun w => nI (va_up f k t w)) := by
  funext w
  by_cases h : w = k
  · simp [upd, va_up, h]
  · simp [upd, va_up, h]
theorem z_ext {D : va_G} {cl : List vw_C} {ws : va_W} {H : Heap} (hP : va_P D cl ws H) (q : Nat) {a n : Nat} {cA : ClassId} {f g : Nat → Int32} (h : ws[q]? = some (a, .inl (cA, n, .inl f))) (hfg : ∀ k, k < n → f k = g k) : va_P D cl (ws.set q (a, .inl (cA, n, .inl g))) H := by
  have e : vp_cell cA (n, .inl f) = vp_cell cA (n, .inl g) := by
    rw [vp_cell_i, vp_cell_i]
    unfold arrV
    congr 1
    apply Array.ext
    · simp
    · intro i h1 h2
      simp at h1
      simp [hfg i h1]
  have hl := (List.getElem?_eq_some_iff.mp h).1
  intro k x hk
  by_cases hkq : k = q
  · subst hkq
    rw [List.getElem?_set_self hl] at hk
    cases hk
    show H[a]? = some (vp_cell _ _)
    rw [← e]
    exact hP _ _ h
  · rw [List.getElem?_set_ne (Ne.symm hkq)] at hk
    exact hP _ _ hk
/-- a place, or NONE -/
def zo : Option Nat → Int32
  | none => -1
  | some k => nI k
theorem nI_m1 {k : Nat} (h : k < 2 ^ 31) : ¬ nI k = -1 := by
  intro q
  have h1 := nI_pos h
  rw [q] at h1
  exact h1 (by decide)
theorem z_inc1 (c : Nat) : nI c + Int32.ofInt 1 = nI (c + 1) := by
  rw [show Int32.ofInt 1 = nI 1 from rfl, nI_add]
theorem z_inc4 (c : Nat) : nI c + Int32.ofInt 4 = nI (c + 4) := by
  rw [show Int32.ofInt 4 = nI 4 from rfl, nI_add]
section ZO
variable {p : Program} {l : Launch} {e : Env} {R : Room} {s : State} {m : MethodId} {args : Array Value} {below : List Frame} {meth : Method} {c : Code} {H : Heap} {locs : List Loc} {cells slots : Nat} {Q : State → Prop}
variable {cc : ByteArray} {pc : Nat} {ls : Array Slot} {rest : List Value}
theorem z_eqO (hx : p.tables.exec = Jvm.exec) (hb : c.code = cc) (o : Option Nat) (ho : ∀ k, o = some k → k < 2 ^ 31) {off : Int} {tgt : Nat} (hdg : decode cc pc = .ok (.if_icmp .eq off, 3)) (ht : (pc : Int) + off = (tgt : Int)) (kt : o = none → W p l e R s m args below meth c H locs cells slots Q (F0 m tgt ls rest)) (kf : ∀ k, o = some k → W p l e R s m args below meth c H locs cells slots Q (F0 m (pc + 3) ls rest)) : W p l e R s m args below meth c H locs cells slots Q (F0 m pc ls (.int (-1) :: .int (zo o) :: rest)) := by
  cases o with
  | none => exact lv_icmp_eq hx hb hdg ht (fun _ => kt rfl) (fun q => absurd rfl q)
  | some k => exact lv_icmp_eq hx hb hdg ht (fun q => absurd q (nI_m1 (ho k rfl))) (fun _ => kf k rfl)
theorem z_neO (hx : p.tables.exec = Jvm.exec) (hb : c.code = cc) (o : Option Nat) (ho : ∀ k, o = some k → k < 2 ^ 31) {off : Int} {tgt : Nat} (hdg : decode cc pc = .ok (.if_icmp .ne off, 3)) (ht : (pc : Int) + off = (tgt : Int)) (kt : ∀ k, o = some k → W p l e R s m args below meth c H locs cells slots Q (F0 m tgt ls rest)) (kf : o = none → W p l e R s m args below meth c H locs cells slots Q (F0 m (pc + 3) ls rest)) : W p l e R s m args below meth c H locs cells slots Q (F0 m pc ls (.int (-1) :: .int (zo o) :: rest)) := by
  cases o with
  | none => exact lv_icmp_ne hx hb hdg ht (fun q => absurd rfl q) (fun _ => kf rfl)
  | some k => exact lv_icmp_ne hx hb hdg ht (fun _ => kt k rfl) (fun q => absurd q (nI_m1 (ho k rfl)))
theorem z_ifeq (hx : p.tables.exec = Jvm.exec) (hb : c.code = cc) (a : Nat) (ha : a < 2 ^ 31) {off : Int} {tgt : Nat} (hdg : decode cc pc = .ok (.ifCond .eq off, 3)) (ht : (pc : Int) + off = (tgt : Int)) (kt : a = 0 → W p l e R s m args below meth c H locs cells slots Q (F0 m tgt ls rest)) (kf : a ≠ 0 → W p l e R s m args below meth c H locs cells slots Q (F0 m (pc + 3) ls rest)) : W p l e R s m args below meth c H locs cells slots Q (F0 m pc ls (.int (nI a) :: rest)) :=
  lv_if_eq hx hb hdg ht (fun q => kt (Classical.not_not.mp fun z => nI_ne0 (Nat.pos_of_ne_zero z) ha q)) (fun q => kf (fun z => q (by rw [z]; rfl)))
theorem z_ifne (hx : p.tables.exec = Jvm.exec) (hb : c.code = cc) (a : Nat) (ha : a < 2 ^ 31) {off : Int} {tgt : Nat} (hdg : decode cc pc = .ok (.ifCond .ne off, 3)) (ht : (pc : Int) + off = (tgt : Int)) (kt : a ≠ 0 → W p l e R s m args below meth c H locs cells slots Q (F0 m tgt ls rest)) (kf : a = 0 → W p l e R s m args below meth c H locs cells slots Q (F0 m (pc + 3) ls rest)) : W p l e R s m args below meth c H locs cells slots Q (F0 m pc ls (.int (nI a) :: rest)) :=
  lv_if_ne hx hb hdg ht (fun q => kt (fun z => q (by rw [z]; rfl))) (fun q => kf (Classical.not_not.mp fun z => nI_ne0 (Nat.pos_of_ne_zero z) ha q))
theorem z_ifgt (hx : p.tables.exec = Jvm.exec) (hb : c.code = cc) (a : Nat) (ha : a < 2 ^ 31) {off : Int} {tgt : Nat} (hdg : decode cc pc = .ok (.ifCond .gt off, 3)) (ht : (pc : Int) + off = (tgt : Int)) (kt : a ≠ 0 → W p l e R s m args below meth c H locs cells slots Q (F0 m tgt ls rest)) (kf : a = 0 → W p l e R s m args below meth c H locs cells slots Q (F0 m (pc + 3) ls rest)) : W p l e R s m args below meth c H locs cells slots Q (F0 m pc ls (.int (nI a) :: rest)) :=
  lv_if_gt hx hb hdg ht (fun q => kt (fun z => by rw [z] at q; exact absurd q (by decide))) (fun q => kf (Classical.not_not.mp fun z => q ((nI_ltI (a := 0) (by decide) ha).mpr (Nat.pos_of_ne_zero z))))
theorem z_ifle (hx : p.tables.exec = Jvm.exec) (hb : c.code = cc) (a : Nat) (ha : a < 2 ^ 31) {off : Int} {tgt : Nat} (hdg : decode cc pc = .ok (.ifCond .le off, 3)) (ht : (pc : Int) + off = (tgt : Int)) (kt : a = 0 → W p l e R s m args below meth c H locs cells slots Q (F0 m tgt ls rest)) (kf : a ≠ 0 → W p l e R s m args below meth c H locs cells slots Q (F0 m (pc + 3) ls rest)) : W p l e R s m args below meth c H locs cells slots Q (F0 m pc ls (.int (nI a) :: rest)) :=
  lv_if_le hx hb hdg ht (fun q => kt (Classical.not_not.mp fun z => nI_nle (Nat.pos_of_ne_zero z) ha q)) (fun q => kf (fun z => q (by rw [z]; decide)))
theorem z_ifeqB (hx : p.tables.exec = Jvm.exec) (hb : c.code = cc) {b : Int32} {P : Prop} [Decidable P] (h : b = if P then 1 else 0) {off : Int} {tgt : Nat} (hdg : decode cc pc = .ok (.ifCond .eq off, 3)) (ht : (pc : Int) + off = (tgt : Int)) (kt : ¬ P → W p l e R s m args below meth c H locs cells slots Q (F0 m tgt ls rest)) (kf : P → W p l e R s m args below meth c H locs cells slots Q (F0 m (pc + 3) ls rest)) : W p l e R s m args below meth c H locs cells slots Q (F0 m pc ls (.int b :: rest)) := by
  by_cases q : P
  · rw [if_pos q] at h
    exact lv_if_eq hx hb hdg ht (fun z => absurd (h.symm.trans z) (by decide)) (fun _ => kf q)
  · rw [if_neg q] at h
    exact lv_if_eq hx hb hdg ht (fun _ => kt q) (fun z => absurd h z)
theorem z_ifneB (hx : p.tables.exec = Jvm.exec) (hb : c.code = cc) {b : Int32} {P : Prop} [Decidable P] (h : b = if P then 1 else 0) {off : Int} {tgt : Nat} (hdg : decode cc pc = .ok (.ifCond .ne off, 3)) (ht : (pc : Int) + off = (tgt : Int)) (kt : P → W p l e R s m args below meth c H locs cells slots Q (F0 m tgt ls rest)) (kf : ¬ P → W p l e R s m args below meth c H locs cells slots Q (F0 m (pc + 3) ls rest)) : W p l e R s m args below meth c H locs cells slots Q (F0 m pc ls (.int b :: rest)) := by
  by_cases q : P
  · rw [if_pos q] at h
    exact lv_if_ne hx hb hdg ht (fun _ => kt q) (fun z => absurd (h.symm.trans z) (by decide))
  · rw [if_neg q] at h
    exact lv_if_ne hx hb hdg ht (fun z => absurd h z) (fun _ => kf q)
variable {D : va_G} {cl : List vw_C} {ws : va_W} {tys : List (ClassId × FieldType)} {a : Nat} {A : Nat → Prop} {H0 : Heap}
theorem z_copy (hx : p.tables.exec = Jvm.exec) (hb : c.code = cc) (hml : c.maxLocals = ls.size) {own : String} {index : Nat} (hown : s.vm.findClass own = some m.cls) (hlink : (Cond.methodLink own index arraycopyName).before args s = true) (hnat : (Cond.native arraycopyName).before args s = true) (hstat : (Cond.static arraycopyName).before args s = true) (hini : (Cond.initialized "java/lang/System").before args s = true)
    (hK : va_K D cl tys s) (hP : va_P D cl ws H) (hD : va_D A ws) (hS : va_S A H0 H locs) (q0 q1 t0 t1 : Nat) {a0 : Nat} {c0 c1 : ClassId} {n : Nat} {f g : Nat → Int32} (ha0 : ws[q0]? = some (a0, .inl (c0, n, .inl f))) (ha1 : ws[q1]? = some (a, .inl (c1, n, .inl g))) (ht0 : tys[t0]? = some (c0, .int)) (ht1 : tys[t1]? = some (c1, .int)) (hn : n < 2 ^ 31) (hn2 : nI n = nI n) (h0 : (0 : Int32) = nI 0)
    (hframes : 1 ≤ R.frames) (hlocals : (rest.map fun v => v.category).sum + (nativeFrameWords "java/lang/System" "arraycopy" 5 + 11) ≤ R.locals) (hdg : decode cc pc = .ok (.invokestatic index, 3))
    (kk : ∀ (H1 : Heap) (locs1 : List Loc), va_P D cl (ws.set q1 (a, .inl (c1, n, .inl f))) H1 → va_D A (ws.set q1 (a, .inl (c1, n, .inl f))) → va_S A H0 H1 locs1 → W p l e R s m args below meth c H1 locs1 cells slots Q (F0 m (pc + 3) ls rest)) : W p l e R s m args below meth c H locs cells slots Q (F0 m pc ls (.int (nI n) :: .int 0 :: .ref a :: .int 0 :: .ref a0 :: rest)) := by
  have e0 : (0 : Int32).toNatClampNeg = 0 := rfl
  have en : (nI n).toNatClampNeg = n := nI_clamp hn
  refine va_copyi hx hb hml hown hlink hnat hstat hini hK hP hD hS q0 q1 t0 t1 (ty := .int) ha0 ha1 ht0 ht1 rfl (by decide) (by decide) (nI_pos hn) (by rw [e0, en]; omega) (by rw [e0, en]; omega) (fun _ _ => rfl) hframes hlocals hdg (fun H1 locs1 hP1 hD1 hS1 => ?_)
  rw [e0, en] at hP1
  have hl := (List.getElem?_eq_some_iff.mp ha1).1
  have hP2 := z_ext (g := f) hP1 q1 (List.getElem?_set_self hl) (fun k hk => by unfold va_cpy; rw [if_pos ⟨Nat.zero_le _, by omega⟩, Nat.sub_zero, Nat.zero_add])
  rw [List.set_set] at hP2
  exact kk H1 locs1 hP2 (hD.set ha1) hS1
end ZO
/-- what a State holds: held, worn, wordIn, slotOf, writesHere, writesOf, movesOf, settings; writes, changes, plainChanges, moves, turnedWrites -/
abbrev zS : Type := (Nat → Int32) × (Nat → Int32) × (Nat → Int32) × (Nat → Nat) × (Nat → Int32) × (Nat → Int32) × (Nat → Int32) × (Nat → Int32) × Int32 × Int32 × Int32 × Int32 × Int32
abbrev zhd (σ : zS) : Nat → Int32 := σ.1
abbrev zwn (σ : zS) : Nat → Int32 := σ.2.1
abbrev zwi (σ : zS) : Nat → Int32 := σ.2.2.1
abbrev zpl (σ : zS) : Nat → Nat := σ.2.2.2.1
abbrev zwh (σ : zS) : Nat → Int32 := σ.2.2.2.2.1
abbrev zwo (σ : zS) : Nat → Int32 := σ.2.2.2.2.2.1
abbrev zmo (σ : zS) : Nat → Int32 := σ.2.2.2.2.2.2.1
abbrev zst (σ : zS) : Nat → Int32 := σ.2.2.2.2.2.2.2.1
abbrev zc0 (σ : zS) : Int32 := σ.2.2.2.2.2.2.2.2.1
abbrev zc1 (σ : zS) : Int32 := σ.2.2.2.2.2.2.2.2.2.1
abbrev zc2 (σ : zS) : Int32 := σ.2.2.2.2.2.2.2.2.2.2.1
abbrev zc3 (σ : zS) : Int32 := σ.2.2.2.2.2.2.2.2.2.2.2.1
abbrev zc4 (σ : zS) : Int32 := σ.2.2.2.2.2.2.2.2.2.2.2.2
abbrev zW (ad : Nat → Nat) (cI : ClassId) (σ : zS) : va_W := [(ad 0, .inr (1, [.ref (ad 1), .ref (ad 2), .ref (ad 3), .ref (ad 4), .ref (ad 5), .ref (ad 6), .ref (ad 7), .ref (ad 8), .int (zc0 σ), .int (zc1 σ), .int (zc2 σ), .int (zc3 σ), .int (zc4 σ)])), (ad 1, .inl (cI, 18, .inl (zhd σ))), (ad 2, .inl (cI, 234, .inl (zwn σ))), (ad 3, .inl (cI, 18, .inl (zwi σ))), (ad 4, .inl (cI, 16, .inl (fun w => nI (zpl σ w)))), (ad 5, .inl (cI, 16, .inl (zwh σ))), (ad 6, .inl (cI, 16, .inl (zwo σ))), (ad 7, .inl (cI, 16, .inl (zmo σ))), (ad 8, .inl (cI, 2, .inl (zst σ)))]
/-- the places are places -/
abbrev zok (σ : zS) : Prop := ∀ w, w < 16 → zpl σ w < 18
/-- the cells are thirteen bits -/
abbrev zbt (σ : zS) : Prop := ∀ k, k < 18 → ∃ n, n < 8192 ∧ zhd σ k = nI n
/-! pure words: the reference is said in the same words -/
def pStuck (f : Nat → Int32) (b : Int32) : Nat → Int32
  | 0 => 0
  | n + 1 => if f n < b then pStuck f b n else pStuck f b n ||| (1 <<< (nI n &&& 31))
def pSum (f : Nat → Int32) : Nat → Int32
  | 0 => 0
  | n + 1 => pSum f n + f n
def pMost (f : Nat → Int32) : Nat → Int32
  | 0 => 0
  | n + 1 => if pMost f n < f n then f n else pMost f n
def pNum (h : Int32) : Int32 := if h &&& 4096 = 0 then h else (h ^^^ (-1)) &&& 4095
abbrev pHot (a w : Int32) : Prop := ¬ a ≤ 0 ∧ ¬ w < a
def pBC1 (x : Int32) : Int32 := x - ((x.toUInt32 >>> ((1 : Int32).toUInt32 &&& Int32.toUInt32 31)).toInt32 &&& 1431655765)
def pBC2 (x : Int32) : Int32 := (x &&& 858993459) + ((x.toUInt32 >>> ((2 : Int32).toUInt32 &&& Int32.toUInt32 31)).toInt32 &&& 858993459)
def pBC3 (x : Int32) : Int32 := (x + (x.toUInt32 >>> ((4 : Int32).toUInt32 &&& Int32.toUInt32 31)).toInt32) &&& 252645135
def pBC4 (x : Int32) : Int32 := x + (x.toUInt32 >>> ((8 : Int32).toUInt32 &&& Int32.toUInt32 31)).toInt32
def pBC5 (x : Int32) : Int32 := x + (x.toUInt32 >>> ((16 : Int32).toUInt32 &&& Int32.toUInt32 31)).toInt32
def pBC (x : Int32) : Int32 := pBC5 (pBC4 (pBC3 (pBC2 (pBC1 x)))) &&& 63
def pTurn (n : Int32) : Int32 := ((n ^^^ (-1)) &&& 4095) ||| 4096
def pWay (h n st : Int32) : Int32 :=
  if (h ^^^ n) &&& st = 0 then (if (h ^^^ pTurn n) &&& st = 0 then (if pBC (h ^^^ n) ≤ pBC (h ^^^ pTurn n) then n else pTurn n) else n)
  else (if (h ^^^ pTurn n) &&& st = 0 then pTurn n else -1)
def pLess (f : Nat → Int32) (o : Option Nat) (k : Nat) : Option Nat :=
  match o with
  | none => some k
  | some j => if f j ≤ f k then some j else some k
def pFree (f : Nat → Int32) (may : Nat → Bool) : Nat → Option Nat
  | 0 => none
  | n + 1 => if may n then pLess f (pFree f may n) n else pFree f may n
theorem pLess_lt {f : Nat → Int32} {o : Option Nat} {k n : Nat} (h : ∀ j, o = some j → j < n) (hk : k < n) : ∀ j, pLess f o k = some j → j < n := by
  intro j hj
  unfold pLess at hj
  cases o with
  | none => cases hj; exact hk
  | some i =>
    dsimp only at hj
    split at hj
    · cases hj; exact h _ rfl
    · cases hj; exact hk
theorem pFree_lt {f : Nat → Int32} {may : Nat → Bool} : ∀ {n j : Nat}, pFree f may n = some j → j < n
  | 0, j, h => by cases h
  | n + 1, j, h => by
    unfold pFree at h
    split at h
    · exact pLess_lt (fun i hi => Nat.lt_succ_of_lt (pFree_lt hi)) (Nat.lt_succ_self n) j h
    · exact Nat.lt_succ_of_lt (pFree_lt h)
def pMaskSum (g : Nat → Int32) : Nat → Int32
  | 0 => 0
  | n + 1 => pMaskSum g n + g n
abbrev pst (σ : zS) (k : Nat) : Int32 := pStuck (fun c => zwn σ (k * 13 + c)) (zst σ 0) 13
abbrev pwr (σ : zS) (k : Nat) : Int32 := pSum (fun c => zwn σ (k * 13 + c)) 13
abbrev pwy (σ : zS) (k : Nat) (n : Int32) : Int32 := pWay (zhd σ k) n (pst σ k)
abbrev pht (σ : zS) (w : Nat) : Prop := pHot (zst σ 1) (zwh σ w)
abbrev pnm (σ : zS) (w : Nat) : Int32 := pNum (zhd σ (zpl σ w))
def pfr (σ : zS) : Option Nat := pFree (pwr σ) (fun k => decide (zwi σ k = -1)) 18
def pff (σ : zS) (n : Int32) : Option Nat := pFree (pwr σ) (fun k => decide (zwi σ k = -1) && !decide (pwy σ k n = -1)) 18
def ptg (σ : zS) (w : Nat) (n : Int32) : Option Nat :=
  if ¬ pwy σ (zpl σ w) n = -1 ∧ ¬ pht σ w then some (zpl σ w)
  else match pff σ n with
    | none => if ¬ pwy σ (zpl σ w) n = -1 then some (zpl σ w) else none
    | some k => some k
theorem pff_lt {σ : zS} {n : Int32} : ∀ k, pff σ n = some k → k < 18 := fun _ h => pFree_lt h
theorem pfr_lt {σ : zS} : ∀ k, pfr σ = some k → k < 18 := fun _ h => pFree_lt h
theorem ptg_lt {σ : zS} {w : Nat} {n : Int32} (h : zpl σ w < 18) : ∀ k, ptg σ w n = some k → k < 18 := by
  intro k hk
  unfold ptg at hk
  split at hk
  · cases hk; exact h
  · split at hk
    · split at hk
      · cases hk; exact h
      · cases hk
    · next j hj => cases hk; exact pff_lt _ hj

theorem va_up_lt {f : Nat → Nat} {k t n m : Nat} (hf : ∀ x, x < n → f x < m) (ht : t < m) : ∀ x, x < n → va_up f k t x < m := by
  intro x hx
  unfold va_up
  split
  · exact ht
  · exact hf x hx
def pWear (f : Nat → Int32) (b : Nat) (mk : Int32) : Nat → Nat → Int32
  | 0 => f
  | n + 1 => upd (pWear f b mk n) (b + n) (pWear f b mk n (b + n) + ((mk >>> (nI n &&& 31)) &&& 1))
def pSettle (σ : zS) (w t : Nat) : zS :=
  if t = zpl σ w then (zhd σ, zwn σ, zwi σ, zpl σ, upd (zwh σ) w (zwh σ w + 1), upd (zwo σ) w (zwo σ w + 1), zmo σ, zst σ, zc0 σ, zc1 σ, zc2 σ, zc3 σ, zc4 σ)
  else (zhd σ, zwn σ, upd (upd (zwi σ) (zpl σ w) (-1)) t (nI w), va_up (zpl σ) w t, upd (zwh σ) w 0, upd (zwo σ) w (zwo σ w + 1), upd (zmo σ) w (zmo σ w + 1), zst σ, zc0 σ, zc1 σ, zc2 σ, zc3 σ + 1, zc4 σ)
/-- what changes where the number goes to the slot -/
abbrev pch (σ : zS) (t : Nat) (n : Int32) : Int32 := zhd σ t ^^^ pwy σ t n
def pPlace (σ : zS) (w : Nat) (n : Int32) (t : Nat) : zS :=
  pSettle (upd (zhd σ) t (pwy σ t n), pWear (zwn σ) (t * 13) (pch σ t n) 13, zwi σ, zpl σ, zwh σ, zwo σ, zmo σ, zst σ, zc0 σ + 1, zc1 σ + pBC (pch σ t n), zc2 σ + pBC (pnm σ w ^^^ n), zc3 σ, if pwy σ t n &&& 4096 = 0 then zc4 σ else zc4 σ + 1) w t
def pTurns (w : Nat) : Nat → zS → Int32 → zS × Nat
  | 0, σ, _ => (σ, 0)
  | k + 1, σ, n => match ptg σ w n with
    | none => (σ, 0)
    | some t => ((pTurns w k (pPlace σ w n t) (n ^^^ 4095)).1, (pTurns w k (pPlace σ w n t) (n ^^^ 4095)).2 + 1)
def pSwap (σ : zS) (w v : Nat) : zS :=
  (zhd σ, zwn σ, upd (upd (zwi σ) (va_up (va_up (zpl σ) w (zpl σ v)) v (zpl σ w) w) (nI w)) (va_up (va_up (zpl σ) w (zpl σ v)) v (zpl σ w) v) (nI v), va_up (va_up (zpl σ) w (zpl σ v)) v (zpl σ w), upd (upd (zwh σ) w 0) v 0, zwo σ, zmo σ, zst σ, zc0 σ, zc1 σ, zc2 σ, zc3 σ, zc4 σ)
theorem pSettle_ok {σ : zS} {w t : Nat} (h : zok σ) (ht : t < 18) : zok (pSettle σ w t) := by
  unfold pSettle
  split
  · exact h
  · exact va_up_lt h ht
theorem pPlace_ok {σ : zS} {w t : Nat} {n : Int32} (h : zok σ) (ht : t < 18) : zok (pPlace σ w n t) := pSettle_ok (σ := (upd (zhd σ) t (pwy σ t n), pWear (zwn σ) (t * 13) (pch σ t n) 13, zwi σ, zpl σ, zwh σ, zwo σ, zmo σ, zst σ, zc0 σ + 1, zc1 σ + pBC (pch σ t n), zc2 σ + pBC (pnm σ w ^^^ n), zc3 σ, if pwy σ t n &&& 4096 = 0 then zc4 σ else zc4 σ + 1)) h ht
theorem pTurns_some {w k : Nat} {σ : zS} {n : Int32} {t : Nat} (h : ptg σ w n = some t) : pTurns w (k + 1) σ n = ((pTurns w k (pPlace σ w n t) (n ^^^ 4095)).1, (pTurns w k (pPlace σ w n t) (n ^^^ 4095)).2 + 1) := by
  rw [pTurns, h]
theorem pTurns_none {w k : Nat} {σ : zS} {n : Int32} (h : ptg σ w n = none) : pTurns w k σ n = (σ, 0) := by
  cases k with
  | zero => rfl
  | succ k => rw [pTurns, h]
theorem pTurns_ok {w : Nat} (hw : w < 16) : ∀ {k : Nat} {σ : zS} {n : Int32}, zok σ → zok (pTurns w k σ n).1
  | 0, _, _, h => h
  | k + 1, σ, n, h => by
    cases hq : ptg σ w n with
    | none => rw [pTurns_none hq]; exact h
    | some t => rw [pTurns_some hq]; exact pTurns_ok hw (pPlace_ok h (ptg_lt (h w hw) t hq))
