abbrev rX4_in : Room := { frames := 0, cells := 0, slots := 0, locals := 0 }
set_option maxHeartbeats 4000000 in
set_option maxRecDepth 100000 in
theorem k_X4_in (l : Launch) (dC : Nat → ClassId) (dI : Nat → Nat → Nat) (x : Int32) (lo : Int32) (hi : Int32) : zRi l yX4_in wsX4_in rX4_in (dC, dI) [.int x, .int lo, .int hi] [] [] (fun r => r = if ¬ x < lo ∧ ¬ hi < x then 1 else 0) := by
  refine zRi_of (cc := cX4_in) (maxL := 3) (ty := .boolean) (by decide) rfl (Nat.le_of_ble_eq_true rfl) (fun v h => by subst h; split <;> rfl) ?_
  intro p e s m args below meth cd Q ls hat hP hK hend
  obtain ⟨hx, hb, hml, hown, hts, hl⟩ := hat
  replace hown : s.vm.findClass RX4 = some m.cls := hown
  replace hl : lv_has ls 3 [(0, .int x), (1, .int lo), (2, .int hi)] := hl
  replace hP : va_P (dC, dI) vwCl [] s.heap := hP
  refine lv_iload_n hx hb dX4_in_0 rfl (lv_at hl 0 rfl) ?_
  refine lv_iload_n hx hb dX4_in_1 rfl (lv_at hl 1 rfl) ?_
  refine lv_icmp_lt (tgt := 14) hx hb dX4_in_2 (by decide) (fun c_1 => ?_) (fun c_1 => ?_)
  · skip
    refine lv_iconst (v := 0) hx hb dX4_in_14 (by decide) ?_
    exact hend _ _ _ (by first | (simp only [c_1, not_true, not_false_iff, and_true, true_and, and_self, and_false, false_and, if_true, if_false]; done) | (simp only [c_1, not_true, not_false_iff, and_true, true_and, and_self, and_false, false_and, if_true, if_false]; assumption)) dX4_in_15
  · skip
    refine lv_iload_n hx hb dX4_in_5 rfl (lv_at hl 0 rfl) ?_
    refine lv_iload_n hx hb dX4_in_6 rfl (lv_at hl 2 rfl) ?_
    have hJ_2 : ∀ b_2 : Int32, b_2 = (if ¬ (hi < x) then 1 else 0) → W p l e rX4_in s m args below meth cd s.heap [] 0 0 Q (F0 m 15 ls (.int b_2 :: [])) := by
      intro b_2 eb_2
      exact hend _ _ _ (by first | (simp only [c_1, not_true, not_false_iff, and_true, true_and, and_self, and_false, false_and, if_true, if_false]; done) | (simp only [c_1, not_true, not_false_iff, and_true, true_and, and_self, and_false, false_and, if_true, if_false]; assumption)) dX4_in_15
    refine lv_icmp_gt (tgt := 14) hx hb dX4_in_7 (by decide) (fun c_2 => ?_) (fun c_2 => ?_)
    · refine lv_iconst (v := 0) hx hb dX4_in_14 (by decide) ?_
      exact hJ_2 _ (if_neg (fun z => z c_2)).symm
    · refine lv_iconst (v := 1) hx hb dX4_in_10 (by decide) ?_
      refine lv_goto (tgt := 15) hx hb dX4_in_11 (by decide) ?_
      exact hJ_2 _ (if_pos c_2).symm

abbrev rX4_isWord : Room := { frames := 1, cells := 0, slots := 0, locals := 22 }
set_option maxHeartbeats 4000000 in
set_option maxRecDepth 100000 in
theorem k_X4_isWord (l : Launch) (dC : Nat → ClassId) (dI : Nat → Nat → Nat) (x : Int32) : zRi l yX4_isWord wsX4_isWord rX4_isWord (dC, dI) [.int x] [] [] (fun r => r = if ¬ x < 0 ∧ ¬ 15 < x then 1 else 0) := by
  refine zRi_of (cc := cX4_isWord) (maxL := 1) (ty := .boolean) (by decide) rfl (Nat.le_of_ble_eq_true rfl) (fun v h => by subst h; split <;> rfl) ?_
  intro p e s m args below meth cd Q ls hat hP hK hend
  obtain ⟨hx, hb, hml, hown, hts, hl⟩ := hat
  replace hown : s.vm.findClass RX4 = some m.cls := hown
  replace hl : lv_has ls 1 [(0, .int x)] := hl
  replace hP : va_P (dC, dI) vwCl [] s.heap := hP
  refine lv_iload_n hx hb dX4_isWord_0 rfl (lv_at hl 0 rfl) ?_
  refine lv_iconst (v := 0) hx hb dX4_isWord_1 (by decide) ?_
  refine lv_bipush (v := 15) hx hb dX4_isWord_2 (by decide) ?_
  refine z_cSi (As := [.int x, .int 0, .int 15]) (rest := []) ⟨hx, hb, hml, hown, hts⟩ (k_X4_in l dC dI x (0 : Int32) (15 : Int32)) (va_cwS 3 hts gX4_isWord_X4_in rfl rfl rfl (by decide +kernel) ⟨Nat.le_of_ble_eq_true rfl, Nat.le_of_ble_eq_true rfl⟩) (hP.sub (ws' := []) [] rfl) (hK.sub (tys' := []) [] rfl) rfl hl.1 rfl (Nat.le_of_ble_eq_true rfl) dX4_isWord_4 ⟨Nat.le_of_ble_eq_true rfl, Nat.le_of_ble_eq_true rfl⟩ (fun r_1 hr_1 => ?_)
  exact hend _ _ _ hr_1 dX4_isWord_7

abbrev rX4_isSlot : Room := { frames := 1, cells := 0, slots := 0, locals := 22 }
set_option maxHeartbeats 4000000 in
set_option maxRecDepth 100000 in
theorem k_X4_isSlot (l : Launch) (dC : Nat → ClassId) (dI : Nat → Nat → Nat) (x : Int32) : zRi l yX4_isSlot wsX4_isSlot rX4_isSlot (dC, dI) [.int x] [] [] (fun r => r = if ¬ x < 0 ∧ ¬ 17 < x then 1 else 0) := by
  refine zRi_of (cc := cX4_isSlot) (maxL := 1) (ty := .boolean) (by decide) rfl (Nat.le_of_ble_eq_true rfl) (fun v h => by subst h; split <;> rfl) ?_
  intro p e s m args below meth cd Q ls hat hP hK hend
  obtain ⟨hx, hb, hml, hown, hts, hl⟩ := hat
  replace hown : s.vm.findClass RX4 = some m.cls := hown
  replace hl : lv_has ls 1 [(0, .int x)] := hl
  replace hP : va_P (dC, dI) vwCl [] s.heap := hP
  refine lv_iload_n hx hb dX4_isSlot_0 rfl (lv_at hl 0 rfl) ?_
  refine lv_iconst (v := 0) hx hb dX4_isSlot_1 (by decide) ?_
  refine lv_bipush (v := 17) hx hb dX4_isSlot_2 (by decide) ?_
  refine z_cSi (As := [.int x, .int 0, .int 17]) (rest := []) ⟨hx, hb, hml, hown, hts⟩ (k_X4_in l dC dI x (0 : Int32) (17 : Int32)) (va_cwS 3 hts gX4_isSlot_X4_in rfl rfl rfl (by decide +kernel) ⟨Nat.le_of_ble_eq_true rfl, Nat.le_of_ble_eq_true rfl⟩) (hP.sub (ws' := []) [] rfl) (hK.sub (tys' := []) [] rfl) rfl hl.1 rfl (Nat.le_of_ble_eq_true rfl) dX4_isSlot_4 ⟨Nat.le_of_ble_eq_true rfl, Nat.le_of_ble_eq_true rfl⟩ (fun r_1 hr_1 => ?_)
  exact hend _ _ _ hr_1 dX4_isSlot_7

abbrev rX4_isNumber : Room := { frames := 1, cells := 0, slots := 0, locals := 22 }
set_option maxHeartbeats 4000000 in
set_option maxRecDepth 100000 in
theorem k_X4_isNumber (l : Launch) (dC : Nat → ClassId) (dI : Nat → Nat → Nat) (x : Int32) : zRi l yX4_isNumber wsX4_isNumber rX4_isNumber (dC, dI) [.int x] [] [] (fun r => r = if ¬ x < 0 ∧ ¬ 4095 < x then 1 else 0) := by
  refine zRi_of (cc := cX4_isNumber) (maxL := 1) (ty := .boolean) (by decide) rfl (Nat.le_of_ble_eq_true rfl) (fun v h => by subst h; split <;> rfl) ?_
  intro p e s m args below meth cd Q ls hat hP hK hend
  obtain ⟨hx, hb, hml, hown, hts, hl⟩ := hat
  replace hown : s.vm.findClass RX4 = some m.cls := hown
  replace hl : lv_has ls 1 [(0, .int x)] := hl
  replace hP : va_P (dC, dI) vwCl [] s.heap := hP
  refine lv_iload_n hx hb dX4_isNumber_0 rfl (lv_at hl 0 rfl) ?_
  refine lv_iconst (v := 0) hx hb dX4_isNumber_1 (by decide) ?_
  refine lv_sipush (v := 4095) hx hb dX4_isNumber_2 (by decide) ?_
  refine z_cSi (As := [.int x, .int 0, .int 4095]) (rest := []) ⟨hx, hb, hml, hown, hts⟩ (k_X4_in l dC dI x (0 : Int32) (4095 : Int32)) (va_cwS 3 hts gX4_isNumber_X4_in rfl rfl rfl (by decide +kernel) ⟨Nat.le_of_ble_eq_true rfl, Nat.le_of_ble_eq_true rfl⟩) (hP.sub (ws' := []) [] rfl) (hK.sub (tys' := []) [] rfl) rfl hl.1 rfl (Nat.le_of_ble_eq_true rfl) dX4_isNumber_5 ⟨Nat.le_of_ble_eq_true rfl, Nat.le_of_ble_eq_true rfl⟩ (fun r_1 hr_1 => ?_)
  exact hend _ _ _ hr_1 dX4_isNumber_8

abbrev rX4_ones : Room := { frames := 0, cells := 0, slots := 0, locals := 0 }
set_option maxHeartbeats 4000000 in
set_option maxRecDepth 100000 in
theorem k_X4_ones_n (l : Launch) (dC : Nat → ClassId) (dI : Nat → Nat → Nat) (n : Nat) (hn : n < 8192) : zRi l yX4_ones wsX4_ones rX4_ones (dC, dI) [.int (nI n)] [] [] (fun r => r = pBC (nI n)) := by
  refine zRi_of (cc := cX4_ones) (maxL := 3) (ty := .int) (by decide) rfl (Nat.le_of_ble_eq_true rfl) (fun _ _ => rfl) ?_
  intro p e s m args below meth cd Q ls hat hP hK hend
  obtain ⟨hx, hb, hml, hown, hts, hl⟩ := hat
  replace hown : s.vm.findClass RX4 = some m.cls := hown
  replace hl : lv_has ls 3 [(0, .int (nI n))] := hl
  replace hP : va_P (dC, dI) vwCl [] s.heap := hP
  refine lv_iconst (v := 0) hx hb dX4_ones_0 (by decide) ?_
  refine lv_istore_n (lv' := [(1, .int 0), (0, .int (nI n))]) hx hb dX4_ones_1 rfl hl (by decide) rfl (fun ls hl => ?_)
  refine lv_iload_n hx hb dX4_ones_2 rfl (lv_at hl 1 rfl) ?_
  refine lv_istore_n (lv' := [(2, .int (nI n)), (1, .int 0), (0, .int (nI n))]) hx hb dX4_ones_3 rfl hl (by decide) rfl (fun ls hl => ?_)
  have hC_4 : ∀ (nf : Nat) (y : Nat) (k : Nat) (ls : Array Slot), y < nf → lv_has ls 3 [(0, .int (nI n)), (1, .int (nI k)), (2, .int (nI y))] → (y < 8192) → (k + pop13 y = pop13 n) → W p l e rX4_ones s m args below meth cd s.heap [] 0 0 Q (F0 m 4 ls []) := by
    intro nf
    induction nf with
    | zero => intro y k ls hm_4 hl hy ep; exact absurd hm_4 (Nat.not_lt_zero _)
    | succ nf ih_4 =>
      intro y k ls hm_4 hl hy ep
      refine lv_iload_n hx hb dX4_ones_4 rfl (lv_at hl 2 rfl) ?_
      refine z_ifeq hx hb y (by omega) (tgt := 20) dX4_ones_5 (by decide) (fun c_1 => ?_) (fun c_1 => ?_)
      · skip
        refine lv_iload_n hx hb dX4_ones_20 rfl (lv_at hl 1 rfl) ?_
        exact hend _ _ _ (by rw [pBC_nI hn, ← ep, c_1]; rfl) dX4_ones_21
      · skip
        refine lv_iinc (v := nI (k + 1)) (lv' := [(1, .int (nI (k + 1))), (0, .int (nI n)), (2, .int (nI y))]) hx hb dX4_ones_8 hl (k := 1) rfl (z_inc1 _) (by decide) rfl (fun ls hl => ?_)
        refine lv_iload_n hx hb dX4_ones_11 rfl (lv_at hl 2 rfl) ?_
        refine lv_iload_n hx hb dX4_ones_12 rfl (lv_at hl 2 rfl) ?_
        refine lv_iconst (v := 1) hx hb dX4_ones_13 (by decide) ?_
        refine z_isub hx hb y 1 (by omega) dX4_ones_14 ?_
        refine lv_iand hx hb dX4_ones_15 ?_
        refine z_top (z_and y (y - 1)) ?_
        refine lv_istore_n (lv' := [(2, .int (nI (y &&& (y - 1)))), (1, .int (nI (k + 1))), (0, .int (nI n))]) hx hb dX4_ones_16 rfl hl (by decide) rfl (fun ls hl => ?_)
        refine lv_goto (tgt := 4) hx hb dX4_ones_17 (by decide) ?_
        exact ih_4 (y &&& (y - 1)) (k + 1) _ (Nat.lt_of_le_of_lt Nat.and_le_right (by omega)) (lv_sub hl [2, 1, 0] rfl) (Nat.lt_of_le_of_lt Nat.and_le_left hy) (by have h9 := kern_s hy c_1; omega)
  exact hC_4 _ n 0 _ (Nat.lt_succ_self _) (lv_sub hl [2, 1, 0] rfl) (hn) (by rw [Nat.zero_add])

theorem k_X4_ones (l : Launch) (dC : Nat → ClassId) (dI : Nat → Nat → Nat) (x : Int32) (hx : z13 x) : zRi l yX4_ones wsX4_ones rX4_ones (dC, dI) [.int x] [] [] (fun r => r = pBC x) := by
  obtain ⟨n, hn, rfl⟩ := hx
  exact k_X4_ones_n l dC dI n hn

abbrev rX4_worn : Room := { frames := 0, cells := 0, slots := 0, locals := 0 }
set_option maxHeartbeats 4000000 in
set_option maxRecDepth 100000 in
theorem k_X4_worn (l : Launch) (dC : Nat → ClassId) (dI : Nat → Nat → Nat) (a : Nat) (cI : ClassId) (g : Nat → Int32) (hok : gok g) (hbt : gbt g) (j : Nat) (hj : j < 18) (i : Nat) (hi : i < 13) : zRi l yX4_worn wsX4_worn rX4_worn (dC, dI) [.ref a, .int (nI j), .int (nI i)] [(a, .inl (cI, 323, .inl g))] [(cI, .int)] (fun r => r = g (25 + (j * 13 + i))) := by
  refine zRi_of (cc := cX4_worn) (maxL := 3) (ty := .int) (by decide) rfl (Nat.le_of_ble_eq_true rfl) (fun _ _ => rfl) ?_
  intro p e s m args below meth cd Q ls hat hP hK hend
  obtain ⟨hx, hb, hml, hown, hts, hl⟩ := hat
  replace hown : s.vm.findClass RX4 = some m.cls := hown
  replace hl : lv_has ls 3 [(0, .ref a), (1, .int (nI j)), (2, .int (nI i))] := hl
  replace hP : va_P (dC, dI) vwCl [(a, .inl (cI, 323, .inl g))] s.heap := hP
  refine lv_aload_n hx hb dX4_worn_0 rfl (lv_at hl 0 rfl) ?_
  refine lv_bipush (v := 25) hx hb dX4_worn_1 (by decide) ?_
  refine lv_bipush (v := 13) hx hb dX4_worn_3 (by decide) ?_
  refine lv_iload_n hx hb dX4_worn_5 rfl (lv_at hl 1 rfl) ?_
  refine z_imul hx hb 13 j dX4_worn_6 ?_
  refine z_iadd hx hb 25 (13 * j) dX4_worn_7 ?_
  refine lv_iload_n hx hb dX4_worn_8 rfl (lv_at hl 2 rfl) ?_
  refine z_iadd hx hb (25 + (13 * j)) i dX4_worn_9 ?_
  refine z_top (congrArg nI (show (25 + (13 * j)) + i = 25 + (j * 13 + i) by omega)) ?_
  refine z_ald hx hb hK hP 0 0 (25 + (j * 13 + i)) (f := g) rfl rfl (by first | omega | decide) (by first | decide | omega) dX4_worn_10 ?_
  exact hend _ _ _ rfl dX4_worn_11

abbrev rX4_stuck : Room := { frames := 1, cells := 0, slots := 0, locals := 22 }
set_option maxHeartbeats 4000000 in
set_option maxRecDepth 100000 in
theorem k_X4_stuck (l : Launch) (dC : Nat → ClassId) (dI : Nat → Nat → Nat) (a : Nat) (cI : ClassId) (g : Nat → Int32) (hok : gok g) (hbt : gbt g) (j : Nat) (hj : j < 18) : zRi l yX4_stuck wsX4_stuck rX4_stuck (dC, dI) [.ref a, .int (nI j)] [(a, .inl (cI, 323, .inl g))] [(cI, .int)] (fun r => r = pst (gS g) j) := by
  refine zRi_of (cc := cX4_stuck) (maxL := 4) (ty := .int) (by decide) rfl (Nat.le_of_ble_eq_true rfl) (fun _ _ => rfl) ?_
  intro p e s m args below meth cd Q ls hat hP hK hend
  obtain ⟨hx, hb, hml, hown, hts, hl⟩ := hat
  replace hown : s.vm.findClass RX4 = some m.cls := hown
  replace hl : lv_has ls 4 [(0, .ref a), (1, .int (nI j))] := hl
  replace hP : va_P (dC, dI) vwCl [(a, .inl (cI, 323, .inl g))] s.heap := hP
  refine lv_iconst (v := 0) hx hb dX4_stuck_0 (by decide) ?_
  refine lv_istore_n (lv' := [(2, .int 0), (0, .ref a), (1, .int (nI j))]) hx hb dX4_stuck_1 rfl hl (by decide) rfl (fun ls hl => ?_)
  refine lv_iconst (v := 0) hx hb dX4_stuck_2 (by decide) ?_
  refine lv_istore_n (lv' := [(3, .int 0), (2, .int 0), (0, .ref a), (1, .int (nI j))]) hx hb dX4_stuck_3 rfl hl (by decide) rfl (fun ls hl => ?_)
  have hC_4 : ∀ (nf : Nat) (x : Int32) (c : Nat) (ls : Array Slot), 13 - c < nf → lv_has ls 4 [(0, .ref a), (1, .int (nI j)), (2, .int x), (3, .int (nI c))] → (c ≤ 13) → (x = pStuck (fun c => g (25 + (j * 13 + c))) (g 0) c) → W p l e rX4_stuck s m args below meth cd s.heap [] 0 0 Q (F0 m 4 ls []) := by
    intro nf
    induction nf with
    | zero => intro x c ls hm_4 hl hc ex; exact absurd hm_4 (Nat.not_lt_zero _)
    | succ nf ih_4 =>
      intro x c ls hm_4 hl hc ex
      refine lv_iload_n hx hb dX4_stuck_4 rfl (lv_at hl 3 rfl) ?_
      refine lv_bipush (v := 13) hx hb dX4_stuck_5 (by decide) ?_
      refine z_ge hx hb c 13 (by omega) (by omega) (tgt := 38) dX4_stuck_7 (by decide) (fun c_1 => ?_) (fun c_1 => ?_)
      · skip
        refine lv_iload_n hx hb dX4_stuck_38 rfl (lv_at hl 2 rfl) ?_
        exact hend _ _ _ (by rw [ex, show c = 13 by omega]) dX4_stuck_39
      · skip
        refine lv_iload_n hx hb dX4_stuck_10 rfl (lv_at hl 2 rfl) ?_
        refine lv_aload_n hx hb dX4_stuck_11 rfl (lv_at hl 0 rfl) ?_
        refine lv_iload_n hx hb dX4_stuck_12 rfl (lv_at hl 1 rfl) ?_
        refine lv_iload_n hx hb dX4_stuck_13 rfl (lv_at hl 3 rfl) ?_
        refine z_cSi (As := [.ref a, .int (nI j), .int (nI c)]) (rest := [.int x]) ⟨hx, hb, hml, hown, hts⟩ (k_X4_worn l dC dI a cI g hok hbt j (by omega) c (by omega)) (va_cwS 3 hts gX4_stuck_X4_worn rfl rfl rfl (by decide +kernel) ⟨Nat.le_of_ble_eq_true rfl, Nat.le_of_ble_eq_true rfl⟩) (hP.sub (ws' := [(a, .inl (cI, 323, .inl g))]) [0] rfl) (hK.sub (tys' := [(cI, .int)]) [0] rfl) rfl hl.1 rfl (Nat.le_of_ble_eq_true rfl) dX4_stuck_14 ⟨Nat.le_of_ble_eq_true rfl, Nat.le_of_ble_eq_true rfl⟩ (fun r_2 hr_2 => ?_)
        subst hr_2
        refine lv_aload_n hx hb dX4_stuck_17 rfl (lv_at hl 0 rfl) ?_
        refine lv_iconst (v := 0) hx hb dX4_stuck_18 (by decide) ?_
        refine z_ald hx hb hK hP 0 0 0 (f := g) rfl rfl (by first | omega | decide) (by first | decide | omega) dX4_stuck_19 ?_
        refine lv_icmp_lt (tgt := 29) hx hb dX4_stuck_20 (by decide) (fun c_3 => ?_) (fun c_3 => ?_)
        · skip
          refine lv_iconst (v := 0) hx hb dX4_stuck_29 (by decide) ?_
          refine lv_ior hx hb dX4_stuck_30 ?_
          refine lv_istore_n (lv' := [(2, .int (x ||| 0)), (0, .ref a), (1, .int (nI j)), (3, .int (nI c))]) hx hb dX4_stuck_31 rfl hl (by decide) rfl (fun ls hl => ?_)
          refine lv_iinc (v := nI (c + 1)) (lv' := [(3, .int (nI (c + 1))), (2, .int (x ||| 0)), (0, .ref a), (1, .int (nI j))]) hx hb dX4_stuck_32 hl (k := 3) rfl (z_inc1 _) (by decide) rfl (fun ls hl => ?_)
          refine lv_goto (tgt := 4) hx hb dX4_stuck_35 (by decide) ?_
          exact ih_4 (x ||| 0) (c + 1) _ (by omega) (lv_sub hl [2, 3, 1, 0] rfl) (by omega) (by rw [ex]; simp [pStuck, c_1, c_3])
        · skip
          refine lv_iconst (v := 1) hx hb dX4_stuck_23 (by decide) ?_
          refine lv_iload_n hx hb dX4_stuck_24 rfl (lv_at hl 3 rfl) ?_
          refine lv_ishl hx hb dX4_stuck_25 ?_
          refine lv_goto (tgt := 30) hx hb dX4_stuck_26 (by decide) ?_
          refine lv_ior hx hb dX4_stuck_30 ?_
          refine lv_istore_n (lv' := [(2, .int (x ||| (1 <<< ((nI c) &&& 31)))), (0, .ref a), (1, .int (nI j)), (3, .int (nI c))]) hx hb dX4_stuck_31 rfl hl (by decide) rfl (fun ls hl => ?_)
          refine lv_iinc (v := nI (c + 1)) (lv' := [(3, .int (nI (c + 1))), (2, .int (x ||| (1 <<< ((nI c) &&& 31)))), (0, .ref a), (1, .int (nI j))]) hx hb dX4_stuck_32 hl (k := 3) rfl (z_inc1 _) (by decide) rfl (fun ls hl => ?_)
          refine lv_goto (tgt := 4) hx hb dX4_stuck_35 (by decide) ?_
          exact ih_4 (x ||| (1 <<< ((nI c) &&& 31))) (c + 1) _ (by omega) (lv_sub hl [2, 3, 1, 0] rfl) (by omega) (by rw [ex]; simp [pStuck, c_1, c_3])
  exact hC_4 _ 0 0 _ (Nat.lt_succ_self _) (lv_sub hl [2, 3, 1, 0] rfl) (by omega) (rfl)

abbrev rX4_allWear : Room := { frames := 1, cells := 0, slots := 0, locals := 22 }
set_option maxHeartbeats 4000000 in
set_option maxRecDepth 100000 in
theorem k_X4_allWear (l : Launch) (dC : Nat → ClassId) (dI : Nat → Nat → Nat) (a : Nat) (cI : ClassId) (g : Nat → Int32) (hok : gok g) (hbt : gbt g) (j : Nat) (hj : j < 18) : zRi l yX4_allWear wsX4_allWear rX4_allWear (dC, dI) [.ref a, .int (nI j)] [(a, .inl (cI, 323, .inl g))] [(cI, .int)] (fun r => r = pwr (gS g) j) := by
  refine zRi_of (cc := cX4_allWear) (maxL := 4) (ty := .int) (by decide) rfl (Nat.le_of_ble_eq_true rfl) (fun _ _ => rfl) ?_
  intro p e s m args below meth cd Q ls hat hP hK hend
  obtain ⟨hx, hb, hml, hown, hts, hl⟩ := hat
  replace hown : s.vm.findClass RX4 = some m.cls := hown
  replace hl : lv_has ls 4 [(0, .ref a), (1, .int (nI j))] := hl
  replace hP : va_P (dC, dI) vwCl [(a, .inl (cI, 323, .inl g))] s.heap := hP
  refine lv_iconst (v := 0) hx hb dX4_allWear_0 (by decide) ?_
  refine lv_istore_n (lv' := [(2, .int 0), (0, .ref a), (1, .int (nI j))]) hx hb dX4_allWear_1 rfl hl (by decide) rfl (fun ls hl => ?_)
  refine lv_iconst (v := 0) hx hb dX4_allWear_2 (by decide) ?_
  refine lv_istore_n (lv' := [(3, .int 0), (2, .int 0), (0, .ref a), (1, .int (nI j))]) hx hb dX4_allWear_3 rfl hl (by decide) rfl (fun ls hl => ?_)
  have hC_4 : ∀ (nf : Nat) (x : Int32) (c : Nat) (ls : Array Slot), 13 - c < nf → lv_has ls 4 [(0, .ref a), (1, .int (nI j)), (2, .int x), (3, .int (nI c))] → (c ≤ 13) → (x = pSum (fun c => g (25 + (j * 13 + c))) c) → W p l e rX4_allWear s m args below meth cd s.heap [] 0 0 Q (F0 m 4 ls []) := by
    intro nf
    induction nf with
    | zero => intro x c ls hm_4 hl hc ex; exact absurd hm_4 (Nat.not_lt_zero _)
    | succ nf ih_4 =>
      intro x c ls hm_4 hl hc ex
      refine lv_iload_n hx hb dX4_allWear_4 rfl (lv_at hl 3 rfl) ?_
      refine lv_bipush (v := 13) hx hb dX4_allWear_5 (by decide) ?_
      refine z_ge hx hb c 13 (by omega) (by omega) (tgt := 25) dX4_allWear_7 (by decide) (fun c_1 => ?_) (fun c_1 => ?_)
      · skip
        refine lv_iload_n hx hb dX4_allWear_25 rfl (lv_at hl 2 rfl) ?_
        exact hend _ _ _ (by rw [ex, show c = 13 by omega]) dX4_allWear_26
      · skip
        refine lv_iload_n hx hb dX4_allWear_10 rfl (lv_at hl 2 rfl) ?_
        refine lv_aload_n hx hb dX4_allWear_11 rfl (lv_at hl 0 rfl) ?_
        refine lv_iload_n hx hb dX4_allWear_12 rfl (lv_at hl 1 rfl) ?_
        refine lv_iload_n hx hb dX4_allWear_13 rfl (lv_at hl 3 rfl) ?_
        refine z_cSi (As := [.ref a, .int (nI j), .int (nI c)]) (rest := [.int x]) ⟨hx, hb, hml, hown, hts⟩ (k_X4_worn l dC dI a cI g hok hbt j (by omega) c (by omega)) (va_cwS 3 hts gX4_allWear_X4_worn rfl rfl rfl (by decide +kernel) ⟨Nat.le_of_ble_eq_true rfl, Nat.le_of_ble_eq_true rfl⟩) (hP.sub (ws' := [(a, .inl (cI, 323, .inl g))]) [0] rfl) (hK.sub (tys' := [(cI, .int)]) [0] rfl) rfl hl.1 rfl (Nat.le_of_ble_eq_true rfl) dX4_allWear_14 ⟨Nat.le_of_ble_eq_true rfl, Nat.le_of_ble_eq_true rfl⟩ (fun r_2 hr_2 => ?_)
        subst hr_2
        refine lv_iadd hx hb dX4_allWear_17 ?_
        refine lv_istore_n (lv' := [(2, .int (x + (g (25 + (j * 13 + c))))), (0, .ref a), (1, .int (nI j)), (3, .int (nI c))]) hx hb dX4_allWear_18 rfl hl (by decide) rfl (fun ls hl => ?_)
        refine lv_iinc (v := nI (c + 1)) (lv' := [(3, .int (nI (c + 1))), (2, .int (x + (g (25 + (j * 13 + c))))), (0, .ref a), (1, .int (nI j))]) hx hb dX4_allWear_19 hl (k := 3) rfl (z_inc1 _) (by decide) rfl (fun ls hl => ?_)
        refine lv_goto (tgt := 4) hx hb dX4_allWear_22 (by decide) ?_
        exact ih_4 (x + (g (25 + (j * 13 + c)))) (c + 1) _ (by omega) (lv_sub hl [2, 3, 1, 0] rfl) (by omega) (by rw [ex]; rfl)
  exact hC_4 _ 0 0 _ (Nat.lt_succ_self _) (lv_sub hl [2, 3, 1, 0] rfl) (by omega) (rfl)

abbrev rX4_wordOf : Room := { frames := 0, cells := 0, slots := 0, locals := 0 }
set_option maxHeartbeats 4000000 in
set_option maxRecDepth 100000 in
theorem k_X4_wordOf (l : Launch) (dC : Nat → ClassId) (dI : Nat → Nat → Nat) (a : Nat) (cI : ClassId) (g : Nat → Int32) (hok : gok g) (hbt : gbt g) (j : Nat) (hj : j < 18) : zRi l yX4_wordOf wsX4_wordOf rX4_wordOf (dC, dI) [.ref a, .int (nI j)] [(a, .inl (cI, 323, .inl g))] [(cI, .int)] (fun r => r = zwi (gS g) j) := by
  refine zRi_of (cc := cX4_wordOf) (maxL := 4) (ty := .int) (by decide) rfl (Nat.le_of_ble_eq_true rfl) (fun _ _ => rfl) ?_
  intro p e s m args below meth cd Q ls hat hP hK hend
  obtain ⟨hx, hb, hml, hown, hts, hl⟩ := hat
  replace hown : s.vm.findClass RX4 = some m.cls := hown
  replace hl : lv_has ls 4 [(0, .ref a), (1, .int (nI j))] := hl
  replace hP : va_P (dC, dI) vwCl [(a, .inl (cI, 323, .inl g))] s.heap := hP
  refine lv_iconst (v := (-1)) hx hb dX4_wordOf_0 (by decide) ?_
  refine lv_istore_n (lv' := [(2, .int (-1)), (0, .ref a), (1, .int (nI j))]) hx hb dX4_wordOf_1 rfl hl (by decide) rfl (fun ls hl => ?_)
  refine lv_iconst (v := 0) hx hb dX4_wordOf_2 (by decide) ?_
  refine lv_istore_n (lv' := [(3, .int 0), (2, .int (-1)), (0, .ref a), (1, .int (nI j))]) hx hb dX4_wordOf_3 rfl hl (by decide) rfl (fun ls hl => ?_)
  have hC_4 : ∀ (nf : Nat) (o : Option Nat) (c : Nat) (ls : Array Slot), 16 - c < nf → lv_has ls 4 [(0, .ref a), (1, .int (nI j)), (2, .int (zo o)), (3, .int (nI c))] → (c ≤ 16) → (o = pWo (fun w => g (259 + w)) j c) → (∀ k, o = some k → k < 16) → W p l e rX4_wordOf s m args below meth cd s.heap [] 0 0 Q (F0 m 4 ls []) := by
    intro nf
    induction nf with
    | zero => intro o c ls hm_4 hl hc eo hbo; exact absurd hm_4 (Nat.not_lt_zero _)
    | succ nf ih_4 =>
      intro o c ls hm_4 hl hc eo hbo
      refine lv_iload_n hx hb dX4_wordOf_4 rfl (lv_at hl 3 rfl) ?_
      refine lv_bipush (v := 16) hx hb dX4_wordOf_5 (by decide) ?_
      refine z_ge hx hb c 16 (by omega) (by omega) (tgt := 33) dX4_wordOf_7 (by decide) (fun c_1 => ?_) (fun c_1 => ?_)
      · skip
        refine lv_iload_n hx hb dX4_wordOf_33 rfl (lv_at hl 2 rfl) ?_
        exact hend _ _ _ (by rw [eo, show c = 16 by omega]) dX4_wordOf_34
      · skip
        refine lv_aload_n hx hb dX4_wordOf_10 rfl (lv_at hl 0 rfl) ?_
        refine lv_sipush (v := 259) hx hb dX4_wordOf_11 (by decide) ?_
        refine lv_iload_n hx hb dX4_wordOf_14 rfl (lv_at hl 3 rfl) ?_
        refine z_iadd hx hb 259 c dX4_wordOf_15 ?_
        refine z_ald hx hb hK hP 0 0 (259 + c) (f := g) rfl rfl (by first | omega | decide) (by first | decide | omega) dX4_wordOf_16 ?_
        refine lv_iload_n hx hb dX4_wordOf_17 rfl (lv_at hl 1 rfl) ?_
        refine lv_icmp_ne (tgt := 25) hx hb dX4_wordOf_18 (by decide) (fun c_2 => ?_) (fun c_2 => ?_)
        · skip
          refine lv_iload_n hx hb dX4_wordOf_25 rfl (lv_at hl 2 rfl) ?_
          refine lv_istore_n (lv' := [(2, .int (zo o)), (0, .ref a), (1, .int (nI j)), (3, .int (nI c))]) hx hb dX4_wordOf_26 rfl hl (by decide) rfl (fun ls hl => ?_)
          refine lv_iinc (v := nI (c + 1)) (lv' := [(3, .int (nI (c + 1))), (2, .int (zo o)), (0, .ref a), (1, .int (nI j))]) hx hb dX4_wordOf_27 hl (k := 3) rfl (z_inc1 _) (by decide) rfl (fun ls hl => ?_)
          refine lv_goto (tgt := 4) hx hb dX4_wordOf_30 (by decide) ?_
          exact ih_4 o (c + 1) _ (by omega) (lv_sub hl [2, 3, 1, 0] rfl) (by omega) (by simp [pWo, ← eo, c_1, c_2]) (fun i hi => Nat.lt_of_lt_of_le (hbo i hi) (by omega))
        · skip
          refine lv_iload_n hx hb dX4_wordOf_21 rfl (lv_at hl 3 rfl) ?_
          refine lv_goto (tgt := 26) hx hb dX4_wordOf_22 (by decide) ?_
          refine lv_istore_n (lv' := [(2, .int (nI c)), (0, .ref a), (1, .int (nI j)), (3, .int (nI c))]) hx hb dX4_wordOf_26 rfl hl (by decide) rfl (fun ls hl => ?_)
          refine lv_iinc (v := nI (c + 1)) (lv' := [(3, .int (nI (c + 1))), (2, .int (nI c)), (0, .ref a), (1, .int (nI j))]) hx hb dX4_wordOf_27 hl (k := 3) rfl (z_inc1 _) (by decide) rfl (fun ls hl => ?_)
          refine lv_goto (tgt := 4) hx hb dX4_wordOf_30 (by decide) ?_
          exact ih_4 (some c) (c + 1) _ (by omega) (lv_sub hl [2, 3, 1, 0] rfl) (by omega) (by simp [pWo, ← eo, c_1, eq_true c_2]) (by intro i hi; cases hi; omega)
  exact hC_4 _ none 0 _ (Nat.lt_succ_self _) (lv_sub hl [2, 3, 1, 0] rfl) (by omega) (rfl) (by intro _ h; cases h)

abbrev rX4_isHot : Room := { frames := 0, cells := 0, slots := 0, locals := 0 }
set_option maxHeartbeats 4000000 in
set_option maxRecDepth 100000 in
theorem k_X4_isHot (l : Launch) (dC : Nat → ClassId) (dI : Nat → Nat → Nat) (a : Nat) (cI : ClassId) (g : Nat → Int32) (hok : gok g) (hbt : gbt g) (j : Nat) (hj : j < 16) : zRi l yX4_isHot wsX4_isHot rX4_isHot (dC, dI) [.ref a, .int (nI j)] [(a, .inl (cI, 323, .inl g))] [(cI, .int)] (fun r => r = if pht (gS g) j then 1 else 0) := by
  refine zRi_of (cc := cX4_isHot) (maxL := 2) (ty := .boolean) (by decide) rfl (Nat.le_of_ble_eq_true rfl) (fun v h => by subst h; split <;> rfl) ?_
  intro p e s m args below meth cd Q ls hat hP hK hend
  obtain ⟨hx, hb, hml, hown, hts, hl⟩ := hat
  replace hown : s.vm.findClass RX4 = some m.cls := hown
  replace hl : lv_has ls 2 [(0, .ref a), (1, .int (nI j))] := hl
  replace hP : va_P (dC, dI) vwCl [(a, .inl (cI, 323, .inl g))] s.heap := hP
  refine lv_aload_n hx hb dX4_isHot_0 rfl (lv_at hl 0 rfl) ?_
  refine lv_iconst (v := 1) hx hb dX4_isHot_1 (by decide) ?_
  refine z_ald hx hb hK hP 0 0 1 (f := g) rfl rfl (by first | omega | decide) (by first | decide | omega) dX4_isHot_2 ?_
  refine lv_if_le (tgt := 23) hx hb dX4_isHot_3 (by decide) (fun c_1 => ?_) (fun c_1 => ?_)
  · skip
    refine lv_iconst (v := 0) hx hb dX4_isHot_23 (by decide) ?_
    exact hend _ _ _ (by simp [pht, pHot, c_1]) dX4_isHot_24
  · skip
    refine lv_aload_n hx hb dX4_isHot_6 rfl (lv_at hl 0 rfl) ?_
    refine lv_sipush (v := 275) hx hb dX4_isHot_7 (by decide) ?_
    refine lv_iload_n hx hb dX4_isHot_10 rfl (lv_at hl 1 rfl) ?_
    refine z_iadd hx hb 275 j dX4_isHot_11 ?_
    refine z_ald hx hb hK hP 0 0 (275 + j) (f := g) rfl rfl (by first | omega | decide) (by first | decide | omega) dX4_isHot_12 ?_
    refine lv_aload_n hx hb dX4_isHot_13 rfl (lv_at hl 0 rfl) ?_
    refine lv_iconst (v := 1) hx hb dX4_isHot_14 (by decide) ?_
    refine z_ald hx hb hK hP 0 0 1 (f := g) rfl rfl (by first | omega | decide) (by first | decide | omega) dX4_isHot_15 ?_
    have hJ_2 : ∀ b_2 : Int32, b_2 = (if ¬ ((g (275 + j)) < (g 1)) then 1 else 0) → W p l e rX4_isHot s m args below meth cd s.heap [] 0 0 Q (F0 m 24 ls (.int b_2 :: [])) := by
      intro b_2 eb_2
      exact hend _ _ _ (by simp [pht, pHot, c_1, eb_2]) dX4_isHot_24
    refine lv_icmp_lt (tgt := 23) hx hb dX4_isHot_16 (by decide) (fun c_2 => ?_) (fun c_2 => ?_)
    · refine lv_iconst (v := 0) hx hb dX4_isHot_23 (by decide) ?_
      exact hJ_2 _ (if_neg (fun z => z c_2)).symm
    · refine lv_iconst (v := 1) hx hb dX4_isHot_19 (by decide) ?_
      refine lv_goto (tgt := 24) hx hb dX4_isHot_20 (by decide) ?_
      exact hJ_2 _ (if_pos c_2).symm

abbrev rX4_reads : Room := { frames := 0, cells := 0, slots := 0, locals := 0 }
set_option maxHeartbeats 4000000 in
set_option maxRecDepth 100000 in
theorem k_X4_reads (l : Launch) (dC : Nat → ClassId) (dI : Nat → Nat → Nat) (a : Nat) (cI : ClassId) (g : Nat → Int32) (hok : gok g) (hbt : gbt g) (j : Nat) (hj : j < 16) : zRi l yX4_reads wsX4_reads rX4_reads (dC, dI) [.ref a, .int (nI j)] [(a, .inl (cI, 323, .inl g))] [(cI, .int)] (fun r => r = pnm (gS g) j) := by
  refine zRi_of (cc := cX4_reads) (maxL := 3) (ty := .int) (by decide) rfl (Nat.le_of_ble_eq_true rfl) (fun _ _ => rfl) ?_
  intro p e s m args below meth cd Q ls hat hP hK hend
  obtain ⟨hx, hb, hml, hown, hts, hl⟩ := hat
  replace hown : s.vm.findClass RX4 = some m.cls := hown
  replace hl : lv_has ls 3 [(0, .ref a), (1, .int (nI j))] := hl
  replace hP : va_P (dC, dI) vwCl [(a, .inl (cI, 323, .inl g))] s.heap := hP
  refine lv_aload_n hx hb dX4_reads_0 rfl (lv_at hl 0 rfl) ?_
  refine lv_bipush (v := 7) hx hb dX4_reads_1 (by decide) ?_
  refine lv_aload_n hx hb dX4_reads_3 rfl (lv_at hl 0 rfl) ?_
  refine lv_sipush (v := 259) hx hb dX4_reads_4 (by decide) ?_
  refine lv_iload_n hx hb dX4_reads_7 rfl (lv_at hl 1 rfl) ?_
  refine z_iadd hx hb 259 j dX4_reads_8 ?_
  refine z_ald hx hb hK hP 0 0 (259 + j) (f := g) rfl rfl (by first | omega | decide) (by first | decide | omega) dX4_reads_9 ?_
  refine z_top (hok j (by omega)).2 ?_
  have hq_1 := (hok j (by omega)).1
  refine z_iadd hx hb 7 (gpl g j) dX4_reads_10 ?_
  refine z_ald hx hb hK hP 0 0 (7 + (gpl g j)) (f := g) rfl rfl (by first | omega | decide) (by first | decide | omega) dX4_reads_11 ?_
  refine lv_istore_n (lv' := [(2, .int (g (7 + (gpl g j)))), (0, .ref a), (1, .int (nI j))]) hx hb dX4_reads_12 rfl hl (by decide) rfl (fun ls hl => ?_)
  refine lv_iload_n hx hb dX4_reads_13 rfl (lv_at hl 0 rfl) ?_
  refine lv_sipush (v := 4096) hx hb dX4_reads_14 (by decide) ?_
  refine lv_icmp_ge (tgt := 24) hx hb dX4_reads_17 (by decide) (fun c_2 => ?_) (fun c_2 => ?_)
  · skip
    refine lv_iload_n hx hb dX4_reads_24 rfl (lv_at hl 0 rfl) ?_
    refine lv_iconst (v := (-1)) hx hb dX4_reads_25 (by decide) ?_
    refine lv_ixor hx hb dX4_reads_26 ?_
    refine lv_sipush (v := 4095) hx hb dX4_reads_27 (by decide) ?_
    refine lv_iand hx hb dX4_reads_30 ?_
    exact hend _ _ _ (by rw [show pnm (gS g) j = pNum (g (7 + gpl g j)) from rfl, pNum_ge (hbt _ (by omega))]; simp only [c_2, if_true, if_false]) dX4_reads_31
  · skip
    refine lv_iload_n hx hb dX4_reads_20 rfl (lv_at hl 0 rfl) ?_
    refine lv_goto (tgt := 31) hx hb dX4_reads_21 (by decide) ?_
    exact hend _ _ _ (by rw [show pnm (gS g) j = pNum (g (7 + gpl g j)) from rfl, pNum_ge (hbt _ (by omega))]; simp only [c_2, if_true, if_false]) dX4_reads_31

abbrev rX4_taken : Room := { frames := 1, cells := 0, slots := 0, locals := 22 }
set_option maxHeartbeats 4000000 in
set_option maxRecDepth 100000 in
theorem k_X4_taken_r (l : Launch) (dC : Nat → ClassId) (dI : Nat → Nat → Nat) (a : Nat) (cI : ClassId) (g : Nat → Int32) (hok : gok g) (hbt : gbt g) (j : Nat) (hj : j < 18) (v : Nat) (hv : v < 4096) (st : Int32) : zRi l yX4_taken wsX4_taken rX4_taken (dC, dI) [.ref a, .int (nI j), .int (nI v), .int st] [(a, .inl (cI, 323, .inl g))] [(cI, .int)] (fun r => r = pTak (g (7 + j)) (nI v) st) := by
  refine zRi_of (cc := cX4_taken) (maxL := 10) (ty := .int) (by decide) rfl (Nat.le_of_ble_eq_true rfl) (fun _ _ => rfl) ?_
  intro p e s m args below meth cd Q ls hat hP hK hend
  obtain ⟨hx, hb, hml, hown, hts, hl⟩ := hat
  replace hown : s.vm.findClass RX4 = some m.cls := hown
  replace hl : lv_has ls 10 [(0, .ref a), (1, .int (nI j)), (2, .int (nI v)), (3, .int st)] := hl
  replace hP : va_P (dC, dI) vwCl [(a, .inl (cI, 323, .inl g))] s.heap := hP
  refine lv_aload_n hx hb dX4_taken_0 rfl (lv_at hl 0 rfl) ?_
  refine lv_bipush (v := 7) hx hb dX4_taken_1 (by decide) ?_
  refine lv_iload_n hx hb dX4_taken_3 rfl (lv_at hl 1 rfl) ?_
  refine z_iadd hx hb 7 j dX4_taken_4 ?_
  refine z_ald hx hb hK hP 0 0 (7 + j) (f := g) rfl rfl (by first | omega | decide) (by first | decide | omega) dX4_taken_5 ?_
  refine lv_istore (lv' := [(4, .int (g (7 + j))), (0, .ref a), (1, .int (nI j)), (2, .int (nI v)), (3, .int st)]) hx hb dX4_taken_6 hl (by decide) rfl (fun ls hl => ?_)
  refine lv_iload_n hx hb dX4_taken_8 rfl (lv_at hl 3 rfl) ?_
  refine lv_iconst (v := (-1)) hx hb dX4_taken_9 (by decide) ?_
  refine lv_ixor hx hb dX4_taken_10 ?_
  refine lv_sipush (v := 4095) hx hb dX4_taken_11 (by decide) ?_
  refine lv_iand hx hb dX4_taken_14 ?_
  refine lv_sipush (v := 4096) hx hb dX4_taken_15 (by decide) ?_
  refine lv_ior hx hb dX4_taken_18 ?_
  refine lv_istore (lv' := [(5, .int ((((nI v) ^^^ (-1)) &&& 4095) ||| 4096)), (4, .int (g (7 + j))), (0, .ref a), (1, .int (nI j)), (2, .int (nI v)), (3, .int st)]) hx hb dX4_taken_19 hl (by decide) rfl (fun ls hl => ?_)
  refine lv_iload hx hb dX4_taken_21 (lv_at hl 1 rfl) ?_
  refine lv_iload_n hx hb dX4_taken_23 rfl (lv_at hl 4 rfl) ?_
  refine lv_ixor hx hb dX4_taken_24 ?_
  refine lv_iload_n hx hb dX4_taken_25 rfl (lv_at hl 5 rfl) ?_
  refine lv_iand hx hb dX4_taken_26 ?_
  have hJ_1 : ∀ b_1 : Int32, b_1 = (if (((g (7 + j)) ^^^ (nI v)) &&& st) = 0 then 1 else 0) → W p l e rX4_taken s m args below meth cd s.heap [] 0 0 Q (F0 m 35 ls (.int b_1 :: [])) := by
    intro b_1 eb_1
    refine lv_istore (lv' := [(6, .int b_1), (5, .int ((((nI v) ^^^ (-1)) &&& 4095) ||| 4096)), (4, .int (g (7 + j))), (0, .ref a), (1, .int (nI j)), (2, .int (nI v)), (3, .int st)]) hx hb dX4_taken_35 hl (by decide) rfl (fun ls hl => ?_)
    refine lv_iload hx hb dX4_taken_37 (lv_at hl 2 rfl) ?_
    refine lv_iload hx hb dX4_taken_39 (lv_at hl 1 rfl) ?_
    refine lv_ixor hx hb dX4_taken_41 ?_
    refine lv_iload_n hx hb dX4_taken_42 rfl (lv_at hl 6 rfl) ?_
    refine lv_iand hx hb dX4_taken_43 ?_
    have hJ_2 : ∀ b_2 : Int32, b_2 = (if (((g (7 + j)) ^^^ ((((nI v) ^^^ (-1)) &&& 4095) ||| 4096)) &&& st) = 0 then 1 else 0) → W p l e rX4_taken s m args below meth cd s.heap [] 0 0 Q (F0 m 52 ls (.int b_2 :: [])) := by
      intro b_2 eb_2
      refine lv_istore (lv' := [(7, .int b_2), (6, .int b_1), (5, .int ((((nI v) ^^^ (-1)) &&& 4095) ||| 4096)), (4, .int (g (7 + j))), (0, .ref a), (1, .int (nI j)), (2, .int (nI v)), (3, .int st)]) hx hb dX4_taken_52 hl (by decide) rfl (fun ls hl => ?_)
      refine lv_iload hx hb dX4_taken_54 (lv_at hl 1 rfl) ?_
      refine z_ifeqB hx hb eb_1 (tgt := 64) dX4_taken_56 (by decide) (fun c_3 => ?_) (fun c_3 => ?_)
      · skip
        refine lv_iload hx hb dX4_taken_64 (lv_at hl 1 rfl) ?_
        refine z_ifeqB hx hb eb_1 (tgt := 73) dX4_taken_66 (by decide) (fun c_4 => ?_) (fun c_4 => ?_)
        · skip
          refine lv_iload hx hb dX4_taken_73 (lv_at hl 0 rfl) ?_
          refine z_ifeqB hx hb eb_2 (tgt := 83) dX4_taken_75 (by decide) (fun c_5 => ?_) (fun c_5 => ?_)
          · skip
            refine lv_iconst (v := (-1)) hx hb dX4_taken_83 (by decide) ?_
            exact hend _ _ _ (by first | contradiction | simp only [pTak, pTurn, c_3, c_4, c_5, not_true, not_false_iff, and_true, true_and, and_self, and_false, false_and, or_true, true_or, or_false, false_or, or_self, if_true, if_false]) dX4_taken_84
          · skip
            refine lv_iload hx hb dX4_taken_78 (lv_at hl 2 rfl) ?_
            refine lv_goto (tgt := 84) hx hb dX4_taken_80 (by decide) ?_
            exact hend _ _ _ (by first | contradiction | simp only [pTak, pTurn, c_3, c_4, c_5, not_true, not_false_iff, and_true, true_and, and_self, and_false, false_and, or_true, true_or, or_false, false_or, or_self, if_true, if_false]) dX4_taken_84
        · skip
          refine lv_iload_n hx hb dX4_taken_69 rfl (lv_at hl 6 rfl) ?_
          refine lv_goto (tgt := 84) hx hb dX4_taken_70 (by decide) ?_
          exact hend _ _ _ (by first | contradiction | simp only [pTak, pTurn, c_3, c_4, not_true, not_false_iff, and_true, true_and, and_self, and_false, false_and, or_true, true_or, or_false, false_or, or_self, if_true, if_false]) dX4_taken_84
      · skip
        refine lv_iload hx hb dX4_taken_59 (lv_at hl 0 rfl) ?_
        refine z_ifneB hx hb eb_2 (tgt := 85) dX4_taken_61 (by decide) (fun c_6 => ?_) (fun c_6 => ?_)
        · skip
          refine lv_iload hx hb dX4_taken_85 (lv_at hl 3 rfl) ?_
          refine lv_iload_n hx hb dX4_taken_87 rfl (lv_at hl 6 rfl) ?_
          refine lv_ixor hx hb dX4_taken_88 ?_
          refine z_cSi (As := [.int ((g (7 + j)) ^^^ (nI v))]) (rest := []) ⟨hx, hb, hml, hown, hts⟩ (k_X4_ones l dC dI ((g (7 + j)) ^^^ (nI v)) (z13_xor (hbt j (by omega)) (z13_nI (by omega)))) (va_cwS 1 hts gX4_taken_X4_ones rfl rfl rfl (by decide +kernel) ⟨Nat.le_of_ble_eq_true rfl, Nat.le_of_ble_eq_true rfl⟩) (hP.sub (ws' := []) [] rfl) (hK.sub (tys' := []) [] rfl) rfl hl.1 rfl (Nat.le_of_ble_eq_true rfl) dX4_taken_89 ⟨Nat.le_of_ble_eq_true rfl, Nat.le_of_ble_eq_true rfl⟩ (fun r_7 hr_7 => ?_)
          subst hr_7
          refine lv_istore (lv' := [(8, .int (pBC ((g (7 + j)) ^^^ (nI v)))), (7, .int b_2), (6, .int b_1), (5, .int ((((nI v) ^^^ (-1)) &&& 4095) ||| 4096)), (4, .int (g (7 + j))), (0, .ref a), (1, .int (nI j)), (2, .int (nI v)), (3, .int st)]) hx hb dX4_taken_92 hl (by decide) rfl (fun ls hl => ?_)
          refine lv_iload hx hb dX4_taken_94 (lv_at hl 4 rfl) ?_
          refine lv_iload hx hb dX4_taken_96 (lv_at hl 3 rfl) ?_
          refine lv_ixor hx hb dX4_taken_98 ?_
          refine z_cSi (As := [.int ((g (7 + j)) ^^^ ((((nI v) ^^^ (-1)) &&& 4095) ||| 4096))]) (rest := []) ⟨hx, hb, hml, hown, hts⟩ (k_X4_ones l dC dI ((g (7 + j)) ^^^ ((((nI v) ^^^ (-1)) &&& 4095) ||| 4096)) (z13_xor (hbt j (by omega)) (z13_turn (by omega)))) (va_cwS 1 hts gX4_taken_X4_ones rfl rfl rfl (by decide +kernel) ⟨Nat.le_of_ble_eq_true rfl, Nat.le_of_ble_eq_true rfl⟩) (hP.sub (ws' := []) [] rfl) (hK.sub (tys' := []) [] rfl) rfl hl.1 rfl (Nat.le_of_ble_eq_true rfl) dX4_taken_99 ⟨Nat.le_of_ble_eq_true rfl, Nat.le_of_ble_eq_true rfl⟩ (fun r_8 hr_8 => ?_)
          subst hr_8
          refine lv_istore (lv' := [(9, .int (pBC ((g (7 + j)) ^^^ ((((nI v) ^^^ (-1)) &&& 4095) ||| 4096)))), (8, .int (pBC ((g (7 + j)) ^^^ (nI v)))), (7, .int b_2), (6, .int b_1), (5, .int ((((nI v) ^^^ (-1)) &&& 4095) ||| 4096)), (4, .int (g (7 + j))), (0, .ref a), (1, .int (nI j)), (2, .int (nI v)), (3, .int st)]) hx hb dX4_taken_102 hl (by decide) rfl (fun ls hl => ?_)
          refine lv_iload hx hb dX4_taken_104 (lv_at hl 1 rfl) ?_
          refine lv_iload hx hb dX4_taken_106 (lv_at hl 0 rfl) ?_
          refine lv_icmp_lt (tgt := 126) hx hb dX4_taken_108 (by decide) (fun c_9 => ?_) (fun c_9 => ?_)
          · skip
            refine lv_iload_n hx hb dX4_taken_126 rfl (lv_at hl 8 rfl) ?_
            refine lv_goto (tgt := 132) hx hb dX4_taken_127 (by decide) ?_
            exact hend _ _ _ (by first | contradiction | simp only [pTak, pTurn, c_3, c_6, c_9, not_true, not_false_iff, and_true, true_and, and_self, and_false, false_and, or_true, true_or, or_false, false_or, or_self, if_true, if_false]) dX4_taken_132
          · skip
            refine lv_iload hx hb dX4_taken_111 (lv_at hl 1 rfl) ?_
            refine lv_iload hx hb dX4_taken_113 (lv_at hl 0 rfl) ?_
            refine lv_icmp_ne (tgt := 130) hx hb dX4_taken_115 (by decide) (fun c_10 => ?_) (fun c_10 => ?_)
            · skip
              refine lv_iload hx hb dX4_taken_130 (lv_at hl 4 rfl) ?_
              exact hend _ _ _ (by first | contradiction | simp only [pTak, pTurn, c_3, c_6, c_9, c_10, not_true, not_false_iff, and_true, true_and, and_self, and_false, false_and, or_true, true_or, or_false, false_or, or_self, if_true, if_false]) dX4_taken_132
            · skip
              refine lv_iload hx hb dX4_taken_118 (lv_at hl 5 rfl) ?_
              refine lv_sipush (v := 4096) hx hb dX4_taken_120 (by decide) ?_
              refine lv_icmp_ge (tgt := 130) hx hb dX4_taken_123 (by decide) (fun c_11 => ?_) (fun c_11 => ?_)
              · skip
                refine lv_iload hx hb dX4_taken_130 (lv_at hl 4 rfl) ?_
                exact hend _ _ _ (by first | contradiction | simp only [pTak, pTurn, c_3, c_6, c_9, eq_true c_10, c_11, not_true, not_false_iff, and_true, true_and, and_self, and_false, false_and, or_true, true_or, or_false, false_or, or_self, if_true, if_false]) dX4_taken_132
              · skip
                refine lv_iload_n hx hb dX4_taken_126 rfl (lv_at hl 8 rfl) ?_
                refine lv_goto (tgt := 132) hx hb dX4_taken_127 (by decide) ?_
                exact hend _ _ _ (by first | contradiction | simp only [pTak, pTurn, c_3, c_6, c_9, eq_true c_10, c_11, not_true, not_false_iff, and_true, true_and, and_self, and_false, false_and, or_true, true_or, or_false, false_or, or_self, if_true, if_false]) dX4_taken_132
        · skip
          refine lv_iload hx hb dX4_taken_64 (lv_at hl 1 rfl) ?_
          refine z_ifeqB hx hb eb_1 (tgt := 73) dX4_taken_66 (by decide) (fun c_12 => ?_) (fun c_12 => ?_)
          · skip
            refine lv_iload hx hb dX4_taken_73 (lv_at hl 0 rfl) ?_
            refine z_ifeqB hx hb eb_2 (tgt := 83) dX4_taken_75 (by decide) (fun c_13 => ?_) (fun c_13 => ?_)
            · skip
              refine lv_iconst (v := (-1)) hx hb dX4_taken_83 (by decide) ?_
              exact hend _ _ _ (by first | contradiction | simp only [pTak, pTurn, c_3, c_6, c_12, c_13, not_true, not_false_iff, and_true, true_and, and_self, and_false, false_and, or_true, true_or, or_false, false_or, or_self, if_true, if_false]) dX4_taken_84
            · skip
              refine lv_iload hx hb dX4_taken_78 (lv_at hl 2 rfl) ?_
              refine lv_goto (tgt := 84) hx hb dX4_taken_80 (by decide) ?_
              exact hend _ _ _ (by first | contradiction | simp only [pTak, pTurn, c_3, c_6, c_12, c_13, not_true, not_false_iff, and_true, true_and, and_self, and_false, false_and, or_true, true_or, or_false, false_or, or_self, if_true, if_false]) dX4_taken_84
          · skip
            refine lv_iload_n hx hb dX4_taken_69 rfl (lv_at hl 6 rfl) ?_
            refine lv_goto (tgt := 84) hx hb dX4_taken_70 (by decide) ?_
            exact hend _ _ _ (by first | contradiction | simp only [pTak, pTurn, c_3, c_6, c_12, not_true, not_false_iff, and_true, true_and, and_self, and_false, false_and, or_true, true_or, or_false, false_or, or_self, if_true, if_false]) dX4_taken_84
    refine lv_if_ne (tgt := 51) hx hb dX4_taken_44 (by decide) (fun c_2 => ?_) (fun c_2 => ?_)
    · refine lv_iconst (v := 0) hx hb dX4_taken_51 (by decide) ?_
      exact hJ_2 _ (if_neg c_2).symm
    · refine lv_iconst (v := 1) hx hb dX4_taken_47 (by decide) ?_
      refine lv_goto (tgt := 52) hx hb dX4_taken_48 (by decide) ?_
      exact hJ_2 _ (if_pos c_2).symm
  refine lv_if_ne (tgt := 34) hx hb dX4_taken_27 (by decide) (fun c_1 => ?_) (fun c_1 => ?_)
  · refine lv_iconst (v := 0) hx hb dX4_taken_34 (by decide) ?_
    exact hJ_1 _ (if_neg c_1).symm
  · refine lv_iconst (v := 1) hx hb dX4_taken_30 (by decide) ?_
    refine lv_goto (tgt := 35) hx hb dX4_taken_31 (by decide) ?_
    exact hJ_1 _ (if_pos c_1).symm

theorem k_X4_taken (l : Launch) (dC : Nat → ClassId) (dI : Nat → Nat → Nat) (a : Nat) (cI : ClassId) (g : Nat → Int32) (hok : gok g) (hbt : gbt g) (j : Nat) (hj : j < 18) (v : Nat) (hv : v < 4096) (st : Int32) : zRi l yX4_taken wsX4_taken rX4_taken (dC, dI) [.ref a, .int (nI j), .int (nI v), .int st] [(a, .inl (cI, 323, .inl g))] [(cI, .int)] (fun r => r = pWay (g (7 + j)) (nI v) st) := by
  rw [← pTak_eq (hbt j hj) hv]
  exact k_X4_taken_r l dC dI a cI g hok hbt j hj v hv st

abbrev rX4_costs : Room := { frames := 2, cells := 0, slots := 0, locals := 51 }
set_option maxHeartbeats 4000000 in
set_option maxRecDepth 100000 in
theorem k_X4_costs (l : Launch) (dC : Nat → ClassId) (dI : Nat → Nat → Nat) (a : Nat) (cI : ClassId) (g : Nat → Int32) (hok : gok g) (hbt : gbt g) (j : Nat) (hj : j < 18) (v : Nat) (hv : v < 4096) (st : Int32) : zRi l yX4_costs wsX4_costs rX4_costs (dC, dI) [.ref a, .int (nI j), .int (nI v), .int st] [(a, .inl (cI, 323, .inl g))] [(cI, .int)] (fun r => r = pCost (g (7 + j)) (nI v) st) := by
  refine zRi_of (cc := cX4_costs) (maxL := 5) (ty := .int) (by decide) rfl (Nat.le_of_ble_eq_true rfl) (fun _ _ => rfl) ?_
  intro p e s m args below meth cd Q ls hat hP hK hend
  obtain ⟨hx, hb, hml, hown, hts, hl⟩ := hat
  replace hown : s.vm.findClass RX4 = some m.cls := hown
  replace hl : lv_has ls 5 [(0, .ref a), (1, .int (nI j)), (2, .int (nI v)), (3, .int st)] := hl
  replace hP : va_P (dC, dI) vwCl [(a, .inl (cI, 323, .inl g))] s.heap := hP
  refine lv_aload_n hx hb dX4_costs_0 rfl (lv_at hl 0 rfl) ?_
  refine lv_iload_n hx hb dX4_costs_1 rfl (lv_at hl 1 rfl) ?_
  refine lv_iload_n hx hb dX4_costs_2 rfl (lv_at hl 2 rfl) ?_
  refine lv_iload_n hx hb dX4_costs_3 rfl (lv_at hl 3 rfl) ?_
  refine z_cSi (As := [.ref a, .int (nI j), .int (nI v), .int st]) (rest := []) ⟨hx, hb, hml, hown, hts⟩ (k_X4_taken l dC dI a cI g hok hbt j (by omega) v (by omega) st) (va_cwS 4 hts gX4_costs_X4_taken rfl rfl rfl (by decide +kernel) ⟨Nat.le_of_ble_eq_true rfl, Nat.le_of_ble_eq_true rfl⟩) (hP.sub (ws' := [(a, .inl (cI, 323, .inl g))]) [0] rfl) (hK.sub (tys' := [(cI, .int)]) [0] rfl) rfl hl.1 rfl (Nat.le_of_ble_eq_true rfl) dX4_costs_4 ⟨Nat.le_of_ble_eq_true rfl, Nat.le_of_ble_eq_true rfl⟩ (fun r_1 hr_1 => ?_)
  subst hr_1
  refine lv_istore (lv' := [(4, .int (pWay (g (7 + j)) (nI v) st)), (0, .ref a), (1, .int (nI j)), (2, .int (nI v)), (3, .int st)]) hx hb dX4_costs_7 hl (by decide) rfl (fun ls hl => ?_)
  refine lv_iload hx hb dX4_costs_9 (lv_at hl 0 rfl) ?_
  refine lv_iconst (v := (-1)) hx hb dX4_costs_11 (by decide) ?_
  refine lv_icmp_ne (tgt := 19) hx hb dX4_costs_12 (by decide) (fun c_2 => ?_) (fun c_2 => ?_)
  · skip
    refine lv_aload_n hx hb dX4_costs_19 rfl (lv_at hl 1 rfl) ?_
    refine lv_bipush (v := 7) hx hb dX4_costs_20 (by decide) ?_
    refine lv_iload_n hx hb dX4_costs_22 rfl (lv_at hl 2 rfl) ?_
    refine z_iadd hx hb 7 j dX4_costs_23 ?_
    refine z_ald hx hb hK hP 0 0 (7 + j) (f := g) rfl rfl (by first | omega | decide) (by first | decide | omega) dX4_costs_24 ?_
    refine lv_iload hx hb dX4_costs_25 (lv_at hl 0 rfl) ?_
    refine lv_ixor hx hb dX4_costs_27 ?_
    refine z_cSi (As := [.int ((g (7 + j)) ^^^ (pWay (g (7 + j)) (nI v) st))]) (rest := []) ⟨hx, hb, hml, hown, hts⟩ (k_X4_ones l dC dI ((g (7 + j)) ^^^ (pWay (g (7 + j)) (nI v) st)) (z13_xor (hbt j (by omega)) (pWay_13 (by omega) c_2))) (va_cwS 1 hts gX4_costs_X4_ones rfl rfl rfl (by decide +kernel) ⟨Nat.le_of_ble_eq_true rfl, Nat.le_of_ble_eq_true rfl⟩) (hP.sub (ws' := []) [] rfl) (hK.sub (tys' := []) [] rfl) rfl hl.1 rfl (Nat.le_of_ble_eq_true rfl) dX4_costs_28 ⟨Nat.le_of_ble_eq_true rfl, Nat.le_of_ble_eq_true rfl⟩ (fun r_3 hr_3 => ?_)
    subst hr_3
    exact hend _ _ _ (by simp only [pCost, c_2, if_true, if_false]) dX4_costs_31
  · skip
    refine lv_iconst (v := (-1)) hx hb dX4_costs_15 (by decide) ?_
    refine lv_goto (tgt := 31) hx hb dX4_costs_16 (by decide) ?_
    exact hend _ _ _ (by simp only [pCost, eq_true c_2, if_true, if_false]) dX4_costs_31

abbrev rX4_bars : Room := { frames := 2, cells := 0, slots := 0, locals := 51 }
set_option maxHeartbeats 4000000 in
set_option maxRecDepth 100000 in
theorem k_X4_bars (l : Launch) (dC : Nat → ClassId) (dI : Nat → Nat → Nat) (a : Nat) (cI : ClassId) (g : Nat → Int32) (hok : gok g) (hbt : gbt g) (j : Nat) (hj : j < 18) (v : Nat) (hv : v < 4096) : zRi l yX4_bars wsX4_bars rX4_bars (dC, dI) [.ref a, .int (nI j), .int (nI v)] [(a, .inl (cI, 323, .inl g))] [(cI, .int)] (fun r => r = if pwy (gS g) j (nI v) = -1 then 1 else 0) := by
  refine zRi_of (cc := cX4_bars) (maxL := 3) (ty := .boolean) (by decide) rfl (Nat.le_of_ble_eq_true rfl) (fun v h => by subst h; split <;> rfl) ?_
  intro p e s m args below meth cd Q ls hat hP hK hend
  obtain ⟨hx, hb, hml, hown, hts, hl⟩ := hat
  replace hown : s.vm.findClass RX4 = some m.cls := hown
  replace hl : lv_has ls 3 [(0, .ref a), (1, .int (nI j)), (2, .int (nI v))] := hl
  replace hP : va_P (dC, dI) vwCl [(a, .inl (cI, 323, .inl g))] s.heap := hP
  refine lv_aload_n hx hb dX4_bars_0 rfl (lv_at hl 0 rfl) ?_
  refine lv_iload_n hx hb dX4_bars_1 rfl (lv_at hl 1 rfl) ?_
  refine lv_iload_n hx hb dX4_bars_2 rfl (lv_at hl 2 rfl) ?_
  refine lv_aload_n hx hb dX4_bars_3 rfl (lv_at hl 0 rfl) ?_
  refine lv_iload_n hx hb dX4_bars_4 rfl (lv_at hl 1 rfl) ?_
  refine z_cSi (As := [.ref a, .int (nI j)]) (rest := [.int (nI v), .int (nI j), .ref a]) ⟨hx, hb, hml, hown, hts⟩ (k_X4_stuck l dC dI a cI g hok hbt j (by omega)) (va_cwS 2 hts gX4_bars_X4_stuck rfl rfl rfl (by decide +kernel) ⟨Nat.le_of_ble_eq_true rfl, Nat.le_of_ble_eq_true rfl⟩) (hP.sub (ws' := [(a, .inl (cI, 323, .inl g))]) [0] rfl) (hK.sub (tys' := [(cI, .int)]) [0] rfl) rfl hl.1 rfl (Nat.le_of_ble_eq_true rfl) dX4_bars_5 ⟨Nat.le_of_ble_eq_true rfl, Nat.le_of_ble_eq_true rfl⟩ (fun r_1 hr_1 => ?_)
  subst hr_1
  refine z_cSi (As := [.ref a, .int (nI j), .int (nI v), .int (pst (gS g) j)]) (rest := []) ⟨hx, hb, hml, hown, hts⟩ (k_X4_taken l dC dI a cI g hok hbt j (by omega) v (by omega) (pst (gS g) j)) (va_cwS 4 hts gX4_bars_X4_taken rfl rfl rfl (by decide +kernel) ⟨Nat.le_of_ble_eq_true rfl, Nat.le_of_ble_eq_true rfl⟩) (hP.sub (ws' := [(a, .inl (cI, 323, .inl g))]) [0] rfl) (hK.sub (tys' := [(cI, .int)]) [0] rfl) rfl hl.1 rfl (Nat.le_of_ble_eq_true rfl) dX4_bars_8 ⟨Nat.le_of_ble_eq_true rfl, Nat.le_of_ble_eq_true rfl⟩ (fun r_2 hr_2 => ?_)
  subst hr_2
  refine lv_iconst (v := (-1)) hx hb dX4_bars_11 (by decide) ?_
  have hJ_3 : ∀ b_3 : Int32, b_3 = (if (pWay (g (7 + j)) (nI v) (pst (gS g) j)) = (-1) then 1 else 0) → W p l e rX4_bars s m args below meth cd s.heap [] 0 0 Q (F0 m 20 ls (.int b_3 :: [])) := by
    intro b_3 eb_3
    exact hend _ _ _ eb_3 dX4_bars_20
  refine lv_icmp_ne (tgt := 19) hx hb dX4_bars_12 (by decide) (fun c_3 => ?_) (fun c_3 => ?_)
  · refine lv_iconst (v := 0) hx hb dX4_bars_19 (by decide) ?_
    exact hJ_3 _ (if_neg c_3).symm
  · refine lv_iconst (v := 1) hx hb dX4_bars_15 (by decide) ?_
    refine lv_goto (tgt := 20) hx hb dX4_bars_16 (by decide) ?_
    exact hJ_3 _ (if_pos c_3).symm

abbrev rX4_free : Room := { frames := 3, cells := 0, slots := 0, locals := 73 }
set_option maxHeartbeats 4000000 in
set_option maxRecDepth 100000 in
theorem k_X4_free (l : Launch) (dC : Nat → ClassId) (dI : Nat → Nat → Nat) (a : Nat) (cI : ClassId) (g : Nat → Int32) (hok : gok g) (hbt : gbt g) (v : Nat) (hv : v < 4096) : zRi l yX4_free wsX4_free rX4_free (dC, dI) [.ref a, .int (nI v)] [(a, .inl (cI, 323, .inl g))] [(cI, .int)] (fun r => r = zo (pff (gS g) (nI v))) := by
  refine zRi_of (cc := cX4_free) (maxL := 5) (ty := .int) (by decide) rfl (Nat.le_of_ble_eq_true rfl) (fun _ _ => rfl) ?_
  intro p e s m args below meth cd Q ls hat hP hK hend
  obtain ⟨hx, hb, hml, hown, hts, hl⟩ := hat
  replace hown : s.vm.findClass RX4 = some m.cls := hown
  replace hl : lv_has ls 5 [(0, .ref a), (1, .int (nI v))] := hl
  replace hP : va_P (dC, dI) vwCl [(a, .inl (cI, 323, .inl g))] s.heap := hP
  refine lv_iconst (v := (-1)) hx hb dX4_free_0 (by decide) ?_
  refine lv_istore_n (lv' := [(2, .int (-1)), (0, .ref a), (1, .int (nI v))]) hx hb dX4_free_1 rfl hl (by decide) rfl (fun ls hl => ?_)
  refine lv_iconst (v := 0) hx hb dX4_free_2 (by decide) ?_
  refine lv_istore_n (lv' := [(3, .int 0), (2, .int (-1)), (0, .ref a), (1, .int (nI v))]) hx hb dX4_free_3 rfl hl (by decide) rfl (fun ls hl => ?_)
  have hC_4 : ∀ (nf : Nat) (o : Option Nat) (c : Nat) (ls : Array Slot), 18 - c < nf → lv_has ls 5 [(0, .ref a), (1, .int (nI v)), (2, .int (zo o)), (3, .int (nI c))] → (c ≤ 18) → (o = pFree (pwr (gS g)) (fun k => decide (zwi (gS g) k = -1) && !decide (pwy (gS g) k (nI v) = -1)) c) → (∀ k, o = some k → k < 18) → W p l e rX4_free s m args below meth cd s.heap [] 0 0 Q (F0 m 4 ls []) := by
    intro nf
    induction nf with
    | zero => intro o c ls hm_4 hl hc eo hbo; exact absurd hm_4 (Nat.not_lt_zero _)
    | succ nf ih_4 =>
      intro o c ls hm_4 hl hc eo hbo
      refine lv_iload_n hx hb dX4_free_4 rfl (lv_at hl 3 rfl) ?_
      refine lv_bipush (v := 18) hx hb dX4_free_5 (by decide) ?_
      refine z_ge hx hb c 18 (by omega) (by omega) (tgt := 75) dX4_free_7 (by decide) (fun c_1 => ?_) (fun c_1 => ?_)
      · skip
        refine lv_iload_n hx hb dX4_free_75 rfl (lv_at hl 2 rfl) ?_
        exact hend _ _ _ (by rw [eo, show c = 18 by omega]; rfl) dX4_free_76
      · skip
        refine lv_aload_n hx hb dX4_free_10 rfl (lv_at hl 0 rfl) ?_
        refine lv_iload_n hx hb dX4_free_11 rfl (lv_at hl 3 rfl) ?_
        refine z_cSi (As := [.ref a, .int (nI c)]) (rest := []) ⟨hx, hb, hml, hown, hts⟩ (k_X4_wordOf l dC dI a cI g hok hbt c (by omega)) (va_cwS 2 hts gX4_free_X4_wordOf rfl rfl rfl (by decide +kernel) ⟨Nat.le_of_ble_eq_true rfl, Nat.le_of_ble_eq_true rfl⟩) (hP.sub (ws' := [(a, .inl (cI, 323, .inl g))]) [0] rfl) (hK.sub (tys' := [(cI, .int)]) [0] rfl) rfl hl.1 rfl (Nat.le_of_ble_eq_true rfl) dX4_free_12 ⟨Nat.le_of_ble_eq_true rfl, Nat.le_of_ble_eq_true rfl⟩ (fun r_2 hr_2 => ?_)
        subst hr_2
        refine lv_iconst (v := (-1)) hx hb dX4_free_15 (by decide) ?_
        refine lv_icmp_ne (tgt := 37) hx hb dX4_free_16 (by decide) (fun c_3 => ?_) (fun c_3 => ?_)
        · skip
          refine lv_iconst (v := 0) hx hb dX4_free_37 (by decide) ?_
          refine lv_istore (lv' := [(4, .int 0), (0, .ref a), (1, .int (nI v)), (2, .int (zo o)), (3, .int (nI c))]) hx hb dX4_free_38 hl (by decide) rfl (fun ls hl => ?_)
          refine lv_iload hx hb dX4_free_40 (lv_at hl 0 rfl) ?_
          refine lv_if_eq (tgt := 67) hx hb dX4_free_42 (by decide) (fun _ => ?_) (fun z => absurd z (by decide))
          refine lv_iload_n hx hb dX4_free_67 rfl (lv_at hl 3 rfl) ?_
          refine lv_istore_n (lv' := [(2, .int (zo o)), (4, .int 0), (0, .ref a), (1, .int (nI v)), (3, .int (nI c))]) hx hb dX4_free_68 rfl hl (by decide) rfl (fun ls hl => ?_)
          refine lv_iinc (v := nI (c + 1)) (lv' := [(3, .int (nI (c + 1))), (2, .int (zo o)), (4, .int 0), (0, .ref a), (1, .int (nI v))]) hx hb dX4_free_69 hl (k := 4) rfl (z_inc1 _) (by decide) rfl (fun ls hl => ?_)
          refine lv_goto (tgt := 4) hx hb dX4_free_72 (by decide) ?_
          exact ih_4 o (c + 1) _ (by omega) (lv_sub hl [3, 4, 1, 0] rfl) (by omega) (by first | contradiction | simp [pFree, pLess, ← eo, c_1, c_3]) (fun i hi => Nat.lt_of_lt_of_le (hbo i hi) (by omega))
        · skip
          refine lv_iload_n hx hb dX4_free_19 rfl (lv_at hl 1 rfl) ?_
          refine lv_iconst (v := (-1)) hx hb dX4_free_20 (by decide) ?_
          refine lv_icmp_eq (tgt := 33) hx hb dX4_free_21 (by decide) (fun z => absurd z (nI_m1 (by omega))) (fun _ => ?_)
          refine lv_aload_n hx hb dX4_free_24 rfl (lv_at hl 0 rfl) ?_
          refine lv_iload_n hx hb dX4_free_25 rfl (lv_at hl 3 rfl) ?_
          refine lv_iload_n hx hb dX4_free_26 rfl (lv_at hl 1 rfl) ?_
          refine z_cSi (As := [.ref a, .int (nI c), .int (nI v)]) (rest := []) ⟨hx, hb, hml, hown, hts⟩ (k_X4_bars l dC dI a cI g hok hbt c (by omega) v (by omega)) (va_cwS 3 hts gX4_free_X4_bars rfl rfl rfl (by decide +kernel) ⟨Nat.le_of_ble_eq_true rfl, Nat.le_of_ble_eq_true rfl⟩) (hP.sub (ws' := [(a, .inl (cI, 323, .inl g))]) [0] rfl) (hK.sub (tys' := [(cI, .int)]) [0] rfl) rfl hl.1 rfl (Nat.le_of_ble_eq_true rfl) dX4_free_27 ⟨Nat.le_of_ble_eq_true rfl, Nat.le_of_ble_eq_true rfl⟩ (fun r_6 hr_6 => ?_)
          have hJ_7 : ∀ b_7 : Int32, b_7 = (if ¬ (pwy (gS g) c (nI v) = -1) then 1 else 0) → W p l e rX4_free s m args below meth cd s.heap [] 0 0 Q (F0 m 38 ls (.int b_7 :: [])) := by
            intro b_7 eb_7
            refine lv_istore (lv' := [(4, .int b_7), (0, .ref a), (1, .int (nI v)), (2, .int (zo o)), (3, .int (nI c))]) hx hb dX4_free_38 hl (by decide) rfl (fun ls hl => ?_)
            refine lv_iload hx hb dX4_free_40 (lv_at hl 0 rfl) ?_
            refine z_ifeqB hx hb eb_7 (tgt := 67) dX4_free_42 (by decide) (fun c_8 => ?_) (fun c_8 => ?_)
            · skip
              replace c_8 := Classical.not_not.mp c_8
              refine lv_iload_n hx hb dX4_free_67 rfl (lv_at hl 3 rfl) ?_
              refine lv_istore_n (lv' := [(2, .int (zo o)), (4, .int b_7), (0, .ref a), (1, .int (nI v)), (3, .int (nI c))]) hx hb dX4_free_68 rfl hl (by decide) rfl (fun ls hl => ?_)
              refine lv_iinc (v := nI (c + 1)) (lv' := [(3, .int (nI (c + 1))), (2, .int (zo o)), (4, .int b_7), (0, .ref a), (1, .int (nI v))]) hx hb dX4_free_69 hl (k := 4) rfl (z_inc1 _) (by decide) rfl (fun ls hl => ?_)
              refine lv_goto (tgt := 4) hx hb dX4_free_72 (by decide) ?_
              exact ih_4 o (c + 1) _ (by omega) (lv_sub hl [3, 4, 1, 0] rfl) (by omega) (by first | contradiction | simp [pFree, pLess, ← eo, c_1, eq_true c_3, c_8]) (fun i hi => Nat.lt_of_lt_of_le (hbo i hi) (by omega))
            · skip
              refine lv_iload_n hx hb dX4_free_45 rfl (lv_at hl 3 rfl) ?_
              refine lv_iconst (v := (-1)) hx hb dX4_free_46 (by decide) ?_
              refine z_eqO hx hb o (fun i hi => Nat.lt_of_lt_of_le (hbo i hi) (by decide)) (tgt := 63) dX4_free_47 (by decide) (fun ho_9 => ?_) (fun k_9 ho_9 => ?_)
              · skip
                try rw [ho_9] at hl
                try rw [ho_9]
                replace hl : lv_has ls 5 [(4, .int b_7), (0, .ref a), (1, .int (nI v)), (2, .int (-1)), (3, .int (nI c))] := hl
                refine lv_iload_n hx hb dX4_free_63 rfl (lv_at hl 4 rfl) ?_
                refine lv_goto (tgt := 68) hx hb dX4_free_64 (by decide) ?_
                refine lv_istore_n (lv' := [(2, .int (nI c)), (4, .int b_7), (0, .ref a), (1, .int (nI v)), (3, .int (nI c))]) hx hb dX4_free_68 rfl hl (by decide) rfl (fun ls hl => ?_)
                refine lv_iinc (v := nI (c + 1)) (lv' := [(3, .int (nI (c + 1))), (2, .int (nI c)), (4, .int b_7), (0, .ref a), (1, .int (nI v))]) hx hb dX4_free_69 hl (k := 4) rfl (z_inc1 _) (by decide) rfl (fun ls hl => ?_)
                refine lv_goto (tgt := 4) hx hb dX4_free_72 (by decide) ?_
                exact ih_4 (some c) (c + 1) _ (by omega) (lv_sub hl [3, 4, 1, 0] rfl) (by omega) (by first | contradiction | simp [pFree, pLess, ← eo, c_1, eq_true c_3, c_8, ho_9]) (by intro i hi; cases hi; omega)
              · skip
                have hkb_9 := hbo _ ho_9
                try rw [ho_9] at hl
                try rw [ho_9]
                replace hl : lv_has ls 5 [(4, .int b_7), (0, .ref a), (1, .int (nI v)), (2, .int (nI k_9)), (3, .int (nI c))] := hl
                refine lv_aload_n hx hb dX4_free_50 rfl (lv_at hl 1 rfl) ?_
                refine lv_iload_n hx hb dX4_free_51 rfl (lv_at hl 4 rfl) ?_
                refine z_cSi (As := [.ref a, .int (nI c)]) (rest := []) ⟨hx, hb, hml, hown, hts⟩ (k_X4_allWear l dC dI a cI g hok hbt c (by omega)) (va_cwS 2 hts gX4_free_X4_allWear rfl rfl rfl (by decide +kernel) ⟨Nat.le_of_ble_eq_true rfl, Nat.le_of_ble_eq_true rfl⟩) (hP.sub (ws' := [(a, .inl (cI, 323, .inl g))]) [0] rfl) (hK.sub (tys' := [(cI, .int)]) [0] rfl) rfl hl.1 rfl (Nat.le_of_ble_eq_true rfl) dX4_free_52 ⟨Nat.le_of_ble_eq_true rfl, Nat.le_of_ble_eq_true rfl⟩ (fun r_10 hr_10 => ?_)
                subst hr_10
                refine lv_aload_n hx hb dX4_free_55 rfl (lv_at hl 1 rfl) ?_
                refine lv_iload_n hx hb dX4_free_56 rfl (lv_at hl 3 rfl) ?_
                refine z_cSi (As := [.ref a, .int (nI k_9)]) (rest := [.int (pwr (gS g) c)]) ⟨hx, hb, hml, hown, hts⟩ (k_X4_allWear l dC dI a cI g hok hbt k_9 (by omega)) (va_cwS 2 hts gX4_free_X4_allWear rfl rfl rfl (by decide +kernel) ⟨Nat.le_of_ble_eq_true rfl, Nat.le_of_ble_eq_true rfl⟩) (hP.sub (ws' := [(a, .inl (cI, 323, .inl g))]) [0] rfl) (hK.sub (tys' := [(cI, .int)]) [0] rfl) rfl hl.1 rfl (Nat.le_of_ble_eq_true rfl) dX4_free_57 ⟨Nat.le_of_ble_eq_true rfl, Nat.le_of_ble_eq_true rfl⟩ (fun r_11 hr_11 => ?_)
                subst hr_11
                refine lv_icmp_ge (tgt := 67) hx hb dX4_free_60 (by decide) (fun c_12 => ?_) (fun c_12 => ?_)
                · skip
                  refine lv_iload_n hx hb dX4_free_67 rfl (lv_at hl 3 rfl) ?_
                  refine lv_istore_n (lv' := [(2, .int (nI k_9)), (4, .int b_7), (0, .ref a), (1, .int (nI v)), (3, .int (nI c))]) hx hb dX4_free_68 rfl hl (by decide) rfl (fun ls hl => ?_)
                  refine lv_iinc (v := nI (c + 1)) (lv' := [(3, .int (nI (c + 1))), (2, .int (nI k_9)), (4, .int b_7), (0, .ref a), (1, .int (nI v))]) hx hb dX4_free_69 hl (k := 4) rfl (z_inc1 _) (by decide) rfl (fun ls hl => ?_)
                  refine lv_goto (tgt := 4) hx hb dX4_free_72 (by decide) ?_
                  exact ih_4 (some k_9) (c + 1) _ (by omega) (lv_sub hl [3, 4, 1, 0] rfl) (by omega) (by first | contradiction | simp [pFree, pLess, ← eo, c_1, eq_true c_3, c_8, ho_9, c_12]) (by intro i hi; cases hi; omega)
                · skip
                  refine lv_iload_n hx hb dX4_free_63 rfl (lv_at hl 4 rfl) ?_
                  refine lv_goto (tgt := 68) hx hb dX4_free_64 (by decide) ?_
                  refine lv_istore_n (lv' := [(2, .int (nI c)), (4, .int b_7), (0, .ref a), (1, .int (nI v)), (3, .int (nI c))]) hx hb dX4_free_68 rfl hl (by decide) rfl (fun ls hl => ?_)
                  refine lv_iinc (v := nI (c + 1)) (lv' := [(3, .int (nI (c + 1))), (2, .int (nI c)), (4, .int b_7), (0, .ref a), (1, .int (nI v))]) hx hb dX4_free_69 hl (k := 4) rfl (z_inc1 _) (by decide) rfl (fun ls hl => ?_)
                  refine lv_goto (tgt := 4) hx hb dX4_free_72 (by decide) ?_
                  exact ih_4 (some c) (c + 1) _ (by omega) (lv_sub hl [3, 4, 1, 0] rfl) (by omega) (by first | contradiction | simp [pFree, pLess, ← eo, c_1, eq_true c_3, c_8, ho_9, c_12]) (by intro i hi; cases hi; omega)
          refine z_ifneB hx hb hr_6 (tgt := 37) dX4_free_30 (by decide) (fun c_7 => ?_) (fun c_7 => ?_)
          · refine lv_iconst (v := 0) hx hb dX4_free_37 (by decide) ?_
            exact hJ_7 _ (if_neg (fun z => z c_7)).symm
          · refine lv_iconst (v := 1) hx hb dX4_free_33 (by decide) ?_
            refine lv_goto (tgt := 38) hx hb dX4_free_34 (by decide) ?_
            exact hJ_7 _ (if_pos c_7).symm
  exact hC_4 _ none 0 _ (Nat.lt_succ_self _) (lv_sub hl [2, 3, 1, 0] rfl) (by omega) (rfl) (by intro _ h; cases h)

set_option maxHeartbeats 4000000 in
set_option maxRecDepth 100000 in
theorem k_X4_free_n (l : Launch) (dC : Nat → ClassId) (dI : Nat → Nat → Nat) (a : Nat) (cI : ClassId) (g : Nat → Int32) (hok : gok g) (hbt : gbt g) : zRi l yX4_free wsX4_free rX4_free (dC, dI) [.ref a, .int (-1)] [(a, .inl (cI, 323, .inl g))] [(cI, .int)] (fun r => r = zo (pfr (gS g))) := by
  refine zRi_of (cc := cX4_free) (maxL := 5) (ty := .int) (by decide) rfl (Nat.le_of_ble_eq_true rfl) (fun _ _ => rfl) ?_
  intro p e s m args below meth cd Q ls hat hP hK hend
  obtain ⟨hx, hb, hml, hown, hts, hl⟩ := hat
  replace hown : s.vm.findClass RX4 = some m.cls := hown
  replace hl : lv_has ls 5 [(0, .ref a), (1, .int (-1))] := hl
  replace hP : va_P (dC, dI) vwCl [(a, .inl (cI, 323, .inl g))] s.heap := hP
  refine lv_iconst (v := (-1)) hx hb dX4_free_0 (by decide) ?_
  refine lv_istore_n (lv' := [(2, .int (-1)), (0, .ref a), (1, .int (-1))]) hx hb dX4_free_1 rfl hl (by decide) rfl (fun ls hl => ?_)
  refine lv_iconst (v := 0) hx hb dX4_free_2 (by decide) ?_
  refine lv_istore_n (lv' := [(3, .int 0), (2, .int (-1)), (0, .ref a), (1, .int (-1))]) hx hb dX4_free_3 rfl hl (by decide) rfl (fun ls hl => ?_)
  have hC_4 : ∀ (nf : Nat) (o : Option Nat) (c : Nat) (ls : Array Slot), 18 - c < nf → lv_has ls 5 [(0, .ref a), (1, .int (-1)), (2, .int (zo o)), (3, .int (nI c))] → (c ≤ 18) → (o = pFree (pwr (gS g)) (fun k => decide (zwi (gS g) k = -1)) c) → (∀ k, o = some k → k < 18) → W p l e rX4_free s m args below meth cd s.heap [] 0 0 Q (F0 m 4 ls []) := by
    intro nf
    induction nf with
    | zero => intro o c ls hm_4 hl hc eo hbo; exact absurd hm_4 (Nat.not_lt_zero _)
    | succ nf ih_4 =>
      intro o c ls hm_4 hl hc eo hbo
      refine lv_iload_n hx hb dX4_free_4 rfl (lv_at hl 3 rfl) ?_
      refine lv_bipush (v := 18) hx hb dX4_free_5 (by decide) ?_
      refine z_ge hx hb c 18 (by omega) (by omega) (tgt := 75) dX4_free_7 (by decide) (fun c_1 => ?_) (fun c_1 => ?_)
      · skip
        refine lv_iload_n hx hb dX4_free_75 rfl (lv_at hl 2 rfl) ?_
        exact hend _ _ _ (by rw [eo, show c = 18 by omega]; rfl) dX4_free_76
      · skip
        refine lv_aload_n hx hb dX4_free_10 rfl (lv_at hl 0 rfl) ?_
        refine lv_iload_n hx hb dX4_free_11 rfl (lv_at hl 3 rfl) ?_
        refine z_cSi (As := [.ref a, .int (nI c)]) (rest := []) ⟨hx, hb, hml, hown, hts⟩ (k_X4_wordOf l dC dI a cI g hok hbt c (by omega)) (va_cwS 2 hts gX4_free_X4_wordOf rfl rfl rfl (by decide +kernel) ⟨Nat.le_of_ble_eq_true rfl, Nat.le_of_ble_eq_true rfl⟩) (hP.sub (ws' := [(a, .inl (cI, 323, .inl g))]) [0] rfl) (hK.sub (tys' := [(cI, .int)]) [0] rfl) rfl hl.1 rfl (Nat.le_of_ble_eq_true rfl) dX4_free_12 ⟨Nat.le_of_ble_eq_true rfl, Nat.le_of_ble_eq_true rfl⟩ (fun r_2 hr_2 => ?_)
        subst hr_2
        refine lv_iconst (v := (-1)) hx hb dX4_free_15 (by decide) ?_
        refine lv_icmp_ne (tgt := 37) hx hb dX4_free_16 (by decide) (fun c_3 => ?_) (fun c_3 => ?_)
        · skip
          refine lv_iconst (v := 0) hx hb dX4_free_37 (by decide) ?_
          refine lv_istore (lv' := [(4, .int 0), (0, .ref a), (1, .int (-1)), (2, .int (zo o)), (3, .int (nI c))]) hx hb dX4_free_38 hl (by decide) rfl (fun ls hl => ?_)
          refine lv_iload hx hb dX4_free_40 (lv_at hl 0 rfl) ?_
          refine lv_if_eq (tgt := 67) hx hb dX4_free_42 (by decide) (fun _ => ?_) (fun z => absurd z (by decide))
          refine lv_iload_n hx hb dX4_free_67 rfl (lv_at hl 3 rfl) ?_
          refine lv_istore_n (lv' := [(2, .int (zo o)), (4, .int 0), (0, .ref a), (1, .int (-1)), (3, .int (nI c))]) hx hb dX4_free_68 rfl hl (by decide) rfl (fun ls hl => ?_)
          refine lv_iinc (v := nI (c + 1)) (lv' := [(3, .int (nI (c + 1))), (2, .int (zo o)), (4, .int 0), (0, .ref a), (1, .int (-1))]) hx hb dX4_free_69 hl (k := 4) rfl (z_inc1 _) (by decide) rfl (fun ls hl => ?_)
          refine lv_goto (tgt := 4) hx hb dX4_free_72 (by decide) ?_
          exact ih_4 o (c + 1) _ (by omega) (lv_sub hl [3, 4, 1, 0] rfl) (by omega) (by first | contradiction | simp [pFree, pLess, ← eo, c_1, c_3]) (fun i hi => Nat.lt_of_lt_of_le (hbo i hi) (by omega))
        · skip
          refine lv_iload_n hx hb dX4_free_19 rfl (lv_at hl 1 rfl) ?_
          refine lv_iconst (v := (-1)) hx hb dX4_free_20 (by decide) ?_
          refine lv_icmp_eq (tgt := 33) hx hb dX4_free_21 (by decide) (fun _ => ?_) (fun z => absurd z (by decide))
          refine lv_iconst (v := 1) hx hb dX4_free_33 (by decide) ?_
          refine lv_goto (tgt := 38) hx hb dX4_free_34 (by decide) ?_
          refine lv_istore (lv' := [(4, .int 1), (0, .ref a), (1, .int (-1)), (2, .int (zo o)), (3, .int (nI c))]) hx hb dX4_free_38 hl (by decide) rfl (fun ls hl => ?_)
          refine lv_iload hx hb dX4_free_40 (lv_at hl 0 rfl) ?_
          refine lv_if_eq (tgt := 67) hx hb dX4_free_42 (by decide) (fun z => absurd z (by decide)) (fun _ => ?_)
          refine lv_iload_n hx hb dX4_free_45 rfl (lv_at hl 3 rfl) ?_
          refine lv_iconst (v := (-1)) hx hb dX4_free_46 (by decide) ?_
          refine z_eqO hx hb o (fun i hi => Nat.lt_of_lt_of_le (hbo i hi) (by decide)) (tgt := 63) dX4_free_47 (by decide) (fun ho_7 => ?_) (fun k_7 ho_7 => ?_)
          · skip
            try rw [ho_7] at hl
            try rw [ho_7]
            replace hl : lv_has ls 5 [(4, .int 1), (0, .ref a), (1, .int (-1)), (2, .int (-1)), (3, .int (nI c))] := hl
            refine lv_iload_n hx hb dX4_free_63 rfl (lv_at hl 4 rfl) ?_
            refine lv_goto (tgt := 68) hx hb dX4_free_64 (by decide) ?_
            refine lv_istore_n (lv' := [(2, .int (nI c)), (4, .int 1), (0, .ref a), (1, .int (-1)), (3, .int (nI c))]) hx hb dX4_free_68 rfl hl (by decide) rfl (fun ls hl => ?_)
            refine lv_iinc (v := nI (c + 1)) (lv' := [(3, .int (nI (c + 1))), (2, .int (nI c)), (4, .int 1), (0, .ref a), (1, .int (-1))]) hx hb dX4_free_69 hl (k := 4) rfl (z_inc1 _) (by decide) rfl (fun ls hl => ?_)
            refine lv_goto (tgt := 4) hx hb dX4_free_72 (by decide) ?_
            exact ih_4 (some c) (c + 1) _ (by omega) (lv_sub hl [3, 4, 1, 0] rfl) (by omega) (by first | contradiction | simp [pFree, pLess, ← eo, c_1, eq_true c_3, ho_7]) (by intro i hi; cases hi; omega)
          · skip
            have hkb_7 := hbo _ ho_7
            try rw [ho_7] at hl
            try rw [ho_7]
            replace hl : lv_has ls 5 [(4, .int 1), (0, .ref a), (1, .int (-1)), (2, .int (nI k_7)), (3, .int (nI c))] := hl
            refine lv_aload_n hx hb dX4_free_50 rfl (lv_at hl 1 rfl) ?_
            refine lv_iload_n hx hb dX4_free_51 rfl (lv_at hl 4 rfl) ?_
            refine z_cSi (As := [.ref a, .int (nI c)]) (rest := []) ⟨hx, hb, hml, hown, hts⟩ (k_X4_allWear l dC dI a cI g hok hbt c (by omega)) (va_cwS 2 hts gX4_free_X4_allWear rfl rfl rfl (by decide +kernel) ⟨Nat.le_of_ble_eq_true rfl, Nat.le_of_ble_eq_true rfl⟩) (hP.sub (ws' := [(a, .inl (cI, 323, .inl g))]) [0] rfl) (hK.sub (tys' := [(cI, .int)]) [0] rfl) rfl hl.1 rfl (Nat.le_of_ble_eq_true rfl) dX4_free_52 ⟨Nat.le_of_ble_eq_true rfl, Nat.le_of_ble_eq_true rfl⟩ (fun r_8 hr_8 => ?_)
            subst hr_8
            refine lv_aload_n hx hb dX4_free_55 rfl (lv_at hl 1 rfl) ?_
            refine lv_iload_n hx hb dX4_free_56 rfl (lv_at hl 3 rfl) ?_
            refine z_cSi (As := [.ref a, .int (nI k_7)]) (rest := [.int (pwr (gS g) c)]) ⟨hx, hb, hml, hown, hts⟩ (k_X4_allWear l dC dI a cI g hok hbt k_7 (by omega)) (va_cwS 2 hts gX4_free_X4_allWear rfl rfl rfl (by decide +kernel) ⟨Nat.le_of_ble_eq_true rfl, Nat.le_of_ble_eq_true rfl⟩) (hP.sub (ws' := [(a, .inl (cI, 323, .inl g))]) [0] rfl) (hK.sub (tys' := [(cI, .int)]) [0] rfl) rfl hl.1 rfl (Nat.le_of_ble_eq_true rfl) dX4_free_57 ⟨Nat.le_of_ble_eq_true rfl, Nat.le_of_ble_eq_true rfl⟩ (fun r_9 hr_9 => ?_)
            subst hr_9
            refine lv_icmp_ge (tgt := 67) hx hb dX4_free_60 (by decide) (fun c_10 => ?_) (fun c_10 => ?_)
            · skip
              refine lv_iload_n hx hb dX4_free_67 rfl (lv_at hl 3 rfl) ?_
              refine lv_istore_n (lv' := [(2, .int (nI k_7)), (4, .int 1), (0, .ref a), (1, .int (-1)), (3, .int (nI c))]) hx hb dX4_free_68 rfl hl (by decide) rfl (fun ls hl => ?_)
              refine lv_iinc (v := nI (c + 1)) (lv' := [(3, .int (nI (c + 1))), (2, .int (nI k_7)), (4, .int 1), (0, .ref a), (1, .int (-1))]) hx hb dX4_free_69 hl (k := 4) rfl (z_inc1 _) (by decide) rfl (fun ls hl => ?_)
              refine lv_goto (tgt := 4) hx hb dX4_free_72 (by decide) ?_
              exact ih_4 (some k_7) (c + 1) _ (by omega) (lv_sub hl [3, 4, 1, 0] rfl) (by omega) (by first | contradiction | simp [pFree, pLess, ← eo, c_1, eq_true c_3, ho_7, c_10]) (by intro i hi; cases hi; omega)
            · skip
              refine lv_iload_n hx hb dX4_free_63 rfl (lv_at hl 4 rfl) ?_
              refine lv_goto (tgt := 68) hx hb dX4_free_64 (by decide) ?_
              refine lv_istore_n (lv' := [(2, .int (nI c)), (4, .int 1), (0, .ref a), (1, .int (-1)), (3, .int (nI c))]) hx hb dX4_free_68 rfl hl (by decide) rfl (fun ls hl => ?_)
              refine lv_iinc (v := nI (c + 1)) (lv' := [(3, .int (nI (c + 1))), (2, .int (nI c)), (4, .int 1), (0, .ref a), (1, .int (-1))]) hx hb dX4_free_69 hl (k := 4) rfl (z_inc1 _) (by decide) rfl (fun ls hl => ?_)
              refine lv_goto (tgt := 4) hx hb dX4_free_72 (by decide) ?_
              exact ih_4 (some c) (c + 1) _ (by omega) (lv_sub hl [3, 4, 1, 0] rfl) (by omega) (by first | contradiction | simp [pFree, pLess, ← eo, c_1, eq_true c_3, ho_7, c_10]) (by intro i hi; cases hi; omega)
  exact hC_4 _ none 0 _ (Nat.lt_succ_self _) (lv_sub hl [2, 3, 1, 0] rfl) (by omega) (rfl) (by intro _ h; cases h)

abbrev rX4_goesTo : Room := { frames := 4, cells := 0, slots := 0, locals := 97 }
set_option maxHeartbeats 4000000 in
set_option maxRecDepth 100000 in
theorem k_X4_goesTo (l : Launch) (dC : Nat → ClassId) (dI : Nat → Nat → Nat) (a : Nat) (cI : ClassId) (g : Nat → Int32) (hok : gok g) (hbt : gbt g) (j : Nat) (hj : j < 16) (v : Nat) (hv : v < 4096) : zRi l yX4_goesTo wsX4_goesTo rX4_goesTo (dC, dI) [.ref a, .int (nI j), .int (nI v)] [(a, .inl (cI, 323, .inl g))] [(cI, .int)] (fun r => r = zo (ptg (gS g) j (nI v))) := by
  refine zRi_of (cc := cX4_goesTo) (maxL := 5) (ty := .int) (by decide) rfl (Nat.le_of_ble_eq_true rfl) (fun _ _ => rfl) ?_
  intro p e s m args below meth cd Q ls hat hP hK hend
  obtain ⟨hx, hb, hml, hown, hts, hl⟩ := hat
  replace hown : s.vm.findClass RX4 = some m.cls := hown
  replace hl : lv_has ls 5 [(0, .ref a), (1, .int (nI j)), (2, .int (nI v))] := hl
  replace hP : va_P (dC, dI) vwCl [(a, .inl (cI, 323, .inl g))] s.heap := hP
  refine lv_aload_n hx hb dX4_goesTo_0 rfl (lv_at hl 0 rfl) ?_
  refine lv_sipush (v := 259) hx hb dX4_goesTo_1 (by decide) ?_
  refine lv_iload_n hx hb dX4_goesTo_4 rfl (lv_at hl 1 rfl) ?_
  refine z_iadd hx hb 259 j dX4_goesTo_5 ?_
  refine z_ald hx hb hK hP 0 0 (259 + j) (f := g) rfl rfl (by first | omega | decide) (by first | decide | omega) dX4_goesTo_6 ?_
  refine z_top (hok j (by omega)).2 ?_
  have hq_1 := (hok j (by omega)).1
  refine lv_istore_n (lv' := [(3, .int (nI (gpl g j))), (0, .ref a), (1, .int (nI j)), (2, .int (nI v))]) hx hb dX4_goesTo_7 rfl hl (by decide) rfl (fun ls hl => ?_)
  refine lv_aload_n hx hb dX4_goesTo_8 rfl (lv_at hl 1 rfl) ?_
  refine lv_iload_n hx hb dX4_goesTo_9 rfl (lv_at hl 2 rfl) ?_
  refine z_cSi (As := [.ref a, .int (nI j)]) (rest := []) ⟨hx, hb, hml, hown, hts⟩ (k_X4_isHot l dC dI a cI g hok hbt j (by omega)) (va_cwS 2 hts gX4_goesTo_X4_isHot rfl rfl rfl (by decide +kernel) ⟨Nat.le_of_ble_eq_true rfl, Nat.le_of_ble_eq_true rfl⟩) (hP.sub (ws' := [(a, .inl (cI, 323, .inl g))]) [0] rfl) (hK.sub (tys' := [(cI, .int)]) [0] rfl) rfl hl.1 rfl (Nat.le_of_ble_eq_true rfl) dX4_goesTo_10 ⟨Nat.le_of_ble_eq_true rfl, Nat.le_of_ble_eq_true rfl⟩ (fun r_2 hr_2 => ?_)
  refine z_ifeqB hx hb hr_2 (tgt := 24) dX4_goesTo_13 (by decide) (fun c_3 => ?_) (fun c_3 => ?_)
  · skip
    refine lv_iconst (v := (-1)) hx hb dX4_goesTo_24 (by decide) ?_
    refine lv_istore (lv' := [(4, .int (-1)), (3, .int (nI (gpl g j))), (0, .ref a), (1, .int (nI j)), (2, .int (nI v))]) hx hb dX4_goesTo_25 hl (by decide) rfl (fun ls hl => ?_)
    refine lv_iload hx hb dX4_goesTo_27 (lv_at hl 0 rfl) ?_
    refine lv_iconst (v := (-1)) hx hb dX4_goesTo_29 (by decide) ?_
    refine lv_icmp_eq (tgt := 36) hx hb dX4_goesTo_30 (by decide) (fun _ => ?_) (fun z => absurd z (by decide))
    refine lv_aload_n hx hb dX4_goesTo_36 rfl (lv_at hl 2 rfl) ?_
    refine lv_iload_n hx hb dX4_goesTo_37 rfl (lv_at hl 1 rfl) ?_
    refine lv_iload_n hx hb dX4_goesTo_38 rfl (lv_at hl 4 rfl) ?_
    refine z_cSi (As := [.ref a, .int (nI (gpl g j)), .int (nI v)]) (rest := []) ⟨hx, hb, hml, hown, hts⟩ (k_X4_bars l dC dI a cI g hok hbt (gpl g j) (by omega) v (by omega)) (va_cwS 3 hts gX4_goesTo_X4_bars rfl rfl rfl (by decide +kernel) ⟨Nat.le_of_ble_eq_true rfl, Nat.le_of_ble_eq_true rfl⟩) (hP.sub (ws' := [(a, .inl (cI, 323, .inl g))]) [0] rfl) (hK.sub (tys' := [(cI, .int)]) [0] rfl) rfl hl.1 rfl (Nat.le_of_ble_eq_true rfl) dX4_goesTo_39 ⟨Nat.le_of_ble_eq_true rfl, Nat.le_of_ble_eq_true rfl⟩ (fun r_5 hr_5 => ?_)
    refine z_ifneB hx hb hr_5 (tgt := 49) dX4_goesTo_42 (by decide) (fun c_6 => ?_) (fun c_6 => ?_)
    · skip
      refine lv_aload_n hx hb dX4_goesTo_49 rfl (lv_at hl 2 rfl) ?_
      refine lv_iload_n hx hb dX4_goesTo_50 rfl (lv_at hl 3 rfl) ?_
      refine z_cSi (As := [.ref a, .int (nI j)]) (rest := []) ⟨hx, hb, hml, hown, hts⟩ (k_X4_isHot l dC dI a cI g hok hbt j (by omega)) (va_cwS 2 hts gX4_goesTo_X4_isHot rfl rfl rfl (by decide +kernel) ⟨Nat.le_of_ble_eq_true rfl, Nat.le_of_ble_eq_true rfl⟩) (hP.sub (ws' := [(a, .inl (cI, 323, .inl g))]) [0] rfl) (hK.sub (tys' := [(cI, .int)]) [0] rfl) rfl hl.1 rfl (Nat.le_of_ble_eq_true rfl) dX4_goesTo_51 ⟨Nat.le_of_ble_eq_true rfl, Nat.le_of_ble_eq_true rfl⟩ (fun r_7 hr_7 => ?_)
      refine z_ifeqB hx hb hr_7 (tgt := 61) dX4_goesTo_54 (by decide) (fun c_8 => ?_) (fun c_8 => ?_)
      · skip
        refine lv_aload_n hx hb dX4_goesTo_61 rfl (lv_at hl 2 rfl) ?_
        refine lv_iload_n hx hb dX4_goesTo_62 rfl (lv_at hl 4 rfl) ?_
        refine z_cSi (As := [.ref a, .int (nI v)]) (rest := []) ⟨hx, hb, hml, hown, hts⟩ (k_X4_free l dC dI a cI g hok hbt v (by omega)) (va_cwS 2 hts gX4_goesTo_X4_free rfl rfl rfl (by decide +kernel) ⟨Nat.le_of_ble_eq_true rfl, Nat.le_of_ble_eq_true rfl⟩) (hP.sub (ws' := [(a, .inl (cI, 323, .inl g))]) [0] rfl) (hK.sub (tys' := [(cI, .int)]) [0] rfl) rfl hl.1 rfl (Nat.le_of_ble_eq_true rfl) dX4_goesTo_63 ⟨Nat.le_of_ble_eq_true rfl, Nat.le_of_ble_eq_true rfl⟩ (fun r_9 hr_9 => ?_)
        obtain ⟨o_10, eo_10⟩ : ∃ zz : Option Nat, zz = pff (gS g) (nI v) := ⟨_, rfl⟩
        rw [← eo_10] at hr_9
        subst hr_9
        have hbo_10 : ∀ i, o_10 = some i → i < 18 := by rw [eo_10]; exact pff_lt
        exact hend _ _ _ (by rw [eo_10]; first | (simp [ptg, c_3, c_6, c_8]; done) | (simp [ptg, c_3, c_6, c_8]; cases pff (gS g) (nI v) <;> rfl)) dX4_goesTo_66
      · skip
        refine lv_iconst (v := (-1)) hx hb dX4_goesTo_57 (by decide) ?_
        refine lv_goto (tgt := 66) hx hb dX4_goesTo_58 (by decide) ?_
        exact hend _ _ _ (by first | contradiction | (simp [ptg, c_3, c_6, c_8]; done) | (simp [ptg, c_3, c_6, c_8]; rfl)) dX4_goesTo_66
    · skip
      refine lv_iload_n hx hb dX4_goesTo_45 rfl (lv_at hl 1 rfl) ?_
      refine lv_goto (tgt := 66) hx hb dX4_goesTo_46 (by decide) ?_
      exact hend _ _ _ (by first | contradiction | (simp [ptg, c_3, c_6]; done) | (simp [ptg, c_3, c_6]; rfl)) dX4_goesTo_66
  · skip
    refine lv_aload_n hx hb dX4_goesTo_16 rfl (lv_at hl 1 rfl) ?_
    refine lv_iload_n hx hb dX4_goesTo_17 rfl (lv_at hl 3 rfl) ?_
    refine z_cSi (As := [.ref a, .int (nI v)]) (rest := []) ⟨hx, hb, hml, hown, hts⟩ (k_X4_free l dC dI a cI g hok hbt v (by omega)) (va_cwS 2 hts gX4_goesTo_X4_free rfl rfl rfl (by decide +kernel) ⟨Nat.le_of_ble_eq_true rfl, Nat.le_of_ble_eq_true rfl⟩) (hP.sub (ws' := [(a, .inl (cI, 323, .inl g))]) [0] rfl) (hK.sub (tys' := [(cI, .int)]) [0] rfl) rfl hl.1 rfl (Nat.le_of_ble_eq_true rfl) dX4_goesTo_18 ⟨Nat.le_of_ble_eq_true rfl, Nat.le_of_ble_eq_true rfl⟩ (fun r_11 hr_11 => ?_)
    obtain ⟨o_12, eo_12⟩ : ∃ zz : Option Nat, zz = pff (gS g) (nI v) := ⟨_, rfl⟩
    rw [← eo_12] at hr_11
    subst hr_11
    have hbo_12 : ∀ i, o_12 = some i → i < 18 := by rw [eo_12]; exact pff_lt
    refine lv_goto (tgt := 25) hx hb dX4_goesTo_21 (by decide) ?_
    refine lv_istore (lv' := [(4, .int (zo o_12)), (3, .int (nI (gpl g j))), (0, .ref a), (1, .int (nI j)), (2, .int (nI v))]) hx hb dX4_goesTo_25 hl (by decide) rfl (fun ls hl => ?_)
    refine lv_iload hx hb dX4_goesTo_27 (lv_at hl 0 rfl) ?_
    refine lv_iconst (v := (-1)) hx hb dX4_goesTo_29 (by decide) ?_
    refine z_eqO hx hb o_12 (fun i hi => Nat.lt_of_lt_of_le (hbo_12 i hi) (by decide)) (tgt := 36) dX4_goesTo_30 (by decide) (fun ho_13 => ?_) (fun k_13 ho_13 => ?_)
    · skip
      have hE_13 := eo_12.symm.trans ho_13
      try rw [ho_13] at hl
      try rw [ho_13]
      replace hl : lv_has ls 5 [(4, .int (-1)), (3, .int (nI (gpl g j))), (0, .ref a), (1, .int (nI j)), (2, .int (nI v))] := hl
      refine lv_aload_n hx hb dX4_goesTo_36 rfl (lv_at hl 2 rfl) ?_
      refine lv_iload_n hx hb dX4_goesTo_37 rfl (lv_at hl 1 rfl) ?_
      refine lv_iload_n hx hb dX4_goesTo_38 rfl (lv_at hl 4 rfl) ?_
      refine z_cSi (As := [.ref a, .int (nI (gpl g j)), .int (nI v)]) (rest := []) ⟨hx, hb, hml, hown, hts⟩ (k_X4_bars l dC dI a cI g hok hbt (gpl g j) (by omega) v (by omega)) (va_cwS 3 hts gX4_goesTo_X4_bars rfl rfl rfl (by decide +kernel) ⟨Nat.le_of_ble_eq_true rfl, Nat.le_of_ble_eq_true rfl⟩) (hP.sub (ws' := [(a, .inl (cI, 323, .inl g))]) [0] rfl) (hK.sub (tys' := [(cI, .int)]) [0] rfl) rfl hl.1 rfl (Nat.le_of_ble_eq_true rfl) dX4_goesTo_39 ⟨Nat.le_of_ble_eq_true rfl, Nat.le_of_ble_eq_true rfl⟩ (fun r_14 hr_14 => ?_)
      refine z_ifneB hx hb hr_14 (tgt := 49) dX4_goesTo_42 (by decide) (fun c_15 => ?_) (fun c_15 => ?_)
      · skip
        refine lv_aload_n hx hb dX4_goesTo_49 rfl (lv_at hl 2 rfl) ?_
        refine lv_iload_n hx hb dX4_goesTo_50 rfl (lv_at hl 3 rfl) ?_
        refine z_cSi (As := [.ref a, .int (nI j)]) (rest := []) ⟨hx, hb, hml, hown, hts⟩ (k_X4_isHot l dC dI a cI g hok hbt j (by omega)) (va_cwS 2 hts gX4_goesTo_X4_isHot rfl rfl rfl (by decide +kernel) ⟨Nat.le_of_ble_eq_true rfl, Nat.le_of_ble_eq_true rfl⟩) (hP.sub (ws' := [(a, .inl (cI, 323, .inl g))]) [0] rfl) (hK.sub (tys' := [(cI, .int)]) [0] rfl) rfl hl.1 rfl (Nat.le_of_ble_eq_true rfl) dX4_goesTo_51 ⟨Nat.le_of_ble_eq_true rfl, Nat.le_of_ble_eq_true rfl⟩ (fun r_16 hr_16 => ?_)
        refine z_ifeqB hx hb hr_16 (tgt := 61) dX4_goesTo_54 (by decide) (fun c_17 => ?_) (fun c_17 => ?_)
        · skip
          refine lv_aload_n hx hb dX4_goesTo_61 rfl (lv_at hl 2 rfl) ?_
          refine lv_iload_n hx hb dX4_goesTo_62 rfl (lv_at hl 4 rfl) ?_
          refine z_cSi (As := [.ref a, .int (nI v)]) (rest := []) ⟨hx, hb, hml, hown, hts⟩ (k_X4_free l dC dI a cI g hok hbt v (by omega)) (va_cwS 2 hts gX4_goesTo_X4_free rfl rfl rfl (by decide +kernel) ⟨Nat.le_of_ble_eq_true rfl, Nat.le_of_ble_eq_true rfl⟩) (hP.sub (ws' := [(a, .inl (cI, 323, .inl g))]) [0] rfl) (hK.sub (tys' := [(cI, .int)]) [0] rfl) rfl hl.1 rfl (Nat.le_of_ble_eq_true rfl) dX4_goesTo_63 ⟨Nat.le_of_ble_eq_true rfl, Nat.le_of_ble_eq_true rfl⟩ (fun r_18 hr_18 => ?_)
          obtain ⟨o_19, eo_19⟩ : ∃ zz : Option Nat, zz = pff (gS g) (nI v) := ⟨_, rfl⟩
          rw [← eo_19] at hr_18
          subst hr_18
          have hbo_19 : ∀ i, o_19 = some i → i < 18 := by rw [eo_19]; exact pff_lt
          exact hend _ _ _ (by rw [eo_19]; first | (simp [ptg, c_3, hE_13, c_15, c_17]; done) | (simp [ptg, c_3, hE_13, c_15, c_17]; cases pff (gS g) (nI v) <;> rfl)) dX4_goesTo_66
        · skip
          refine lv_iconst (v := (-1)) hx hb dX4_goesTo_57 (by decide) ?_
          refine lv_goto (tgt := 66) hx hb dX4_goesTo_58 (by decide) ?_
          exact hend _ _ _ (by first | contradiction | (simp [ptg, c_3, hE_13, c_15, c_17]; done) | (simp [ptg, c_3, hE_13, c_15, c_17]; rfl)) dX4_goesTo_66
      · skip
        refine lv_iload_n hx hb dX4_goesTo_45 rfl (lv_at hl 1 rfl) ?_
        refine lv_goto (tgt := 66) hx hb dX4_goesTo_46 (by decide) ?_
        exact hend _ _ _ (by first | contradiction | (simp [ptg, c_3, hE_13, c_15]; done) | (simp [ptg, c_3, hE_13, c_15]; rfl)) dX4_goesTo_66
    · skip
      have hE_13 := eo_12.symm.trans ho_13
      have hkb_13 := hbo_12 _ ho_13
      try rw [ho_13] at hl
      try rw [ho_13]
      replace hl : lv_has ls 5 [(4, .int (nI k_13)), (3, .int (nI (gpl g j))), (0, .ref a), (1, .int (nI j)), (2, .int (nI v))] := hl
      refine lv_iload hx hb dX4_goesTo_33 (lv_at hl 0 rfl) ?_
      exact hend _ _ _ (by first | contradiction | (simp [ptg, c_3, hE_13]; done) | (simp [ptg, c_3, hE_13]; rfl)) dX4_goesTo_35
