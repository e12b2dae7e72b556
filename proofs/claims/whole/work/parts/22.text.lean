abbrev rX3_isOutside : Room := { frames := 0, cells := 0, slots := 0, locals := 0 }
set_option maxHeartbeats 4000000 in
set_option maxRecDepth 100000 in
theorem k_X3_isOutside (l : Launch) (dC : Nat → ClassId) (dI : Nat → Nat → Nat) (x : Int32) (lo : Int32) (hi : Int32) : zRi l yX3_isOutside wsX3_isOutside rX3_isOutside (dC, dI) [.int x, .int lo, .int hi] [] [] (fun r => r = if x < lo ∨ ¬ x ≤ hi then 1 else 0) := by
  refine zRi_of (cc := cX3_isOutside) (maxL := 3) (ty := .boolean) (by decide) rfl (Nat.le_of_ble_eq_true rfl) (fun v h => by subst h; split <;> rfl) ?_
  intro p e s m args below meth cd Q ls hat hP hK hend
  obtain ⟨hx, hb, hml, hown, hts, hl⟩ := hat
  replace hown : s.vm.findClass RX3 = some m.cls := hown
  replace hl : lv_has ls 3 [(0, .int x), (1, .int lo), (2, .int hi)] := hl
  replace hP : va_P (dC, dI) vwCl [] s.heap := hP
  refine lv_iload_n hx hb dX3_isOutside_0 rfl (lv_at hl 0 rfl) ?_
  refine lv_iload_n hx hb dX3_isOutside_1 rfl (lv_at hl 1 rfl) ?_
  refine lv_icmp_lt (tgt := 10) hx hb dX3_isOutside_2 (by decide) (fun c_1 => ?_) (fun c_1 => ?_)
  · skip
    refine lv_iconst (v := 1) hx hb dX3_isOutside_10 (by decide) ?_
    refine lv_goto (tgt := 15) hx hb dX3_isOutside_11 (by decide) ?_
    exact hend _ _ _ (by rw [if_pos (Or.inl c_1)]) dX3_isOutside_15
  · skip
    refine lv_iload_n hx hb dX3_isOutside_5 rfl (lv_at hl 0 rfl) ?_
    refine lv_iload_n hx hb dX3_isOutside_6 rfl (lv_at hl 2 rfl) ?_
    have hJ_2 : ∀ b_2 : Int32, b_2 = (if ¬ (x ≤ hi) then 1 else 0) → W p l e rX3_isOutside s m args below meth cd s.heap [] 0 0 Q (F0 m 15 ls (.int b_2 :: [])) := by
      intro b_2 eb_2
      exact hend _ _ _ (by rw [eb_2]; simp [c_1]) dX3_isOutside_15
    refine lv_icmp_le (tgt := 14) hx hb dX3_isOutside_7 (by decide) (fun c_2 => ?_) (fun c_2 => ?_)
    · refine lv_iconst (v := 0) hx hb dX3_isOutside_14 (by decide) ?_
      exact hJ_2 _ (if_neg (fun z => z c_2)).symm
    · refine lv_iconst (v := 1) hx hb dX3_isOutside_10 (by decide) ?_
      refine lv_goto (tgt := 15) hx hb dX3_isOutside_11 (by decide) ?_
      exact hJ_2 _ (if_pos c_2).symm

abbrev rX2_add : Room := { frames := 0, cells := 0, slots := 0, locals := 0 }
set_option maxHeartbeats 4000000 in
set_option maxRecDepth 100000 in
theorem k_X2_add (l : Launch) (dC : Nat → ClassId) (dI : Nat → Nat → Nat) (ax : Nat → Nat) (cI : ClassId) (τ : zT) (c : Nat) (h : tl τ < 60) (sz : Nat) : zWv (S := Unit) l yX2_add wsX2_add rX2_add (dC, dI) [.ref (ax 0), .int (nI c)] (zTW ax cI τ) [(cI, .int)] sz (fun _ : Unit => True) (fun _ => zTW ax cI (va_up (tx τ) (tl τ) c, tl τ + 1, tw τ, tn τ, tc τ, ts τ, td τ)) 0 0 := by
  refine zWv_of (cc := cX2_add) (maxL := 2) (by decide) rfl (Nat.le_of_ble_eq_true rfl) ?_
  intro p e s m args below meth cd Q ls A hat hname hP hK hD hA hend
  obtain ⟨hx, hb, hml, hown, hts, hl⟩ := hat
  replace hown : s.vm.findClass RX2 = some m.cls := hown
  replace hl : lv_has ls 2 [(0, .ref (ax 0)), (1, .int (nI c))] := hl
  replace hP : va_P (dC, dI) vwCl [((ax 0), .inr (2, [.ref (ax 1), .int (nI (tl τ)), .ref (ax 2), .ref (ax 3), .int (nI (tc τ)), .int (nI (ts τ)), .int (td τ)])), ((ax 1), .inl (cI, 60, .inl (fun w => nI (tx τ w)))), ((ax 2), .inl (cI, 60, .inl (fun w => nI (tw τ w)))), ((ax 3), .inl (cI, 60, .inl (fun w => nI (tn τ w))))] s.heap := hP
  replace hD : va_D A [((ax 0), .inr (2, [.ref (ax 1), .int (nI (tl τ)), .ref (ax 2), .ref (ax 3), .int (nI (tc τ)), .int (nI (ts τ)), .int (td τ)])), ((ax 1), .inl (cI, 60, .inl (fun w => nI (tx τ w)))), ((ax 2), .inl (cI, 60, .inl (fun w => nI (tw τ w)))), ((ax 3), .inl (cI, 60, .inl (fun w => nI (tn τ w))))] := hD
  have hS : va_S A s.heap s.heap [] := va_S.rf
  have hf9 := hts (.fieldLink RX2 9 "InsideOutWords$Text" "codes" "[I") (by decide +kernel)
  have hnX2 : ∀ w ∈ u_ws RX2 TX2 7, w ∈ wsX2_add := by decide +kernel
  have hf21 := hts (.fieldLink RX2 21 "InsideOutWords$Text" "length" "I") (by decide +kernel)
  refine lv_aload_n hx hb dX2_add_0 rfl (lv_at hl 0 rfl) ?_
  refine va_get (D := (dC, dI)) (ci := 2) (v := .ref (ax 1)) (C := RX2) (T := TX2) (N := 7) hx hb hts hnX2 hown hK hP 0 rfl rfl 0 (by decide) hf9 (fun _ h9 => h9) rfl dX2_add_1 ?_
  refine lv_aload_n hx hb dX2_add_4 rfl (lv_at hl 0 rfl) ?_
  refine va_get (D := (dC, dI)) (ci := 2) (v := .int (nI (tl τ))) (C := RX2) (T := TX2) (N := 7) hx hb hts hnX2 hown hK hP 0 rfl rfl 1 (by decide) hf21 (fun _ h9 => h9) rfl dX2_add_5 ?_
  refine lv_iload_n hx hb dX2_add_8 rfl (lv_at hl 1 rfl) ?_
  refine z_ast hx hb hK hP hD hS 1 0 (tl τ) (f := (fun w => nI (tx τ w))) rfl rfl (by first | omega | decide) (by first | decide | omega) dX2_add_9 (fun H locs hP hD hS => ?_)
  rw [upd_nI] at hP hD
  replace hP : va_P (dC, dI) vwCl [((ax 0), .inr (2, [.ref (ax 1), .int (nI (tl τ)), .ref (ax 2), .ref (ax 3), .int (nI (tc τ)), .int (nI (ts τ)), .int (td τ)])), ((ax 1), .inl (cI, 60, .inl (fun w => nI ((va_up (tx τ) (tl τ) c) w)))), ((ax 2), .inl (cI, 60, .inl (fun w => nI (tw τ w)))), ((ax 3), .inl (cI, 60, .inl (fun w => nI (tn τ w))))] H := hP
  replace hD : va_D A [((ax 0), .inr (2, [.ref (ax 1), .int (nI (tl τ)), .ref (ax 2), .ref (ax 3), .int (nI (tc τ)), .int (nI (ts τ)), .int (td τ)])), ((ax 1), .inl (cI, 60, .inl (fun w => nI ((va_up (tx τ) (tl τ) c) w)))), ((ax 2), .inl (cI, 60, .inl (fun w => nI (tw τ w)))), ((ax 3), .inl (cI, 60, .inl (fun w => nI (tn τ w))))] := hD
  refine lv_aload_n hx hb dX2_add_10 rfl (lv_at hl 0 rfl) ?_
  refine lv_dup hx hb dX2_add_11 rfl ?_
  refine va_get (D := (dC, dI)) (ci := 2) (v := .int (nI (tl τ))) (C := RX2) (T := TX2) (N := 7) hx hb hts hnX2 hown hK hP 0 rfl rfl 1 (by decide) hf21 (fun _ h9 => h9) rfl dX2_add_12 ?_
  refine lv_iconst (v := 1) hx hb dX2_add_15 (by decide) ?_
  refine z_iadd hx hb (tl τ) 1 dX2_add_16 ?_
  refine va_put (D := (dC, dI)) (ci := 2) (v := .int (nI ((tl τ) + 1))) (ty := .int) (C := RX2) (T := TX2) (N := 7) hx hb hts hnX2 tyX2 tyX2_ok nmX2 hown hK hP hD hS 0 rfl rfl 1 (by decide) hf21 (fun _ h9 => h9) rfl (by decide +kernel) rfl rfl (Nat.le_of_ble_eq_true rfl) dX2_add_17 (fun H locs (hP : va_P (dC, dI) vwCl [((ax 0), .inr (2, [.ref (ax 1), .int (nI ((tl τ) + 1)), .ref (ax 2), .ref (ax 3), .int (nI (tc τ)), .int (nI (ts τ)), .int (td τ)])), ((ax 1), .inl (cI, 60, .inl (fun w => nI ((va_up (tx τ) (tl τ) c) w)))), ((ax 2), .inl (cI, 60, .inl (fun w => nI (tw τ w)))), ((ax 3), .inl (cI, 60, .inl (fun w => nI (tn τ w))))] H) (hD : va_D A [((ax 0), .inr (2, [.ref (ax 1), .int (nI ((tl τ) + 1)), .ref (ax 2), .ref (ax 3), .int (nI (tc τ)), .int (nI (ts τ)), .int (td τ)])), ((ax 1), .inl (cI, 60, .inl (fun w => nI ((va_up (tx τ) (tl τ) c) w)))), ((ax 2), .inl (cI, 60, .inl (fun w => nI (tw τ w)))), ((ax 3), .inl (cI, 60, .inl (fun w => nI (tn τ w))))]) hS => ?_)
  exact hend () _ _ _ _ trivial hP hD hS dX2_add_20

abbrev rX2_takesFirstDigit : Room := { frames := 1, cells := 0, slots := 0, locals := 22 }
set_option maxHeartbeats 4000000 in
set_option maxRecDepth 100000 in
theorem k_X2_takesFirstDigit (l : Launch) (dC : Nat → ClassId) (dI : Nat → Nat → Nat) (ax : Nat → Nat) (cI : ClassId) (τ : zT) (c : Nat) (hc : c < 128) (h1 : td τ = nI (iN (td τ))) (h2 : tc τ < 60) (sz : Nat) : zWiN (S := Unit) l yX2_takesFirstDigit wsX2_takesFirstDigit rX2_takesFirstDigit (dC, dI) [.ref (ax 0), .int (nI c - 48)] (zTW ax cI τ) [(cI, .int)] sz (fun r (_ : Unit) => r = if pDig c then 1 else 0) (fun _ => zTW ax cI (pFD τ c)) 0 0 := by
  refine zWiN_of (cc := cX2_takesFirstDigit) (maxL := 2) (ty := .boolean) (by decide) rfl (Nat.le_of_ble_eq_true rfl) (fun v u h => by rw [h]; split <;> rfl) ?_
  intro p e s m args below meth cd Q ls A hat hP hK hN hD hA hend
  obtain ⟨hx, hb, hml, hown, hts, hl⟩ := hat
  replace hown : s.vm.findClass RX2 = some m.cls := hown
  replace hl : lv_has ls 2 [(0, .ref (ax 0)), (1, .int (nI c - 48))] := hl
  replace hP : va_P (dC, dI) vwCl [((ax 0), .inr (2, [.ref (ax 1), .int (nI (tl τ)), .ref (ax 2), .ref (ax 3), .int (nI (tc τ)), .int (nI (ts τ)), .int (td τ)])), ((ax 1), .inl (cI, 60, .inl (fun w => nI (tx τ w)))), ((ax 2), .inl (cI, 60, .inl (fun w => nI (tw τ w)))), ((ax 3), .inl (cI, 60, .inl (fun w => nI (tn τ w))))] s.heap := hP
  replace hD : va_D A [((ax 0), .inr (2, [.ref (ax 1), .int (nI (tl τ)), .ref (ax 2), .ref (ax 3), .int (nI (tc τ)), .int (nI (ts τ)), .int (td τ)])), ((ax 1), .inl (cI, 60, .inl (fun w => nI (tx τ w)))), ((ax 2), .inl (cI, 60, .inl (fun w => nI (tw τ w)))), ((ax 3), .inl (cI, 60, .inl (fun w => nI (tn τ w))))] := hD
  have hS : va_S A s.heap s.heap [] := va_S.rf
  have hf28 := hts (.fieldLink RX2 28 "InsideOutWords$Text" "parsed" "I") (by decide +kernel)
  have hnX2 : ∀ w ∈ u_ws RX2 TX2 7, w ∈ wsX2_takesFirstDigit := by decide +kernel
  have hf15 := hts (.fieldLink RX2 15 "InsideOutWords$Text" "parsedWord" "[I") (by decide +kernel)
  have hf39 := hts (.fieldLink RX2 39 "InsideOutWords$Text" "word" "I") (by decide +kernel)
  have hf18 := hts (.fieldLink RX2 18 "InsideOutWords$Text" "parsedNumber" "[I") (by decide +kernel)
  have hf25 := hts (.fieldLink RX2 25 "InsideOutWords$Text" "stage" "I") (by decide +kernel)
  refine lv_iload_n hx hb dX2_takesFirstDigit_0 rfl (lv_at hl 1 rfl) ?_
  refine lv_iconst (v := 0) hx hb dX2_takesFirstDigit_1 (by decide) ?_
  refine lv_bipush (v := 9) hx hb dX2_takesFirstDigit_2 (by decide) ?_
  refine z_cSNi (As := [.int (nI c - 48), .int 0, .int 9]) (rest := []) ⟨hx, hb, hml, hown, hts⟩ (k_X3_isOutside l dC dI (nI c - 48) (0 : Int32) (9 : Int32)) ⟨va_cnB 3 hts gX2_takesFirstDigit_X3_isOutside_n42 rfl rfl rfl hN (hts (.initialized RX3) (by decide +kernel)) (by decide +kernel) ⟨Nat.le_of_ble_eq_true rfl, Nat.le_of_ble_eq_true rfl⟩, hts (.static yX3_isOutside) (by decide +kernel), trivial⟩ (hP.sub (ws' := []) [] rfl) (hK.sub (tys' := []) [] rfl) rfl hl.1 rfl (Nat.le_of_ble_eq_true rfl) dX2_takesFirstDigit_4 ⟨Nat.le_of_ble_eq_true rfl, Nat.le_of_ble_eq_true rfl⟩ (fun r_1 hr_1 => ?_)
  refine z_ifneB hx hb hr_1 (tgt := 23) dX2_takesFirstDigit_7 (by decide) (fun c_2 => ?_) (fun c_2 => ?_)
  · skip
    have hd := (chr_d hc).mp c_2
    refine lv_iconst (v := 0) hx hb dX2_takesFirstDigit_23 (by decide) ?_
    have e9 : pFD τ c = τ := by unfold pFD; first | rw [if_pos hd] | rw [if_neg hd]
    replace hP : va_P (dC, dI) vwCl (zTW ax cI (pFD τ c)) s.heap := by rw [e9]; exact hP
    replace hD : va_D A (zTW ax cI (pFD τ c)) := by rw [e9]; exact hD
    exact hend _ () _ _ _ _ (by first | exact (if_pos hd).symm | exact (if_neg hd).symm) hP hD hS dX2_takesFirstDigit_24
  · skip
    have hd := Classical.not_not.mp (fun z => c_2 ((chr_d hc).mpr z))
    refine lv_aload_n hx hb dX2_takesFirstDigit_10 rfl (lv_at hl 0 rfl) ?_
    refine va_get (D := (dC, dI)) (ci := 2) (v := .int (nI (tc τ))) (C := RX2) (T := TX2) (N := 7) hx hb hts hnX2 hown hK hP 0 rfl rfl 4 (by decide) hf28 (fun _ h9 => h9) rfl dX2_takesFirstDigit_11 ?_
    refine lv_iconst (v := 0) hx hb dX2_takesFirstDigit_14 (by decide) ?_
    refine lv_bipush (v := 59) hx hb dX2_takesFirstDigit_15 (by decide) ?_
    refine z_cSNi (As := [.int (nI (tc τ)), .int 0, .int 59]) (rest := []) ⟨hx, hb, hml, hown, hts⟩ (k_X3_isOutside l dC dI (nI (tc τ)) (0 : Int32) (59 : Int32)) ⟨va_cnB 3 hts gX2_takesFirstDigit_X3_isOutside_n42 rfl rfl rfl hN (hts (.initialized RX3) (by decide +kernel)) (by decide +kernel) ⟨Nat.le_of_ble_eq_true rfl, Nat.le_of_ble_eq_true rfl⟩, hts (.static yX3_isOutside) (by decide +kernel), trivial⟩ (hP.sub (ws' := []) [] rfl) (hK.sub (tys' := []) [] rfl) rfl hl.1 rfl (Nat.le_of_ble_eq_true rfl) dX2_takesFirstDigit_17 ⟨Nat.le_of_ble_eq_true rfl, Nat.le_of_ble_eq_true rfl⟩ (fun r_3 hr_3 => ?_)
    refine z_ifeqB hx hb hr_3 (tgt := 25) dX2_takesFirstDigit_20 (by decide) (fun c_4 => ?_) (fun c_4 => ?_)
    · skip
      refine lv_aload_n hx hb dX2_takesFirstDigit_25 rfl (lv_at hl 0 rfl) ?_
      refine va_get (D := (dC, dI)) (ci := 2) (v := .ref (ax 2)) (C := RX2) (T := TX2) (N := 7) hx hb hts hnX2 hown hK hP 0 rfl rfl 2 (by decide) hf15 (fun _ h9 => h9) rfl dX2_takesFirstDigit_26 ?_
      refine lv_aload_n hx hb dX2_takesFirstDigit_29 rfl (lv_at hl 0 rfl) ?_
      refine va_get (D := (dC, dI)) (ci := 2) (v := .int (nI (tc τ))) (C := RX2) (T := TX2) (N := 7) hx hb hts hnX2 hown hK hP 0 rfl rfl 4 (by decide) hf28 (fun _ h9 => h9) rfl dX2_takesFirstDigit_30 ?_
      refine lv_aload_n hx hb dX2_takesFirstDigit_33 rfl (lv_at hl 0 rfl) ?_
      refine va_get (D := (dC, dI)) (ci := 2) (v := .int (td τ)) (C := RX2) (T := TX2) (N := 7) hx hb hts hnX2 hown hK hP 0 rfl rfl 6 (by decide) hf39 (fun _ h9 => h9) rfl dX2_takesFirstDigit_34 ?_
      refine z_top (h1) ?_
      refine z_ast hx hb hK hP hD hS 2 0 (tc τ) (f := (fun w => nI (tw τ w))) rfl rfl (by first | omega | decide) (by first | decide | omega) dX2_takesFirstDigit_37 (fun H locs hP hD hS => ?_)
      rw [upd_nI] at hP hD
      replace hP : va_P (dC, dI) vwCl [((ax 0), .inr (2, [.ref (ax 1), .int (nI (tl τ)), .ref (ax 2), .ref (ax 3), .int (nI (tc τ)), .int (nI (ts τ)), .int (td τ)])), ((ax 1), .inl (cI, 60, .inl (fun w => nI (tx τ w)))), ((ax 2), .inl (cI, 60, .inl (fun w => nI ((va_up (tw τ) (tc τ) (iN (td τ))) w)))), ((ax 3), .inl (cI, 60, .inl (fun w => nI (tn τ w))))] H := hP
      replace hD : va_D A [((ax 0), .inr (2, [.ref (ax 1), .int (nI (tl τ)), .ref (ax 2), .ref (ax 3), .int (nI (tc τ)), .int (nI (ts τ)), .int (td τ)])), ((ax 1), .inl (cI, 60, .inl (fun w => nI (tx τ w)))), ((ax 2), .inl (cI, 60, .inl (fun w => nI ((va_up (tw τ) (tc τ) (iN (td τ))) w)))), ((ax 3), .inl (cI, 60, .inl (fun w => nI (tn τ w))))] := hD
      refine lv_aload_n hx hb dX2_takesFirstDigit_38 rfl (lv_at hl 0 rfl) ?_
      refine va_get (D := (dC, dI)) (ci := 2) (v := .ref (ax 3)) (C := RX2) (T := TX2) (N := 7) hx hb hts hnX2 hown hK hP 0 rfl rfl 3 (by decide) hf18 (fun _ h9 => h9) rfl dX2_takesFirstDigit_39 ?_
      refine lv_aload_n hx hb dX2_takesFirstDigit_42 rfl (lv_at hl 0 rfl) ?_
      refine va_get (D := (dC, dI)) (ci := 2) (v := .int (nI (tc τ))) (C := RX2) (T := TX2) (N := 7) hx hb hts hnX2 hown hK hP 0 rfl rfl 4 (by decide) hf28 (fun _ h9 => h9) rfl dX2_takesFirstDigit_43 ?_
      refine lv_iload_n hx hb dX2_takesFirstDigit_46 rfl (lv_at hl 1 rfl) ?_
      refine z_top (pk_sub (a := c) (b := 48) hd.1) ?_
      refine z_ast hx hb hK hP hD hS 3 0 (tc τ) (f := (fun w => nI (tn τ w))) rfl rfl (by first | omega | decide) (by first | decide | omega) dX2_takesFirstDigit_47 (fun H locs hP hD hS => ?_)
      rw [upd_nI] at hP hD
      replace hP : va_P (dC, dI) vwCl [((ax 0), .inr (2, [.ref (ax 1), .int (nI (tl τ)), .ref (ax 2), .ref (ax 3), .int (nI (tc τ)), .int (nI (ts τ)), .int (td τ)])), ((ax 1), .inl (cI, 60, .inl (fun w => nI (tx τ w)))), ((ax 2), .inl (cI, 60, .inl (fun w => nI ((va_up (tw τ) (tc τ) (iN (td τ))) w)))), ((ax 3), .inl (cI, 60, .inl (fun w => nI ((va_up (tn τ) (tc τ) (c - 48)) w))))] H := hP
      replace hD : va_D A [((ax 0), .inr (2, [.ref (ax 1), .int (nI (tl τ)), .ref (ax 2), .ref (ax 3), .int (nI (tc τ)), .int (nI (ts τ)), .int (td τ)])), ((ax 1), .inl (cI, 60, .inl (fun w => nI (tx τ w)))), ((ax 2), .inl (cI, 60, .inl (fun w => nI ((va_up (tw τ) (tc τ) (iN (td τ))) w)))), ((ax 3), .inl (cI, 60, .inl (fun w => nI ((va_up (tn τ) (tc τ) (c - 48)) w))))] := hD
      refine lv_aload_n hx hb dX2_takesFirstDigit_48 rfl (lv_at hl 0 rfl) ?_
      refine lv_dup hx hb dX2_takesFirstDigit_49 rfl ?_
      refine va_get (D := (dC, dI)) (ci := 2) (v := .int (nI (tc τ))) (C := RX2) (T := TX2) (N := 7) hx hb hts hnX2 hown hK hP 0 rfl rfl 4 (by decide) hf28 (fun _ h9 => h9) rfl dX2_takesFirstDigit_50 ?_
      refine lv_iconst (v := 1) hx hb dX2_takesFirstDigit_53 (by decide) ?_
      refine z_iadd hx hb (tc τ) 1 dX2_takesFirstDigit_54 ?_
      refine va_put (D := (dC, dI)) (ci := 2) (v := .int (nI ((tc τ) + 1))) (ty := .int) (C := RX2) (T := TX2) (N := 7) hx hb hts hnX2 tyX2 tyX2_ok nmX2 hown hK hP hD hS 0 rfl rfl 4 (by decide) hf28 (fun _ h9 => h9) rfl (by decide +kernel) rfl rfl (Nat.le_of_ble_eq_true rfl) dX2_takesFirstDigit_55 (fun H locs (hP : va_P (dC, dI) vwCl [((ax 0), .inr (2, [.ref (ax 1), .int (nI (tl τ)), .ref (ax 2), .ref (ax 3), .int (nI ((tc τ) + 1)), .int (nI (ts τ)), .int (td τ)])), ((ax 1), .inl (cI, 60, .inl (fun w => nI (tx τ w)))), ((ax 2), .inl (cI, 60, .inl (fun w => nI ((va_up (tw τ) (tc τ) (iN (td τ))) w)))), ((ax 3), .inl (cI, 60, .inl (fun w => nI ((va_up (tn τ) (tc τ) (c - 48)) w))))] H) (hD : va_D A [((ax 0), .inr (2, [.ref (ax 1), .int (nI (tl τ)), .ref (ax 2), .ref (ax 3), .int (nI ((tc τ) + 1)), .int (nI (ts τ)), .int (td τ)])), ((ax 1), .inl (cI, 60, .inl (fun w => nI (tx τ w)))), ((ax 2), .inl (cI, 60, .inl (fun w => nI ((va_up (tw τ) (tc τ) (iN (td τ))) w)))), ((ax 3), .inl (cI, 60, .inl (fun w => nI ((va_up (tn τ) (tc τ) (c - 48)) w))))]) hS => ?_)
      refine lv_aload_n hx hb dX2_takesFirstDigit_58 rfl (lv_at hl 0 rfl) ?_
      refine lv_iconst (v := 3) hx hb dX2_takesFirstDigit_59 (by decide) ?_
      refine va_put (D := (dC, dI)) (ci := 2) (v := .int 3) (ty := .int) (C := RX2) (T := TX2) (N := 7) hx hb hts hnX2 tyX2 tyX2_ok nmX2 hown hK hP hD hS 0 rfl rfl 5 (by decide) hf25 (fun _ h9 => h9) rfl (by decide +kernel) rfl rfl (Nat.le_of_ble_eq_true rfl) dX2_takesFirstDigit_60 (fun H locs (hP : va_P (dC, dI) vwCl [((ax 0), .inr (2, [.ref (ax 1), .int (nI (tl τ)), .ref (ax 2), .ref (ax 3), .int (nI ((tc τ) + 1)), .int 3, .int (td τ)])), ((ax 1), .inl (cI, 60, .inl (fun w => nI (tx τ w)))), ((ax 2), .inl (cI, 60, .inl (fun w => nI ((va_up (tw τ) (tc τ) (iN (td τ))) w)))), ((ax 3), .inl (cI, 60, .inl (fun w => nI ((va_up (tn τ) (tc τ) (c - 48)) w))))] H) (hD : va_D A [((ax 0), .inr (2, [.ref (ax 1), .int (nI (tl τ)), .ref (ax 2), .ref (ax 3), .int (nI ((tc τ) + 1)), .int 3, .int (td τ)])), ((ax 1), .inl (cI, 60, .inl (fun w => nI (tx τ w)))), ((ax 2), .inl (cI, 60, .inl (fun w => nI ((va_up (tw τ) (tc τ) (iN (td τ))) w)))), ((ax 3), .inl (cI, 60, .inl (fun w => nI ((va_up (tn τ) (tc τ) (c - 48)) w))))]) hS => ?_)
      refine lv_iconst (v := 1) hx hb dX2_takesFirstDigit_63 (by decide) ?_
      have e9 : pFD τ c = (tx τ, tl τ, (va_up (tw τ) (tc τ) (iN (td τ))), (va_up (tn τ) (tc τ) (c - 48)), (tc τ) + 1, 3, td τ) := by unfold pFD; first | rw [if_pos hd] | rw [if_neg hd]
      replace hP : va_P (dC, dI) vwCl (zTW ax cI (pFD τ c)) H := by rw [e9]; exact hP
      replace hD : va_D A (zTW ax cI (pFD τ c)) := by rw [e9]; exact hD
      exact hend _ () _ _ _ _ (by first | exact (if_pos hd).symm | exact (if_neg hd).symm) hP hD hS dX2_takesFirstDigit_64
    · skip
      exact absurd c_4 (tx_in h2)

abbrev rX2_takesInNumber : Room := { frames := 1, cells := 0, slots := 0, locals := 22 }
set_option maxHeartbeats 4000000 in
set_option maxRecDepth 100000 in
theorem k_X2_takesInNumber (l : Launch) (dC : Nat → ClassId) (dI : Nat → Nat → Nat) (ax : Nat → Nat) (cI : ClassId) (τ : zT) (c : Nat) (hc : c < 128) (h1 : 1 ≤ tc τ) (h2 : tc τ ≤ 60) (h3 : ∀ j, j < tc τ → tn τ j < 4096) (sz : Nat) : zWiN (S := Unit) l yX2_takesInNumber wsX2_takesInNumber rX2_takesInNumber (dC, dI) [.ref (ax 0), .int (nI c)] (zTW ax cI τ) [(cI, .int)] sz (fun r (_ : Unit) => r = if c = 44 ∨ c = 59 ∨ pInP τ c then 1 else 0) (fun _ => zTW ax cI (pIN τ c)) 0 0 := by
  refine zWiN_of (cc := cX2_takesInNumber) (maxL := 6) (ty := .boolean) (by decide) rfl (Nat.le_of_ble_eq_true rfl) (fun v u h => by rw [h]; split <;> rfl) ?_
  intro p e s m args below meth cd Q ls A hat hP hK hN hD hA hend
  obtain ⟨hx, hb, hml, hown, hts, hl⟩ := hat
  replace hown : s.vm.findClass RX2 = some m.cls := hown
  replace hl : lv_has ls 6 [(0, .ref (ax 0)), (1, .int (nI c))] := hl
  replace hP : va_P (dC, dI) vwCl [((ax 0), .inr (2, [.ref (ax 1), .int (nI (tl τ)), .ref (ax 2), .ref (ax 3), .int (nI (tc τ)), .int (nI (ts τ)), .int (td τ)])), ((ax 1), .inl (cI, 60, .inl (fun w => nI (tx τ w)))), ((ax 2), .inl (cI, 60, .inl (fun w => nI (tw τ w)))), ((ax 3), .inl (cI, 60, .inl (fun w => nI (tn τ w))))] s.heap := hP
  replace hD : va_D A [((ax 0), .inr (2, [.ref (ax 1), .int (nI (tl τ)), .ref (ax 2), .ref (ax 3), .int (nI (tc τ)), .int (nI (ts τ)), .int (td τ)])), ((ax 1), .inl (cI, 60, .inl (fun w => nI (tx τ w)))), ((ax 2), .inl (cI, 60, .inl (fun w => nI (tw τ w)))), ((ax 3), .inl (cI, 60, .inl (fun w => nI (tn τ w))))] := hD
  have hS : va_S A s.heap s.heap [] := va_S.rf
  have hf25 := hts (.fieldLink RX2 25 "InsideOutWords$Text" "stage" "I") (by decide +kernel)
  have hnX2 : ∀ w ∈ u_ws RX2 TX2 7, w ∈ wsX2_takesInNumber := by decide +kernel
  have hf28 := hts (.fieldLink RX2 28 "InsideOutWords$Text" "parsed" "I") (by decide +kernel)
  have hf18 := hts (.fieldLink RX2 18 "InsideOutWords$Text" "parsedNumber" "[I") (by decide +kernel)
  refine lv_iload_n hx hb dX2_takesInNumber_0 rfl (lv_at hl 1 rfl) ?_
  refine lv_bipush (v := 44) hx hb dX2_takesInNumber_1 (by decide) ?_
  refine z_eq hx hb c 44 (by omega) (by omega) (tgt := 12) dX2_takesInNumber_3 (by decide) (fun c_1 => ?_) (fun c_1 => ?_)
  · skip
    refine lv_aload_n hx hb dX2_takesInNumber_12 rfl (lv_at hl 0 rfl) ?_
    refine lv_iload_n hx hb dX2_takesInNumber_13 rfl (lv_at hl 1 rfl) ?_
    refine lv_bipush (v := 44) hx hb dX2_takesInNumber_14 (by decide) ?_
    refine z_ne hx hb c 44 (by omega) (by omega) (tgt := 23) dX2_takesInNumber_16 (by decide) (fun c_2 => ?_) (fun c_2 => ?_)
    · skip
      refine lv_iconst (v := 0) hx hb dX2_takesInNumber_23 (by decide) ?_
      refine va_put (D := (dC, dI)) (ci := 2) (v := .int 0) (ty := .int) (C := RX2) (T := TX2) (N := 7) hx hb hts hnX2 tyX2 tyX2_ok nmX2 hown hK hP hD hS 0 rfl rfl 5 (by decide) hf25 (fun _ h9 => h9) rfl (by decide +kernel) rfl rfl (Nat.le_of_ble_eq_true rfl) dX2_takesInNumber_24 (fun H locs (hP : va_P (dC, dI) vwCl [((ax 0), .inr (2, [.ref (ax 1), .int (nI (tl τ)), .ref (ax 2), .ref (ax 3), .int (nI (tc τ)), .int 0, .int (td τ)])), ((ax 1), .inl (cI, 60, .inl (fun w => nI (tx τ w)))), ((ax 2), .inl (cI, 60, .inl (fun w => nI (tw τ w)))), ((ax 3), .inl (cI, 60, .inl (fun w => nI (tn τ w))))] H) (hD : va_D A [((ax 0), .inr (2, [.ref (ax 1), .int (nI (tl τ)), .ref (ax 2), .ref (ax 3), .int (nI (tc τ)), .int 0, .int (td τ)])), ((ax 1), .inl (cI, 60, .inl (fun w => nI (tx τ w)))), ((ax 2), .inl (cI, 60, .inl (fun w => nI (tw τ w)))), ((ax 3), .inl (cI, 60, .inl (fun w => nI (tn τ w))))]) hS => ?_)
      refine lv_iconst (v := 1) hx hb dX2_takesInNumber_27 (by decide) ?_
      have e9 : pIN τ c = (tx τ, tl τ, tw τ, tn τ, tc τ, 0, td τ) := by unfold pIN; first | (exfalso; omega) | rw [if_pos (by omega)] | rw [if_neg (by omega), if_pos (by omega)] | rw [if_neg (by omega), if_neg (by omega), if_pos (by show (48 ≤ c ∧ c ≤ 57) ∧ tn τ (tc τ - 1) ≠ 0 ∧ tn τ (tc τ - 1) * 10 + (c - 48) ≤ 4095; omega)] | rw [if_neg (by omega), if_neg (by omega), if_neg (by show ¬ ((48 ≤ c ∧ c ≤ 57) ∧ tn τ (tc τ - 1) ≠ 0 ∧ tn τ (tc τ - 1) * 10 + (c - 48) ≤ 4095); omega)]
      replace hP : va_P (dC, dI) vwCl (zTW ax cI (pIN τ c)) H := by rw [e9]; exact hP
      replace hD : va_D A (zTW ax cI (pIN τ c)) := by rw [e9]; exact hD
      exact hend _ () _ _ _ _ (by first | exact (if_pos (by show c = 44 ∨ c = 59 ∨ (48 ≤ c ∧ c ≤ 57) ∧ tn τ (tc τ - 1) ≠ 0 ∧ tn τ (tc τ - 1) * 10 + (c - 48) ≤ 4095; omega)).symm | exact (if_neg (by show ¬ (c = 44 ∨ c = 59 ∨ (48 ≤ c ∧ c ≤ 57) ∧ tn τ (tc τ - 1) ≠ 0 ∧ tn τ (tc τ - 1) * 10 + (c - 48) ≤ 4095); omega)).symm) hP hD hS dX2_takesInNumber_28
    · skip
      refine lv_iconst (v := 2) hx hb dX2_takesInNumber_19 (by decide) ?_
      refine lv_goto (tgt := 24) hx hb dX2_takesInNumber_20 (by decide) ?_
      refine va_put (D := (dC, dI)) (ci := 2) (v := .int 2) (ty := .int) (C := RX2) (T := TX2) (N := 7) hx hb hts hnX2 tyX2 tyX2_ok nmX2 hown hK hP hD hS 0 rfl rfl 5 (by decide) hf25 (fun _ h9 => h9) rfl (by decide +kernel) rfl rfl (Nat.le_of_ble_eq_true rfl) dX2_takesInNumber_24 (fun H locs (hP : va_P (dC, dI) vwCl [((ax 0), .inr (2, [.ref (ax 1), .int (nI (tl τ)), .ref (ax 2), .ref (ax 3), .int (nI (tc τ)), .int 2, .int (td τ)])), ((ax 1), .inl (cI, 60, .inl (fun w => nI (tx τ w)))), ((ax 2), .inl (cI, 60, .inl (fun w => nI (tw τ w)))), ((ax 3), .inl (cI, 60, .inl (fun w => nI (tn τ w))))] H) (hD : va_D A [((ax 0), .inr (2, [.ref (ax 1), .int (nI (tl τ)), .ref (ax 2), .ref (ax 3), .int (nI (tc τ)), .int 2, .int (td τ)])), ((ax 1), .inl (cI, 60, .inl (fun w => nI (tx τ w)))), ((ax 2), .inl (cI, 60, .inl (fun w => nI (tw τ w)))), ((ax 3), .inl (cI, 60, .inl (fun w => nI (tn τ w))))]) hS => ?_)
      refine lv_iconst (v := 1) hx hb dX2_takesInNumber_27 (by decide) ?_
      have e9 : pIN τ c = (tx τ, tl τ, tw τ, tn τ, tc τ, 2, td τ) := by unfold pIN; first | (exfalso; omega) | rw [if_pos (by omega)] | rw [if_neg (by omega), if_pos (by omega)] | rw [if_neg (by omega), if_neg (by omega), if_pos (by show (48 ≤ c ∧ c ≤ 57) ∧ tn τ (tc τ - 1) ≠ 0 ∧ tn τ (tc τ - 1) * 10 + (c - 48) ≤ 4095; omega)] | rw [if_neg (by omega), if_neg (by omega), if_neg (by show ¬ ((48 ≤ c ∧ c ≤ 57) ∧ tn τ (tc τ - 1) ≠ 0 ∧ tn τ (tc τ - 1) * 10 + (c - 48) ≤ 4095); omega)]
      replace hP : va_P (dC, dI) vwCl (zTW ax cI (pIN τ c)) H := by rw [e9]; exact hP
      replace hD : va_D A (zTW ax cI (pIN τ c)) := by rw [e9]; exact hD
      exact hend _ () _ _ _ _ (by first | exact (if_pos (by show c = 44 ∨ c = 59 ∨ (48 ≤ c ∧ c ≤ 57) ∧ tn τ (tc τ - 1) ≠ 0 ∧ tn τ (tc τ - 1) * 10 + (c - 48) ≤ 4095; omega)).symm | exact (if_neg (by show ¬ (c = 44 ∨ c = 59 ∨ (48 ≤ c ∧ c ≤ 57) ∧ tn τ (tc τ - 1) ≠ 0 ∧ tn τ (tc τ - 1) * 10 + (c - 48) ≤ 4095); omega)).symm) hP hD hS dX2_takesInNumber_28
  · skip
    refine lv_iload_n hx hb dX2_takesInNumber_6 rfl (lv_at hl 1 rfl) ?_
    refine lv_bipush (v := 59) hx hb dX2_takesInNumber_7 (by decide) ?_
    refine z_ne hx hb c 59 (by omega) (by omega) (tgt := 29) dX2_takesInNumber_9 (by decide) (fun c_3 => ?_) (fun c_3 => ?_)
    · skip
      refine lv_aload_n hx hb dX2_takesInNumber_29 rfl (lv_at hl 0 rfl) ?_
      refine va_get (D := (dC, dI)) (ci := 2) (v := .int (nI (tc τ))) (C := RX2) (T := TX2) (N := 7) hx hb hts hnX2 hown hK hP 0 rfl rfl 4 (by decide) hf28 (fun _ h9 => h9) rfl dX2_takesInNumber_30 ?_
      refine lv_iconst (v := 1) hx hb dX2_takesInNumber_33 (by decide) ?_
      refine z_isub hx hb (tc τ) 1 (by omega) dX2_takesInNumber_34 ?_
      refine lv_istore_n (lv' := [(2, .int (nI ((tc τ) - 1))), (0, .ref (ax 0)), (1, .int (nI c))]) hx hb dX2_takesInNumber_35 rfl hl (by decide) rfl (fun ls hl => ?_)
      refine lv_iload_n hx hb dX2_takesInNumber_36 rfl (lv_at hl 0 rfl) ?_
      refine lv_iconst (v := 0) hx hb dX2_takesInNumber_37 (by decide) ?_
      refine lv_bipush (v := 59) hx hb dX2_takesInNumber_38 (by decide) ?_
      refine z_cSNi (As := [.int (nI ((tc τ) - 1)), .int 0, .int 59]) (rest := []) ⟨hx, hb, hml, hown, hts⟩ (k_X3_isOutside l dC dI (nI ((tc τ) - 1)) (0 : Int32) (59 : Int32)) ⟨va_cnB 3 hts gX2_takesInNumber_X3_isOutside_n42 rfl rfl rfl hN (hts (.initialized RX3) (by decide +kernel)) (by decide +kernel) ⟨Nat.le_of_ble_eq_true rfl, Nat.le_of_ble_eq_true rfl⟩, hts (.static yX3_isOutside) (by decide +kernel), trivial⟩ (hP.sub (ws' := []) [] rfl) (hK.sub (tys' := []) [] rfl) rfl hl.1 rfl (Nat.le_of_ble_eq_true rfl) dX2_takesInNumber_40 ⟨Nat.le_of_ble_eq_true rfl, Nat.le_of_ble_eq_true rfl⟩ (fun r_4 hr_4 => ?_)
      refine z_ifeqB hx hb hr_4 (tgt := 48) dX2_takesInNumber_43 (by decide) (fun c_5 => ?_) (fun c_5 => ?_)
      · skip
        refine lv_aload_n hx hb dX2_takesInNumber_48 rfl (lv_at hl 1 rfl) ?_
        refine va_get (D := (dC, dI)) (ci := 2) (v := .ref (ax 3)) (C := RX2) (T := TX2) (N := 7) hx hb hts hnX2 hown hK hP 0 rfl rfl 3 (by decide) hf18 (fun _ h9 => h9) rfl dX2_takesInNumber_49 ?_
        refine lv_iload_n hx hb dX2_takesInNumber_52 rfl (lv_at hl 0 rfl) ?_
        refine z_ald hx hb hK hP 3 0 ((tc τ) - 1) (f := (fun w => nI (tn τ w))) rfl rfl (by first | omega | decide) (by first | decide | omega) dX2_takesInNumber_53 ?_
        have hq_6 : tn τ ((tc τ) - 1) < 4096 := (fun z hz => h3 z hz) _ (by omega)
        refine lv_istore_n (lv' := [(3, .int (nI (tn τ ((tc τ) - 1)))), (2, .int (nI ((tc τ) - 1))), (0, .ref (ax 0)), (1, .int (nI c))]) hx hb dX2_takesInNumber_54 rfl hl (by decide) rfl (fun ls hl => ?_)
        refine lv_iload_n hx hb dX2_takesInNumber_55 rfl (lv_at hl 3 rfl) ?_
        refine lv_bipush (v := 48) hx hb dX2_takesInNumber_56 (by decide) ?_
        refine lv_isub hx hb dX2_takesInNumber_58 ?_
        refine lv_istore (lv' := [(4, .int ((nI c) - 48)), (3, .int (nI (tn τ ((tc τ) - 1)))), (2, .int (nI ((tc τ) - 1))), (0, .ref (ax 0)), (1, .int (nI c))]) hx hb dX2_takesInNumber_59 hl (by decide) rfl (fun ls hl => ?_)
        refine lv_iload_n hx hb dX2_takesInNumber_61 rfl (lv_at hl 1 rfl) ?_
        refine lv_bipush (v := 10) hx hb dX2_takesInNumber_62 (by decide) ?_
        refine z_imul hx hb (tn τ ((tc τ) - 1)) 10 dX2_takesInNumber_64 ?_
        refine lv_iload hx hb dX2_takesInNumber_65 (lv_at hl 0 rfl) ?_
        refine lv_iadd hx hb dX2_takesInNumber_67 ?_
        refine lv_istore (lv' := [(5, .int ((nI ((tn τ ((tc τ) - 1)) * 10)) + ((nI c) - 48))), (4, .int ((nI c) - 48)), (3, .int (nI (tn τ ((tc τ) - 1)))), (2, .int (nI ((tc τ) - 1))), (0, .ref (ax 0)), (1, .int (nI c))]) hx hb dX2_takesInNumber_68 hl (by decide) rfl (fun ls hl => ?_)
        refine lv_iload hx hb dX2_takesInNumber_70 (lv_at hl 1 rfl) ?_
        refine lv_iconst (v := 0) hx hb dX2_takesInNumber_72 (by decide) ?_
        refine lv_bipush (v := 9) hx hb dX2_takesInNumber_73 (by decide) ?_
        refine z_cSNi (As := [.int ((nI c) - 48), .int 0, .int 9]) (rest := []) ⟨hx, hb, hml, hown, hts⟩ (k_X3_isOutside l dC dI ((nI c) - 48) (0 : Int32) (9 : Int32)) ⟨va_cnB 3 hts gX2_takesInNumber_X3_isOutside_n42 rfl rfl rfl hN (hts (.initialized RX3) (by decide +kernel)) (by decide +kernel) ⟨Nat.le_of_ble_eq_true rfl, Nat.le_of_ble_eq_true rfl⟩, hts (.static yX3_isOutside) (by decide +kernel), trivial⟩ (hP.sub (ws' := []) [] rfl) (hK.sub (tys' := []) [] rfl) rfl hl.1 rfl (Nat.le_of_ble_eq_true rfl) dX2_takesInNumber_75 ⟨Nat.le_of_ble_eq_true rfl, Nat.le_of_ble_eq_true rfl⟩ (fun r_7 hr_7 => ?_)
        refine z_ifneB hx hb hr_7 (tgt := 93) dX2_takesInNumber_78 (by decide) (fun c_8 => ?_) (fun c_8 => ?_)
        · skip
          try have hd := (chr_d hc).mp c_8
          refine lv_iconst (v := 0) hx hb dX2_takesInNumber_93 (by decide) ?_
          have e9 : pIN τ c = τ := by unfold pIN; first | (exfalso; omega) | rw [if_pos (by omega)] | rw [if_neg (by omega), if_pos (by omega)] | rw [if_neg (by omega), if_neg (by omega), if_pos (by show (48 ≤ c ∧ c ≤ 57) ∧ tn τ (tc τ - 1) ≠ 0 ∧ tn τ (tc τ - 1) * 10 + (c - 48) ≤ 4095; omega)] | rw [if_neg (by omega), if_neg (by omega), if_neg (by show ¬ ((48 ≤ c ∧ c ≤ 57) ∧ tn τ (tc τ - 1) ≠ 0 ∧ tn τ (tc τ - 1) * 10 + (c - 48) ≤ 4095); omega)]
          replace hP : va_P (dC, dI) vwCl (zTW ax cI (pIN τ c)) s.heap := by rw [e9]; exact hP
          replace hD : va_D A (zTW ax cI (pIN τ c)) := by rw [e9]; exact hD
          exact hend _ () _ _ _ _ (by first | exact (if_pos (by show c = 44 ∨ c = 59 ∨ (48 ≤ c ∧ c ≤ 57) ∧ tn τ (tc τ - 1) ≠ 0 ∧ tn τ (tc τ - 1) * 10 + (c - 48) ≤ 4095; omega)).symm | exact (if_neg (by show ¬ (c = 44 ∨ c = 59 ∨ (48 ≤ c ∧ c ≤ 57) ∧ tn τ (tc τ - 1) ≠ 0 ∧ tn τ (tc τ - 1) * 10 + (c - 48) ≤ 4095); omega)).symm) hP hD hS dX2_takesInNumber_94
        · skip
          have hd : 48 ≤ c ∧ c ≤ 57 := Classical.not_not.mp (fun z => c_8 ((chr_d hc).mpr z))
          refine lv_iload_n hx hb dX2_takesInNumber_81 rfl (lv_at hl 2 rfl) ?_
          refine z_ifeq hx hb (tn τ ((tc τ) - 1)) (by omega) (tgt := 93) dX2_takesInNumber_82 (by decide) (fun c_9 => ?_) (fun c_9 => ?_)
          · skip
            try have hd := (chr_d hc).mp c_9
            refine lv_iconst (v := 0) hx hb dX2_takesInNumber_93 (by decide) ?_
            have e9 : pIN τ c = τ := by unfold pIN; first | (exfalso; omega) | rw [if_pos (by omega)] | rw [if_neg (by omega), if_pos (by omega)] | rw [if_neg (by omega), if_neg (by omega), if_pos (by show (48 ≤ c ∧ c ≤ 57) ∧ tn τ (tc τ - 1) ≠ 0 ∧ tn τ (tc τ - 1) * 10 + (c - 48) ≤ 4095; omega)] | rw [if_neg (by omega), if_neg (by omega), if_neg (by show ¬ ((48 ≤ c ∧ c ≤ 57) ∧ tn τ (tc τ - 1) ≠ 0 ∧ tn τ (tc τ - 1) * 10 + (c - 48) ≤ 4095); omega)]
            replace hP : va_P (dC, dI) vwCl (zTW ax cI (pIN τ c)) s.heap := by rw [e9]; exact hP
            replace hD : va_D A (zTW ax cI (pIN τ c)) := by rw [e9]; exact hD
            exact hend _ () _ _ _ _ (by first | exact (if_pos (by show c = 44 ∨ c = 59 ∨ (48 ≤ c ∧ c ≤ 57) ∧ tn τ (tc τ - 1) ≠ 0 ∧ tn τ (tc τ - 1) * 10 + (c - 48) ≤ 4095; omega)).symm | exact (if_neg (by show ¬ (c = 44 ∨ c = 59 ∨ (48 ≤ c ∧ c ≤ 57) ∧ tn τ (tc τ - 1) ≠ 0 ∧ tn τ (tc τ - 1) * 10 + (c - 48) ≤ 4095); omega)).symm) hP hD hS dX2_takesInNumber_94
          · skip
            refine lv_iload hx hb dX2_takesInNumber_85 (lv_at hl 0 rfl) ?_
            refine z_top (tx_num hd.1) ?_
            refine lv_sipush (v := 4095) hx hb dX2_takesInNumber_87 (by decide) ?_
            refine z_le hx hb ((tn τ (tc τ - 1)) * 10 + (c - 48)) 4095 (by omega) (by omega) (tgt := 95) dX2_takesInNumber_90 (by decide) (fun c_10 => ?_) (fun c_10 => ?_)
            · skip
              refine lv_aload_n hx hb dX2_takesInNumber_95 rfl (lv_at hl 4 rfl) ?_
              refine va_get (D := (dC, dI)) (ci := 2) (v := .ref (ax 3)) (C := RX2) (T := TX2) (N := 7) hx hb hts hnX2 hown hK hP 0 rfl rfl 3 (by decide) hf18 (fun _ h9 => h9) rfl dX2_takesInNumber_96 ?_
              refine lv_iload_n hx hb dX2_takesInNumber_99 rfl (lv_at hl 3 rfl) ?_
              refine lv_iload hx hb dX2_takesInNumber_100 (lv_at hl 0 rfl) ?_
              refine z_top (tx_num hd.1) ?_
              refine z_ast hx hb hK hP hD hS 3 0 ((tc τ) - 1) (f := (fun w => nI (tn τ w))) rfl rfl (by first | omega | decide) (by first | decide | omega) dX2_takesInNumber_102 (fun H locs hP hD hS => ?_)
              rw [upd_nI] at hP hD
              replace hP : va_P (dC, dI) vwCl [((ax 0), .inr (2, [.ref (ax 1), .int (nI (tl τ)), .ref (ax 2), .ref (ax 3), .int (nI (tc τ)), .int (nI (ts τ)), .int (td τ)])), ((ax 1), .inl (cI, 60, .inl (fun w => nI (tx τ w)))), ((ax 2), .inl (cI, 60, .inl (fun w => nI (tw τ w)))), ((ax 3), .inl (cI, 60, .inl (fun w => nI ((va_up (tn τ) ((tc τ) - 1) ((tn τ (tc τ - 1)) * 10 + (c - 48))) w))))] H := hP
              replace hD : va_D A [((ax 0), .inr (2, [.ref (ax 1), .int (nI (tl τ)), .ref (ax 2), .ref (ax 3), .int (nI (tc τ)), .int (nI (ts τ)), .int (td τ)])), ((ax 1), .inl (cI, 60, .inl (fun w => nI (tx τ w)))), ((ax 2), .inl (cI, 60, .inl (fun w => nI (tw τ w)))), ((ax 3), .inl (cI, 60, .inl (fun w => nI ((va_up (tn τ) ((tc τ) - 1) ((tn τ (tc τ - 1)) * 10 + (c - 48))) w))))] := hD
              refine lv_iconst (v := 1) hx hb dX2_takesInNumber_103 (by decide) ?_
              have e9 : pIN τ c = (tx τ, tl τ, tw τ, (va_up (tn τ) ((tc τ) - 1) ((tn τ (tc τ - 1)) * 10 + (c - 48))), tc τ, ts τ, td τ) := by unfold pIN; first | (exfalso; omega) | rw [if_pos (by omega)] | rw [if_neg (by omega), if_pos (by omega)] | rw [if_neg (by omega), if_neg (by omega), if_pos (by show (48 ≤ c ∧ c ≤ 57) ∧ tn τ (tc τ - 1) ≠ 0 ∧ tn τ (tc τ - 1) * 10 + (c - 48) ≤ 4095; omega)] | rw [if_neg (by omega), if_neg (by omega), if_neg (by show ¬ ((48 ≤ c ∧ c ≤ 57) ∧ tn τ (tc τ - 1) ≠ 0 ∧ tn τ (tc τ - 1) * 10 + (c - 48) ≤ 4095); omega)]
              replace hP : va_P (dC, dI) vwCl (zTW ax cI (pIN τ c)) H := by rw [e9]; exact hP
              replace hD : va_D A (zTW ax cI (pIN τ c)) := by rw [e9]; exact hD
              exact hend _ () _ _ _ _ (by first | exact (if_pos (by show c = 44 ∨ c = 59 ∨ (48 ≤ c ∧ c ≤ 57) ∧ tn τ (tc τ - 1) ≠ 0 ∧ tn τ (tc τ - 1) * 10 + (c - 48) ≤ 4095; omega)).symm | exact (if_neg (by show ¬ (c = 44 ∨ c = 59 ∨ (48 ≤ c ∧ c ≤ 57) ∧ tn τ (tc τ - 1) ≠ 0 ∧ tn τ (tc τ - 1) * 10 + (c - 48) ≤ 4095); omega)).symm) hP hD hS dX2_takesInNumber_104
            · skip
              try have hd := (chr_d hc).mp c_10
              refine lv_iconst (v := 0) hx hb dX2_takesInNumber_93 (by decide) ?_
              have e9 : pIN τ c = τ := by unfold pIN; first | (exfalso; omega) | rw [if_pos (by omega)] | rw [if_neg (by omega), if_pos (by omega)] | rw [if_neg (by omega), if_neg (by omega), if_pos (by show (48 ≤ c ∧ c ≤ 57) ∧ tn τ (tc τ - 1) ≠ 0 ∧ tn τ (tc τ - 1) * 10 + (c - 48) ≤ 4095; omega)] | rw [if_neg (by omega), if_neg (by omega), if_neg (by show ¬ ((48 ≤ c ∧ c ≤ 57) ∧ tn τ (tc τ - 1) ≠ 0 ∧ tn τ (tc τ - 1) * 10 + (c - 48) ≤ 4095); omega)]
              replace hP : va_P (dC, dI) vwCl (zTW ax cI (pIN τ c)) s.heap := by rw [e9]; exact hP
              replace hD : va_D A (zTW ax cI (pIN τ c)) := by rw [e9]; exact hD
              exact hend _ () _ _ _ _ (by first | exact (if_pos (by show c = 44 ∨ c = 59 ∨ (48 ≤ c ∧ c ≤ 57) ∧ tn τ (tc τ - 1) ≠ 0 ∧ tn τ (tc τ - 1) * 10 + (c - 48) ≤ 4095; omega)).symm | exact (if_neg (by show ¬ (c = 44 ∨ c = 59 ∨ (48 ≤ c ∧ c ≤ 57) ∧ tn τ (tc τ - 1) ≠ 0 ∧ tn τ (tc τ - 1) * 10 + (c - 48) ≤ 4095); omega)).symm) hP hD hS dX2_takesInNumber_94
      · skip
        exact absurd c_5 (tx_in (by omega))
    · skip
      refine lv_aload_n hx hb dX2_takesInNumber_12 rfl (lv_at hl 0 rfl) ?_
      refine lv_iload_n hx hb dX2_takesInNumber_13 rfl (lv_at hl 1 rfl) ?_
      refine lv_bipush (v := 44) hx hb dX2_takesInNumber_14 (by decide) ?_
      refine z_ne hx hb c 44 (by omega) (by omega) (tgt := 23) dX2_takesInNumber_16 (by decide) (fun c_11 => ?_) (fun c_11 => ?_)
      · skip
        refine lv_iconst (v := 0) hx hb dX2_takesInNumber_23 (by decide) ?_
        refine va_put (D := (dC, dI)) (ci := 2) (v := .int 0) (ty := .int) (C := RX2) (T := TX2) (N := 7) hx hb hts hnX2 tyX2 tyX2_ok nmX2 hown hK hP hD hS 0 rfl rfl 5 (by decide) hf25 (fun _ h9 => h9) rfl (by decide +kernel) rfl rfl (Nat.le_of_ble_eq_true rfl) dX2_takesInNumber_24 (fun H locs (hP : va_P (dC, dI) vwCl [((ax 0), .inr (2, [.ref (ax 1), .int (nI (tl τ)), .ref (ax 2), .ref (ax 3), .int (nI (tc τ)), .int 0, .int (td τ)])), ((ax 1), .inl (cI, 60, .inl (fun w => nI (tx τ w)))), ((ax 2), .inl (cI, 60, .inl (fun w => nI (tw τ w)))), ((ax 3), .inl (cI, 60, .inl (fun w => nI (tn τ w))))] H) (hD : va_D A [((ax 0), .inr (2, [.ref (ax 1), .int (nI (tl τ)), .ref (ax 2), .ref (ax 3), .int (nI (tc τ)), .int 0, .int (td τ)])), ((ax 1), .inl (cI, 60, .inl (fun w => nI (tx τ w)))), ((ax 2), .inl (cI, 60, .inl (fun w => nI (tw τ w)))), ((ax 3), .inl (cI, 60, .inl (fun w => nI (tn τ w))))]) hS => ?_)
        refine lv_iconst (v := 1) hx hb dX2_takesInNumber_27 (by decide) ?_
        have e9 : pIN τ c = (tx τ, tl τ, tw τ, tn τ, tc τ, 0, td τ) := by unfold pIN; first | (exfalso; omega) | rw [if_pos (by omega)] | rw [if_neg (by omega), if_pos (by omega)] | rw [if_neg (by omega), if_neg (by omega), if_pos (by show (48 ≤ c ∧ c ≤ 57) ∧ tn τ (tc τ - 1) ≠ 0 ∧ tn τ (tc τ - 1) * 10 + (c - 48) ≤ 4095; omega)] | rw [if_neg (by omega), if_neg (by omega), if_neg (by show ¬ ((48 ≤ c ∧ c ≤ 57) ∧ tn τ (tc τ - 1) ≠ 0 ∧ tn τ (tc τ - 1) * 10 + (c - 48) ≤ 4095); omega)]
        replace hP : va_P (dC, dI) vwCl (zTW ax cI (pIN τ c)) H := by rw [e9]; exact hP
        replace hD : va_D A (zTW ax cI (pIN τ c)) := by rw [e9]; exact hD
        exact hend _ () _ _ _ _ (by first | exact (if_pos (by show c = 44 ∨ c = 59 ∨ (48 ≤ c ∧ c ≤ 57) ∧ tn τ (tc τ - 1) ≠ 0 ∧ tn τ (tc τ - 1) * 10 + (c - 48) ≤ 4095; omega)).symm | exact (if_neg (by show ¬ (c = 44 ∨ c = 59 ∨ (48 ≤ c ∧ c ≤ 57) ∧ tn τ (tc τ - 1) ≠ 0 ∧ tn τ (tc τ - 1) * 10 + (c - 48) ≤ 4095); omega)).symm) hP hD hS dX2_takesInNumber_28
      · skip
        refine lv_iconst (v := 2) hx hb dX2_takesInNumber_19 (by decide) ?_
        refine lv_goto (tgt := 24) hx hb dX2_takesInNumber_20 (by decide) ?_
        refine va_put (D := (dC, dI)) (ci := 2) (v := .int 2) (ty := .int) (C := RX2) (T := TX2) (N := 7) hx hb hts hnX2 tyX2 tyX2_ok nmX2 hown hK hP hD hS 0 rfl rfl 5 (by decide) hf25 (fun _ h9 => h9) rfl (by decide +kernel) rfl rfl (Nat.le_of_ble_eq_true rfl) dX2_takesInNumber_24 (fun H locs (hP : va_P (dC, dI) vwCl [((ax 0), .inr (2, [.ref (ax 1), .int (nI (tl τ)), .ref (ax 2), .ref (ax 3), .int (nI (tc τ)), .int 2, .int (td τ)])), ((ax 1), .inl (cI, 60, .inl (fun w => nI (tx τ w)))), ((ax 2), .inl (cI, 60, .inl (fun w => nI (tw τ w)))), ((ax 3), .inl (cI, 60, .inl (fun w => nI (tn τ w))))] H) (hD : va_D A [((ax 0), .inr (2, [.ref (ax 1), .int (nI (tl τ)), .ref (ax 2), .ref (ax 3), .int (nI (tc τ)), .int 2, .int (td τ)])), ((ax 1), .inl (cI, 60, .inl (fun w => nI (tx τ w)))), ((ax 2), .inl (cI, 60, .inl (fun w => nI (tw τ w)))), ((ax 3), .inl (cI, 60, .inl (fun w => nI (tn τ w))))]) hS => ?_)
        refine lv_iconst (v := 1) hx hb dX2_takesInNumber_27 (by decide) ?_
        have e9 : pIN τ c = (tx τ, tl τ, tw τ, tn τ, tc τ, 2, td τ) := by unfold pIN; first | (exfalso; omega) | rw [if_pos (by omega)] | rw [if_neg (by omega), if_pos (by omega)] | rw [if_neg (by omega), if_neg (by omega), if_pos (by show (48 ≤ c ∧ c ≤ 57) ∧ tn τ (tc τ - 1) ≠ 0 ∧ tn τ (tc τ - 1) * 10 + (c - 48) ≤ 4095; omega)] | rw [if_neg (by omega), if_neg (by omega), if_neg (by show ¬ ((48 ≤ c ∧ c ≤ 57) ∧ tn τ (tc τ - 1) ≠ 0 ∧ tn τ (tc τ - 1) * 10 + (c - 48) ≤ 4095); omega)]
        replace hP : va_P (dC, dI) vwCl (zTW ax cI (pIN τ c)) H := by rw [e9]; exact hP
        replace hD : va_D A (zTW ax cI (pIN τ c)) := by rw [e9]; exact hD
        exact hend _ () _ _ _ _ (by first | exact (if_pos (by show c = 44 ∨ c = 59 ∨ (48 ≤ c ∧ c ≤ 57) ∧ tn τ (tc τ - 1) ≠ 0 ∧ tn τ (tc τ - 1) * 10 + (c - 48) ≤ 4095; omega)).symm | exact (if_neg (by show ¬ (c = 44 ∨ c = 59 ∨ (48 ≤ c ∧ c ≤ 57) ∧ tn τ (tc τ - 1) ≠ 0 ∧ tn τ (tc τ - 1) * 10 + (c - 48) ≤ 4095); omega)).symm) hP hD hS dX2_takesInNumber_28

abbrev rX2_takes : Room := { frames := 2, cells := 0, slots := 0, locals := 47 }
set_option maxHeartbeats 4000000 in
set_option maxRecDepth 100000 in
theorem k_X2_takes (l : Launch) (dC : Nat → ClassId) (dI : Nat → Nat → Nat) (ax : Nat → Nat) (cI : ClassId) (τ : zT) (c i : Nat) (hc : c < 128) (hI : tInv τ i) (hi : i < 60) (sz : Nat) : zWiN (S := Unit) l yX2_takes wsX2_takes rX2_takes (dC, dI) [.ref (ax 0), .int (nI c)] (zTW ax cI τ) [(cI, .int)] sz (fun r (_ : Unit) => r = if pTkB τ c then 1 else 0) (fun _ => zTW ax cI (pTkS τ c)) 0 0 := by
  refine zWiN_of (cc := cX2_takes) (maxL := 2) (ty := .boolean) (by decide) rfl (Nat.le_of_ble_eq_true rfl) (fun v u h => by rw [h]; split <;> rfl) ?_
  intro p e s m args below meth cd Q ls A hat hP hK hN hD hA hend
  obtain ⟨hx, hb, hml, hown, hts, hl⟩ := hat
  replace hown : s.vm.findClass RX2 = some m.cls := hown
  replace hl : lv_has ls 2 [(0, .ref (ax 0)), (1, .int (nI c))] := hl
  replace hP : va_P (dC, dI) vwCl [((ax 0), .inr (2, [.ref (ax 1), .int (nI (tl τ)), .ref (ax 2), .ref (ax 3), .int (nI (tc τ)), .int (nI (ts τ)), .int (td τ)])), ((ax 1), .inl (cI, 60, .inl (fun w => nI (tx τ w)))), ((ax 2), .inl (cI, 60, .inl (fun w => nI (tw τ w)))), ((ax 3), .inl (cI, 60, .inl (fun w => nI (tn τ w))))] s.heap := hP
  replace hD : va_D A [((ax 0), .inr (2, [.ref (ax 1), .int (nI (tl τ)), .ref (ax 2), .ref (ax 3), .int (nI (tc τ)), .int (nI (ts τ)), .int (td τ)])), ((ax 1), .inl (cI, 60, .inl (fun w => nI (tx τ w)))), ((ax 2), .inl (cI, 60, .inl (fun w => nI (tw τ w)))), ((ax 3), .inl (cI, 60, .inl (fun w => nI (tn τ w))))] := hD
  have hS : va_S A s.heap s.heap [] := va_S.rf
  have hf25 := hts (.fieldLink RX2 25 "InsideOutWords$Text" "stage" "I") (by decide +kernel)
  have hnX2 : ∀ w ∈ u_ws RX2 TX2 7, w ∈ wsX2_takes := by decide +kernel
  have hf39 := hts (.fieldLink RX2 39 "InsideOutWords$Text" "word" "I") (by decide +kernel)
  refine lv_aload_n hx hb dX2_takes_0 rfl (lv_at hl 0 rfl) ?_
  refine va_get (D := (dC, dI)) (ci := 2) (v := .int (nI (ts τ))) (C := RX2) (T := TX2) (N := 7) hx hb hts hnX2 hown hK hP 0 rfl rfl 5 (by decide) hf25 (fun _ h9 => h9) rfl dX2_takes_1 ?_
  obtain ⟨s0, hs0⟩ : ∃ x, x = ts τ := ⟨_, rfl⟩
  rw [← hs0]
  have hs4 : s0 < 4 := by omega
  rcases (show s0 = 0 ∨ s0 = 1 ∨ s0 = 2 ∨ s0 = 3 by omega) with rfl | rfl | rfl | rfl
  · skip
    refine lv_tableIn (x := nI 0) (off := 28) (tgt := 32) hx hb dX2_takes_4 (by decide) (by decide) rfl (by decide) ?_
    refine lv_aload_n hx hb dX2_takes_32 rfl (lv_at hl 0 rfl) ?_
    refine lv_iload_n hx hb dX2_takes_33 rfl (lv_at hl 1 rfl) ?_
    refine lv_bipush (v := 97) hx hb dX2_takes_34 (by decide) ?_
    refine lv_isub hx hb dX2_takes_36 ?_
    refine va_put (D := (dC, dI)) (ci := 2) (v := .int ((nI c) - 97)) (ty := .int) (C := RX2) (T := TX2) (N := 7) hx hb hts hnX2 tyX2 tyX2_ok nmX2 hown hK hP hD hS 0 rfl rfl 6 (by decide) hf39 (fun _ h9 => h9) rfl (by decide +kernel) rfl rfl (Nat.le_of_ble_eq_true rfl) dX2_takes_37 (fun H locs (hP : va_P (dC, dI) vwCl [((ax 0), .inr (2, [.ref (ax 1), .int (nI (tl τ)), .ref (ax 2), .ref (ax 3), .int (nI (tc τ)), .int (nI (ts τ)), .int ((nI c) - 97)])), ((ax 1), .inl (cI, 60, .inl (fun w => nI (tx τ w)))), ((ax 2), .inl (cI, 60, .inl (fun w => nI (tw τ w)))), ((ax 3), .inl (cI, 60, .inl (fun w => nI (tn τ w))))] H) (hD : va_D A [((ax 0), .inr (2, [.ref (ax 1), .int (nI (tl τ)), .ref (ax 2), .ref (ax 3), .int (nI (tc τ)), .int (nI (ts τ)), .int ((nI c) - 97)])), ((ax 1), .inl (cI, 60, .inl (fun w => nI (tx τ w)))), ((ax 2), .inl (cI, 60, .inl (fun w => nI (tw τ w)))), ((ax 3), .inl (cI, 60, .inl (fun w => nI (tn τ w))))]) hS => ?_)
    refine lv_aload_n hx hb dX2_takes_40 rfl (lv_at hl 0 rfl) ?_
    refine lv_iconst (v := 1) hx hb dX2_takes_41 (by decide) ?_
    refine va_put (D := (dC, dI)) (ci := 2) (v := .int 1) (ty := .int) (C := RX2) (T := TX2) (N := 7) hx hb hts hnX2 tyX2 tyX2_ok nmX2 hown hK hP hD hS 0 rfl rfl 5 (by decide) hf25 (fun _ h9 => h9) rfl (by decide +kernel) rfl rfl (Nat.le_of_ble_eq_true rfl) dX2_takes_42 (fun H locs (hP : va_P (dC, dI) vwCl [((ax 0), .inr (2, [.ref (ax 1), .int (nI (tl τ)), .ref (ax 2), .ref (ax 3), .int (nI (tc τ)), .int 1, .int ((nI c) - 97)])), ((ax 1), .inl (cI, 60, .inl (fun w => nI (tx τ w)))), ((ax 2), .inl (cI, 60, .inl (fun w => nI (tw τ w)))), ((ax 3), .inl (cI, 60, .inl (fun w => nI (tn τ w))))] H) (hD : va_D A [((ax 0), .inr (2, [.ref (ax 1), .int (nI (tl τ)), .ref (ax 2), .ref (ax 3), .int (nI (tc τ)), .int 1, .int ((nI c) - 97)])), ((ax 1), .inl (cI, 60, .inl (fun w => nI (tx τ w)))), ((ax 2), .inl (cI, 60, .inl (fun w => nI (tw τ w)))), ((ax 3), .inl (cI, 60, .inl (fun w => nI (tn τ w))))]) hS => ?_)
    refine lv_aload_n hx hb dX2_takes_45 rfl (lv_at hl 0 rfl) ?_
    refine va_get (D := (dC, dI)) (ci := 2) (v := .int ((nI c) - 97)) (C := RX2) (T := TX2) (N := 7) hx hb hts hnX2 hown hK hP 0 rfl rfl 6 (by decide) hf39 (fun _ h9 => h9) rfl dX2_takes_46 ?_
    refine lv_iconst (v := 0) hx hb dX2_takes_49 (by decide) ?_
    refine lv_bipush (v := 15) hx hb dX2_takes_50 (by decide) ?_
    refine z_cSNi (As := [.int ((nI c) - 97), .int 0, .int 15]) (rest := []) ⟨hx, hb, hml, hown, hts⟩ (k_X3_isOutside l dC dI ((nI c) - 97) (0 : Int32) (15 : Int32)) ⟨va_cnB 3 hts gX2_takes_X3_isOutside_n42 rfl rfl rfl hN (hts (.initialized RX3) (by decide +kernel)) (by decide +kernel) ⟨Nat.le_of_ble_eq_true rfl, Nat.le_of_ble_eq_true rfl⟩, hts (.static yX3_isOutside) (by decide +kernel), trivial⟩ (hP.sub (ws' := []) [] rfl) (hK.sub (tys' := []) [] rfl) rfl hl.1 rfl (Nat.le_of_ble_eq_true rfl) dX2_takes_52 ⟨Nat.le_of_ble_eq_true rfl, Nat.le_of_ble_eq_true rfl⟩ (fun r_1 hr_1 => ?_)
    have hJ_2 : ∀ b_2 : Int32, b_2 = (if ¬ (((nI c) - 97) < (0 : Int32) ∨ ¬ ((nI c) - 97) ≤ (15 : Int32)) then 1 else 0) → W p l e rX2_takes s m args below meth cd H locs 0 0 Q (F0 m 63 ls (.int b_2 :: [])) := by
      intro b_2 eb_2
      have e9 : pTkS τ c = (tx τ, tl τ, tw τ, tn τ, tc τ, 1, (nI c) - 97) := by unfold pTkS; rw [if_pos hs0.symm]
      replace hP : va_P (dC, dI) vwCl (zTW ax cI (pTkS τ c)) H := by rw [e9]; exact hP
      replace hD : va_D A (zTW ax cI (pTkS τ c)) := by rw [e9]; exact hD
      exact hend _ () _ _ _ _ (by rw [eb_2]; exact z_ifc (by unfold pTkB; rw [if_pos hs0.symm]; exact (not_congr (chr_a hc)).trans Classical.not_not)) hP hD hS dX2_takes_63
    refine z_ifneB hx hb hr_1 (tgt := 62) dX2_takes_55 (by decide) (fun c_2 => ?_) (fun c_2 => ?_)
    · refine lv_iconst (v := 0) hx hb dX2_takes_62 (by decide) ?_
      exact hJ_2 _ (if_neg (fun z => z c_2)).symm
    · refine lv_iconst (v := 1) hx hb dX2_takes_58 (by decide) ?_
      refine lv_goto (tgt := 63) hx hb dX2_takes_59 (by decide) ?_
      exact hJ_2 _ (if_pos c_2).symm
  · skip
    refine lv_tableIn (x := nI 1) (off := 60) (tgt := 64) hx hb dX2_takes_4 (by decide) (by decide) rfl (by decide) ?_
    have h1 := (hI.2.1 (by omega)).1
    refine lv_aload_n hx hb dX2_takes_64 rfl (lv_at hl 0 rfl) ?_
    refine lv_iconst (v := 2) hx hb dX2_takes_65 (by decide) ?_
    refine va_put (D := (dC, dI)) (ci := 2) (v := .int 2) (ty := .int) (C := RX2) (T := TX2) (N := 7) hx hb hts hnX2 tyX2 tyX2_ok nmX2 hown hK hP hD hS 0 rfl rfl 5 (by decide) hf25 (fun _ h9 => h9) rfl (by decide +kernel) rfl rfl (Nat.le_of_ble_eq_true rfl) dX2_takes_66 (fun H locs (hP : va_P (dC, dI) vwCl [((ax 0), .inr (2, [.ref (ax 1), .int (nI (tl τ)), .ref (ax 2), .ref (ax 3), .int (nI (tc τ)), .int 2, .int (td τ)])), ((ax 1), .inl (cI, 60, .inl (fun w => nI (tx τ w)))), ((ax 2), .inl (cI, 60, .inl (fun w => nI (tw τ w)))), ((ax 3), .inl (cI, 60, .inl (fun w => nI (tn τ w))))] H) (hD : va_D A [((ax 0), .inr (2, [.ref (ax 1), .int (nI (tl τ)), .ref (ax 2), .ref (ax 3), .int (nI (tc τ)), .int 2, .int (td τ)])), ((ax 1), .inl (cI, 60, .inl (fun w => nI (tx τ w)))), ((ax 2), .inl (cI, 60, .inl (fun w => nI (tw τ w)))), ((ax 3), .inl (cI, 60, .inl (fun w => nI (tn τ w))))]) hS => ?_)
    refine lv_iload_n hx hb dX2_takes_69 rfl (lv_at hl 1 rfl) ?_
    refine lv_bipush (v := 61) hx hb dX2_takes_70 (by decide) ?_
    have hJ_3 : ∀ b_3 : Int32, b_3 = (if c = 61 then 1 else 0) → W p l e rX2_takes s m args below meth cd H locs 0 0 Q (F0 m 80 ls (.int b_3 :: [])) := by
      intro b_3 eb_3
      have e9 : pTkS τ c = (tx τ, tl τ, tw τ, tn τ, tc τ, 2, td τ) := by unfold pTkS; rw [if_neg (show ¬ ts τ = 0 by omega), if_pos hs0.symm]
      replace hP : va_P (dC, dI) vwCl (zTW ax cI (pTkS τ c)) H := by rw [e9]; exact hP
      replace hD : va_D A (zTW ax cI (pTkS τ c)) := by rw [e9]; exact hD
      exact hend _ () _ _ _ _ (by rw [eb_3]; exact z_ifc (by unfold pTkB; rw [if_neg (show ¬ ts τ = 0 by omega), if_pos hs0.symm])) hP hD hS dX2_takes_80
    refine z_ne hx hb c 61 (by omega) (by omega) (tgt := 79) dX2_takes_72 (by decide) (fun c_3 => ?_) (fun c_3 => ?_)
    · refine lv_iconst (v := 0) hx hb dX2_takes_79 (by decide) ?_
      exact hJ_3 _ (if_neg (by omega)).symm
    · refine lv_iconst (v := 1) hx hb dX2_takes_75 (by decide) ?_
      refine lv_goto (tgt := 80) hx hb dX2_takes_76 (by decide) ?_
      exact hJ_3 _ (if_pos c_3).symm
  · skip
    refine lv_tableIn (x := nI 2) (off := 77) (tgt := 81) hx hb dX2_takes_4 (by decide) (by decide) rfl (by decide) ?_
    have h1 := (hI.2.1 (by omega)).1
    refine lv_aload_n hx hb dX2_takes_81 rfl (lv_at hl 0 rfl) ?_
    refine lv_iload_n hx hb dX2_takes_82 rfl (lv_at hl 1 rfl) ?_
    refine lv_bipush (v := 48) hx hb dX2_takes_83 (by decide) ?_
    refine lv_isub hx hb dX2_takes_85 ?_
    try clear hPq hDq
    refine z_cWiN (wr := []) (As := [.int ((nI c) - 48)]) (rest := []) ⟨hx, hb, hml, hown, hts⟩ (k_X2_takesFirstDigit l dC dI ax cI τ c hc h1 (by omega) (s.heap).size) (cwV 1 hts gX2_takes_X2_takesFirstDigit rfl rfl rfl (by decide +kernel) ⟨Nat.le_of_ble_eq_true rfl, Nat.le_of_ble_eq_true rfl⟩) (va_recv hK hP (ci := 2) (q0 := 0) rfl rfl) hP hD hS hA (hP.sub (ws' := zTW ax cI τ) [0, 1, 2, 3] rfl) (hD.sub (ws' := zTW ax cI τ) [0, 1, 2, 3] (by decide) rfl) (hK.sub (tys' := [(cI, .int)]) [0] rfl) hN [0, 1, 2, 3] [] rfl rfl (by decide) (by decide) rfl hl.1 rfl (Nat.le_of_ble_eq_true rfl) dX2_takes_86 ⟨Nat.le_of_ble_eq_true rfl, Nat.le_of_ble_eq_true rfl⟩ (fun r_4 _ H locs hr_4 (hP : va_P (dC, dI) vwCl [((ax 0), .inr (2, [.ref (ax 1), .int (nI (tl (pFD τ c))), .ref (ax 2), .ref (ax 3), .int (nI (tc (pFD τ c))), .int (nI (ts (pFD τ c))), .int (td (pFD τ c))])), ((ax 1), .inl (cI, 60, .inl (fun w => nI (tx (pFD τ c) w)))), ((ax 2), .inl (cI, 60, .inl (fun w => nI (tw (pFD τ c) w)))), ((ax 3), .inl (cI, 60, .inl (fun w => nI (tn (pFD τ c) w))))] H) (hD : va_D A [((ax 0), .inr (2, [.ref (ax 1), .int (nI (tl (pFD τ c))), .ref (ax 2), .ref (ax 3), .int (nI (tc (pFD τ c))), .int (nI (ts (pFD τ c))), .int (td (pFD τ c))])), ((ax 1), .inl (cI, 60, .inl (fun w => nI (tx (pFD τ c) w)))), ((ax 2), .inl (cI, 60, .inl (fun w => nI (tw (pFD τ c) w)))), ((ax 3), .inl (cI, 60, .inl (fun w => nI (tn (pFD τ c) w))))]) hS => ?_)
    have e9 : pTkS τ c = pFD τ c := by unfold pTkS; rw [if_neg (show ¬ ts τ = 0 by omega), if_neg (show ¬ ts τ = 1 by omega), if_pos hs0.symm]
    replace hP : va_P (dC, dI) vwCl (zTW ax cI (pTkS τ c)) H := by rw [e9]; exact hP
    replace hD : va_D A (zTW ax cI (pTkS τ c)) := by rw [e9]; exact hD
    exact hend _ () _ _ _ _ (by rw [hr_4]; exact z_ifc (by unfold pTkB; rw [if_neg (show ¬ ts τ = 0 by omega), if_neg (show ¬ ts τ = 1 by omega), if_pos hs0.symm])) hP hD hS dX2_takes_89
  · skip
    refine lv_tableOut (x := nI 3) (tgt := 90) hx hb dX2_takes_4 (by decide) (by decide) ?_
    have h1 := (hI.2.1 (by omega)).1
    refine lv_aload_n hx hb dX2_takes_90 rfl (lv_at hl 0 rfl) ?_
    refine lv_iload_n hx hb dX2_takes_91 rfl (lv_at hl 1 rfl) ?_
    try clear hPq hDq
    refine z_cWiN (wr := []) (As := [.int (nI c)]) (rest := []) ⟨hx, hb, hml, hown, hts⟩ (k_X2_takesInNumber l dC dI ax cI τ c hc (by omega) (by omega) (fun j hj => (hI.2.2.2.2.2 j hj).1) (s.heap).size) (cwV 1 hts gX2_takes_X2_takesInNumber rfl rfl rfl (by decide +kernel) ⟨Nat.le_of_ble_eq_true rfl, Nat.le_of_ble_eq_true rfl⟩) (va_recv hK hP (ci := 2) (q0 := 0) rfl rfl) hP hD hS hA (hP.sub (ws' := zTW ax cI τ) [0, 1, 2, 3] rfl) (hD.sub (ws' := zTW ax cI τ) [0, 1, 2, 3] (by decide) rfl) (hK.sub (tys' := [(cI, .int)]) [0] rfl) hN [0, 1, 2, 3] [] rfl rfl (by decide) (by decide) rfl hl.1 rfl (Nat.le_of_ble_eq_true rfl) dX2_takes_92 ⟨Nat.le_of_ble_eq_true rfl, Nat.le_of_ble_eq_true rfl⟩ (fun r_5 _ H locs hr_5 (hP : va_P (dC, dI) vwCl [((ax 0), .inr (2, [.ref (ax 1), .int (nI (tl (pIN τ c))), .ref (ax 2), .ref (ax 3), .int (nI (tc (pIN τ c))), .int (nI (ts (pIN τ c))), .int (td (pIN τ c))])), ((ax 1), .inl (cI, 60, .inl (fun w => nI (tx (pIN τ c) w)))), ((ax 2), .inl (cI, 60, .inl (fun w => nI (tw (pIN τ c) w)))), ((ax 3), .inl (cI, 60, .inl (fun w => nI (tn (pIN τ c) w))))] H) (hD : va_D A [((ax 0), .inr (2, [.ref (ax 1), .int (nI (tl (pIN τ c))), .ref (ax 2), .ref (ax 3), .int (nI (tc (pIN τ c))), .int (nI (ts (pIN τ c))), .int (td (pIN τ c))])), ((ax 1), .inl (cI, 60, .inl (fun w => nI (tx (pIN τ c) w)))), ((ax 2), .inl (cI, 60, .inl (fun w => nI (tw (pIN τ c) w)))), ((ax 3), .inl (cI, 60, .inl (fun w => nI (tn (pIN τ c) w))))]) hS => ?_)
    have e9 : pTkS τ c = pIN τ c := by unfold pTkS; rw [if_neg (show ¬ ts τ = 0 by omega), if_neg (show ¬ ts τ = 1 by omega), if_neg (show ¬ ts τ = 2 by omega)]
    replace hP : va_P (dC, dI) vwCl (zTW ax cI (pTkS τ c)) H := by rw [e9]; exact hP
    replace hD : va_D A (zTW ax cI (pTkS τ c)) := by rw [e9]; exact hD
    exact hend _ () _ _ _ _ (by rw [hr_5]; exact z_ifc (by unfold pTkB; rw [if_neg (show ¬ ts τ = 0 by omega), if_neg (show ¬ ts τ = 1 by omega), if_neg (show ¬ ts τ = 2 by omega)])) hP hD hS dX2_takes_95

abbrev rX2_parse : Room := { frames := 3, cells := 0, slots := 0, locals := 68 }
set_option maxHeartbeats 4000000 in
set_option maxRecDepth 100000 in
theorem k_X2_parse (l : Launch) (dC : Nat → ClassId) (dI : Nat → Nat → Nat) (ax : Nat → Nat) (cI : ClassId) (τ : zT) (ht : tl τ ≤ 60) (hf : ∀ i, i < tl τ → tx τ i < 128) (sz : Nat) : zWiN (S := Unit) l yX2_parse wsX2_parse rX2_parse (dC, dI) [.ref (ax 0)] (zTW ax cI τ) [(cI, .int)] sz (fun r (_ : Unit) => r = nI (pParse τ).1) (fun _ => zTW ax cI (pParse τ).2) 0 0 := by
  refine zWiN_of (cc := cX2_parse) (maxL := 2) (ty := .int) (by decide) rfl (Nat.le_of_ble_eq_true rfl) (fun _ _ _ => rfl) ?_
  intro p e s m args below meth cd Q ls A hat hP hK hN hD hA hend
  obtain ⟨hx, hb, hml, hown, hts, hl⟩ := hat
  replace hown : s.vm.findClass RX2 = some m.cls := hown
  replace hl : lv_has ls 2 [(0, .ref (ax 0))] := hl
  replace hP : va_P (dC, dI) vwCl [((ax 0), .inr (2, [.ref (ax 1), .int (nI (tl τ)), .ref (ax 2), .ref (ax 3), .int (nI (tc τ)), .int (nI (ts τ)), .int (td τ)])), ((ax 1), .inl (cI, 60, .inl (fun w => nI (tx τ w)))), ((ax 2), .inl (cI, 60, .inl (fun w => nI (tw τ w)))), ((ax 3), .inl (cI, 60, .inl (fun w => nI (tn τ w))))] s.heap := hP
  replace hD : va_D A [((ax 0), .inr (2, [.ref (ax 1), .int (nI (tl τ)), .ref (ax 2), .ref (ax 3), .int (nI (tc τ)), .int (nI (ts τ)), .int (td τ)])), ((ax 1), .inl (cI, 60, .inl (fun w => nI (tx τ w)))), ((ax 2), .inl (cI, 60, .inl (fun w => nI (tw τ w)))), ((ax 3), .inl (cI, 60, .inl (fun w => nI (tn τ w))))] := hD
  have hS : va_S A s.heap s.heap [] := va_S.rf
  have hf25 := hts (.fieldLink RX2 25 "InsideOutWords$Text" "stage" "I") (by decide +kernel)
  have hnX2 : ∀ w ∈ u_ws RX2 TX2 7, w ∈ wsX2_parse := by decide +kernel
  have hf28 := hts (.fieldLink RX2 28 "InsideOutWords$Text" "parsed" "I") (by decide +kernel)
  have hf21 := hts (.fieldLink RX2 21 "InsideOutWords$Text" "length" "I") (by decide +kernel)
  have hf9 := hts (.fieldLink RX2 9 "InsideOutWords$Text" "codes" "[I") (by decide +kernel)
  refine lv_aload_n hx hb dX2_parse_0 rfl (lv_at hl 0 rfl) ?_
  refine lv_iconst (v := 0) hx hb dX2_parse_1 (by decide) ?_
  refine va_put (D := (dC, dI)) (ci := 2) (v := .int 0) (ty := .int) (C := RX2) (T := TX2) (N := 7) hx hb hts hnX2 tyX2 tyX2_ok nmX2 hown hK hP hD hS 0 rfl rfl 5 (by decide) hf25 (fun _ h9 => h9) rfl (by decide +kernel) rfl rfl (Nat.le_of_ble_eq_true rfl) dX2_parse_2 (fun H locs (hP : va_P (dC, dI) vwCl [((ax 0), .inr (2, [.ref (ax 1), .int (nI (tl τ)), .ref (ax 2), .ref (ax 3), .int (nI (tc τ)), .int 0, .int (td τ)])), ((ax 1), .inl (cI, 60, .inl (fun w => nI (tx τ w)))), ((ax 2), .inl (cI, 60, .inl (fun w => nI (tw τ w)))), ((ax 3), .inl (cI, 60, .inl (fun w => nI (tn τ w))))] H) (hD : va_D A [((ax 0), .inr (2, [.ref (ax 1), .int (nI (tl τ)), .ref (ax 2), .ref (ax 3), .int (nI (tc τ)), .int 0, .int (td τ)])), ((ax 1), .inl (cI, 60, .inl (fun w => nI (tx τ w)))), ((ax 2), .inl (cI, 60, .inl (fun w => nI (tw τ w)))), ((ax 3), .inl (cI, 60, .inl (fun w => nI (tn τ w))))]) hS => ?_)
  refine lv_aload_n hx hb dX2_parse_5 rfl (lv_at hl 0 rfl) ?_
  refine lv_iconst (v := 0) hx hb dX2_parse_6 (by decide) ?_
  refine va_put (D := (dC, dI)) (ci := 2) (v := .int 0) (ty := .int) (C := RX2) (T := TX2) (N := 7) hx hb hts hnX2 tyX2 tyX2_ok nmX2 hown hK hP hD hS 0 rfl rfl 4 (by decide) hf28 (fun _ h9 => h9) rfl (by decide +kernel) rfl rfl (Nat.le_of_ble_eq_true rfl) dX2_parse_7 (fun H locs (hP : va_P (dC, dI) vwCl [((ax 0), .inr (2, [.ref (ax 1), .int (nI (tl τ)), .ref (ax 2), .ref (ax 3), .int 0, .int 0, .int (td τ)])), ((ax 1), .inl (cI, 60, .inl (fun w => nI (tx τ w)))), ((ax 2), .inl (cI, 60, .inl (fun w => nI (tw τ w)))), ((ax 3), .inl (cI, 60, .inl (fun w => nI (tn τ w))))] H) (hD : va_D A [((ax 0), .inr (2, [.ref (ax 1), .int (nI (tl τ)), .ref (ax 2), .ref (ax 3), .int 0, .int 0, .int (td τ)])), ((ax 1), .inl (cI, 60, .inl (fun w => nI (tx τ w)))), ((ax 2), .inl (cI, 60, .inl (fun w => nI (tw τ w)))), ((ax 3), .inl (cI, 60, .inl (fun w => nI (tn τ w))))]) hS => ?_)
  refine lv_iconst (v := 0) hx hb dX2_parse_10 (by decide) ?_
  refine lv_istore_n (lv' := [(1, .int 0), (0, .ref (ax 0))]) hx hb dX2_parse_11 rfl hl (by decide) rfl (fun ls hl => ?_)
  have hC_12 : ∀ (nf : Nat) (τ1 : zT) (i : Nat) (ls : Array Slot) (H : Heap) (locs : List Loc), tl τ - i < nf → lv_has ls 2 [(0, .ref (ax 0)), (1, .int (nI i))] → (tx τ1 = tx τ) → (tl τ1 = tl τ) → (i ≤ tl τ) → (tInv τ1 i) → (pPar (tl τ - i) i τ1 = pParse τ) → va_P (dC, dI) vwCl [((ax 0), .inr (2, [.ref (ax 1), .int (nI (tl τ1)), .ref (ax 2), .ref (ax 3), .int (nI (tc τ1)), .int (nI (ts τ1)), .int (td τ1)])), ((ax 1), .inl (cI, 60, .inl (fun w => nI (tx τ1 w)))), ((ax 2), .inl (cI, 60, .inl (fun w => nI (tw τ1 w)))), ((ax 3), .inl (cI, 60, .inl (fun w => nI (tn τ1 w))))] H → va_D A [((ax 0), .inr (2, [.ref (ax 1), .int (nI (tl τ1)), .ref (ax 2), .ref (ax 3), .int (nI (tc τ1)), .int (nI (ts τ1)), .int (td τ1)])), ((ax 1), .inl (cI, 60, .inl (fun w => nI (tx τ1 w)))), ((ax 2), .inl (cI, 60, .inl (fun w => nI (tw τ1 w)))), ((ax 3), .inl (cI, 60, .inl (fun w => nI (tn τ1 w))))] → va_S A s.heap H locs → W p l e rX2_parse s m args below meth cd H locs 0 0 Q (F0 m 12 ls []) := by
    intro nf
    induction nf with
    | zero => intro τ1 i ls H locs hm_12 hl hx1 ht1 hi1 hI1 hp1 hP hD hS; exact absurd hm_12 (Nat.not_lt_zero _)
    | succ nf ih_12 =>
      intro τ1 i ls H locs hm_12 hl hx1 ht1 hi1 hI1 hp1 hP hD hS
      refine lv_iload_n hx hb dX2_parse_12 rfl (lv_at hl 1 rfl) ?_
      refine lv_aload_n hx hb dX2_parse_13 rfl (lv_at hl 0 rfl) ?_
      refine va_get (D := (dC, dI)) (ci := 2) (v := .int (nI (tl τ1))) (C := RX2) (T := TX2) (N := 7) hx hb hts hnX2 hown hK hP 0 rfl rfl 1 (by decide) hf21 (fun _ h9 => h9) rfl dX2_parse_14 ?_
      refine z_ge hx hb i (tl τ1) (by omega) (by omega) (tgt := 41) dX2_parse_17 (by decide) (fun c_1 => ?_) (fun c_1 => ?_)
      · skip
        refine lv_aload_n hx hb dX2_parse_41 rfl (lv_at hl 0 rfl) ?_
        refine va_get (D := (dC, dI)) (ci := 2) (v := .int (nI (tl τ1))) (C := RX2) (T := TX2) (N := 7) hx hb hts hnX2 hown hK hP 0 rfl rfl 1 (by decide) hf21 (fun _ h9 => h9) rfl dX2_parse_42 ?_
        have e9 : (pParse τ).2 = τ1 := by rw [← hp1, show tl τ - i = 0 by omega]; rfl
        replace hP : va_P (dC, dI) vwCl (zTW ax cI ((pParse τ).2)) H := by rw [e9]; exact hP
        replace hD : va_D A (zTW ax cI ((pParse τ).2)) := by rw [e9]; exact hD
        exact hend _ () _ _ _ _ (by rw [← hp1, show tl τ - i = 0 by omega]; exact congrArg nI (show tl τ1 = i by omega)) hP hD hS dX2_parse_45
      · skip
        refine lv_aload_n hx hb dX2_parse_20 rfl (lv_at hl 0 rfl) ?_
        refine lv_aload_n hx hb dX2_parse_21 rfl (lv_at hl 0 rfl) ?_
        refine va_get (D := (dC, dI)) (ci := 2) (v := .ref (ax 1)) (C := RX2) (T := TX2) (N := 7) hx hb hts hnX2 hown hK hP 0 rfl rfl 0 (by decide) hf9 (fun _ h9 => h9) rfl dX2_parse_22 ?_
        refine lv_iload_n hx hb dX2_parse_25 rfl (lv_at hl 1 rfl) ?_
        refine z_ald hx hb hK hP 1 0 i (f := (fun w => nI (tx τ1 w))) rfl rfl (by first | omega | decide) (by first | decide | omega) dX2_parse_26 ?_
        try clear hPq hDq
        refine z_cWiN (wr := []) (As := [.int (nI (tx τ1 i))]) (rest := []) ⟨hx, hb, hml, hown, hts⟩ (k_X2_takes l dC dI ax cI τ1 (tx τ1 i) i (by rw [hx1]; exact hf i (by omega)) hI1 (by omega) H.size) (cwV 1 hts gX2_parse_X2_takes rfl rfl rfl (by decide +kernel) ⟨Nat.le_of_ble_eq_true rfl, Nat.le_of_ble_eq_true rfl⟩) (va_recv hK hP (ci := 2) (q0 := 0) rfl rfl) hP hD hS hA (hP.sub (ws' := zTW ax cI τ1) [0, 1, 2, 3] rfl) (hD.sub (ws' := zTW ax cI τ1) [0, 1, 2, 3] (by decide) rfl) (hK.sub (tys' := [(cI, .int)]) [0] rfl) hN [0, 1, 2, 3] [] rfl rfl (by decide) (by decide) rfl hl.1 rfl (Nat.le_of_ble_eq_true rfl) dX2_parse_27 ⟨Nat.le_of_ble_eq_true rfl, Nat.le_of_ble_eq_true rfl⟩ (fun r_2 _ H locs hr_2 (hP : va_P (dC, dI) vwCl [((ax 0), .inr (2, [.ref (ax 1), .int (nI (tl (pTkS τ1 (tx τ1 i)))), .ref (ax 2), .ref (ax 3), .int (nI (tc (pTkS τ1 (tx τ1 i)))), .int (nI (ts (pTkS τ1 (tx τ1 i)))), .int (td (pTkS τ1 (tx τ1 i)))])), ((ax 1), .inl (cI, 60, .inl (fun w => nI (tx (pTkS τ1 (tx τ1 i)) w)))), ((ax 2), .inl (cI, 60, .inl (fun w => nI (tw (pTkS τ1 (tx τ1 i)) w)))), ((ax 3), .inl (cI, 60, .inl (fun w => nI (tn (pTkS τ1 (tx τ1 i)) w))))] H) (hD : va_D A [((ax 0), .inr (2, [.ref (ax 1), .int (nI (tl (pTkS τ1 (tx τ1 i)))), .ref (ax 2), .ref (ax 3), .int (nI (tc (pTkS τ1 (tx τ1 i)))), .int (nI (ts (pTkS τ1 (tx τ1 i)))), .int (td (pTkS τ1 (tx τ1 i)))])), ((ax 1), .inl (cI, 60, .inl (fun w => nI (tx (pTkS τ1 (tx τ1 i)) w)))), ((ax 2), .inl (cI, 60, .inl (fun w => nI (tw (pTkS τ1 (tx τ1 i)) w)))), ((ax 3), .inl (cI, 60, .inl (fun w => nI (tn (pTkS τ1 (tx τ1 i)) w))))]) hS => ?_)
        refine z_ifneB hx hb hr_2 (tgt := 35) dX2_parse_30 (by decide) (fun c_3 => ?_) (fun c_3 => ?_)
        · skip
          refine lv_iinc (v := nI (i + 1)) (lv' := [(1, .int (nI (i + 1))), (0, .ref (ax 0))]) hx hb dX2_parse_35 hl (k := 1) rfl (z_inc1 _) (by decide) rfl (fun ls hl => ?_)
          refine lv_goto (tgt := 12) hx hb dX2_parse_38 (by decide) ?_
          exact ih_12 (pTkS τ1 (tx τ1 i)) (i + 1) _ _ _ (by omega) (lv_sub hl [1, 0] rfl) (pTk_same.1.trans hx1) (pTk_same.2.trans ht1) (by omega) (pTk_inv hI1 (by rw [hx1]; exact hf i (by omega)) c_3) (by rw [← hp1, show tl τ - i = (tl τ - (i + 1)) + 1 by omega, pPar_go c_3]) hP hD hS
        · skip
          refine lv_iload_n hx hb dX2_parse_33 rfl (lv_at hl 1 rfl) ?_
          have e9 : (pParse τ).2 = pTkS τ1 (tx τ1 i) := by rw [← hp1, show tl τ - i = (tl τ - (i + 1)) + 1 by omega, pPar_end c_3]
          replace hP : va_P (dC, dI) vwCl (zTW ax cI ((pParse τ).2)) H := by rw [e9]; exact hP
          replace hD : va_D A (zTW ax cI ((pParse τ).2)) := by rw [e9]; exact hD
          exact hend _ () _ _ _ _ (by rw [← hp1, show tl τ - i = (tl τ - (i + 1)) + 1 by omega, pPar_end c_3]) hP hD hS dX2_parse_34
  exact hC_12 _ (tx τ, tl τ, tw τ, tn τ, 0, 0, td τ) 0 _ _ _ (Nat.lt_succ_self _) (lv_sub hl [1, 0] rfl) (rfl) (rfl) (by omega) (tInv0 τ) (rfl) hP hD hS

abbrev rX2_isComplete : Room := { frames := 4, cells := 0, slots := 0, locals := 89 }
set_option maxHeartbeats 4000000 in
set_option maxRecDepth 100000 in
theorem k_X2_isComplete (l : Launch) (dC : Nat → ClassId) (dI : Nat → Nat → Nat) (ax : Nat → Nat) (cI : ClassId) (τ : zT) (ht : tl τ ≤ 60) (hf : ∀ i, i < tl τ → tx τ i < 128) (sz : Nat) : zWiN (S := Unit) l yX2_isComplete wsX2_isComplete rX2_isComplete (dC, dI) [.ref (ax 0)] (zTW ax cI τ) [(cI, .int)] sz (fun r (_ : Unit) => r = if (pParse τ).1 = tl τ ∧ ts (pParse τ).2 = 3 then 1 else 0) (fun _ => zTW ax cI (pParse τ).2) 0 0 := by
  refine zWiN_of (cc := cX2_isComplete) (maxL := 1) (ty := .boolean) (by decide) rfl (Nat.le_of_ble_eq_true rfl) (fun v u h => by rw [h]; split <;> rfl) ?_
  intro p e s m args below meth cd Q ls A hat hP hK hN hD hA hend
  obtain ⟨hx, hb, hml, hown, hts, hl⟩ := hat
  replace hown : s.vm.findClass RX2 = some m.cls := hown
  replace hl : lv_has ls 1 [(0, .ref (ax 0))] := hl
  replace hP : va_P (dC, dI) vwCl [((ax 0), .inr (2, [.ref (ax 1), .int (nI (tl τ)), .ref (ax 2), .ref (ax 3), .int (nI (tc τ)), .int (nI (ts τ)), .int (td τ)])), ((ax 1), .inl (cI, 60, .inl (fun w => nI (tx τ w)))), ((ax 2), .inl (cI, 60, .inl (fun w => nI (tw τ w)))), ((ax 3), .inl (cI, 60, .inl (fun w => nI (tn τ w))))] s.heap := hP
  replace hD : va_D A [((ax 0), .inr (2, [.ref (ax 1), .int (nI (tl τ)), .ref (ax 2), .ref (ax 3), .int (nI (tc τ)), .int (nI (ts τ)), .int (td τ)])), ((ax 1), .inl (cI, 60, .inl (fun w => nI (tx τ w)))), ((ax 2), .inl (cI, 60, .inl (fun w => nI (tw τ w)))), ((ax 3), .inl (cI, 60, .inl (fun w => nI (tn τ w))))] := hD
  have hS : va_S A s.heap s.heap [] := va_S.rf
  have hf21 := hts (.fieldLink RX2 21 "InsideOutWords$Text" "length" "I") (by decide +kernel)
  have hnX2 : ∀ w ∈ u_ws RX2 TX2 7, w ∈ wsX2_isComplete := by decide +kernel
  have hf25 := hts (.fieldLink RX2 25 "InsideOutWords$Text" "stage" "I") (by decide +kernel)
  refine lv_aload_n hx hb dX2_isComplete_0 rfl (lv_at hl 0 rfl) ?_
  try clear hPq hDq
  refine z_cWiN (wr := []) (As := []) (rest := []) ⟨hx, hb, hml, hown, hts⟩ (k_X2_parse l dC dI ax cI τ ht hf (s.heap).size) (cwV 0 hts gX2_isComplete_X2_parse rfl rfl rfl (by decide +kernel) ⟨Nat.le_of_ble_eq_true rfl, Nat.le_of_ble_eq_true rfl⟩) (va_recv hK hP (ci := 2) (q0 := 0) rfl rfl) hP hD hS hA (hP.sub (ws' := zTW ax cI τ) [0, 1, 2, 3] rfl) (hD.sub (ws' := zTW ax cI τ) [0, 1, 2, 3] (by decide) rfl) (hK.sub (tys' := [(cI, .int)]) [0] rfl) hN [0, 1, 2, 3] [] rfl rfl (by decide) (by decide) rfl hl.1 rfl (Nat.le_of_ble_eq_true rfl) dX2_isComplete_1 ⟨Nat.le_of_ble_eq_true rfl, Nat.le_of_ble_eq_true rfl⟩ (fun r_1 _ H locs hr_1 (hP : va_P (dC, dI) vwCl [((ax 0), .inr (2, [.ref (ax 1), .int (nI (tl ((pParse τ).2))), .ref (ax 2), .ref (ax 3), .int (nI (tc ((pParse τ).2))), .int (nI (ts ((pParse τ).2))), .int (td ((pParse τ).2))])), ((ax 1), .inl (cI, 60, .inl (fun w => nI (tx ((pParse τ).2) w)))), ((ax 2), .inl (cI, 60, .inl (fun w => nI (tw ((pParse τ).2) w)))), ((ax 3), .inl (cI, 60, .inl (fun w => nI (tn ((pParse τ).2) w))))] H) (hD : va_D A [((ax 0), .inr (2, [.ref (ax 1), .int (nI (tl ((pParse τ).2))), .ref (ax 2), .ref (ax 3), .int (nI (tc ((pParse τ).2))), .int (nI (ts ((pParse τ).2))), .int (td ((pParse τ).2))])), ((ax 1), .inl (cI, 60, .inl (fun w => nI (tx ((pParse τ).2) w)))), ((ax 2), .inl (cI, 60, .inl (fun w => nI (tw ((pParse τ).2) w)))), ((ax 3), .inl (cI, 60, .inl (fun w => nI (tn ((pParse τ).2) w))))]) hS => ?_)
  have hpf := pParse_f (τ := τ) hf
  have hpf1 := hpf.1
  have hpf2 := hpf.2.2.1
  have hpf3 := hpf.2.2.2.1
  subst hr_1
  refine lv_aload_n hx hb dX2_isComplete_4 rfl (lv_at hl 0 rfl) ?_
  refine va_get (D := (dC, dI)) (ci := 2) (v := .int (nI (tl ((pParse τ).2)))) (C := RX2) (T := TX2) (N := 7) hx hb hts hnX2 hown hK hP 0 rfl rfl 1 (by decide) hf21 (fun _ h9 => h9) rfl dX2_isComplete_5 ?_
  refine z_ne hx hb ((pParse τ).1) (tl ((pParse τ).2)) (by omega) (by omega) (tgt := 23) dX2_isComplete_8 (by decide) (fun c_2 => ?_) (fun c_2 => ?_)
  · skip
    refine lv_iconst (v := 0) hx hb dX2_isComplete_23 (by decide) ?_
    exact hend _ () _ _ _ _ (by exact (if_neg (by omega)).symm) hP hD hS dX2_isComplete_24
  · skip
    refine lv_aload_n hx hb dX2_isComplete_11 rfl (lv_at hl 0 rfl) ?_
    refine va_get (D := (dC, dI)) (ci := 2) (v := .int (nI (ts ((pParse τ).2)))) (C := RX2) (T := TX2) (N := 7) hx hb hts hnX2 hown hK hP 0 rfl rfl 5 (by decide) hf25 (fun _ h9 => h9) rfl dX2_isComplete_12 ?_
    refine lv_iconst (v := 3) hx hb dX2_isComplete_15 (by decide) ?_
    have hJ_3 : ∀ b_3 : Int32, b_3 = (if (ts ((pParse τ).2)) = 3 then 1 else 0) → W p l e rX2_isComplete s m args below meth cd H locs 0 0 Q (F0 m 24 ls (.int b_3 :: [])) := by
      intro b_3 eb_3
      exact hend _ () _ _ _ _ (by rw [eb_3]; exact z_ifc (by omega)) hP hD hS dX2_isComplete_24
    refine z_ne hx hb (ts ((pParse τ).2)) 3 (by omega) (by omega) (tgt := 23) dX2_isComplete_16 (by decide) (fun c_3 => ?_) (fun c_3 => ?_)
    · refine lv_iconst (v := 0) hx hb dX2_isComplete_23 (by decide) ?_
      exact hJ_3 _ (if_neg (by omega)).symm
    · refine lv_iconst (v := 1) hx hb dX2_isComplete_19 (by decide) ?_
      refine lv_goto (tgt := 24) hx hb dX2_isComplete_20 (by decide) ?_
      exact hJ_3 _ (if_pos c_3).symm

abbrev rX2_hashAfter : Room := { frames := 0, cells := 0, slots := 0, locals := 0 }
set_option maxHeartbeats 4000000 in
set_option maxRecDepth 100000 in
theorem k_X2_hashAfter (l : Launch) (dC : Nat → ClassId) (dI : Nat → Nat → Nat) (ax : Nat → Nat) (cI : ClassId) (τ : zT) (ht : tl τ ≤ 60) (x : Int64) : zRl l yX2_hashAfter wsX2_hashAfter rX2_hashAfter (dC, dI) [.ref (ax 0), .long x] (zTW ax cI τ) [(cI, .int)] (fun r => r = pHashA (tx τ) (tl τ) (31 * x + (nI (tl τ)).toInt64)) := by
  refine zRl_of (cc := cX2_hashAfter) (maxL := 6) (by decide) rfl (Nat.le_of_ble_eq_true rfl) ?_
  intro p e s m args below meth cd Q ls hat hP hK hend
  obtain ⟨hx, hb, hml, hown, hts, hl⟩ := hat
  replace hown : s.vm.findClass RX2 = some m.cls := hown
  replace hl : lv_has ls 6 [(0, .ref (ax 0)), (1, .long x)] := hl
  replace hP : va_P (dC, dI) vwCl [((ax 0), .inr (2, [.ref (ax 1), .int (nI (tl τ)), .ref (ax 2), .ref (ax 3), .int (nI (tc τ)), .int (nI (ts τ)), .int (td τ)])), ((ax 1), .inl (cI, 60, .inl (fun w => nI (tx τ w)))), ((ax 2), .inl (cI, 60, .inl (fun w => nI (tw τ w)))), ((ax 3), .inl (cI, 60, .inl (fun w => nI (tn τ w))))] s.heap := hP
  have hc52 := hts (.constantLong RX2 52 (31)) (by decide +kernel)
  have hf21 := hts (.fieldLink RX2 21 "InsideOutWords$Text" "length" "I") (by decide +kernel)
  have hnX2 : ∀ w ∈ u_ws RX2 TX2 7, w ∈ wsX2_hashAfter := by decide +kernel
  have hf9 := hts (.fieldLink RX2 9 "InsideOutWords$Text" "codes" "[I") (by decide +kernel)
  refine lv_ldc2 hx hb hown hc52 dX2_hashAfter_0 ?_
  refine lv_lload_n hx hb dX2_hashAfter_3 rfl (lv_at hl 1 rfl) ?_
  refine lv_lmul hx hb dX2_hashAfter_4 ?_
  refine lv_aload_n hx hb dX2_hashAfter_5 rfl (lv_at hl 0 rfl) ?_
  refine va_get (D := (dC, dI)) (ci := 2) (v := .int (nI (tl τ))) (C := RX2) (T := TX2) (N := 7) hx hb hts hnX2 hown hK hP 0 rfl rfl 1 (by decide) hf21 (fun _ h9 => h9) rfl dX2_hashAfter_6 ?_
  refine lv_i2l (v := (nI (tl τ)).toInt64) hx hb dX2_hashAfter_9 rfl ?_
  refine lv_ladd hx hb dX2_hashAfter_10 ?_
  refine lv_lstore_n (lv' := [(3, .long ((31 * x) + ((nI (tl τ)).toInt64))), (0, .ref (ax 0)), (1, .long x)]) hx hb dX2_hashAfter_11 rfl hl (by decide) rfl (fun ls hl => ?_)
  refine lv_iconst (v := 0) hx hb dX2_hashAfter_12 (by decide) ?_
  refine lv_istore (lv' := [(5, .int 0), (3, .long ((31 * x) + ((nI (tl τ)).toInt64))), (0, .ref (ax 0)), (1, .long x)]) hx hb dX2_hashAfter_13 hl (by decide) rfl (fun ls hl => ?_)
  have hC_15 : ∀ (nf : Nat) (y : Int64) (i : Nat) (ls : Array Slot), tl τ - i < nf → lv_has ls 6 [(0, .ref (ax 0)), (3, .long y), (5, .int (nI i))] → (i ≤ tl τ) → (y = pHashA (tx τ) i (31 * x + (nI (tl τ)).toInt64)) → W p l e rX2_hashAfter s m args below meth cd s.heap [] 0 0 Q (F0 m 15 ls []) := by
    intro nf
    induction nf with
    | zero => intro y i ls hm_15 hl hi1 ey; exact absurd hm_15 (Nat.not_lt_zero _)
    | succ nf ih_15 =>
      intro y i ls hm_15 hl hi1 ey
      refine lv_iload hx hb dX2_hashAfter_15 (lv_at hl 2 rfl) ?_
      refine lv_aload_n hx hb dX2_hashAfter_17 rfl (lv_at hl 0 rfl) ?_
      refine va_get (D := (dC, dI)) (ci := 2) (v := .int (nI (tl τ))) (C := RX2) (T := TX2) (N := 7) hx hb hts hnX2 hown hK hP 0 rfl rfl 1 (by decide) hf21 (fun _ h9 => h9) rfl dX2_hashAfter_18 ?_
      refine z_ge hx hb i (tl τ) (by omega) (by omega) (tgt := 45) dX2_hashAfter_21 (by decide) (fun c_1 => ?_) (fun c_1 => ?_)
      · skip
        refine lv_lload_n hx hb dX2_hashAfter_45 rfl (lv_at hl 1 rfl) ?_
        exact hend _ _ _ (by rw [ey, show i = tl τ by omega]) dX2_hashAfter_46
      · skip
        refine lv_ldc2 hx hb hown hc52 dX2_hashAfter_24 ?_
        refine lv_lload_n hx hb dX2_hashAfter_27 rfl (lv_at hl 1 rfl) ?_
        refine lv_lmul hx hb dX2_hashAfter_28 ?_
        refine lv_aload_n hx hb dX2_hashAfter_29 rfl (lv_at hl 0 rfl) ?_
        refine va_get (D := (dC, dI)) (ci := 2) (v := .ref (ax 1)) (C := RX2) (T := TX2) (N := 7) hx hb hts hnX2 hown hK hP 0 rfl rfl 0 (by decide) hf9 (fun _ h9 => h9) rfl dX2_hashAfter_30 ?_
        refine lv_iload hx hb dX2_hashAfter_33 (lv_at hl 2 rfl) ?_
        refine z_ald hx hb hK hP 1 0 i (f := (fun w => nI (tx τ w))) rfl rfl (by first | omega | decide) (by first | decide | omega) dX2_hashAfter_35 ?_
        refine lv_i2l (v := (nI (tx τ i)).toInt64) hx hb dX2_hashAfter_36 rfl ?_
        refine lv_ladd hx hb dX2_hashAfter_37 ?_
        refine lv_lstore_n (lv' := [(3, .long ((31 * y) + ((nI (tx τ i)).toInt64))), (0, .ref (ax 0)), (5, .int (nI i))]) hx hb dX2_hashAfter_38 rfl hl (by decide) rfl (fun ls hl => ?_)
        refine lv_iinc (v := nI (i + 1)) (lv' := [(5, .int (nI (i + 1))), (3, .long ((31 * y) + ((nI (tx τ i)).toInt64))), (0, .ref (ax 0))]) hx hb dX2_hashAfter_39 hl (k := 2) rfl (z_inc1 _) (by decide) rfl (fun ls hl => ?_)
        refine lv_goto (tgt := 15) hx hb dX2_hashAfter_42 (by decide) ?_
        exact ih_15 ((31 * y) + ((nI (tx τ i)).toInt64)) (i + 1) _ (by omega) (lv_sub hl [2, 1, 0] rfl) (by omega) (by rw [ey]; rfl)
  exact hC_15 _ ((31 * x) + ((nI (tl τ)).toInt64)) 0 _ (Nat.lt_succ_self _) (lv_sub hl [2, 1, 0] rfl) (by omega) (rfl)
