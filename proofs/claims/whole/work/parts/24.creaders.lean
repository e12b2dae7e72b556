abbrev rX3_needWord : Room := { frames := 1, cells := 0, slots := 0, locals := 22 }
set_option maxHeartbeats 4000000 in
set_option maxRecDepth 100000 in
theorem k_X3_needWord (l : Launch) (dC : Nat → ClassId) (dI : Nat → Nat → Nat) (x : Int32) (h : ¬ (x < 0 ∨ ¬ x ≤ 15)) : zRv l yX3_needWord wsX3_needWord rX3_needWord (dC, dI) [.int x] [] [] := by
  refine zRv_of (cc := cX3_needWord) (maxL := 1) (by decide) rfl (Nat.le_of_ble_eq_true rfl) ?_
  intro p e s m args below meth cd Q ls hat hP hK hend
  obtain ⟨hx, hb, hml, hown, hts, hl⟩ := hat
  replace hown : s.vm.findClass RX3 = some m.cls := hown
  replace hl : lv_has ls 1 [(0, .int x)] := hl
  replace hP : va_P (dC, dI) vwCl [] s.heap := hP
  refine lv_iload_n hx hb dX3_needWord_0 rfl (lv_at hl 0 rfl) ?_
  refine lv_iconst (v := 0) hx hb dX3_needWord_1 (by decide) ?_
  refine lv_bipush (v := 15) hx hb dX3_needWord_2 (by decide) ?_
  refine z_cSi (As := [.int x, .int 0, .int 15]) (rest := []) ⟨hx, hb, hml, hown, hts⟩ (k_X3_isOutside l dC dI x (0 : Int32) (15 : Int32)) (va_cwS 3 hts gX3_needWord_X3_isOutside rfl rfl rfl (by decide +kernel) ⟨Nat.le_of_ble_eq_true rfl, Nat.le_of_ble_eq_true rfl⟩) (hP.sub (ws' := []) [] rfl) (hK.sub (tys' := []) [] rfl) rfl hl.1 rfl (Nat.le_of_ble_eq_true rfl) dX3_needWord_4 ⟨Nat.le_of_ble_eq_true rfl, Nat.le_of_ble_eq_true rfl⟩ (fun r_1 hr_1 => ?_)
  refine z_ifeqB hx hb hr_1 (tgt := 21) dX3_needWord_7 (by decide) (fun c_2 => ?_) (fun c_2 => ?_)
  · skip
    exact hend _ _ dX3_needWord_21
  · skip
    exact absurd c_2 h

abbrev rX3_needSlot : Room := { frames := 1, cells := 0, slots := 0, locals := 22 }
set_option maxHeartbeats 4000000 in
set_option maxRecDepth 100000 in
theorem k_X3_needSlot (l : Launch) (dC : Nat → ClassId) (dI : Nat → Nat → Nat) (x : Int32) (h : ¬ (x < 0 ∨ ¬ x ≤ 17)) : zRv l yX3_needSlot wsX3_needSlot rX3_needSlot (dC, dI) [.int x] [] [] := by
  refine zRv_of (cc := cX3_needSlot) (maxL := 1) (by decide) rfl (Nat.le_of_ble_eq_true rfl) ?_
  intro p e s m args below meth cd Q ls hat hP hK hend
  obtain ⟨hx, hb, hml, hown, hts, hl⟩ := hat
  replace hown : s.vm.findClass RX3 = some m.cls := hown
  replace hl : lv_has ls 1 [(0, .int x)] := hl
  replace hP : va_P (dC, dI) vwCl [] s.heap := hP
  refine lv_iload_n hx hb dX3_needSlot_0 rfl (lv_at hl 0 rfl) ?_
  refine lv_iconst (v := 0) hx hb dX3_needSlot_1 (by decide) ?_
  refine lv_bipush (v := 17) hx hb dX3_needSlot_2 (by decide) ?_
  refine z_cSi (As := [.int x, .int 0, .int 17]) (rest := []) ⟨hx, hb, hml, hown, hts⟩ (k_X3_isOutside l dC dI x (0 : Int32) (17 : Int32)) (va_cwS 3 hts gX3_needSlot_X3_isOutside rfl rfl rfl (by decide +kernel) ⟨Nat.le_of_ble_eq_true rfl, Nat.le_of_ble_eq_true rfl⟩) (hP.sub (ws' := []) [] rfl) (hK.sub (tys' := []) [] rfl) rfl hl.1 rfl (Nat.le_of_ble_eq_true rfl) dX3_needSlot_4 ⟨Nat.le_of_ble_eq_true rfl, Nat.le_of_ble_eq_true rfl⟩ (fun r_1 hr_1 => ?_)
  refine z_ifeqB hx hb hr_1 (tgt := 21) dX3_needSlot_7 (by decide) (fun c_2 => ?_) (fun c_2 => ?_)
  · skip
    exact hend _ _ dX3_needSlot_21
  · skip
    exact absurd c_2 h

abbrev rX3_needCell : Room := { frames := 1, cells := 0, slots := 0, locals := 22 }
set_option maxHeartbeats 4000000 in
set_option maxRecDepth 100000 in
theorem k_X3_needCell (l : Launch) (dC : Nat → ClassId) (dI : Nat → Nat → Nat) (x : Int32) (h : ¬ (x < 0 ∨ ¬ x ≤ 12)) : zRv l yX3_needCell wsX3_needCell rX3_needCell (dC, dI) [.int x] [] [] := by
  refine zRv_of (cc := cX3_needCell) (maxL := 1) (by decide) rfl (Nat.le_of_ble_eq_true rfl) ?_
  intro p e s m args below meth cd Q ls hat hP hK hend
  obtain ⟨hx, hb, hml, hown, hts, hl⟩ := hat
  replace hown : s.vm.findClass RX3 = some m.cls := hown
  replace hl : lv_has ls 1 [(0, .int x)] := hl
  replace hP : va_P (dC, dI) vwCl [] s.heap := hP
  refine lv_iload_n hx hb dX3_needCell_0 rfl (lv_at hl 0 rfl) ?_
  refine lv_iconst (v := 0) hx hb dX3_needCell_1 (by decide) ?_
  refine lv_bipush (v := 12) hx hb dX3_needCell_2 (by decide) ?_
  refine z_cSi (As := [.int x, .int 0, .int 12]) (rest := []) ⟨hx, hb, hml, hown, hts⟩ (k_X3_isOutside l dC dI x (0 : Int32) (12 : Int32)) (va_cwS 3 hts gX3_needCell_X3_isOutside rfl rfl rfl (by decide +kernel) ⟨Nat.le_of_ble_eq_true rfl, Nat.le_of_ble_eq_true rfl⟩) (hP.sub (ws' := []) [] rfl) (hK.sub (tys' := []) [] rfl) rfl hl.1 rfl (Nat.le_of_ble_eq_true rfl) dX3_needCell_4 ⟨Nat.le_of_ble_eq_true rfl, Nat.le_of_ble_eq_true rfl⟩ (fun r_1 hr_1 => ?_)
  refine z_ifeqB hx hb hr_1 (tgt := 21) dX3_needCell_7 (by decide) (fun c_2 => ?_) (fun c_2 => ?_)
  · skip
    exact hend _ _ dX3_needCell_21
  · skip
    exact absurd c_2 h

abbrev rX3_needSetting : Room := { frames := 1, cells := 0, slots := 0, locals := 22 }
set_option maxHeartbeats 4000000 in
set_option maxRecDepth 100000 in
theorem k_X3_needSetting (l : Launch) (dC : Nat → ClassId) (dI : Nat → Nat → Nat) (x : Int32) (h : ¬ (x < 0 ∨ ¬ x ≤ 1)) : zRv l yX3_needSetting wsX3_needSetting rX3_needSetting (dC, dI) [.int x] [] [] := by
  refine zRv_of (cc := cX3_needSetting) (maxL := 1) (by decide) rfl (Nat.le_of_ble_eq_true rfl) ?_
  intro p e s m args below meth cd Q ls hat hP hK hend
  obtain ⟨hx, hb, hml, hown, hts, hl⟩ := hat
  replace hown : s.vm.findClass RX3 = some m.cls := hown
  replace hl : lv_has ls 1 [(0, .int x)] := hl
  replace hP : va_P (dC, dI) vwCl [] s.heap := hP
  refine lv_iload_n hx hb dX3_needSetting_0 rfl (lv_at hl 0 rfl) ?_
  refine lv_iconst (v := 0) hx hb dX3_needSetting_1 (by decide) ?_
  refine lv_iconst (v := 1) hx hb dX3_needSetting_2 (by decide) ?_
  refine z_cSi (As := [.int x, .int 0, .int 1]) (rest := []) ⟨hx, hb, hml, hown, hts⟩ (k_X3_isOutside l dC dI x (0 : Int32) (1 : Int32)) (va_cwS 3 hts gX3_needSetting_X3_isOutside rfl rfl rfl (by decide +kernel) ⟨Nat.le_of_ble_eq_true rfl, Nat.le_of_ble_eq_true rfl⟩) (hP.sub (ws' := []) [] rfl) (hK.sub (tys' := []) [] rfl) rfl hl.1 rfl (Nat.le_of_ble_eq_true rfl) dX3_needSetting_3 ⟨Nat.le_of_ble_eq_true rfl, Nat.le_of_ble_eq_true rfl⟩ (fun r_1 hr_1 => ?_)
  refine z_ifeqB hx hb hr_1 (tgt := 20) dX3_needSetting_6 (by decide) (fun c_2 => ?_) (fun c_2 => ?_)
  · skip
    exact hend _ _ dX3_needSetting_20
  · skip
    exact absurd c_2 h

abbrev rX3_needNumber : Room := { frames := 1, cells := 0, slots := 0, locals := 22 }
set_option maxHeartbeats 4000000 in
set_option maxRecDepth 100000 in
theorem k_X3_needNumber (l : Launch) (dC : Nat → ClassId) (dI : Nat → Nat → Nat) (x : Int32) (h : ¬ (x < 0 ∨ ¬ x ≤ 4095)) : zRv l yX3_needNumber wsX3_needNumber rX3_needNumber (dC, dI) [.int x] [] [] := by
  refine zRv_of (cc := cX3_needNumber) (maxL := 1) (by decide) rfl (Nat.le_of_ble_eq_true rfl) ?_
  intro p e s m args below meth cd Q ls hat hP hK hend
  obtain ⟨hx, hb, hml, hown, hts, hl⟩ := hat
  replace hown : s.vm.findClass RX3 = some m.cls := hown
  replace hl : lv_has ls 1 [(0, .int x)] := hl
  replace hP : va_P (dC, dI) vwCl [] s.heap := hP
  refine lv_iload_n hx hb dX3_needNumber_0 rfl (lv_at hl 0 rfl) ?_
  refine lv_iconst (v := 0) hx hb dX3_needNumber_1 (by decide) ?_
  refine lv_sipush (v := 4095) hx hb dX3_needNumber_2 (by decide) ?_
  refine z_cSi (As := [.int x, .int 0, .int 4095]) (rest := []) ⟨hx, hb, hml, hown, hts⟩ (k_X3_isOutside l dC dI x (0 : Int32) (4095 : Int32)) (va_cwS 3 hts gX3_needNumber_X3_isOutside rfl rfl rfl (by decide +kernel) ⟨Nat.le_of_ble_eq_true rfl, Nat.le_of_ble_eq_true rfl⟩) (hP.sub (ws' := []) [] rfl) (hK.sub (tys' := []) [] rfl) rfl hl.1 rfl (Nat.le_of_ble_eq_true rfl) dX3_needNumber_5 ⟨Nat.le_of_ble_eq_true rfl, Nat.le_of_ble_eq_true rfl⟩ (fun r_1 hr_1 => ?_)
  refine z_ifeqB hx hb hr_1 (tgt := 22) dX3_needNumber_8 (by decide) (fun c_2 => ?_) (fun c_2 => ?_)
  · skip
    exact hend _ _ dX3_needNumber_22
  · skip
    exact absurd c_2 h

abbrev rX3_needWhat : Room := { frames := 1, cells := 0, slots := 0, locals := 22 }
set_option maxHeartbeats 4000000 in
set_option maxRecDepth 100000 in
theorem k_X3_needWhat (l : Launch) (dC : Nat → ClassId) (dI : Nat → Nat → Nat) (x : Int32) (b : Int32) (h : ¬ (x < 0 ∨ ¬ x ≤ b - 1)) : zRv l yX3_needWhat wsX3_needWhat rX3_needWhat (dC, dI) [.int x, .int b] [] [] := by
  refine zRv_of (cc := cX3_needWhat) (maxL := 2) (by decide) rfl (Nat.le_of_ble_eq_true rfl) ?_
  intro p e s m args below meth cd Q ls hat hP hK hend
  obtain ⟨hx, hb, hml, hown, hts, hl⟩ := hat
  replace hown : s.vm.findClass RX3 = some m.cls := hown
  replace hl : lv_has ls 2 [(0, .int x), (1, .int b)] := hl
  replace hP : va_P (dC, dI) vwCl [] s.heap := hP
  refine lv_iload_n hx hb dX3_needWhat_0 rfl (lv_at hl 0 rfl) ?_
  refine lv_iconst (v := 0) hx hb dX3_needWhat_1 (by decide) ?_
  refine lv_iload_n hx hb dX3_needWhat_2 rfl (lv_at hl 1 rfl) ?_
  refine lv_iconst (v := 1) hx hb dX3_needWhat_3 (by decide) ?_
  refine lv_isub hx hb dX3_needWhat_4 ?_
  refine z_cSi (As := [.int x, .int 0, .int (b - 1)]) (rest := []) ⟨hx, hb, hml, hown, hts⟩ (k_X3_isOutside l dC dI x (0 : Int32) (b - 1)) (va_cwS 3 hts gX3_needWhat_X3_isOutside rfl rfl rfl (by decide +kernel) ⟨Nat.le_of_ble_eq_true rfl, Nat.le_of_ble_eq_true rfl⟩) (hP.sub (ws' := []) [] rfl) (hK.sub (tys' := []) [] rfl) rfl hl.1 rfl (Nat.le_of_ble_eq_true rfl) dX3_needWhat_5 ⟨Nat.le_of_ble_eq_true rfl, Nat.le_of_ble_eq_true rfl⟩ (fun r_1 hr_1 => ?_)
  refine z_ifeqB hx hb hr_1 (tgt := 22) dX3_needWhat_8 (by decide) (fun c_2 => ?_) (fun c_2 => ?_)
  · skip
    exact hend _ _ dX3_needWhat_22
  · skip
    exact absurd c_2 h

abbrev rX3_read : Room := { frames := 2, cells := 0, slots := 0, locals := 43 }
set_option maxHeartbeats 4000000 in
set_option maxRecDepth 100000 in
theorem k_X3_read (l : Launch) (dC : Nat → ClassId) (dI : Nat → Nat → Nat) (c0 : Nat) (ad ae ah ax : Nat → Nat) (cI : ClassId) (σ : zS) (hok : zok σ) (j : Nat) (hj : j < 16) : zRi l yX3_read wsX3_read rX3_read (dC, dI) [.ref c0, .int (nI j)] (zCo c0 ad ae ah ax ++ zW ad cI σ) [(cI, .int)] (fun r => r = pnm σ j) := by
  refine zRi_of (cc := cX3_read) (maxL := 2) (ty := .int) (by decide) rfl (Nat.le_of_ble_eq_true rfl) (fun _ _ => rfl) ?_
  intro p e s m args below meth cd Q ls hat hP hK hend
  obtain ⟨hx, hb, hml, hown, hts, hl⟩ := hat
  replace hown : s.vm.findClass RX3 = some m.cls := hown
  replace hl : lv_has ls 2 [(0, .ref c0), (1, .int (nI j))] := hl
  replace hP : va_P (dC, dI) vwCl [(c0, .inr (3, [.ref (ad 0), .ref (ae 0), .ref (ah 0), .ref (ax 0)])), ((ad 0), .inr (1, [.ref (ad 1), .ref (ad 2), .ref (ad 3), .ref (ad 4), .ref (ad 5), .ref (ad 6), .ref (ad 7), .ref (ad 8), .int (zc0 σ), .int (zc1 σ), .int (zc2 σ), .int (zc3 σ), .int (zc4 σ)])), ((ad 1), .inl (cI, 18, .inl (zhd σ))), ((ad 2), .inl (cI, 234, .inl (zwn σ))), ((ad 3), .inl (cI, 18, .inl (zwi σ))), ((ad 4), .inl (cI, 16, .inl (fun w => nI (zpl σ w)))), ((ad 5), .inl (cI, 16, .inl (zwh σ))), ((ad 6), .inl (cI, 16, .inl (zwo σ))), ((ad 7), .inl (cI, 16, .inl (zmo σ))), ((ad 8), .inl (cI, 2, .inl (zst σ)))] s.heap := hP
  have hf10 := hts (.fieldLink RX3 10 "InsideOutWords" "now" "LInsideOutWords$State;") (by decide +kernel)
  have hnX3 : ∀ w ∈ u_ws RX3 TX3 4, w ∈ wsX3_read := by decide +kernel
  refine lv_iload_n hx hb dX3_read_0 rfl (lv_at hl 1 rfl) ?_
  refine z_cSv (As := [.int (nI j)]) (rest := []) ⟨hx, hb, hml, hown, hts⟩ (k_X3_needWord l dC dI (nI j) (nI_io (b := 15) (by omega) (by decide))) (va_cwS 1 hts gX3_read_X3_needWord rfl rfl rfl (by decide +kernel) ⟨Nat.le_of_ble_eq_true rfl, Nat.le_of_ble_eq_true rfl⟩) (hP.sub (ws' := []) [] rfl) (hK.sub (tys' := []) [] rfl) rfl hl.1 rfl (Nat.le_of_ble_eq_true rfl) dX3_read_1 ⟨Nat.le_of_ble_eq_true rfl, Nat.le_of_ble_eq_true rfl⟩ ?_
  refine lv_aload_n hx hb dX3_read_4 rfl (lv_at hl 0 rfl) ?_
  refine va_get (D := (dC, dI)) (ci := 3) (v := .ref (ad 0)) (C := RX3) (T := TX3) (N := 4) hx hb hts hnX3 hown hK hP 0 rfl rfl 0 (by decide) hf10 (fun _ h9 => h9) rfl dX3_read_5 ?_
  refine lv_iload_n hx hb dX3_read_8 rfl (lv_at hl 1 rfl) ?_
  refine z_cVi (As := [.int (nI j)]) (rest := []) ⟨hx, hb, hml, hown, hts⟩ (k_X1_numberOf l dC dI ad cI σ hok j (by omega)) (cwV 1 hts gX3_read_X1_numberOf rfl rfl rfl (by decide +kernel) ⟨Nat.le_of_ble_eq_true rfl, Nat.le_of_ble_eq_true rfl⟩) (va_recv hK hP (ci := 1) (q0 := 1) rfl rfl) (hP.sub (ws' := zW ad cI σ) [1, 2, 3, 4, 5, 6, 7, 8, 9] rfl) (hK.sub (tys' := [(cI, .int)]) [0] rfl) rfl hl.1 rfl (Nat.le_of_ble_eq_true rfl) dX3_read_9 ⟨Nat.le_of_ble_eq_true rfl, Nat.le_of_ble_eq_true rfl⟩ (fun r_1 hr_1 => ?_)
  subst hr_1
  exact hend _ _ _ rfl dX3_read_12

abbrev rX3_wearOf : Room := { frames := 2, cells := 0, slots := 0, locals := 42 }
set_option maxHeartbeats 4000000 in
set_option maxRecDepth 100000 in
theorem k_X3_wearOf (l : Launch) (dC : Nat → ClassId) (dI : Nat → Nat → Nat) (c0 : Nat) (ad ae ah ax : Nat → Nat) (cI : ClassId) (σ : zS) (hok : zok σ) (j : Nat) (hj : j < 18) (i : Nat) (hi : i < 13) : zRi l yX3_wearOf wsX3_wearOf rX3_wearOf (dC, dI) [.ref c0, .int (nI j), .int (nI i)] (zCo c0 ad ae ah ax ++ zW ad cI σ) [(cI, .int)] (fun r => r = zwn σ (j * 13 + i)) := by
  refine zRi_of (cc := cX3_wearOf) (maxL := 3) (ty := .int) (by decide) rfl (Nat.le_of_ble_eq_true rfl) (fun _ _ => rfl) ?_
  intro p e s m args below meth cd Q ls hat hP hK hend
  obtain ⟨hx, hb, hml, hown, hts, hl⟩ := hat
  replace hown : s.vm.findClass RX3 = some m.cls := hown
  replace hl : lv_has ls 3 [(0, .ref c0), (1, .int (nI j)), (2, .int (nI i))] := hl
  replace hP : va_P (dC, dI) vwCl [(c0, .inr (3, [.ref (ad 0), .ref (ae 0), .ref (ah 0), .ref (ax 0)])), ((ad 0), .inr (1, [.ref (ad 1), .ref (ad 2), .ref (ad 3), .ref (ad 4), .ref (ad 5), .ref (ad 6), .ref (ad 7), .ref (ad 8), .int (zc0 σ), .int (zc1 σ), .int (zc2 σ), .int (zc3 σ), .int (zc4 σ)])), ((ad 1), .inl (cI, 18, .inl (zhd σ))), ((ad 2), .inl (cI, 234, .inl (zwn σ))), ((ad 3), .inl (cI, 18, .inl (zwi σ))), ((ad 4), .inl (cI, 16, .inl (fun w => nI (zpl σ w)))), ((ad 5), .inl (cI, 16, .inl (zwh σ))), ((ad 6), .inl (cI, 16, .inl (zwo σ))), ((ad 7), .inl (cI, 16, .inl (zmo σ))), ((ad 8), .inl (cI, 2, .inl (zst σ)))] s.heap := hP
  have hf10 := hts (.fieldLink RX3 10 "InsideOutWords" "now" "LInsideOutWords$State;") (by decide +kernel)
  have hnX3 : ∀ w ∈ u_ws RX3 TX3 4, w ∈ wsX3_wearOf := by decide +kernel
  refine lv_iload_n hx hb dX3_wearOf_0 rfl (lv_at hl 1 rfl) ?_
  refine z_cSv (As := [.int (nI j)]) (rest := []) ⟨hx, hb, hml, hown, hts⟩ (k_X3_needSlot l dC dI (nI j) (nI_io (b := 17) (by omega) (by decide))) (va_cwS 1 hts gX3_wearOf_X3_needSlot rfl rfl rfl (by decide +kernel) ⟨Nat.le_of_ble_eq_true rfl, Nat.le_of_ble_eq_true rfl⟩) (hP.sub (ws' := []) [] rfl) (hK.sub (tys' := []) [] rfl) rfl hl.1 rfl (Nat.le_of_ble_eq_true rfl) dX3_wearOf_1 ⟨Nat.le_of_ble_eq_true rfl, Nat.le_of_ble_eq_true rfl⟩ ?_
  refine lv_iload_n hx hb dX3_wearOf_4 rfl (lv_at hl 2 rfl) ?_
  refine z_cSv (As := [.int (nI i)]) (rest := []) ⟨hx, hb, hml, hown, hts⟩ (k_X3_needCell l dC dI (nI i) (nI_io (b := 12) (by omega) (by decide))) (va_cwS 1 hts gX3_wearOf_X3_needCell rfl rfl rfl (by decide +kernel) ⟨Nat.le_of_ble_eq_true rfl, Nat.le_of_ble_eq_true rfl⟩) (hP.sub (ws' := []) [] rfl) (hK.sub (tys' := []) [] rfl) rfl hl.1 rfl (Nat.le_of_ble_eq_true rfl) dX3_wearOf_5 ⟨Nat.le_of_ble_eq_true rfl, Nat.le_of_ble_eq_true rfl⟩ ?_
  refine lv_aload_n hx hb dX3_wearOf_8 rfl (lv_at hl 0 rfl) ?_
  refine va_get (D := (dC, dI)) (ci := 3) (v := .ref (ad 0)) (C := RX3) (T := TX3) (N := 4) hx hb hts hnX3 hown hK hP 0 rfl rfl 0 (by decide) hf10 (fun _ h9 => h9) rfl dX3_wearOf_9 ?_
  refine lv_iload_n hx hb dX3_wearOf_12 rfl (lv_at hl 1 rfl) ?_
  refine lv_iload_n hx hb dX3_wearOf_13 rfl (lv_at hl 2 rfl) ?_
  refine z_cVi (As := [.int (nI j), .int (nI i)]) (rest := []) ⟨hx, hb, hml, hown, hts⟩ (k_X1_wornAt l dC dI ad cI σ hok j (by omega) i (by omega)) (cwV 2 hts gX3_wearOf_X1_wornAt rfl rfl rfl (by decide +kernel) ⟨Nat.le_of_ble_eq_true rfl, Nat.le_of_ble_eq_true rfl⟩) (va_recv hK hP (ci := 1) (q0 := 1) rfl rfl) (hP.sub (ws' := zW ad cI σ) [1, 2, 3, 4, 5, 6, 7, 8, 9] rfl) (hK.sub (tys' := [(cI, .int)]) [0] rfl) rfl hl.1 rfl (Nat.le_of_ble_eq_true rfl) dX3_wearOf_14 ⟨Nat.le_of_ble_eq_true rfl, Nat.le_of_ble_eq_true rfl⟩ (fun r_1 hr_1 => ?_)
  subst hr_1
  exact hend _ _ _ rfl dX3_wearOf_17

abbrev rX3_setting : Room := { frames := 2, cells := 0, slots := 0, locals := 42 }
set_option maxHeartbeats 4000000 in
set_option maxRecDepth 100000 in
theorem k_X3_setting (l : Launch) (dC : Nat → ClassId) (dI : Nat → Nat → Nat) (c0 : Nat) (ad ae ah ax : Nat → Nat) (cI : ClassId) (σ : zS) (hok : zok σ) (j : Nat) (hj : j < 2) : zRi l yX3_setting wsX3_setting rX3_setting (dC, dI) [.ref c0, .int (nI j)] (zCo c0 ad ae ah ax ++ zW ad cI σ) [(cI, .int)] (fun r => r = zst σ j) := by
  refine zRi_of (cc := cX3_setting) (maxL := 2) (ty := .int) (by decide) rfl (Nat.le_of_ble_eq_true rfl) (fun _ _ => rfl) ?_
  intro p e s m args below meth cd Q ls hat hP hK hend
  obtain ⟨hx, hb, hml, hown, hts, hl⟩ := hat
  replace hown : s.vm.findClass RX3 = some m.cls := hown
  replace hl : lv_has ls 2 [(0, .ref c0), (1, .int (nI j))] := hl
  replace hP : va_P (dC, dI) vwCl [(c0, .inr (3, [.ref (ad 0), .ref (ae 0), .ref (ah 0), .ref (ax 0)])), ((ad 0), .inr (1, [.ref (ad 1), .ref (ad 2), .ref (ad 3), .ref (ad 4), .ref (ad 5), .ref (ad 6), .ref (ad 7), .ref (ad 8), .int (zc0 σ), .int (zc1 σ), .int (zc2 σ), .int (zc3 σ), .int (zc4 σ)])), ((ad 1), .inl (cI, 18, .inl (zhd σ))), ((ad 2), .inl (cI, 234, .inl (zwn σ))), ((ad 3), .inl (cI, 18, .inl (zwi σ))), ((ad 4), .inl (cI, 16, .inl (fun w => nI (zpl σ w)))), ((ad 5), .inl (cI, 16, .inl (zwh σ))), ((ad 6), .inl (cI, 16, .inl (zwo σ))), ((ad 7), .inl (cI, 16, .inl (zmo σ))), ((ad 8), .inl (cI, 2, .inl (zst σ)))] s.heap := hP
  have hf10 := hts (.fieldLink RX3 10 "InsideOutWords" "now" "LInsideOutWords$State;") (by decide +kernel)
  have hnX3 : ∀ w ∈ u_ws RX3 TX3 4, w ∈ wsX3_setting := by decide +kernel
  have hf101 := hts (.fieldLink RX3 101 "InsideOutWords$State" "settings" "[I") (by decide +kernel)
  have hnX1 : ∀ w ∈ u_ws RX1 TX1 13, w ∈ wsX3_setting := by decide +kernel
  refine lv_iload_n hx hb dX3_setting_0 rfl (lv_at hl 1 rfl) ?_
  refine z_cSv (As := [.int (nI j)]) (rest := []) ⟨hx, hb, hml, hown, hts⟩ (k_X3_needSetting l dC dI (nI j) (nI_io (b := 1) (by omega) (by decide))) (va_cwS 1 hts gX3_setting_X3_needSetting rfl rfl rfl (by decide +kernel) ⟨Nat.le_of_ble_eq_true rfl, Nat.le_of_ble_eq_true rfl⟩) (hP.sub (ws' := []) [] rfl) (hK.sub (tys' := []) [] rfl) rfl hl.1 rfl (Nat.le_of_ble_eq_true rfl) dX3_setting_1 ⟨Nat.le_of_ble_eq_true rfl, Nat.le_of_ble_eq_true rfl⟩ ?_
  refine lv_aload_n hx hb dX3_setting_4 rfl (lv_at hl 0 rfl) ?_
  refine va_get (D := (dC, dI)) (ci := 3) (v := .ref (ad 0)) (C := RX3) (T := TX3) (N := 4) hx hb hts hnX3 hown hK hP 0 rfl rfl 0 (by decide) hf10 (fun _ h9 => h9) rfl dX3_setting_5 ?_
  refine va_get (D := (dC, dI)) (ci := 1) (v := .ref (ad 8)) (C := RX1) (T := TX1) (N := 13) hx hb hts hnX1 hown hK hP 1 rfl rfl 7 (by decide) hf101 (fun _ h9 => h9) rfl dX3_setting_8 ?_
  refine lv_iload_n hx hb dX3_setting_11 rfl (lv_at hl 1 rfl) ?_
  refine z_ald hx hb hK hP 9 0 j (f := (zst σ)) rfl rfl (by first | omega | decide) (by first | decide | omega) dX3_setting_12 ?_
  exact hend _ _ _ rfl dX3_setting_13

abbrev rX3_ifWritten : Room := { frames := 4, cells := 0, slots := 0, locals := 101 }
set_option maxHeartbeats 4000000 in
set_option maxRecDepth 100000 in
theorem k_X3_ifWritten (l : Launch) (dC : Nat → ClassId) (dI : Nat → Nat → Nat) (c0 : Nat) (ad ae ah ax : Nat → Nat) (cI : ClassId) (σ : zS) (hok : zok σ) (j : Nat) (hj : j < 16) (v : Nat) (hv : v < 4096) : zRi l yX3_ifWritten wsX3_ifWritten rX3_ifWritten (dC, dI) [.ref c0, .int (nI j), .int (nI v)] (zCo c0 ad ae ah ax ++ zW ad cI σ) [(cI, .int)] (fun r => r = zo (ptg σ j (nI v))) := by
  refine zRi_of (cc := cX3_ifWritten) (maxL := 3) (ty := .int) (by decide) rfl (Nat.le_of_ble_eq_true rfl) (fun _ _ => rfl) ?_
  intro p e s m args below meth cd Q ls hat hP hK hend
  obtain ⟨hx, hb, hml, hown, hts, hl⟩ := hat
  replace hown : s.vm.findClass RX3 = some m.cls := hown
  replace hl : lv_has ls 3 [(0, .ref c0), (1, .int (nI j)), (2, .int (nI v))] := hl
  replace hP : va_P (dC, dI) vwCl [(c0, .inr (3, [.ref (ad 0), .ref (ae 0), .ref (ah 0), .ref (ax 0)])), ((ad 0), .inr (1, [.ref (ad 1), .ref (ad 2), .ref (ad 3), .ref (ad 4), .ref (ad 5), .ref (ad 6), .ref (ad 7), .ref (ad 8), .int (zc0 σ), .int (zc1 σ), .int (zc2 σ), .int (zc3 σ), .int (zc4 σ)])), ((ad 1), .inl (cI, 18, .inl (zhd σ))), ((ad 2), .inl (cI, 234, .inl (zwn σ))), ((ad 3), .inl (cI, 18, .inl (zwi σ))), ((ad 4), .inl (cI, 16, .inl (fun w => nI (zpl σ w)))), ((ad 5), .inl (cI, 16, .inl (zwh σ))), ((ad 6), .inl (cI, 16, .inl (zwo σ))), ((ad 7), .inl (cI, 16, .inl (zmo σ))), ((ad 8), .inl (cI, 2, .inl (zst σ)))] s.heap := hP
  have hf10 := hts (.fieldLink RX3 10 "InsideOutWords" "now" "LInsideOutWords$State;") (by decide +kernel)
  have hnX3 : ∀ w ∈ u_ws RX3 TX3 4, w ∈ wsX3_ifWritten := by decide +kernel
  refine lv_iload_n hx hb dX3_ifWritten_0 rfl (lv_at hl 1 rfl) ?_
  refine z_cSv (As := [.int (nI j)]) (rest := []) ⟨hx, hb, hml, hown, hts⟩ (k_X3_needWord l dC dI (nI j) (nI_io (b := 15) (by omega) (by decide))) (va_cwS 1 hts gX3_ifWritten_X3_needWord rfl rfl rfl (by decide +kernel) ⟨Nat.le_of_ble_eq_true rfl, Nat.le_of_ble_eq_true rfl⟩) (hP.sub (ws' := []) [] rfl) (hK.sub (tys' := []) [] rfl) rfl hl.1 rfl (Nat.le_of_ble_eq_true rfl) dX3_ifWritten_1 ⟨Nat.le_of_ble_eq_true rfl, Nat.le_of_ble_eq_true rfl⟩ ?_
  refine lv_iload_n hx hb dX3_ifWritten_4 rfl (lv_at hl 2 rfl) ?_
  refine z_cSv (As := [.int (nI v)]) (rest := []) ⟨hx, hb, hml, hown, hts⟩ (k_X3_needNumber l dC dI (nI v) (nI_io (b := 4095) (by omega) (by decide))) (va_cwS 1 hts gX3_ifWritten_X3_needNumber rfl rfl rfl (by decide +kernel) ⟨Nat.le_of_ble_eq_true rfl, Nat.le_of_ble_eq_true rfl⟩) (hP.sub (ws' := []) [] rfl) (hK.sub (tys' := []) [] rfl) rfl hl.1 rfl (Nat.le_of_ble_eq_true rfl) dX3_ifWritten_5 ⟨Nat.le_of_ble_eq_true rfl, Nat.le_of_ble_eq_true rfl⟩ ?_
  refine lv_aload_n hx hb dX3_ifWritten_8 rfl (lv_at hl 0 rfl) ?_
  refine va_get (D := (dC, dI)) (ci := 3) (v := .ref (ad 0)) (C := RX3) (T := TX3) (N := 4) hx hb hts hnX3 hown hK hP 0 rfl rfl 0 (by decide) hf10 (fun _ h9 => h9) rfl dX3_ifWritten_9 ?_
  refine lv_iload_n hx hb dX3_ifWritten_12 rfl (lv_at hl 1 rfl) ?_
  refine lv_iload_n hx hb dX3_ifWritten_13 rfl (lv_at hl 2 rfl) ?_
  refine z_cVi (As := [.int (nI j), .int (nI v)]) (rest := []) ⟨hx, hb, hml, hown, hts⟩ (k_X1_targetOf l dC dI ad cI σ hok j (by omega) (nI v)) (cwV 2 hts gX3_ifWritten_X1_targetOf rfl rfl rfl (by decide +kernel) ⟨Nat.le_of_ble_eq_true rfl, Nat.le_of_ble_eq_true rfl⟩) (va_recv hK hP (ci := 1) (q0 := 1) rfl rfl) (hP.sub (ws' := zW ad cI σ) [1, 2, 3, 4, 5, 6, 7, 8, 9] rfl) (hK.sub (tys' := [(cI, .int)]) [0] rfl) rfl hl.1 rfl (Nat.le_of_ble_eq_true rfl) dX3_ifWritten_14 ⟨Nat.le_of_ble_eq_true rfl, Nat.le_of_ble_eq_true rfl⟩ (fun r_1 hr_1 => ?_)
  obtain ⟨o_2, eo_2⟩ : ∃ zz : Option Nat, zz = ptg σ j (nI v) := ⟨_, rfl⟩
  rw [← eo_2] at hr_1
  subst hr_1
  have hbo_2 : ∀ i, o_2 = some i → i < 18 := by rw [eo_2]; exact ptg_lt (hok _ (by omega))
  exact hend _ _ _ (congrArg zo eo_2) dX3_ifWritten_17

abbrev rX3_cost : Room := { frames := 2, cells := 0, slots := 0, locals := 53 }
set_option maxHeartbeats 4000000 in
set_option maxRecDepth 100000 in
theorem k_X3_cost (l : Launch) (dC : Nat → ClassId) (dI : Nat → Nat → Nat) (c0 : Nat) (ad ae ah ax : Nat → Nat) (cI : ClassId) (σ : zS) (hok : zok σ) (j : Nat) (hj : j < 18) (v : Nat) (hv : v < 4096) : zRi l yX3_cost wsX3_cost rX3_cost (dC, dI) [.ref c0, .int (nI j), .int (nI v)] (zCo c0 ad ae ah ax ++ zW ad cI σ) [(cI, .int)] (fun r => r = if pwy σ j (nI v) = -1 then -1 else pBC (zhd σ j ^^^ pwy σ j (nI v))) := by
  refine zRi_of (cc := cX3_cost) (maxL := 4) (ty := .int) (by decide) rfl (Nat.le_of_ble_eq_true rfl) (fun _ _ => rfl) ?_
  intro p e s m args below meth cd Q ls hat hP hK hend
  obtain ⟨hx, hb, hml, hown, hts, hl⟩ := hat
  replace hown : s.vm.findClass RX3 = some m.cls := hown
  replace hl : lv_has ls 4 [(0, .ref c0), (1, .int (nI j)), (2, .int (nI v))] := hl
  replace hP : va_P (dC, dI) vwCl [(c0, .inr (3, [.ref (ad 0), .ref (ae 0), .ref (ah 0), .ref (ax 0)])), ((ad 0), .inr (1, [.ref (ad 1), .ref (ad 2), .ref (ad 3), .ref (ad 4), .ref (ad 5), .ref (ad 6), .ref (ad 7), .ref (ad 8), .int (zc0 σ), .int (zc1 σ), .int (zc2 σ), .int (zc3 σ), .int (zc4 σ)])), ((ad 1), .inl (cI, 18, .inl (zhd σ))), ((ad 2), .inl (cI, 234, .inl (zwn σ))), ((ad 3), .inl (cI, 18, .inl (zwi σ))), ((ad 4), .inl (cI, 16, .inl (fun w => nI (zpl σ w)))), ((ad 5), .inl (cI, 16, .inl (zwh σ))), ((ad 6), .inl (cI, 16, .inl (zwo σ))), ((ad 7), .inl (cI, 16, .inl (zmo σ))), ((ad 8), .inl (cI, 2, .inl (zst σ)))] s.heap := hP
  have hf10 := hts (.fieldLink RX3 10 "InsideOutWords" "now" "LInsideOutWords$State;") (by decide +kernel)
  have hnX3 : ∀ w ∈ u_ws RX3 TX3 4, w ∈ wsX3_cost := by decide +kernel
  have hf159 := hts (.fieldLink RX3 159 "InsideOutWords$State" "held" "[I") (by decide +kernel)
  have hnX1 : ∀ w ∈ u_ws RX1 TX1 13, w ∈ wsX3_cost := by decide +kernel
  refine lv_iload_n hx hb dX3_cost_0 rfl (lv_at hl 1 rfl) ?_
  refine z_cSv (As := [.int (nI j)]) (rest := []) ⟨hx, hb, hml, hown, hts⟩ (k_X3_needSlot l dC dI (nI j) (nI_io (b := 17) (by omega) (by decide))) (va_cwS 1 hts gX3_cost_X3_needSlot rfl rfl rfl (by decide +kernel) ⟨Nat.le_of_ble_eq_true rfl, Nat.le_of_ble_eq_true rfl⟩) (hP.sub (ws' := []) [] rfl) (hK.sub (tys' := []) [] rfl) rfl hl.1 rfl (Nat.le_of_ble_eq_true rfl) dX3_cost_1 ⟨Nat.le_of_ble_eq_true rfl, Nat.le_of_ble_eq_true rfl⟩ ?_
  refine lv_iload_n hx hb dX3_cost_4 rfl (lv_at hl 2 rfl) ?_
  refine z_cSv (As := [.int (nI v)]) (rest := []) ⟨hx, hb, hml, hown, hts⟩ (k_X3_needNumber l dC dI (nI v) (nI_io (b := 4095) (by omega) (by decide))) (va_cwS 1 hts gX3_cost_X3_needNumber rfl rfl rfl (by decide +kernel) ⟨Nat.le_of_ble_eq_true rfl, Nat.le_of_ble_eq_true rfl⟩) (hP.sub (ws' := []) [] rfl) (hK.sub (tys' := []) [] rfl) rfl hl.1 rfl (Nat.le_of_ble_eq_true rfl) dX3_cost_5 ⟨Nat.le_of_ble_eq_true rfl, Nat.le_of_ble_eq_true rfl⟩ ?_
  refine lv_aload_n hx hb dX3_cost_8 rfl (lv_at hl 0 rfl) ?_
  refine va_get (D := (dC, dI)) (ci := 3) (v := .ref (ad 0)) (C := RX3) (T := TX3) (N := 4) hx hb hts hnX3 hown hK hP 0 rfl rfl 0 (by decide) hf10 (fun _ h9 => h9) rfl dX3_cost_9 ?_
  refine lv_iload_n hx hb dX3_cost_12 rfl (lv_at hl 1 rfl) ?_
  refine lv_iload_n hx hb dX3_cost_13 rfl (lv_at hl 2 rfl) ?_
  refine z_cVi (As := [.int (nI j), .int (nI v)]) (rest := []) ⟨hx, hb, hml, hown, hts⟩ (k_X1_wayIn l dC dI ad cI σ hok j (by omega) (nI v)) (cwV 2 hts gX3_cost_X1_wayIn rfl rfl rfl (by decide +kernel) ⟨Nat.le_of_ble_eq_true rfl, Nat.le_of_ble_eq_true rfl⟩) (va_recv hK hP (ci := 1) (q0 := 1) rfl rfl) (hP.sub (ws' := zW ad cI σ) [1, 2, 3, 4, 5, 6, 7, 8, 9] rfl) (hK.sub (tys' := [(cI, .int)]) [0] rfl) rfl hl.1 rfl (Nat.le_of_ble_eq_true rfl) dX3_cost_14 ⟨Nat.le_of_ble_eq_true rfl, Nat.le_of_ble_eq_true rfl⟩ (fun r_1 hr_1 => ?_)
  subst hr_1
  refine lv_istore_n (lv' := [(3, .int (pwy σ j (nI v))), (0, .ref c0), (1, .int (nI j)), (2, .int (nI v))]) hx hb dX3_cost_17 rfl hl (by decide) rfl (fun ls hl => ?_)
  refine lv_iload_n hx hb dX3_cost_18 rfl (lv_at hl 0 rfl) ?_
  refine lv_iconst (v := (-1)) hx hb dX3_cost_19 (by decide) ?_
  refine lv_icmp_ne (tgt := 27) hx hb dX3_cost_20 (by decide) (fun c_2 => ?_) (fun c_2 => ?_)
  · skip
    refine lv_aload_n hx hb dX3_cost_27 rfl (lv_at hl 1 rfl) ?_
    refine va_get (D := (dC, dI)) (ci := 3) (v := .ref (ad 0)) (C := RX3) (T := TX3) (N := 4) hx hb hts hnX3 hown hK hP 0 rfl rfl 0 (by decide) hf10 (fun _ h9 => h9) rfl dX3_cost_28 ?_
    refine va_get (D := (dC, dI)) (ci := 1) (v := .ref (ad 1)) (C := RX1) (T := TX1) (N := 13) hx hb hts hnX1 hown hK hP 1 rfl rfl 0 (by decide) hf159 (fun _ h9 => h9) rfl dX3_cost_31 ?_
    refine lv_iload_n hx hb dX3_cost_34 rfl (lv_at hl 2 rfl) ?_
    refine z_ald hx hb hK hP 2 0 j (f := (zhd σ)) rfl rfl (by first | omega | decide) (by first | decide | omega) dX3_cost_35 ?_
    refine lv_iload_n hx hb dX3_cost_36 rfl (lv_at hl 0 rfl) ?_
    refine lv_ixor hx hb dX3_cost_37 ?_
    refine z_cSi (As := [.int (((zhd σ) j) ^^^ (pwy σ j (nI v)))]) (rest := []) ⟨hx, hb, hml, hown, hts⟩ (k_J6_bitCount_0f7a4 l dC dI (((zhd σ) j) ^^^ (pwy σ j (nI v)))) (va_cwS 1 hts gX3_cost_J6_bitCount_0f7a4 rfl rfl rfl (by decide +kernel) ⟨Nat.le_of_ble_eq_true rfl, Nat.le_of_ble_eq_true rfl⟩) (hP.sub (ws' := []) [] rfl) (hK.sub (tys' := []) [] rfl) rfl hl.1 rfl (Nat.le_of_ble_eq_true rfl) dX3_cost_38 ⟨Nat.le_of_ble_eq_true rfl, Nat.le_of_ble_eq_true rfl⟩ (fun r_3 hr_3 => ?_)
    subst hr_3
    exact hend _ _ _ (by simp only [c_2, if_true, if_false]) dX3_cost_41
  · skip
    refine lv_iconst (v := (-1)) hx hb dX3_cost_23 (by decide) ?_
    refine lv_goto (tgt := 41) hx hb dX3_cost_24 (by decide) ?_
    exact hend _ _ _ (by simp only [c_2, if_true, if_false]) dX3_cost_41

abbrev rX3_word : Room := { frames := 2, cells := 0, slots := 0, locals := 43 }
set_option maxHeartbeats 4000000 in
set_option maxRecDepth 100000 in
theorem k_X3_word (l : Launch) (dC : Nat → ClassId) (dI : Nat → Nat → Nat) (c0 : Nat) (ad ae ah ax : Nat → Nat) (cI : ClassId) (σ : zS) (hok : zok σ) (j : Nat) (hj : j < 16) (q : Nat) (hq : q < 5) : zRi l yX3_word wsX3_word rX3_word (dC, dI) [.ref c0, .int (nI j), .int (nI q)] (zCo c0 ad ae ah ax ++ zW ad cI σ) [(cI, .int)] (fun r => r = vWord σ j q) := by
  refine zRi_of (cc := cX3_word) (maxL := 3) (ty := .int) (by decide) rfl (Nat.le_of_ble_eq_true rfl) (fun _ _ => rfl) ?_
  intro p e s m args below meth cd Q ls hat hP hK hend
  obtain ⟨hx, hb, hml, hown, hts, hl⟩ := hat
  replace hown : s.vm.findClass RX3 = some m.cls := hown
  replace hl : lv_has ls 3 [(0, .ref c0), (1, .int (nI j)), (2, .int (nI q))] := hl
  replace hP : va_P (dC, dI) vwCl [(c0, .inr (3, [.ref (ad 0), .ref (ae 0), .ref (ah 0), .ref (ax 0)])), ((ad 0), .inr (1, [.ref (ad 1), .ref (ad 2), .ref (ad 3), .ref (ad 4), .ref (ad 5), .ref (ad 6), .ref (ad 7), .ref (ad 8), .int (zc0 σ), .int (zc1 σ), .int (zc2 σ), .int (zc3 σ), .int (zc4 σ)])), ((ad 1), .inl (cI, 18, .inl (zhd σ))), ((ad 2), .inl (cI, 234, .inl (zwn σ))), ((ad 3), .inl (cI, 18, .inl (zwi σ))), ((ad 4), .inl (cI, 16, .inl (fun w => nI (zpl σ w)))), ((ad 5), .inl (cI, 16, .inl (zwh σ))), ((ad 6), .inl (cI, 16, .inl (zwo σ))), ((ad 7), .inl (cI, 16, .inl (zmo σ))), ((ad 8), .inl (cI, 2, .inl (zst σ)))] s.heap := hP
  have hf10 := hts (.fieldLink RX3 10 "InsideOutWords" "now" "LInsideOutWords$State;") (by decide +kernel)
  have hnX3 : ∀ w ∈ u_ws RX3 TX3 4, w ∈ wsX3_word := by decide +kernel
  have hf75 := hts (.fieldLink RX3 75 "InsideOutWords$State" "slotOf" "[I") (by decide +kernel)
  have hnX1 : ∀ w ∈ u_ws RX1 TX1 13, w ∈ wsX3_word := by decide +kernel
  have hf143 := hts (.fieldLink RX3 143 "InsideOutWords$State" "writesHere" "[I") (by decide +kernel)
  have hf146 := hts (.fieldLink RX3 146 "InsideOutWords$State" "writesOf" "[I") (by decide +kernel)
  have hf149 := hts (.fieldLink RX3 149 "InsideOutWords$State" "movesOf" "[I") (by decide +kernel)
  refine lv_iload_n hx hb dX3_word_0 rfl (lv_at hl 1 rfl) ?_
  refine z_cSv (As := [.int (nI j)]) (rest := []) ⟨hx, hb, hml, hown, hts⟩ (k_X3_needWord l dC dI (nI j) (nI_io (b := 15) (by omega) (by decide))) (va_cwS 1 hts gX3_word_X3_needWord rfl rfl rfl (by decide +kernel) ⟨Nat.le_of_ble_eq_true rfl, Nat.le_of_ble_eq_true rfl⟩) (hP.sub (ws' := []) [] rfl) (hK.sub (tys' := []) [] rfl) rfl hl.1 rfl (Nat.le_of_ble_eq_true rfl) dX3_word_1 ⟨Nat.le_of_ble_eq_true rfl, Nat.le_of_ble_eq_true rfl⟩ ?_
  refine lv_iload_n hx hb dX3_word_4 rfl (lv_at hl 2 rfl) ?_
  refine lv_iconst (v := 5) hx hb dX3_word_5 (by decide) ?_
  refine z_cSv (As := [.int (nI q), .int 5]) (rest := []) ⟨hx, hb, hml, hown, hts⟩ (k_X3_needWhat l dC dI (nI q) (5 : Int32) (nI_io (b := 4) (by omega) (by decide))) (va_cwS 2 hts gX3_word_X3_needWhat rfl rfl rfl (by decide +kernel) ⟨Nat.le_of_ble_eq_true rfl, Nat.le_of_ble_eq_true rfl⟩) (hP.sub (ws' := []) [] rfl) (hK.sub (tys' := []) [] rfl) rfl hl.1 rfl (Nat.le_of_ble_eq_true rfl) dX3_word_6 ⟨Nat.le_of_ble_eq_true rfl, Nat.le_of_ble_eq_true rfl⟩ ?_
  refine lv_iload_n hx hb dX3_word_9 rfl (lv_at hl 2 rfl) ?_
  rcases (show q = 0 ∨ q = 1 ∨ q = 2 ∨ q = 3 ∨ q = 4 by omega) with rfl | rfl | rfl | rfl | rfl
  · skip
    refine lv_tableIn (x := nI 0) (off := 30) (tgt := 40) hx hb dX3_word_10 (by decide) (by decide) rfl (by decide) ?_
    refine lv_aload_n hx hb dX3_word_40 rfl (lv_at hl 0 rfl) ?_
    refine va_get (D := (dC, dI)) (ci := 3) (v := .ref (ad 0)) (C := RX3) (T := TX3) (N := 4) hx hb hts hnX3 hown hK hP 0 rfl rfl 0 (by decide) hf10 (fun _ h9 => h9) rfl dX3_word_41 ?_
    refine va_get (D := (dC, dI)) (ci := 1) (v := .ref (ad 4)) (C := RX1) (T := TX1) (N := 13) hx hb hts hnX1 hown hK hP 1 rfl rfl 3 (by decide) hf75 (fun _ h9 => h9) rfl dX3_word_44 ?_
    refine lv_iload_n hx hb dX3_word_47 rfl (lv_at hl 1 rfl) ?_
    refine z_ald hx hb hK hP 5 0 j (f := (fun w => nI (zpl σ w))) rfl rfl (by first | omega | decide) (by first | decide | omega) dX3_word_48 ?_
    have hq_1 : zpl σ j < 18 := hok _ (by omega)
    exact hend _ _ _ rfl dX3_word_49
  · skip
    refine lv_tableIn (x := nI 1) (off := 40) (tgt := 50) hx hb dX3_word_10 (by decide) (by decide) rfl (by decide) ?_
    refine lv_aload_n hx hb dX3_word_50 rfl (lv_at hl 0 rfl) ?_
    refine va_get (D := (dC, dI)) (ci := 3) (v := .ref (ad 0)) (C := RX3) (T := TX3) (N := 4) hx hb hts hnX3 hown hK hP 0 rfl rfl 0 (by decide) hf10 (fun _ h9 => h9) rfl dX3_word_51 ?_
    refine va_get (D := (dC, dI)) (ci := 1) (v := .ref (ad 5)) (C := RX1) (T := TX1) (N := 13) hx hb hts hnX1 hown hK hP 1 rfl rfl 4 (by decide) hf143 (fun _ h9 => h9) rfl dX3_word_54 ?_
    refine lv_iload_n hx hb dX3_word_57 rfl (lv_at hl 1 rfl) ?_
    refine z_ald hx hb hK hP 6 0 j (f := (zwh σ)) rfl rfl (by first | omega | decide) (by first | decide | omega) dX3_word_58 ?_
    exact hend _ _ _ rfl dX3_word_59
  · skip
    refine lv_tableIn (x := nI 2) (off := 50) (tgt := 60) hx hb dX3_word_10 (by decide) (by decide) rfl (by decide) ?_
    refine lv_aload_n hx hb dX3_word_60 rfl (lv_at hl 0 rfl) ?_
    refine va_get (D := (dC, dI)) (ci := 3) (v := .ref (ad 0)) (C := RX3) (T := TX3) (N := 4) hx hb hts hnX3 hown hK hP 0 rfl rfl 0 (by decide) hf10 (fun _ h9 => h9) rfl dX3_word_61 ?_
    refine va_get (D := (dC, dI)) (ci := 1) (v := .ref (ad 6)) (C := RX1) (T := TX1) (N := 13) hx hb hts hnX1 hown hK hP 1 rfl rfl 5 (by decide) hf146 (fun _ h9 => h9) rfl dX3_word_64 ?_
    refine lv_iload_n hx hb dX3_word_67 rfl (lv_at hl 1 rfl) ?_
    refine z_ald hx hb hK hP 7 0 j (f := (zwo σ)) rfl rfl (by first | omega | decide) (by first | decide | omega) dX3_word_68 ?_
    exact hend _ _ _ rfl dX3_word_69
  · skip
    refine lv_tableIn (x := nI 3) (off := 60) (tgt := 70) hx hb dX3_word_10 (by decide) (by decide) rfl (by decide) ?_
    refine lv_aload_n hx hb dX3_word_70 rfl (lv_at hl 0 rfl) ?_
    refine va_get (D := (dC, dI)) (ci := 3) (v := .ref (ad 0)) (C := RX3) (T := TX3) (N := 4) hx hb hts hnX3 hown hK hP 0 rfl rfl 0 (by decide) hf10 (fun _ h9 => h9) rfl dX3_word_71 ?_
    refine va_get (D := (dC, dI)) (ci := 1) (v := .ref (ad 7)) (C := RX1) (T := TX1) (N := 13) hx hb hts hnX1 hown hK hP 1 rfl rfl 6 (by decide) hf149 (fun _ h9 => h9) rfl dX3_word_74 ?_
    refine lv_iload_n hx hb dX3_word_77 rfl (lv_at hl 1 rfl) ?_
    refine z_ald hx hb hK hP 8 0 j (f := (zmo σ)) rfl rfl (by first | omega | decide) (by first | decide | omega) dX3_word_78 ?_
    exact hend _ _ _ rfl dX3_word_79
  · skip
    refine lv_tableOut (x := nI 4) (tgt := 80) hx hb dX3_word_10 (by decide) (by decide) ?_
    refine lv_aload_n hx hb dX3_word_80 rfl (lv_at hl 0 rfl) ?_
    refine va_get (D := (dC, dI)) (ci := 3) (v := .ref (ad 0)) (C := RX3) (T := TX3) (N := 4) hx hb hts hnX3 hown hK hP 0 rfl rfl 0 (by decide) hf10 (fun _ h9 => h9) rfl dX3_word_81 ?_
    refine lv_iload_n hx hb dX3_word_84 rfl (lv_at hl 1 rfl) ?_
    refine z_cVi (As := [.int (nI j)]) (rest := []) ⟨hx, hb, hml, hown, hts⟩ (k_X1_isHot l dC dI ad cI σ hok j (by omega)) (cwV 1 hts gX3_word_X1_isHot rfl rfl rfl (by decide +kernel) ⟨Nat.le_of_ble_eq_true rfl, Nat.le_of_ble_eq_true rfl⟩) (va_recv hK hP (ci := 1) (q0 := 1) rfl rfl) (hP.sub (ws' := zW ad cI σ) [1, 2, 3, 4, 5, 6, 7, 8, 9] rfl) (hK.sub (tys' := [(cI, .int)]) [0] rfl) rfl hl.1 rfl (Nat.le_of_ble_eq_true rfl) dX3_word_85 ⟨Nat.le_of_ble_eq_true rfl, Nat.le_of_ble_eq_true rfl⟩ (fun r_2 hr_2 => ?_)
    have hJ_3 : ∀ b_3 : Int32, b_3 = (if pht σ j then 1 else 0) → W p l e rX3_word s m args below meth cd s.heap [] 0 0 Q (F0 m 96 ls (.int b_3 :: [])) := by
      intro b_3 eb_3
      exact hend _ _ _ eb_3 dX3_word_96
    refine z_ifeqB hx hb hr_2 (tgt := 95) dX3_word_88 (by decide) (fun c_3 => ?_) (fun c_3 => ?_)
    · refine lv_iconst (v := 0) hx hb dX3_word_95 (by decide) ?_
      exact hJ_3 _ (if_neg c_3).symm
    · refine lv_iconst (v := 1) hx hb dX3_word_91 (by decide) ?_
      refine lv_goto (tgt := 96) hx hb dX3_word_92 (by decide) ?_
      exact hJ_3 _ (if_pos c_3).symm

abbrev rX3_slot : Room := { frames := 2, cells := 0, slots := 0, locals := 45 }
set_option maxHeartbeats 4000000 in
set_option maxRecDepth 100000 in
theorem k_X3_slot (l : Launch) (dC : Nat → ClassId) (dI : Nat → Nat → Nat) (c0 : Nat) (ad ae ah ax : Nat → Nat) (cI : ClassId) (σ : zS) (hok : zok σ) (j : Nat) (hj : j < 18) (q : Nat) (hq : q < 6) : zRi l yX3_slot wsX3_slot rX3_slot (dC, dI) [.ref c0, .int (nI j), .int (nI q)] (zCo c0 ad ae ah ax ++ zW ad cI σ) [(cI, .int)] (fun r => r = vSlot σ j q) := by
  refine zRi_of (cc := cX3_slot) (maxL := 3) (ty := .int) (by decide) rfl (Nat.le_of_ble_eq_true rfl) (fun _ _ => rfl) ?_
  intro p e s m args below meth cd Q ls hat hP hK hend
  obtain ⟨hx, hb, hml, hown, hts, hl⟩ := hat
  replace hown : s.vm.findClass RX3 = some m.cls := hown
  replace hl : lv_has ls 3 [(0, .ref c0), (1, .int (nI j)), (2, .int (nI q))] := hl
  replace hP : va_P (dC, dI) vwCl [(c0, .inr (3, [.ref (ad 0), .ref (ae 0), .ref (ah 0), .ref (ax 0)])), ((ad 0), .inr (1, [.ref (ad 1), .ref (ad 2), .ref (ad 3), .ref (ad 4), .ref (ad 5), .ref (ad 6), .ref (ad 7), .ref (ad 8), .int (zc0 σ), .int (zc1 σ), .int (zc2 σ), .int (zc3 σ), .int (zc4 σ)])), ((ad 1), .inl (cI, 18, .inl (zhd σ))), ((ad 2), .inl (cI, 234, .inl (zwn σ))), ((ad 3), .inl (cI, 18, .inl (zwi σ))), ((ad 4), .inl (cI, 16, .inl (fun w => nI (zpl σ w)))), ((ad 5), .inl (cI, 16, .inl (zwh σ))), ((ad 6), .inl (cI, 16, .inl (zwo σ))), ((ad 7), .inl (cI, 16, .inl (zmo σ))), ((ad 8), .inl (cI, 2, .inl (zst σ)))] s.heap := hP
  have hf10 := hts (.fieldLink RX3 10 "InsideOutWords" "now" "LInsideOutWords$State;") (by decide +kernel)
  have hnX3 : ∀ w ∈ u_ws RX3 TX3 4, w ∈ wsX3_slot := by decide +kernel
  have hf156 := hts (.fieldLink RX3 156 "InsideOutWords$State" "wordIn" "[I") (by decide +kernel)
  have hnX1 : ∀ w ∈ u_ws RX1 TX1 13, w ∈ wsX3_slot := by decide +kernel
  have hf159 := hts (.fieldLink RX3 159 "InsideOutWords$State" "held" "[I") (by decide +kernel)
  refine lv_iload_n hx hb dX3_slot_0 rfl (lv_at hl 1 rfl) ?_
  refine z_cSv (As := [.int (nI j)]) (rest := []) ⟨hx, hb, hml, hown, hts⟩ (k_X3_needSlot l dC dI (nI j) (nI_io (b := 17) (by omega) (by decide))) (va_cwS 1 hts gX3_slot_X3_needSlot rfl rfl rfl (by decide +kernel) ⟨Nat.le_of_ble_eq_true rfl, Nat.le_of_ble_eq_true rfl⟩) (hP.sub (ws' := []) [] rfl) (hK.sub (tys' := []) [] rfl) rfl hl.1 rfl (Nat.le_of_ble_eq_true rfl) dX3_slot_1 ⟨Nat.le_of_ble_eq_true rfl, Nat.le_of_ble_eq_true rfl⟩ ?_
  refine lv_iload_n hx hb dX3_slot_4 rfl (lv_at hl 2 rfl) ?_
  refine lv_bipush (v := 6) hx hb dX3_slot_5 (by decide) ?_
  refine z_cSv (As := [.int (nI q), .int 6]) (rest := []) ⟨hx, hb, hml, hown, hts⟩ (k_X3_needWhat l dC dI (nI q) (6 : Int32) (nI_io (b := 5) (by omega) (by decide))) (va_cwS 2 hts gX3_slot_X3_needWhat rfl rfl rfl (by decide +kernel) ⟨Nat.le_of_ble_eq_true rfl, Nat.le_of_ble_eq_true rfl⟩) (hP.sub (ws' := []) [] rfl) (hK.sub (tys' := []) [] rfl) rfl hl.1 rfl (Nat.le_of_ble_eq_true rfl) dX3_slot_7 ⟨Nat.le_of_ble_eq_true rfl, Nat.le_of_ble_eq_true rfl⟩ ?_
  refine lv_iload_n hx hb dX3_slot_10 rfl (lv_at hl 2 rfl) ?_
  rcases (show q = 0 ∨ q = 1 ∨ q = 2 ∨ q = 3 ∨ q = 4 ∨ q = 5 by omega) with rfl | rfl | rfl | rfl | rfl | rfl
  · skip
    refine lv_tableIn (x := nI 0) (off := 33) (tgt := 44) hx hb dX3_slot_11 (by decide) (by decide) rfl (by decide) ?_
    refine lv_aload_n hx hb dX3_slot_44 rfl (lv_at hl 0 rfl) ?_
    refine va_get (D := (dC, dI)) (ci := 3) (v := .ref (ad 0)) (C := RX3) (T := TX3) (N := 4) hx hb hts hnX3 hown hK hP 0 rfl rfl 0 (by decide) hf10 (fun _ h9 => h9) rfl dX3_slot_45 ?_
    refine va_get (D := (dC, dI)) (ci := 1) (v := .ref (ad 3)) (C := RX1) (T := TX1) (N := 13) hx hb hts hnX1 hown hK hP 1 rfl rfl 2 (by decide) hf156 (fun _ h9 => h9) rfl dX3_slot_48 ?_
    refine lv_iload_n hx hb dX3_slot_51 rfl (lv_at hl 1 rfl) ?_
    refine z_ald hx hb hK hP 4 0 j (f := (zwi σ)) rfl rfl (by first | omega | decide) (by first | decide | omega) dX3_slot_52 ?_
    exact hend _ _ _ rfl dX3_slot_53
  · skip
    refine lv_tableIn (x := nI 1) (off := 43) (tgt := 54) hx hb dX3_slot_11 (by decide) (by decide) rfl (by decide) ?_
    refine lv_aload_n hx hb dX3_slot_54 rfl (lv_at hl 0 rfl) ?_
    refine va_get (D := (dC, dI)) (ci := 3) (v := .ref (ad 0)) (C := RX3) (T := TX3) (N := 4) hx hb hts hnX3 hown hK hP 0 rfl rfl 0 (by decide) hf10 (fun _ h9 => h9) rfl dX3_slot_55 ?_
    refine va_get (D := (dC, dI)) (ci := 1) (v := .ref (ad 1)) (C := RX1) (T := TX1) (N := 13) hx hb hts hnX1 hown hK hP 1 rfl rfl 0 (by decide) hf159 (fun _ h9 => h9) rfl dX3_slot_58 ?_
    refine lv_iload_n hx hb dX3_slot_61 rfl (lv_at hl 1 rfl) ?_
    refine z_ald hx hb hK hP 2 0 j (f := (zhd σ)) rfl rfl (by first | omega | decide) (by first | decide | omega) dX3_slot_62 ?_
    refine lv_sipush (v := 4095) hx hb dX3_slot_63 (by decide) ?_
    refine lv_iand hx hb dX3_slot_66 ?_
    exact hend _ _ _ rfl dX3_slot_67
  · skip
    refine lv_tableIn (x := nI 2) (off := 57) (tgt := 68) hx hb dX3_slot_11 (by decide) (by decide) rfl (by decide) ?_
    refine lv_aload_n hx hb dX3_slot_68 rfl (lv_at hl 0 rfl) ?_
    refine va_get (D := (dC, dI)) (ci := 3) (v := .ref (ad 0)) (C := RX3) (T := TX3) (N := 4) hx hb hts hnX3 hown hK hP 0 rfl rfl 0 (by decide) hf10 (fun _ h9 => h9) rfl dX3_slot_69 ?_
    refine va_get (D := (dC, dI)) (ci := 1) (v := .ref (ad 1)) (C := RX1) (T := TX1) (N := 13) hx hb hts hnX1 hown hK hP 1 rfl rfl 0 (by decide) hf159 (fun _ h9 => h9) rfl dX3_slot_72 ?_
    refine lv_iload_n hx hb dX3_slot_75 rfl (lv_at hl 1 rfl) ?_
    refine z_ald hx hb hK hP 2 0 j (f := (zhd σ)) rfl rfl (by first | omega | decide) (by first | decide | omega) dX3_slot_76 ?_
    refine lv_sipush (v := 4096) hx hb dX3_slot_77 (by decide) ?_
    refine lv_iand hx hb dX3_slot_80 ?_
    have hJ_1 : ∀ b_1 : Int32, b_1 = (if ¬ ((((zhd σ) j) &&& 4096) = 0) then 1 else 0) → W p l e rX3_slot s m args below meth cd s.heap [] 0 0 Q (F0 m 89 ls (.int b_1 :: [])) := by
      intro b_1 eb_1
      exact hend _ _ _ (eb_1.trans z_ite_not) dX3_slot_89
    refine lv_if_eq (tgt := 88) hx hb dX3_slot_81 (by decide) (fun c_1 => ?_) (fun c_1 => ?_)
    · refine lv_iconst (v := 0) hx hb dX3_slot_88 (by decide) ?_
      exact hJ_1 _ (if_neg (fun z => z c_1)).symm
    · refine lv_iconst (v := 1) hx hb dX3_slot_84 (by decide) ?_
      refine lv_goto (tgt := 89) hx hb dX3_slot_85 (by decide) ?_
      exact hJ_1 _ (if_pos c_1).symm
  · skip
    refine lv_tableIn (x := nI 3) (off := 79) (tgt := 90) hx hb dX3_slot_11 (by decide) (by decide) rfl (by decide) ?_
    refine lv_aload_n hx hb dX3_slot_90 rfl (lv_at hl 0 rfl) ?_
    refine va_get (D := (dC, dI)) (ci := 3) (v := .ref (ad 0)) (C := RX3) (T := TX3) (N := 4) hx hb hts hnX3 hown hK hP 0 rfl rfl 0 (by decide) hf10 (fun _ h9 => h9) rfl dX3_slot_91 ?_
    refine lv_iload_n hx hb dX3_slot_94 rfl (lv_at hl 1 rfl) ?_
    refine z_cVi (As := [.int (nI j)]) (rest := []) ⟨hx, hb, hml, hown, hts⟩ (k_X1_wornTogether l dC dI ad cI σ hok j (by omega)) (cwV 1 hts gX3_slot_X1_wornTogether rfl rfl rfl (by decide +kernel) ⟨Nat.le_of_ble_eq_true rfl, Nat.le_of_ble_eq_true rfl⟩) (va_recv hK hP (ci := 1) (q0 := 1) rfl rfl) (hP.sub (ws' := zW ad cI σ) [1, 2, 3, 4, 5, 6, 7, 8, 9] rfl) (hK.sub (tys' := [(cI, .int)]) [0] rfl) rfl hl.1 rfl (Nat.le_of_ble_eq_true rfl) dX3_slot_95 ⟨Nat.le_of_ble_eq_true rfl, Nat.le_of_ble_eq_true rfl⟩ (fun r_2 hr_2 => ?_)
    subst hr_2
    exact hend _ _ _ rfl dX3_slot_98
  · skip
    refine lv_tableIn (x := nI 4) (off := 88) (tgt := 99) hx hb dX3_slot_11 (by decide) (by decide) rfl (by decide) ?_
    refine lv_aload_n hx hb dX3_slot_99 rfl (lv_at hl 0 rfl) ?_
    refine va_get (D := (dC, dI)) (ci := 3) (v := .ref (ad 0)) (C := RX3) (T := TX3) (N := 4) hx hb hts hnX3 hown hK hP 0 rfl rfl 0 (by decide) hf10 (fun _ h9 => h9) rfl dX3_slot_100 ?_
    refine lv_iload_n hx hb dX3_slot_103 rfl (lv_at hl 1 rfl) ?_
    refine z_cVi (As := [.int (nI j)]) (rest := []) ⟨hx, hb, hml, hown, hts⟩ (k_X1_stuckIn l dC dI ad cI σ hok j (by omega)) (cwV 1 hts gX3_slot_X1_stuckIn rfl rfl rfl (by decide +kernel) ⟨Nat.le_of_ble_eq_true rfl, Nat.le_of_ble_eq_true rfl⟩) (va_recv hK hP (ci := 1) (q0 := 1) rfl rfl) (hP.sub (ws' := zW ad cI σ) [1, 2, 3, 4, 5, 6, 7, 8, 9] rfl) (hK.sub (tys' := [(cI, .int)]) [0] rfl) rfl hl.1 rfl (Nat.le_of_ble_eq_true rfl) dX3_slot_104 ⟨Nat.le_of_ble_eq_true rfl, Nat.le_of_ble_eq_true rfl⟩ (fun r_3 hr_3 => ?_)
    subst hr_3
    exact hend _ _ _ rfl dX3_slot_107
  · skip
    refine lv_tableOut (x := nI 5) (tgt := 108) hx hb dX3_slot_11 (by decide) (by decide) ?_
    refine lv_aload_n hx hb dX3_slot_108 rfl (lv_at hl 0 rfl) ?_
    refine va_get (D := (dC, dI)) (ci := 3) (v := .ref (ad 0)) (C := RX3) (T := TX3) (N := 4) hx hb hts hnX3 hown hK hP 0 rfl rfl 0 (by decide) hf10 (fun _ h9 => h9) rfl dX3_slot_109 ?_
    refine lv_iload_n hx hb dX3_slot_112 rfl (lv_at hl 1 rfl) ?_
    refine z_cVi (As := [.int (nI j)]) (rest := []) ⟨hx, hb, hml, hown, hts⟩ (k_X1_mostWorn l dC dI ad cI σ hok j (by omega)) (cwV 1 hts gX3_slot_X1_mostWorn rfl rfl rfl (by decide +kernel) ⟨Nat.le_of_ble_eq_true rfl, Nat.le_of_ble_eq_true rfl⟩) (va_recv hK hP (ci := 1) (q0 := 1) rfl rfl) (hP.sub (ws' := zW ad cI σ) [1, 2, 3, 4, 5, 6, 7, 8, 9] rfl) (hK.sub (tys' := [(cI, .int)]) [0] rfl) rfl hl.1 rfl (Nat.le_of_ble_eq_true rfl) dX3_slot_113 ⟨Nat.le_of_ble_eq_true rfl, Nat.le_of_ble_eq_true rfl⟩ (fun r_4 hr_4 => ?_)
    subst hr_4
    exact hend _ _ _ rfl dX3_slot_116

abbrev rX3_count : Room := { frames := 3, cells := 0, slots := 0, locals := 68 }
set_option maxHeartbeats 4000000 in
set_option maxRecDepth 100000 in
theorem k_X3_count (l : Launch) (dC : Nat → ClassId) (dI : Nat → Nat → Nat) (c0 : Nat) (ad ae ah ax : Nat → Nat) (cI : ClassId) (σ : zS) (hok : zok σ) (o n : Nat) (q : Nat) (hq : q < 10) : zRi l yX3_count wsX3_count rX3_count (dC, dI) [.ref c0, .int (nI q)] (zCo c0 ad ae ah ax ++ (zW ad cI σ ++ zHo ah o n)) [(cI, .int)] (fun r => r = vCount σ n q) := by
  refine zRi_of (cc := cX3_count) (maxL := 2) (ty := .int) (by decide) rfl (Nat.le_of_ble_eq_true rfl) (fun _ _ => rfl) ?_
  intro p e s m args below meth cd Q ls hat hP hK hend
  obtain ⟨hx, hb, hml, hown, hts, hl⟩ := hat
  replace hown : s.vm.findClass RX3 = some m.cls := hown
  replace hl : lv_has ls 2 [(0, .ref c0), (1, .int (nI q))] := hl
  replace hP : va_P (dC, dI) vwCl [(c0, .inr (3, [.ref (ad 0), .ref (ae 0), .ref (ah 0), .ref (ax 0)])), ((ad 0), .inr (1, [.ref (ad 1), .ref (ad 2), .ref (ad 3), .ref (ad 4), .ref (ad 5), .ref (ad 6), .ref (ad 7), .ref (ad 8), .int (zc0 σ), .int (zc1 σ), .int (zc2 σ), .int (zc3 σ), .int (zc4 σ)])), ((ad 1), .inl (cI, 18, .inl (zhd σ))), ((ad 2), .inl (cI, 234, .inl (zwn σ))), ((ad 3), .inl (cI, 18, .inl (zwi σ))), ((ad 4), .inl (cI, 16, .inl (fun w => nI (zpl σ w)))), ((ad 5), .inl (cI, 16, .inl (zwh σ))), ((ad 6), .inl (cI, 16, .inl (zwo σ))), ((ad 7), .inl (cI, 16, .inl (zmo σ))), ((ad 8), .inl (cI, 2, .inl (zst σ))), ((ah 0), .inr (0, [.ref (ah 1), .int (nI o), .int (nI n)]))] s.heap := hP
  have hf10 := hts (.fieldLink RX3 10 "InsideOutWords" "now" "LInsideOutWords$State;") (by decide +kernel)
  have hnX3 : ∀ w ∈ u_ws RX3 TX3 4, w ∈ wsX3_count := by decide +kernel
  have hf171 := hts (.fieldLink RX3 171 "InsideOutWords$State" "writes" "I") (by decide +kernel)
  have hnX1 : ∀ w ∈ u_ws RX1 TX1 13, w ∈ wsX3_count := by decide +kernel
  have hf174 := hts (.fieldLink RX3 174 "InsideOutWords$State" "changes" "I") (by decide +kernel)
  have hf177 := hts (.fieldLink RX3 177 "InsideOutWords$State" "plainChanges" "I") (by decide +kernel)
  have hf180 := hts (.fieldLink RX3 180 "InsideOutWords$State" "moves" "I") (by decide +kernel)
  have hf183 := hts (.fieldLink RX3 183 "InsideOutWords$State" "turnedWrites" "I") (by decide +kernel)
  have hf22 := hts (.fieldLink RX3 22 "InsideOutWords" "history" "LInsideOutWords$History;") (by decide +kernel)
  have hf128 := hts (.fieldLink RX3 128 "InsideOutWords$History" "size" "I") (by decide +kernel)
  have hnX0 : ∀ w ∈ u_ws RX0 TX0 3, w ∈ wsX3_count := by decide +kernel
  refine lv_iload_n hx hb dX3_count_0 rfl (lv_at hl 1 rfl) ?_
  refine lv_bipush (v := 10) hx hb dX3_count_1 (by decide) ?_
  refine z_cSv (As := [.int (nI q), .int 10]) (rest := []) ⟨hx, hb, hml, hown, hts⟩ (k_X3_needWhat l dC dI (nI q) (10 : Int32) (nI_io (b := 9) (by omega) (by decide))) (va_cwS 2 hts gX3_count_X3_needWhat rfl rfl rfl (by decide +kernel) ⟨Nat.le_of_ble_eq_true rfl, Nat.le_of_ble_eq_true rfl⟩) (hP.sub (ws' := []) [] rfl) (hK.sub (tys' := []) [] rfl) rfl hl.1 rfl (Nat.le_of_ble_eq_true rfl) dX3_count_3 ⟨Nat.le_of_ble_eq_true rfl, Nat.le_of_ble_eq_true rfl⟩ ?_
  refine lv_iload_n hx hb dX3_count_6 rfl (lv_at hl 1 rfl) ?_
  rcases (show q = 0 ∨ q = 1 ∨ q = 2 ∨ q = 3 ∨ q = 4 ∨ q = 5 ∨ q = 6 ∨ q = 7 ∨ q = 8 ∨ q = 9 by omega) with rfl | rfl | rfl | rfl | rfl | rfl | rfl | rfl | rfl | rfl
  · skip
    refine lv_tableIn (x := nI 0) (off := 49) (tgt := 56) hx hb dX3_count_7 (by decide) (by decide) rfl (by decide) ?_
    refine lv_aload_n hx hb dX3_count_56 rfl (lv_at hl 0 rfl) ?_
    refine va_get (D := (dC, dI)) (ci := 3) (v := .ref (ad 0)) (C := RX3) (T := TX3) (N := 4) hx hb hts hnX3 hown hK hP 0 rfl rfl 0 (by decide) hf10 (fun _ h9 => h9) rfl dX3_count_57 ?_
    refine va_get (D := (dC, dI)) (ci := 1) (v := .int (zc0 σ)) (C := RX1) (T := TX1) (N := 13) hx hb hts hnX1 hown hK hP 1 rfl rfl 8 (by decide) hf171 (fun _ h9 => h9) rfl dX3_count_60 ?_
    exact hend _ _ _ rfl dX3_count_63
  · skip
    refine lv_tableIn (x := nI 1) (off := 57) (tgt := 64) hx hb dX3_count_7 (by decide) (by decide) rfl (by decide) ?_
    refine lv_aload_n hx hb dX3_count_64 rfl (lv_at hl 0 rfl) ?_
    refine va_get (D := (dC, dI)) (ci := 3) (v := .ref (ad 0)) (C := RX3) (T := TX3) (N := 4) hx hb hts hnX3 hown hK hP 0 rfl rfl 0 (by decide) hf10 (fun _ h9 => h9) rfl dX3_count_65 ?_
    refine va_get (D := (dC, dI)) (ci := 1) (v := .int (zc1 σ)) (C := RX1) (T := TX1) (N := 13) hx hb hts hnX1 hown hK hP 1 rfl rfl 9 (by decide) hf174 (fun _ h9 => h9) rfl dX3_count_68 ?_
    exact hend _ _ _ rfl dX3_count_71
  · skip
    refine lv_tableIn (x := nI 2) (off := 65) (tgt := 72) hx hb dX3_count_7 (by decide) (by decide) rfl (by decide) ?_
    refine lv_aload_n hx hb dX3_count_72 rfl (lv_at hl 0 rfl) ?_
    refine va_get (D := (dC, dI)) (ci := 3) (v := .ref (ad 0)) (C := RX3) (T := TX3) (N := 4) hx hb hts hnX3 hown hK hP 0 rfl rfl 0 (by decide) hf10 (fun _ h9 => h9) rfl dX3_count_73 ?_
    refine va_get (D := (dC, dI)) (ci := 1) (v := .int (zc2 σ)) (C := RX1) (T := TX1) (N := 13) hx hb hts hnX1 hown hK hP 1 rfl rfl 10 (by decide) hf177 (fun _ h9 => h9) rfl dX3_count_76 ?_
    exact hend _ _ _ rfl dX3_count_79
  · skip
    refine lv_tableIn (x := nI 3) (off := 73) (tgt := 80) hx hb dX3_count_7 (by decide) (by decide) rfl (by decide) ?_
    refine lv_aload_n hx hb dX3_count_80 rfl (lv_at hl 0 rfl) ?_
    refine va_get (D := (dC, dI)) (ci := 3) (v := .ref (ad 0)) (C := RX3) (T := TX3) (N := 4) hx hb hts hnX3 hown hK hP 0 rfl rfl 0 (by decide) hf10 (fun _ h9 => h9) rfl dX3_count_81 ?_
    refine va_get (D := (dC, dI)) (ci := 1) (v := .int (zc3 σ)) (C := RX1) (T := TX1) (N := 13) hx hb hts hnX1 hown hK hP 1 rfl rfl 11 (by decide) hf180 (fun _ h9 => h9) rfl dX3_count_84 ?_
    exact hend _ _ _ rfl dX3_count_87
  · skip
    refine lv_tableIn (x := nI 4) (off := 81) (tgt := 88) hx hb dX3_count_7 (by decide) (by decide) rfl (by decide) ?_
    refine lv_aload_n hx hb dX3_count_88 rfl (lv_at hl 0 rfl) ?_
    refine va_get (D := (dC, dI)) (ci := 3) (v := .ref (ad 0)) (C := RX3) (T := TX3) (N := 4) hx hb hts hnX3 hown hK hP 0 rfl rfl 0 (by decide) hf10 (fun _ h9 => h9) rfl dX3_count_89 ?_
    refine va_get (D := (dC, dI)) (ci := 1) (v := .int (zc4 σ)) (C := RX1) (T := TX1) (N := 13) hx hb hts hnX1 hown hK hP 1 rfl rfl 12 (by decide) hf183 (fun _ h9 => h9) rfl dX3_count_92 ?_
    exact hend _ _ _ rfl dX3_count_95
  · skip
    refine lv_tableIn (x := nI 5) (off := 89) (tgt := 96) hx hb dX3_count_7 (by decide) (by decide) rfl (by decide) ?_
    refine lv_aload_n hx hb dX3_count_96 rfl (lv_at hl 0 rfl) ?_
    refine va_get (D := (dC, dI)) (ci := 3) (v := .ref (ad 0)) (C := RX3) (T := TX3) (N := 4) hx hb hts hnX3 hown hK hP 0 rfl rfl 0 (by decide) hf10 (fun _ h9 => h9) rfl dX3_count_97 ?_
    refine z_cVi (As := []) (rest := []) ⟨hx, hb, hml, hown, hts⟩ (k_X1_stuckCells l dC dI ad cI σ hok) (cwV 0 hts gX3_count_X1_stuckCells rfl rfl rfl (by decide +kernel) ⟨Nat.le_of_ble_eq_true rfl, Nat.le_of_ble_eq_true rfl⟩) (va_recv hK hP (ci := 1) (q0 := 1) rfl rfl) (hP.sub (ws' := zW ad cI σ) [1, 2, 3, 4, 5, 6, 7, 8, 9] rfl) (hK.sub (tys' := [(cI, .int)]) [0] rfl) rfl hl.1 rfl (Nat.le_of_ble_eq_true rfl) dX3_count_100 ⟨Nat.le_of_ble_eq_true rfl, Nat.le_of_ble_eq_true rfl⟩ (fun r_1 hr_1 => ?_)
    subst hr_1
    exact hend _ _ _ rfl dX3_count_103
  · skip
    refine lv_tableIn (x := nI 6) (off := 97) (tgt := 104) hx hb dX3_count_7 (by decide) (by decide) rfl (by decide) ?_
    refine lv_aload_n hx hb dX3_count_104 rfl (lv_at hl 0 rfl) ?_
    refine va_get (D := (dC, dI)) (ci := 3) (v := .ref (ad 0)) (C := RX3) (T := TX3) (N := 4) hx hb hts hnX3 hown hK hP 0 rfl rfl 0 (by decide) hf10 (fun _ h9 => h9) rfl dX3_count_105 ?_
    refine z_cVi (As := []) (rest := []) ⟨hx, hb, hml, hown, hts⟩ (k_X1_leastWornFree l dC dI ad cI σ hok) (cwV 0 hts gX3_count_X1_leastWornFree rfl rfl rfl (by decide +kernel) ⟨Nat.le_of_ble_eq_true rfl, Nat.le_of_ble_eq_true rfl⟩) (va_recv hK hP (ci := 1) (q0 := 1) rfl rfl) (hP.sub (ws' := zW ad cI σ) [1, 2, 3, 4, 5, 6, 7, 8, 9] rfl) (hK.sub (tys' := [(cI, .int)]) [0] rfl) rfl hl.1 rfl (Nat.le_of_ble_eq_true rfl) dX3_count_108 ⟨Nat.le_of_ble_eq_true rfl, Nat.le_of_ble_eq_true rfl⟩ (fun r_2 hr_2 => ?_)
    obtain ⟨o_3, eo_3⟩ : ∃ zz : Option Nat, zz = pfr σ := ⟨_, rfl⟩
    rw [← eo_3] at hr_2
    subst hr_2
    have hbo_3 : ∀ i, o_3 = some i → i < 18 := by rw [eo_3]; exact pfr_lt
    exact hend _ _ _ (congrArg zo eo_3) dX3_count_111
  · skip
    refine lv_tableIn (x := nI 7) (off := 105) (tgt := 112) hx hb dX3_count_7 (by decide) (by decide) rfl (by decide) ?_
    refine lv_aload_n hx hb dX3_count_112 rfl (lv_at hl 0 rfl) ?_
    refine va_get (D := (dC, dI)) (ci := 3) (v := .ref (ad 0)) (C := RX3) (T := TX3) (N := 4) hx hb hts hnX3 hown hK hP 0 rfl rfl 0 (by decide) hf10 (fun _ h9 => h9) rfl dX3_count_113 ?_
    refine z_cVi (As := []) (rest := []) ⟨hx, hb, hml, hown, hts⟩ (k_X1_hotWords l dC dI ad cI σ hok) (cwV 0 hts gX3_count_X1_hotWords rfl rfl rfl (by decide +kernel) ⟨Nat.le_of_ble_eq_true rfl, Nat.le_of_ble_eq_true rfl⟩) (va_recv hK hP (ci := 1) (q0 := 1) rfl rfl) (hP.sub (ws' := zW ad cI σ) [1, 2, 3, 4, 5, 6, 7, 8, 9] rfl) (hK.sub (tys' := [(cI, .int)]) [0] rfl) rfl hl.1 rfl (Nat.le_of_ble_eq_true rfl) dX3_count_116 ⟨Nat.le_of_ble_eq_true rfl, Nat.le_of_ble_eq_true rfl⟩ (fun r_4 hr_4 => ?_)
    subst hr_4
    exact hend _ _ _ rfl dX3_count_119
  · skip
    refine lv_tableIn (x := nI 8) (off := 113) (tgt := 120) hx hb dX3_count_7 (by decide) (by decide) rfl (by decide) ?_
    refine lv_aload_n hx hb dX3_count_120 rfl (lv_at hl 0 rfl) ?_
    refine va_get (D := (dC, dI)) (ci := 3) (v := .ref (ad 0)) (C := RX3) (T := TX3) (N := 4) hx hb hts hnX3 hown hK hP 0 rfl rfl 0 (by decide) hf10 (fun _ h9 => h9) rfl dX3_count_121 ?_
    refine z_cVi (As := []) (rest := []) ⟨hx, hb, hml, hown, hts⟩ (k_X1_sumOfWords l dC dI ad cI σ hok) (cwV 0 hts gX3_count_X1_sumOfWords rfl rfl rfl (by decide +kernel) ⟨Nat.le_of_ble_eq_true rfl, Nat.le_of_ble_eq_true rfl⟩) (va_recv hK hP (ci := 1) (q0 := 1) rfl rfl) (hP.sub (ws' := zW ad cI σ) [1, 2, 3, 4, 5, 6, 7, 8, 9] rfl) (hK.sub (tys' := [(cI, .int)]) [0] rfl) rfl hl.1 rfl (Nat.le_of_ble_eq_true rfl) dX3_count_124 ⟨Nat.le_of_ble_eq_true rfl, Nat.le_of_ble_eq_true rfl⟩ (fun r_5 hr_5 => ?_)
    subst hr_5
    exact hend _ _ _ rfl dX3_count_127
  · skip
    refine lv_tableOut (x := nI 9) (tgt := 128) hx hb dX3_count_7 (by decide) (by decide) ?_
    refine lv_aload_n hx hb dX3_count_128 rfl (lv_at hl 0 rfl) ?_
    refine va_get (D := (dC, dI)) (ci := 3) (v := .ref (ah 0)) (C := RX3) (T := TX3) (N := 4) hx hb hts hnX3 hown hK hP 0 rfl rfl 2 (by decide) hf22 (fun _ h9 => h9) rfl dX3_count_129 ?_
    refine va_get (D := (dC, dI)) (ci := 0) (v := .int (nI n)) (C := RX0) (T := TX0) (N := 3) hx hb hts hnX0 hown hK hP 10 rfl rfl 2 (by decide) hf128 (fun _ h9 => h9) rfl dX3_count_132 ?_
    exact hend _ _ _ rfl dX3_count_135

abbrev rX3_costliest : Room := { frames := 3, cells := 0, slots := 0, locals := 67 }
set_option maxHeartbeats 4000000 in
set_option maxRecDepth 100000 in
theorem k_X3_costliest (l : Launch) (dC : Nat → ClassId) (dI : Nat → Nat → Nat) (c0 : Nat) (ad ae ah ax : Nat → Nat) (cI : ClassId) (σ : zS) (hok : zok σ) (j : Nat) (hj : j < 16) (hbt : zbt σ) : zRi l yX3_costliest wsX3_costliest rX3_costliest (dC, dI) [.ref c0, .int (nI j)] (zCo c0 ad ae ah ax ++ zW ad cI σ) [(cI, .int)] (fun r => r = pDi (iN (pNum (zhd σ (zpl σ j)))) (pst σ (zpl σ j))) := by
  refine zRi_of (cc := cX3_costliest) (maxL := 2) (ty := .int) (by decide) rfl (Nat.le_of_ble_eq_true rfl) (fun _ _ => rfl) ?_
  intro p e s m args below meth cd Q ls hat hP hK hend
  obtain ⟨hx, hb, hml, hown, hts, hl⟩ := hat
  replace hown : s.vm.findClass RX3 = some m.cls := hown
  replace hl : lv_has ls 2 [(0, .ref c0), (1, .int (nI j))] := hl
  replace hP : va_P (dC, dI) vwCl [(c0, .inr (3, [.ref (ad 0), .ref (ae 0), .ref (ah 0), .ref (ax 0)])), ((ad 0), .inr (1, [.ref (ad 1), .ref (ad 2), .ref (ad 3), .ref (ad 4), .ref (ad 5), .ref (ad 6), .ref (ad 7), .ref (ad 8), .int (zc0 σ), .int (zc1 σ), .int (zc2 σ), .int (zc3 σ), .int (zc4 σ)])), ((ad 1), .inl (cI, 18, .inl (zhd σ))), ((ad 2), .inl (cI, 234, .inl (zwn σ))), ((ad 3), .inl (cI, 18, .inl (zwi σ))), ((ad 4), .inl (cI, 16, .inl (fun w => nI (zpl σ w)))), ((ad 5), .inl (cI, 16, .inl (zwh σ))), ((ad 6), .inl (cI, 16, .inl (zwo σ))), ((ad 7), .inl (cI, 16, .inl (zmo σ))), ((ad 8), .inl (cI, 2, .inl (zst σ)))] s.heap := hP
  have hf10 := hts (.fieldLink RX3 10 "InsideOutWords" "now" "LInsideOutWords$State;") (by decide +kernel)
  have hnX3 : ∀ w ∈ u_ws RX3 TX3 4, w ∈ wsX3_costliest := by decide +kernel
  have hf75 := hts (.fieldLink RX3 75 "InsideOutWords$State" "slotOf" "[I") (by decide +kernel)
  have hnX1 : ∀ w ∈ u_ws RX1 TX1 13, w ∈ wsX3_costliest := by decide +kernel
  refine lv_iload_n hx hb dX3_costliest_0 rfl (lv_at hl 1 rfl) ?_
  refine z_cSv (As := [.int (nI j)]) (rest := []) ⟨hx, hb, hml, hown, hts⟩ (k_X3_needWord l dC dI (nI j) (nI_io (b := 15) (by omega) (by decide))) (va_cwS 1 hts gX3_costliest_X3_needWord rfl rfl rfl (by decide +kernel) ⟨Nat.le_of_ble_eq_true rfl, Nat.le_of_ble_eq_true rfl⟩) (hP.sub (ws' := []) [] rfl) (hK.sub (tys' := []) [] rfl) rfl hl.1 rfl (Nat.le_of_ble_eq_true rfl) dX3_costliest_1 ⟨Nat.le_of_ble_eq_true rfl, Nat.le_of_ble_eq_true rfl⟩ ?_
  refine lv_aload_n hx hb dX3_costliest_4 rfl (lv_at hl 0 rfl) ?_
  refine va_get (D := (dC, dI)) (ci := 3) (v := .ref (ad 0)) (C := RX3) (T := TX3) (N := 4) hx hb hts hnX3 hown hK hP 0 rfl rfl 0 (by decide) hf10 (fun _ h9 => h9) rfl dX3_costliest_5 ?_
  refine lv_aload_n hx hb dX3_costliest_8 rfl (lv_at hl 0 rfl) ?_
  refine va_get (D := (dC, dI)) (ci := 3) (v := .ref (ad 0)) (C := RX3) (T := TX3) (N := 4) hx hb hts hnX3 hown hK hP 0 rfl rfl 0 (by decide) hf10 (fun _ h9 => h9) rfl dX3_costliest_9 ?_
  refine va_get (D := (dC, dI)) (ci := 1) (v := .ref (ad 4)) (C := RX1) (T := TX1) (N := 13) hx hb hts hnX1 hown hK hP 1 rfl rfl 3 (by decide) hf75 (fun _ h9 => h9) rfl dX3_costliest_12 ?_
  refine lv_iload_n hx hb dX3_costliest_15 rfl (lv_at hl 1 rfl) ?_
  refine z_ald hx hb hK hP 5 0 j (f := (fun w => nI (zpl σ w))) rfl rfl (by first | omega | decide) (by first | decide | omega) dX3_costliest_16 ?_
  have hq_1 : zpl σ j < 18 := hok _ (by omega)
  refine z_cVi (As := [.int (nI (zpl σ j))]) (rest := []) ⟨hx, hb, hml, hown, hts⟩ (k_X1_dearestIn l dC dI ad cI σ hok (zpl σ j) (by omega) (zbt_num hbt (hok _ (by omega)))) (cwV 1 hts gX3_costliest_X1_dearestIn rfl rfl rfl (by decide +kernel) ⟨Nat.le_of_ble_eq_true rfl, Nat.le_of_ble_eq_true rfl⟩) (va_recv hK hP (ci := 1) (q0 := 1) rfl rfl) (hP.sub (ws' := zW ad cI σ) [1, 2, 3, 4, 5, 6, 7, 8, 9] rfl) (hK.sub (tys' := [(cI, .int)]) [0] rfl) rfl hl.1 rfl (Nat.le_of_ble_eq_true rfl) dX3_costliest_17 ⟨Nat.le_of_ble_eq_true rfl, Nat.le_of_ble_eq_true rfl⟩ (fun r_2 hr_2 => ?_)
  subst hr_2
  exact hend _ _ _ rfl dX3_costliest_20

abbrev rX3_hashOfWord : Room := { frames := 5, cells := 0, slots := 0, locals := 123 }
set_option maxHeartbeats 4000000 in
set_option maxRecDepth 100000 in
theorem k_X3_hashOfWord (l : Launch) (dC : Nat → ClassId) (dI : Nat → Nat → Nat) (c0 : Nat) (ad ae ah ax : Nat → Nat) (cI : ClassId) (σ : zS) (hok : zok σ) (x : Int64) (j : Nat) (hj : j < 16) (hbt : zbt σ) : zRl l yX3_hashOfWord wsX3_hashOfWord rX3_hashOfWord (dC, dI) [.ref c0, .long x, .int (nI j)] (zCo c0 ad ae ah ax ++ zW ad cI σ) [(cI, .int)] (fun r => r = 31 * (31 * pHs (vWord σ j) 5 (31 * x + (pnm σ j).toInt64) + (zo (ptg σ j (nI 1365))).toInt64) + (pDi (iN (pNum (zhd σ (zpl σ j)))) (pst σ (zpl σ j))).toInt64) := by
  refine zRl_of (cc := cX3_hashOfWord) (maxL := 7) (by decide) rfl (Nat.le_of_ble_eq_true rfl) ?_
  intro p e s m args below meth cd Q ls hat hP hK hend
  obtain ⟨hx, hb, hml, hown, hts, hl⟩ := hat
  replace hown : s.vm.findClass RX3 = some m.cls := hown
  replace hl : lv_has ls 7 [(0, .ref c0), (1, .long x), (3, .int (nI j))] := hl
  replace hP : va_P (dC, dI) vwCl [(c0, .inr (3, [.ref (ad 0), .ref (ae 0), .ref (ah 0), .ref (ax 0)])), ((ad 0), .inr (1, [.ref (ad 1), .ref (ad 2), .ref (ad 3), .ref (ad 4), .ref (ad 5), .ref (ad 6), .ref (ad 7), .ref (ad 8), .int (zc0 σ), .int (zc1 σ), .int (zc2 σ), .int (zc3 σ), .int (zc4 σ)])), ((ad 1), .inl (cI, 18, .inl (zhd σ))), ((ad 2), .inl (cI, 234, .inl (zwn σ))), ((ad 3), .inl (cI, 18, .inl (zwi σ))), ((ad 4), .inl (cI, 16, .inl (fun w => nI (zpl σ w)))), ((ad 5), .inl (cI, 16, .inl (zwh σ))), ((ad 6), .inl (cI, 16, .inl (zwo σ))), ((ad 7), .inl (cI, 16, .inl (zmo σ))), ((ad 8), .inl (cI, 2, .inl (zst σ)))] s.heap := hP
  have hc214 := hts (.constantLong RX3 214 (31)) (by decide +kernel)
  refine lv_ldc2 hx hb hown hc214 dX3_hashOfWord_0 ?_
  refine lv_lload_n hx hb dX3_hashOfWord_3 rfl (lv_at hl 1 rfl) ?_
  refine lv_lmul hx hb dX3_hashOfWord_4 ?_
  refine lv_aload_n hx hb dX3_hashOfWord_5 rfl (lv_at hl 0 rfl) ?_
  refine lv_iload_n hx hb dX3_hashOfWord_6 rfl (lv_at hl 2 rfl) ?_
  refine z_cVi (As := [.int (nI j)]) (rest := [.long (31 * x)]) ⟨hx, hb, hml, hown, hts⟩ (k_X3_read l dC dI c0 ad ae ah ax cI σ hok j (by omega)) (cwV 1 hts gX3_hashOfWord_X3_read rfl rfl rfl (by decide +kernel) ⟨Nat.le_of_ble_eq_true rfl, Nat.le_of_ble_eq_true rfl⟩) (va_recv hK hP (ci := 3) (q0 := 0) rfl rfl) (hP.sub (ws' := zCo c0 ad ae ah ax ++ zW ad cI σ) [0, 1, 2, 3, 4, 5, 6, 7, 8, 9] rfl) (hK.sub (tys' := [(cI, .int)]) [0] rfl) rfl hl.1 rfl (Nat.le_of_ble_eq_true rfl) dX3_hashOfWord_7 ⟨Nat.le_of_ble_eq_true rfl, Nat.le_of_ble_eq_true rfl⟩ (fun r_1 hr_1 => ?_)
  subst hr_1
  refine lv_i2l (v := (pnm σ j).toInt64) hx hb dX3_hashOfWord_10 rfl ?_
  refine lv_ladd hx hb dX3_hashOfWord_11 ?_
  refine lv_lstore (lv' := [(4, .long ((31 * x) + ((pnm σ j).toInt64))), (0, .ref c0), (1, .long x), (3, .int (nI j))]) hx hb dX3_hashOfWord_12 hl (by decide) rfl (fun ls hl => ?_)
  refine lv_iconst (v := 0) hx hb dX3_hashOfWord_14 (by decide) ?_
  refine lv_istore (lv' := [(6, .int 0), (4, .long ((31 * x) + ((pnm σ j).toInt64))), (0, .ref c0), (1, .long x), (3, .int (nI j))]) hx hb dX3_hashOfWord_15 hl (by decide) rfl (fun ls hl => ?_)
  have hC_17 : ∀ (nf : Nat) (y : Int64) (i : Nat) (ls : Array Slot), 5 - i < nf → lv_has ls 7 [(0, .ref c0), (3, .int (nI j)), (4, .long y), (6, .int (nI i))] → (i ≤ 5) → (y = pHs (vWord σ j) i (31 * x + (pnm σ j).toInt64)) → W p l e rX3_hashOfWord s m args below meth cd s.heap [] 0 0 Q (F0 m 17 ls []) := by
    intro nf
    induction nf with
    | zero => intro y i ls hm_17 hl hi1 ey; exact absurd hm_17 (Nat.not_lt_zero _)
    | succ nf ih_17 =>
      intro y i ls hm_17 hl hi1 ey
      refine lv_iload hx hb dX3_hashOfWord_17 (lv_at hl 3 rfl) ?_
      refine lv_iconst (v := 5) hx hb dX3_hashOfWord_19 (by decide) ?_
      refine z_ge hx hb i 5 (by omega) (by omega) (tgt := 46) dX3_hashOfWord_20 (by decide) (fun c_2 => ?_) (fun c_2 => ?_)
      · skip
        refine lv_ldc2 hx hb hown hc214 dX3_hashOfWord_46 ?_
        refine lv_lload hx hb dX3_hashOfWord_49 (lv_at hl 2 rfl) ?_
        refine lv_lmul hx hb dX3_hashOfWord_51 ?_
        refine lv_aload_n hx hb dX3_hashOfWord_52 rfl (lv_at hl 0 rfl) ?_
        refine lv_iload_n hx hb dX3_hashOfWord_53 rfl (lv_at hl 1 rfl) ?_
        refine lv_sipush (v := 1365) hx hb dX3_hashOfWord_54 (by decide) ?_
        refine z_cVi (As := [.int (nI j), .int 1365]) (rest := [.long (31 * y)]) ⟨hx, hb, hml, hown, hts⟩ (k_X3_ifWritten l dC dI c0 ad ae ah ax cI σ hok j (by omega) 1365 (by omega)) (cwV 2 hts gX3_hashOfWord_X3_ifWritten rfl rfl rfl (by decide +kernel) ⟨Nat.le_of_ble_eq_true rfl, Nat.le_of_ble_eq_true rfl⟩) (va_recv hK hP (ci := 3) (q0 := 0) rfl rfl) (hP.sub (ws' := zCo c0 ad ae ah ax ++ zW ad cI σ) [0, 1, 2, 3, 4, 5, 6, 7, 8, 9] rfl) (hK.sub (tys' := [(cI, .int)]) [0] rfl) rfl hl.1 rfl (Nat.le_of_ble_eq_true rfl) dX3_hashOfWord_57 ⟨Nat.le_of_ble_eq_true rfl, Nat.le_of_ble_eq_true rfl⟩ (fun r_3 hr_3 => ?_)
        obtain ⟨o_4, eo_4⟩ : ∃ zz : Option Nat, zz = ptg σ j (nI 1365) := ⟨_, rfl⟩
        rw [← eo_4] at hr_3
        subst hr_3
        have hbo_4 : ∀ i, o_4 = some i → i < 18 := by rw [eo_4]; exact (ptg_lt (hok _ (by omega)))
        refine lv_i2l (v := (zo o_4).toInt64) hx hb dX3_hashOfWord_60 rfl ?_
        refine lv_ladd hx hb dX3_hashOfWord_61 ?_
        refine lv_lstore (lv' := [(4, .long ((31 * y) + ((zo o_4).toInt64))), (0, .ref c0), (3, .int (nI j)), (6, .int (nI i))]) hx hb dX3_hashOfWord_62 hl (by decide) rfl (fun ls hl => ?_)
        refine lv_ldc2 hx hb hown hc214 dX3_hashOfWord_64 ?_
        refine lv_lload hx hb dX3_hashOfWord_67 (lv_at hl 0 rfl) ?_
        refine lv_lmul hx hb dX3_hashOfWord_69 ?_
        refine lv_aload_n hx hb dX3_hashOfWord_70 rfl (lv_at hl 1 rfl) ?_
        refine lv_iload_n hx hb dX3_hashOfWord_71 rfl (lv_at hl 2 rfl) ?_
        refine z_cVi (As := [.int (nI j)]) (rest := [.long (31 * ((31 * y) + ((zo o_4).toInt64)))]) ⟨hx, hb, hml, hown, hts⟩ (k_X3_costliest l dC dI c0 ad ae ah ax cI σ hok j (by omega) hbt) (cwV 1 hts gX3_hashOfWord_X3_costliest rfl rfl rfl (by decide +kernel) ⟨Nat.le_of_ble_eq_true rfl, Nat.le_of_ble_eq_true rfl⟩) (va_recv hK hP (ci := 3) (q0 := 0) rfl rfl) (hP.sub (ws' := zCo c0 ad ae ah ax ++ zW ad cI σ) [0, 1, 2, 3, 4, 5, 6, 7, 8, 9] rfl) (hK.sub (tys' := [(cI, .int)]) [0] rfl) rfl hl.1 rfl (Nat.le_of_ble_eq_true rfl) dX3_hashOfWord_72 ⟨Nat.le_of_ble_eq_true rfl, Nat.le_of_ble_eq_true rfl⟩ (fun r_5 hr_5 => ?_)
        subst hr_5
        refine lv_i2l (v := (pDi (iN (pNum (zhd σ (zpl σ j)))) (pst σ (zpl σ j))).toInt64) hx hb dX3_hashOfWord_75 rfl ?_
        refine lv_ladd hx hb dX3_hashOfWord_76 ?_
        exact hend _ _ _ (by rw [ey, show i = 5 by omega, eo_4]) dX3_hashOfWord_77
      · skip
        refine lv_ldc2 hx hb hown hc214 dX3_hashOfWord_23 ?_
        refine lv_lload hx hb dX3_hashOfWord_26 (lv_at hl 2 rfl) ?_
        refine lv_lmul hx hb dX3_hashOfWord_28 ?_
        refine lv_aload_n hx hb dX3_hashOfWord_29 rfl (lv_at hl 0 rfl) ?_
        refine lv_iload_n hx hb dX3_hashOfWord_30 rfl (lv_at hl 1 rfl) ?_
        refine lv_iload hx hb dX3_hashOfWord_31 (lv_at hl 3 rfl) ?_
        refine z_cVi (As := [.int (nI j), .int (nI i)]) (rest := [.long (31 * y)]) ⟨hx, hb, hml, hown, hts⟩ (k_X3_word l dC dI c0 ad ae ah ax cI σ hok j (by omega) i (by omega)) (cwV 2 hts gX3_hashOfWord_X3_word rfl rfl rfl (by decide +kernel) ⟨Nat.le_of_ble_eq_true rfl, Nat.le_of_ble_eq_true rfl⟩) (va_recv hK hP (ci := 3) (q0 := 0) rfl rfl) (hP.sub (ws' := zCo c0 ad ae ah ax ++ zW ad cI σ) [0, 1, 2, 3, 4, 5, 6, 7, 8, 9] rfl) (hK.sub (tys' := [(cI, .int)]) [0] rfl) rfl hl.1 rfl (Nat.le_of_ble_eq_true rfl) dX3_hashOfWord_33 ⟨Nat.le_of_ble_eq_true rfl, Nat.le_of_ble_eq_true rfl⟩ (fun r_6 hr_6 => ?_)
        subst hr_6
        refine lv_i2l (v := (vWord σ j i).toInt64) hx hb dX3_hashOfWord_36 rfl ?_
        refine lv_ladd hx hb dX3_hashOfWord_37 ?_
        refine lv_lstore (lv' := [(4, .long ((31 * y) + ((vWord σ j i).toInt64))), (0, .ref c0), (3, .int (nI j)), (6, .int (nI i))]) hx hb dX3_hashOfWord_38 hl (by decide) rfl (fun ls hl => ?_)
        refine lv_iinc (v := nI (i + 1)) (lv' := [(6, .int (nI (i + 1))), (4, .long ((31 * y) + ((vWord σ j i).toInt64))), (0, .ref c0), (3, .int (nI j))]) hx hb dX3_hashOfWord_40 hl (k := 3) rfl (z_inc1 _) (by decide) rfl (fun ls hl => ?_)
        refine lv_goto (tgt := 17) hx hb dX3_hashOfWord_43 (by decide) ?_
        exact ih_17 ((31 * y) + ((vWord σ j i).toInt64)) (i + 1) _ (by omega) (lv_sub hl [2, 3, 1, 0] rfl) (by omega) (by rw [ey]; rfl)
  exact hC_17 _ ((31 * x) + ((pnm σ j).toInt64)) 0 _ (Nat.lt_succ_self _) (lv_sub hl [2, 4, 1, 0] rfl) (by omega) (rfl)

abbrev rX3_hashOfSlot : Room := { frames := 3, cells := 0, slots := 0, locals := 76 }
set_option maxHeartbeats 4000000 in
set_option maxRecDepth 100000 in
theorem k_X3_hashOfSlot (l : Launch) (dC : Nat → ClassId) (dI : Nat → Nat → Nat) (c0 : Nat) (ad ae ah ax : Nat → Nat) (cI : ClassId) (σ : zS) (hok : zok σ) (x : Int64) (j : Nat) (hj : j < 18) : zRl l yX3_hashOfSlot wsX3_hashOfSlot rX3_hashOfSlot (dC, dI) [.ref c0, .long x, .int (nI j)] (zCo c0 ad ae ah ax ++ zW ad cI σ) [(cI, .int)] (fun r => r = 31 * pHs (vSlot σ j) 6 x + (if pwy σ j (nI 2730) = -1 then -1 else pBC (zhd σ j ^^^ pwy σ j (nI 2730))).toInt64) := by
  refine zRl_of (cc := cX3_hashOfSlot) (maxL := 7) (by decide) rfl (Nat.le_of_ble_eq_true rfl) ?_
  intro p e s m args below meth cd Q ls hat hP hK hend
  obtain ⟨hx, hb, hml, hown, hts, hl⟩ := hat
  replace hown : s.vm.findClass RX3 = some m.cls := hown
  replace hl : lv_has ls 7 [(0, .ref c0), (1, .long x), (3, .int (nI j))] := hl
  replace hP : va_P (dC, dI) vwCl [(c0, .inr (3, [.ref (ad 0), .ref (ae 0), .ref (ah 0), .ref (ax 0)])), ((ad 0), .inr (1, [.ref (ad 1), .ref (ad 2), .ref (ad 3), .ref (ad 4), .ref (ad 5), .ref (ad 6), .ref (ad 7), .ref (ad 8), .int (zc0 σ), .int (zc1 σ), .int (zc2 σ), .int (zc3 σ), .int (zc4 σ)])), ((ad 1), .inl (cI, 18, .inl (zhd σ))), ((ad 2), .inl (cI, 234, .inl (zwn σ))), ((ad 3), .inl (cI, 18, .inl (zwi σ))), ((ad 4), .inl (cI, 16, .inl (fun w => nI (zpl σ w)))), ((ad 5), .inl (cI, 16, .inl (zwh σ))), ((ad 6), .inl (cI, 16, .inl (zwo σ))), ((ad 7), .inl (cI, 16, .inl (zmo σ))), ((ad 8), .inl (cI, 2, .inl (zst σ)))] s.heap := hP
  have hc214 := hts (.constantLong RX3 214 (31)) (by decide +kernel)
  refine lv_lload_n hx hb dX3_hashOfSlot_0 rfl (lv_at hl 1 rfl) ?_
  refine lv_lstore (lv' := [(4, .long x), (0, .ref c0), (1, .long x), (3, .int (nI j))]) hx hb dX3_hashOfSlot_1 hl (by decide) rfl (fun ls hl => ?_)
  refine lv_iconst (v := 0) hx hb dX3_hashOfSlot_3 (by decide) ?_
  refine lv_istore (lv' := [(6, .int 0), (4, .long x), (0, .ref c0), (1, .long x), (3, .int (nI j))]) hx hb dX3_hashOfSlot_4 hl (by decide) rfl (fun ls hl => ?_)
  have hC_6 : ∀ (nf : Nat) (y : Int64) (i : Nat) (ls : Array Slot), 6 - i < nf → lv_has ls 7 [(0, .ref c0), (3, .int (nI j)), (4, .long y), (6, .int (nI i))] → (i ≤ 6) → (y = pHs (vSlot σ j) i x) → W p l e rX3_hashOfSlot s m args below meth cd s.heap [] 0 0 Q (F0 m 6 ls []) := by
    intro nf
    induction nf with
    | zero => intro y i ls hm_6 hl hi1 ey; exact absurd hm_6 (Nat.not_lt_zero _)
    | succ nf ih_6 =>
      intro y i ls hm_6 hl hi1 ey
      refine lv_iload hx hb dX3_hashOfSlot_6 (lv_at hl 3 rfl) ?_
      refine lv_bipush (v := 6) hx hb dX3_hashOfSlot_8 (by decide) ?_
      refine z_ge hx hb i 6 (by omega) (by omega) (tgt := 36) dX3_hashOfSlot_10 (by decide) (fun c_1 => ?_) (fun c_1 => ?_)
      · skip
        refine lv_ldc2 hx hb hown hc214 dX3_hashOfSlot_36 ?_
        refine lv_lload hx hb dX3_hashOfSlot_39 (lv_at hl 2 rfl) ?_
        refine lv_lmul hx hb dX3_hashOfSlot_41 ?_
        refine lv_aload_n hx hb dX3_hashOfSlot_42 rfl (lv_at hl 0 rfl) ?_
        refine lv_iload_n hx hb dX3_hashOfSlot_43 rfl (lv_at hl 1 rfl) ?_
        refine lv_sipush (v := 2730) hx hb dX3_hashOfSlot_44 (by decide) ?_
        refine z_cVi (As := [.int (nI j), .int 2730]) (rest := [.long (31 * y)]) ⟨hx, hb, hml, hown, hts⟩ (k_X3_cost l dC dI c0 ad ae ah ax cI σ hok j (by omega) 2730 (by omega)) (cwV 2 hts gX3_hashOfSlot_X3_cost rfl rfl rfl (by decide +kernel) ⟨Nat.le_of_ble_eq_true rfl, Nat.le_of_ble_eq_true rfl⟩) (va_recv hK hP (ci := 3) (q0 := 0) rfl rfl) (hP.sub (ws' := zCo c0 ad ae ah ax ++ zW ad cI σ) [0, 1, 2, 3, 4, 5, 6, 7, 8, 9] rfl) (hK.sub (tys' := [(cI, .int)]) [0] rfl) rfl hl.1 rfl (Nat.le_of_ble_eq_true rfl) dX3_hashOfSlot_47 ⟨Nat.le_of_ble_eq_true rfl, Nat.le_of_ble_eq_true rfl⟩ (fun r_2 hr_2 => ?_)
        subst hr_2
        refine lv_i2l (v := (if pwy σ j (nI 2730) = -1 then -1 else pBC (zhd σ j ^^^ pwy σ j (nI 2730))).toInt64) hx hb dX3_hashOfSlot_50 rfl ?_
        refine lv_ladd hx hb dX3_hashOfSlot_51 ?_
        exact hend _ _ _ (by rw [ey, show i = 6 by omega]) dX3_hashOfSlot_52
      · skip
        refine lv_ldc2 hx hb hown hc214 dX3_hashOfSlot_13 ?_
        refine lv_lload hx hb dX3_hashOfSlot_16 (lv_at hl 2 rfl) ?_
        refine lv_lmul hx hb dX3_hashOfSlot_18 ?_
        refine lv_aload_n hx hb dX3_hashOfSlot_19 rfl (lv_at hl 0 rfl) ?_
        refine lv_iload_n hx hb dX3_hashOfSlot_20 rfl (lv_at hl 1 rfl) ?_
        refine lv_iload hx hb dX3_hashOfSlot_21 (lv_at hl 3 rfl) ?_
        refine z_cVi (As := [.int (nI j), .int (nI i)]) (rest := [.long (31 * y)]) ⟨hx, hb, hml, hown, hts⟩ (k_X3_slot l dC dI c0 ad ae ah ax cI σ hok j (by omega) i (by omega)) (cwV 2 hts gX3_hashOfSlot_X3_slot rfl rfl rfl (by decide +kernel) ⟨Nat.le_of_ble_eq_true rfl, Nat.le_of_ble_eq_true rfl⟩) (va_recv hK hP (ci := 3) (q0 := 0) rfl rfl) (hP.sub (ws' := zCo c0 ad ae ah ax ++ zW ad cI σ) [0, 1, 2, 3, 4, 5, 6, 7, 8, 9] rfl) (hK.sub (tys' := [(cI, .int)]) [0] rfl) rfl hl.1 rfl (Nat.le_of_ble_eq_true rfl) dX3_hashOfSlot_23 ⟨Nat.le_of_ble_eq_true rfl, Nat.le_of_ble_eq_true rfl⟩ (fun r_3 hr_3 => ?_)
        subst hr_3
        refine lv_i2l (v := (vSlot σ j i).toInt64) hx hb dX3_hashOfSlot_26 rfl ?_
        refine lv_ladd hx hb dX3_hashOfSlot_27 ?_
        refine lv_lstore (lv' := [(4, .long ((31 * y) + ((vSlot σ j i).toInt64))), (0, .ref c0), (3, .int (nI j)), (6, .int (nI i))]) hx hb dX3_hashOfSlot_28 hl (by decide) rfl (fun ls hl => ?_)
        refine lv_iinc (v := nI (i + 1)) (lv' := [(6, .int (nI (i + 1))), (4, .long ((31 * y) + ((vSlot σ j i).toInt64))), (0, .ref c0), (3, .int (nI j))]) hx hb dX3_hashOfSlot_30 hl (k := 3) rfl (z_inc1 _) (by decide) rfl (fun ls hl => ?_)
        refine lv_goto (tgt := 6) hx hb dX3_hashOfSlot_33 (by decide) ?_
        exact ih_6 ((31 * y) + ((vSlot σ j i).toInt64)) (i + 1) _ (by omega) (lv_sub hl [2, 3, 1, 0] rfl) (by omega) (by rw [ey]; rfl)
  exact hC_6 _ x 0 _ (Nat.lt_succ_self _) (lv_sub hl [2, 4, 1, 0] rfl) (by omega) (rfl)
