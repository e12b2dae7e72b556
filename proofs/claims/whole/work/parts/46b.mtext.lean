abbrev rJxe99ae_isNaN_b9ae7 : Room := { frames := 0, cells := 0, slots := 0, locals := 0 }
set_option maxHeartbeats 4000000 in
set_option maxRecDepth 100000 in
theorem k_Jxe99ae_isNaN_b9ae7 (l : Launch) (dC : Nat → ClassId) (dI : Nat → Nat → Nat) (x : UInt64) : zRi l yJxe99ae_isNaN_b9ae7 wsJxe99ae_isNaN_b9ae7 rJxe99ae_isNaN_b9ae7 (dC, dI) [.double x] [] [] (fun r => r = if ¬ (Op.cmpValue (FP.dcmp x x) .l = 0) then 1 else 0) := by
  refine zRi_of (cc := cJxe99ae_isNaN_b9ae7) (maxL := 2) (ty := .boolean) (by decide) rfl (Nat.le_of_ble_eq_true rfl) (fun v h => by subst h; split <;> rfl) ?_
  intro p e s m args below meth cd Q ls hat hP hK hend
  obtain ⟨hx, hb, hml, hown, hts, hl⟩ := hat
  replace hown : s.vm.findClass RJxe99ae = some m.cls := hown
  replace hl : lv_has ls 2 [(0, .double x)] := hl
  replace hP : va_P (dC, dI) vwCl [] s.heap := hP
  refine lv_dload_n hx hb dJxe99ae_isNaN_b9ae7_0 rfl (lv_at hl 0 rfl) ?_
  refine lv_dload_n hx hb dJxe99ae_isNaN_b9ae7_1 rfl (lv_at hl 0 rfl) ?_
  refine lv_dcmp hx hb dJxe99ae_isNaN_b9ae7_2 ?_
  have hJ_1 : ∀ b_1 : Int32, b_1 = (if ¬ ((Op.cmpValue (FP.dcmp x x) .l) = 0) then 1 else 0) → W p l e rJxe99ae_isNaN_b9ae7 s m args below meth cd s.heap [] 0 0 Q (F0 m 11 ls (.int b_1 :: [])) := by
    intro b_1 eb_1
    exact hend _ _ _ eb_1 dJxe99ae_isNaN_b9ae7_11
  refine lv_if_eq (tgt := 10) hx hb dJxe99ae_isNaN_b9ae7_3 (by decide) (fun c_1 => ?_) (fun c_1 => ?_)
  · refine lv_iconst (v := 0) hx hb dJxe99ae_isNaN_b9ae7_10 (by decide) ?_
    exact hJ_1 _ (if_neg (fun z => z c_1)).symm
  · refine lv_iconst (v := 1) hx hb dJxe99ae_isNaN_b9ae7_6 (by decide) ?_
    refine lv_goto (tgt := 11) hx hb dJxe99ae_isNaN_b9ae7_7 (by decide) ?_
    exact hJ_1 _ (if_pos c_1).symm

abbrev rJxe99ae_doubleToLongBits_ccdee : Room := { frames := 1, cells := 0, slots := 0, locals := 21 }
set_option maxHeartbeats 4000000 in
set_option maxRecDepth 100000 in
theorem k_Jxe99ae_doubleToLongBits_ccdee (l : Launch) (dC : Nat → ClassId) (dI : Nat → Nat → Nat) (x : UInt64) (hn : Op.cmpValue (FP.dcmp x x) .l = 0) : zRl l yJxe99ae_doubleToLongBits_ccdee wsJxe99ae_doubleToLongBits_ccdee rJxe99ae_doubleToLongBits_ccdee (dC, dI) [.double x] [] [] (fun r => r = x.toInt64) := by
  refine zRl_of (cc := cJxe99ae_doubleToLongBits_ccdee) (maxL := 2) (by decide) rfl (Nat.le_of_ble_eq_true rfl) ?_
  intro p e s m args below meth cd Q ls hat hP hK hend
  obtain ⟨hx, hb, hml, hown, hts, hl⟩ := hat
  replace hown : s.vm.findClass RJxe99ae = some m.cls := hown
  replace hl : lv_has ls 2 [(0, .double x)] := hl
  replace hP : va_P (dC, dI) vwCl [] s.heap := hP
  have hc137 := hts (.constantLong RJxe99ae 137 (9221120237041090560)) (by decide +kernel)
  have hd2l0 := hts (.methodLink RJxe99ae 134 ⟨"java/lang/Double", "doubleToRawLongBits", "(D)J"⟩) (by decide +kernel)
  have hd2l1 := hts (.native ⟨"java/lang/Double", "doubleToRawLongBits", "(D)J"⟩) (by decide +kernel)
  have hd2l2 := hts (.static ⟨"java/lang/Double", "doubleToRawLongBits", "(D)J"⟩) (by decide +kernel)
  have hd2l3 := hts (.initialized "java/lang/Double") (by decide +kernel)
  refine lv_dload_n hx hb dJxe99ae_doubleToLongBits_ccdee_0 rfl (lv_at hl 0 rfl) ?_
  refine z_cSi (As := [.double x]) (rest := []) ⟨hx, hb, hml, hown, hts⟩ (k_Jxe99ae_isNaN_b9ae7 l dC dI x) (va_cwS 1 hts gJxe99ae_doubleToLongBits_ccdee_Jxe99ae_isNaN_b9ae7 rfl rfl rfl (by decide +kernel) ⟨Nat.le_of_ble_eq_true rfl, Nat.le_of_ble_eq_true rfl⟩) (hP.sub (ws' := []) [] rfl) (hK.sub (tys' := []) [] rfl) rfl hl.1 rfl (Nat.le_of_ble_eq_true rfl) dJxe99ae_doubleToLongBits_ccdee_1 ⟨Nat.le_of_ble_eq_true rfl, Nat.le_of_ble_eq_true rfl⟩ (fun r_1 hr_1 => ?_)
  refine z_ifneB hx hb hr_1 (tgt := 12) dJxe99ae_doubleToLongBits_ccdee_4 (by decide) (fun c_2 => ?_) (fun c_2 => ?_)
  · skip
    refine lv_ldc2 hx hb hown hc137 dJxe99ae_doubleToLongBits_ccdee_12 ?_
    exact hend _ _ _ (absurd hn c_2) dJxe99ae_doubleToLongBits_ccdee_15
  · skip
    replace c_2 := Classical.not_not.mp c_2
    refine lv_dload_n hx hb dJxe99ae_doubleToLongBits_ccdee_7 rfl (lv_at hl 0 rfl) ?_
    refine vn_d2l hx hb (hml.trans hl.1.symm) hown hd2l0 hd2l1 hd2l2 hd2l3 (Nat.le_of_ble_eq_true rfl) (Nat.le_of_ble_eq_true rfl) dJxe99ae_doubleToLongBits_ccdee_8 ?_
    exact hend _ _ _ rfl dJxe99ae_doubleToLongBits_ccdee_11

abbrev rX4_saved : Room := { frames := 0, cells := 0, slots := 0, locals := 0 }
set_option maxHeartbeats 4000000 in
set_option maxRecDepth 100000 in
theorem k_X4_saved (l : Launch) (dC : Nat → ClassId) (dI : Nat → Nat → Nat) (ad : Nat → Nat) (cI : ClassId) (μ : zM) (hMok : zMok μ) : zRd l yX4_saved wsX4_saved rX4_saved (dC, dI) [.ref (ad 0)] (zMW ad cI μ) [(cI, .int)] (fun r => r = pShare (mg μ 3) (mg μ 4)) := by
  refine zRd_of (cc := cX4_saved) (maxL := 1) (by decide) rfl (Nat.le_of_ble_eq_true rfl) ?_
  intro p e s m args below meth cd Q ls hat hP hK hend
  obtain ⟨hx, hb, hml, hown, hts, hl⟩ := hat
  replace hown : s.vm.findClass RX4 = some m.cls := hown
  replace hl : lv_has ls 1 [(0, .ref (ad 0))] := hl
  replace hP : va_P (dC, dI) vwCl [((ad 0), .inr (4, [.ref (ad 1), .ref (ad 2), .ref (ad 3), .int (nI (mk μ)), .ref (ad 4), .int (nI (my μ)), .int (mth μ), .int (nI (mat μ)), .int (mfl μ), .int (nI (mva μ)), .ref (ad 5), .int (nI (mtn μ))])), ((ad 1), .inl (cI, 323, .inl (mg μ))), ((ad 2), .inl (cI, 323, .inl (mh μ))), ((ad 3), .inl (cI, 1938, .inl (mp μ))), ((ad 4), .inl (cI, 60, .inl (fun w => nI ((mx μ) w)))), ((ad 5), .inl (cI, 62, .inl (fun w => nI ((mt μ) w))))] s.heap := hP
  have hf7 := hts (.fieldLink RX4 7 "InsideOutWordsModel" "now" "[I") (by decide +kernel)
  have hnX4 : ∀ w ∈ u_ws RX4 TX4 12, w ∈ wsX4_saved := by decide +kernel
  refine lv_aload_n hx hb dX4_saved_0 rfl (lv_at hl 0 rfl) ?_
  refine va_get (D := (dC, dI)) (ci := 4) (v := .ref (ad 1)) (C := RX4) (T := TX4) (N := 12) hx hb hts hnX4 hown hK hP 0 rfl rfl 0 (by decide) hf7 (fun _ h9 => h9) rfl dX4_saved_1 ?_
  refine lv_iconst (v := 4) hx hb dX4_saved_4 (by decide) ?_
  refine z_ald hx hb hK hP 1 0 4 (f := (mg μ)) rfl rfl (by first | omega | decide) (by first | decide | omega) dX4_saved_5 ?_
  refine lv_if_ne (tgt := 13) hx hb dX4_saved_6 (by decide) (fun c_1 => ?_) (fun c_1 => ?_)
  · skip
    refine lv_aload_n hx hb dX4_saved_13 rfl (lv_at hl 0 rfl) ?_
    refine va_get (D := (dC, dI)) (ci := 4) (v := .ref (ad 1)) (C := RX4) (T := TX4) (N := 12) hx hb hts hnX4 hown hK hP 0 rfl rfl 0 (by decide) hf7 (fun _ h9 => h9) rfl dX4_saved_14 ?_
    refine lv_iconst (v := 3) hx hb dX4_saved_17 (by decide) ?_
    refine z_ald hx hb hK hP 1 0 3 (f := (mg μ)) rfl rfl (by first | omega | decide) (by first | decide | omega) dX4_saved_18 ?_
    refine lv_i2d hx hb dX4_saved_19 ?_
    refine lv_aload_n hx hb dX4_saved_20 rfl (lv_at hl 0 rfl) ?_
    refine va_get (D := (dC, dI)) (ci := 4) (v := .ref (ad 1)) (C := RX4) (T := TX4) (N := 12) hx hb hts hnX4 hown hK hP 0 rfl rfl 0 (by decide) hf7 (fun _ h9 => h9) rfl dX4_saved_21 ?_
    refine lv_iconst (v := 4) hx hb dX4_saved_24 (by decide) ?_
    refine z_ald hx hb hK hP 1 0 4 (f := (mg μ)) rfl rfl (by first | omega | decide) (by first | decide | omega) dX4_saved_25 ?_
    refine lv_i2d hx hb dX4_saved_26 ?_
    refine lv_ddiv hx hb dX4_saved_27 (i2d_nn0 _ c_1) ?_
    exact hend _ _ _ (by unfold pShare; rw [if_neg c_1]) dX4_saved_28
  · skip
    refine lv_dconst1 hx hb dX4_saved_9 ?_
    refine lv_goto (tgt := 28) hx hb dX4_saved_10 (by decide) ?_
    exact hend _ _ _ (by unfold pShare; rw [if_pos c_1]) dX4_saved_28

abbrev rX4_isAt : Room := { frames := 1, cells := 0, slots := 0, locals := 22 }
set_option maxHeartbeats 4000000 in
set_option maxRecDepth 100000 in
theorem k_X4_isAt (l : Launch) (dC : Nat → ClassId) (dI : Nat → Nat → Nat) (ad : Nat → Nat) (cI : ClassId) (μ : zM) (hMok : zMok μ) (lo : Nat) (hlo : lo < 128) (hi : Nat) (hhi : hi < 128) (hf : ∀ i, i < my μ → mx μ i < 128) (ha : mat μ ≤ my μ) : zRi l yX4_isAt wsX4_isAt rX4_isAt (dC, dI) [.ref (ad 0), .int (nI lo), .int (nI hi)] (zMW ad cI μ) [(cI, .int)] (fun r => r = if qA (mx μ) (my μ) (mat μ) lo hi then 1 else 0) := by
  refine zRi_of (cc := cX4_isAt) (maxL := 3) (ty := .boolean) (by decide) rfl (Nat.le_of_ble_eq_true rfl) (fun v h => by subst h; split <;> rfl) ?_
  intro p e s m args below meth cd Q ls hat hP hK hend
  obtain ⟨hx, hb, hml, hown, hts, hl⟩ := hat
  replace hown : s.vm.findClass RX4 = some m.cls := hown
  replace hl : lv_has ls 3 [(0, .ref (ad 0)), (1, .int (nI lo)), (2, .int (nI hi))] := hl
  replace hP : va_P (dC, dI) vwCl [((ad 0), .inr (4, [.ref (ad 1), .ref (ad 2), .ref (ad 3), .int (nI (mk μ)), .ref (ad 4), .int (nI (my μ)), .int (mth μ), .int (nI (mat μ)), .int (mfl μ), .int (nI (mva μ)), .ref (ad 5), .int (nI (mtn μ))])), ((ad 1), .inl (cI, 323, .inl (mg μ))), ((ad 2), .inl (cI, 323, .inl (mh μ))), ((ad 3), .inl (cI, 1938, .inl (mp μ))), ((ad 4), .inl (cI, 60, .inl (fun w => nI ((mx μ) w)))), ((ad 5), .inl (cI, 62, .inl (fun w => nI ((mt μ) w))))] s.heap := hP
  have hf105 := hts (.fieldLink RX4 105 "InsideOutWordsModel" "at" "I") (by decide +kernel)
  have hnX4 : ∀ w ∈ u_ws RX4 TX4 12, w ∈ wsX4_isAt := by decide +kernel
  have hf102 := hts (.fieldLink RX4 102 "InsideOutWordsModel" "typed" "I") (by decide +kernel)
  have hf19 := hts (.fieldLink RX4 19 "InsideOutWordsModel" "text" "[I") (by decide +kernel)
  have hy6 : my μ ≤ 60 := hMok.2.2.2
  refine lv_aload_n hx hb dX4_isAt_0 rfl (lv_at hl 0 rfl) ?_
  refine va_get (D := (dC, dI)) (ci := 4) (v := .int (nI (mat μ))) (C := RX4) (T := TX4) (N := 12) hx hb hts hnX4 hown hK hP 0 rfl rfl 7 (by decide) hf105 (fun _ h9 => h9) rfl dX4_isAt_1 ?_
  refine lv_aload_n hx hb dX4_isAt_4 rfl (lv_at hl 0 rfl) ?_
  refine va_get (D := (dC, dI)) (ci := 4) (v := .int (nI (my μ))) (C := RX4) (T := TX4) (N := 12) hx hb hts hnX4 hown hK hP 0 rfl rfl 5 (by decide) hf102 (fun _ h9 => h9) rfl dX4_isAt_5 ?_
  refine z_ge hx hb (mat μ) (my μ) (by omega) (by omega) (tgt := 32) dX4_isAt_8 (by decide) (fun c_1 => ?_) (fun c_1 => ?_)
  · skip
    refine lv_iconst (v := 0) hx hb dX4_isAt_32 (by decide) ?_
    exact hend _ _ _ (by exact (if_neg (fun z => absurd z.1 (by omega))).symm) dX4_isAt_33
  · skip
    refine lv_aload_n hx hb dX4_isAt_11 rfl (lv_at hl 0 rfl) ?_
    refine va_get (D := (dC, dI)) (ci := 4) (v := .ref (ad 4)) (C := RX4) (T := TX4) (N := 12) hx hb hts hnX4 hown hK hP 0 rfl rfl 4 (by decide) hf19 (fun _ h9 => h9) rfl dX4_isAt_12 ?_
    refine lv_aload_n hx hb dX4_isAt_15 rfl (lv_at hl 0 rfl) ?_
    refine va_get (D := (dC, dI)) (ci := 4) (v := .int (nI (mat μ))) (C := RX4) (T := TX4) (N := 12) hx hb hts hnX4 hown hK hP 0 rfl rfl 7 (by decide) hf105 (fun _ h9 => h9) rfl dX4_isAt_16 ?_
    refine z_ald hx hb hK hP 4 0 (mat μ) (f := (fun w => nI ((mx μ) w))) rfl rfl (by first | omega | decide) (by first | decide | omega) dX4_isAt_19 ?_
    refine lv_iload_n hx hb dX4_isAt_20 rfl (lv_at hl 1 rfl) ?_
    refine lv_iload_n hx hb dX4_isAt_21 rfl (lv_at hl 2 rfl) ?_
    refine z_cSi (As := [.int (nI ((mx μ) (mat μ))), .int (nI lo), .int (nI hi)]) (rest := []) ⟨hx, hb, hml, hown, hts⟩ (k_X4_in l dC dI (nI ((mx μ) (mat μ))) (nI lo) (nI hi)) (va_cwS 3 hts gX4_isAt_X4_in rfl rfl rfl (by decide +kernel) ⟨Nat.le_of_ble_eq_true rfl, Nat.le_of_ble_eq_true rfl⟩) (hP.sub (ws' := []) [] rfl) (hK.sub (tys' := []) [] rfl) rfl hl.1 rfl (Nat.le_of_ble_eq_true rfl) dX4_isAt_22 ⟨Nat.le_of_ble_eq_true rfl, Nat.le_of_ble_eq_true rfl⟩ (fun r_2 hr_2 => ?_)
    have hJ_3 : ∀ b_3 : Int32, b_3 = (if ¬ (nI ((mx μ) (mat μ))) < (nI lo) ∧ ¬ (nI hi) < (nI ((mx μ) (mat μ))) then 1 else 0) → W p l e rX4_isAt s m args below meth cd s.heap [] 0 0 Q (F0 m 33 ls (.int b_3 :: [])) := by
      intro b_3 eb_3
      exact hend _ _ _ (by rw [eb_3]; exact z_ifc ((in_iff (Nat.lt_trans (hf _ c_1) (by decide)) (by omega) (by omega)).trans ⟨fun z => ⟨c_1, z⟩, fun z => z.2⟩)) dX4_isAt_33
    refine z_ifeqB hx hb hr_2 (tgt := 32) dX4_isAt_25 (by decide) (fun c_3 => ?_) (fun c_3 => ?_)
    · refine lv_iconst (v := 0) hx hb dX4_isAt_32 (by decide) ?_
      exact hJ_3 _ (if_neg c_3).symm
    · refine lv_iconst (v := 1) hx hb dX4_isAt_28 (by decide) ?_
      refine lv_goto (tgt := 33) hx hb dX4_isAt_29 (by decide) ?_
      exact hJ_3 _ (if_pos c_3).symm

abbrev rX4_stops : Room := { frames := 0, cells := 0, slots := 0, locals := 0 }
set_option maxHeartbeats 4000000 in
set_option maxRecDepth 100000 in
theorem k_X4_stops (l : Launch) (dC : Nat → ClassId) (dI : Nat → Nat → Nat) (ad : Nat → Nat) (cI : ClassId) (μ : zM) (hMok : zMok μ) (ha : mat μ ≤ my μ) (sz : Nat) : zWi (S := Unit) l yX4_stops wsX4_stops rX4_stops (dC, dI) [.ref (ad 0)] (zMW ad cI μ) [(cI, .int)] sz (fun r (_ : Unit) => r = if False then 1 else 0) (fun _ => zMW ad cI (mset_q μ (qE (my μ) (mQ μ)))) 0 0 := by
  refine zWi_of (cc := cX4_stops) (maxL := 1) (ty := .boolean) (by decide) rfl (Nat.le_of_ble_eq_true rfl) (fun v u h => by rw [h]; split <;> rfl) ?_
  intro p e s m args below meth cd Q ls A hat hP hK hD hA hend
  obtain ⟨hx, hb, hml, hown, hts, hl⟩ := hat
  replace hown : s.vm.findClass RX4 = some m.cls := hown
  replace hl : lv_has ls 1 [(0, .ref (ad 0))] := hl
  replace hP : va_P (dC, dI) vwCl [((ad 0), .inr (4, [.ref (ad 1), .ref (ad 2), .ref (ad 3), .int (nI (mk μ)), .ref (ad 4), .int (nI (my μ)), .int (mth μ), .int (nI (mat μ)), .int (mfl μ), .int (nI (mva μ)), .ref (ad 5), .int (nI (mtn μ))])), ((ad 1), .inl (cI, 323, .inl (mg μ))), ((ad 2), .inl (cI, 323, .inl (mh μ))), ((ad 3), .inl (cI, 1938, .inl (mp μ))), ((ad 4), .inl (cI, 60, .inl (fun w => nI ((mx μ) w)))), ((ad 5), .inl (cI, 62, .inl (fun w => nI ((mt μ) w))))] s.heap := hP
  replace hD : va_D A [((ad 0), .inr (4, [.ref (ad 1), .ref (ad 2), .ref (ad 3), .int (nI (mk μ)), .ref (ad 4), .int (nI (my μ)), .int (mth μ), .int (nI (mat μ)), .int (mfl μ), .int (nI (mva μ)), .ref (ad 5), .int (nI (mtn μ))])), ((ad 1), .inl (cI, 323, .inl (mg μ))), ((ad 2), .inl (cI, 323, .inl (mh μ))), ((ad 3), .inl (cI, 1938, .inl (mp μ))), ((ad 4), .inl (cI, 60, .inl (fun w => nI ((mx μ) w)))), ((ad 5), .inl (cI, 62, .inl (fun w => nI ((mt μ) w))))] := hD
  have hS : va_S A s.heap s.heap [] := va_S.rf
  have hf105 := hts (.fieldLink RX4 105 "InsideOutWordsModel" "at" "I") (by decide +kernel)
  have hnX4 : ∀ w ∈ u_ws RX4 TX4 12, w ∈ wsX4_stops := by decide +kernel
  have hf102 := hts (.fieldLink RX4 102 "InsideOutWordsModel" "typed" "I") (by decide +kernel)
  have hf108 := hts (.fieldLink RX4 108 "InsideOutWordsModel" "isFault" "Z") (by decide +kernel)
  have hy6 : my μ ≤ 60 := hMok.2.2.2
  refine lv_aload_n hx hb dX4_stops_0 rfl (lv_at hl 0 rfl) ?_
  refine lv_aload_n hx hb dX4_stops_1 rfl (lv_at hl 0 rfl) ?_
  refine va_get (D := (dC, dI)) (ci := 4) (v := .int (nI (mat μ))) (C := RX4) (T := TX4) (N := 12) hx hb hts hnX4 hown hK hP 0 rfl rfl 7 (by decide) hf105 (fun _ h9 => h9) rfl dX4_stops_2 ?_
  refine lv_aload_n hx hb dX4_stops_5 rfl (lv_at hl 0 rfl) ?_
  refine va_get (D := (dC, dI)) (ci := 4) (v := .int (nI (my μ))) (C := RX4) (T := TX4) (N := 12) hx hb hts hnX4 hown hK hP 0 rfl rfl 5 (by decide) hf102 (fun _ h9 => h9) rfl dX4_stops_6 ?_
  have hJ_1 : ∀ b_1 : Int32, b_1 = (if (mat μ) < (my μ) then 1 else 0) → W p l e rX4_stops s m args below meth cd s.heap [] 0 0 Q (F0 m 17 ls (.int b_1 :: [.ref (ad 0)])) := by
    intro b_1 eb_1
    refine va_put (D := (dC, dI)) (ci := 4) (v := .int b_1) (ty := .boolean) (C := RX4) (T := TX4) (N := 12) hx hb hts hnX4 tyX4 tyX4_ok nmX4 hown hK hP hD hS 0 rfl rfl 8 (by decide) hf108 (fun _ h9 => h9) rfl (by decide +kernel) (by rw [eb_1]; split <;> rfl) (by rw [eb_1]; split <;> rfl) (Nat.le_of_ble_eq_true rfl) dX4_stops_17 (fun H locs (hP : va_P (dC, dI) vwCl [((ad 0), .inr (4, [.ref (ad 1), .ref (ad 2), .ref (ad 3), .int (nI (mk μ)), .ref (ad 4), .int (nI (my μ)), .int (mth μ), .int (nI (mat μ)), .int b_1, .int (nI (mva μ)), .ref (ad 5), .int (nI (mtn μ))])), ((ad 1), .inl (cI, 323, .inl (mg μ))), ((ad 2), .inl (cI, 323, .inl (mh μ))), ((ad 3), .inl (cI, 1938, .inl (mp μ))), ((ad 4), .inl (cI, 60, .inl (fun w => nI ((mx μ) w)))), ((ad 5), .inl (cI, 62, .inl (fun w => nI ((mt μ) w))))] H) (hD : va_D A [((ad 0), .inr (4, [.ref (ad 1), .ref (ad 2), .ref (ad 3), .int (nI (mk μ)), .ref (ad 4), .int (nI (my μ)), .int (mth μ), .int (nI (mat μ)), .int b_1, .int (nI (mva μ)), .ref (ad 5), .int (nI (mtn μ))])), ((ad 1), .inl (cI, 323, .inl (mg μ))), ((ad 2), .inl (cI, 323, .inl (mh μ))), ((ad 3), .inl (cI, 1938, .inl (mp μ))), ((ad 4), .inl (cI, 60, .inl (fun w => nI ((mx μ) w)))), ((ad 5), .inl (cI, 62, .inl (fun w => nI ((mt μ) w))))]) hS => ?_)
    refine lv_iconst (v := 0) hx hb dX4_stops_20 (by decide) ?_
    replace hP : va_P (dC, dI) vwCl (zMW ad cI ((mg μ), (mh μ), (mp μ), (mx μ), (mt μ), (mk μ), (my μ), (mth μ), (mat μ), b_1, (mva μ), (mtn μ))) H := hP.sub (ws' := zMW ad cI ((mg μ), (mh μ), (mp μ), (mx μ), (mt μ), (mk μ), (my μ), (mth μ), (mat μ), b_1, (mva μ), (mtn μ))) [0, 1, 2, 3, 4, 5] rfl
    replace hD : va_D A (zMW ad cI ((mg μ), (mh μ), (mp μ), (mx μ), (mt μ), (mk μ), (my μ), (mth μ), (mat μ), b_1, (mva μ), (mtn μ))) := hD.sub (ws' := zMW ad cI ((mg μ), (mh μ), (mp μ), (mx μ), (mt μ), (mk μ), (my μ), (mth μ), (mat μ), b_1, (mva μ), (mtn μ))) [0, 1, 2, 3, 4, 5] (by decide) rfl
    have e9 : mset_q μ (qE (my μ) (mQ μ)) = ((mg μ), (mh μ), (mp μ), (mx μ), (mt μ), (mk μ), (my μ), (mth μ), (mat μ), b_1, (mva μ), (mtn μ)) := by show (mg μ, mh μ, mp μ, mx μ, mt μ, mk μ, my μ, mth μ, mat μ, (if mat μ < my μ then (1 : Int32) else 0), mva μ, mtn μ) = _; rw [← eb_1]
    replace hP : va_P (dC, dI) vwCl (zMW ad cI (mset_q μ (qE (my μ) (mQ μ)))) H := by rw [e9]; exact hP
    replace hD : va_D A (zMW ad cI (mset_q μ (qE (my μ) (mQ μ)))) := by rw [e9]; exact hD
    exact hend _ () _ _ _ _ ((if_neg (fun z => z)).symm) hP hD hS dX4_stops_21
  refine z_ge hx hb (mat μ) (my μ) (by omega) (by omega) (tgt := 16) dX4_stops_9 (by decide) (fun c_1 => ?_) (fun c_1 => ?_)
  · refine lv_iconst (v := 0) hx hb dX4_stops_16 (by decide) ?_
    exact hJ_1 _ (if_neg (by omega)).symm
  · refine lv_iconst (v := 1) hx hb dX4_stops_12 (by decide) ?_
    refine lv_goto (tgt := 17) hx hb dX4_stops_13 (by decide) ?_
    exact hJ_1 _ (if_pos c_1).symm

abbrev rX4_isValue : Room := { frames := 2, cells := 0, slots := 0, locals := 44 }
set_option maxHeartbeats 4000000 in
set_option maxRecDepth 100000 in
theorem k_X4_isValue (l : Launch) (dC : Nat → ClassId) (dI : Nat → Nat → Nat) (ad : Nat → Nat) (cI : ClassId) (μ : zM) (hMok : zMok μ) (hf : ∀ i, i < my μ → mx μ i < 128) (ha : mat μ ≤ my μ) (sz : Nat) : zWi (S := Unit) l yX4_isValue wsX4_isValue rX4_isValue (dC, dI) [.ref (ad 0)] (zMW ad cI μ) [(cI, .int)] sz (fun r (_ : Unit) => r = if qA (mx μ) (my μ) (mat μ) 48 57 then 1 else 0) (fun _ => zMW ad cI (mset_q μ (qV (mx μ) (my μ) (mQ μ)))) 0 0 := by
  refine zWi_of (cc := cX4_isValue) (maxL := 1) (ty := .boolean) (by decide) rfl (Nat.le_of_ble_eq_true rfl) (fun v u h => by rw [h]; split <;> rfl) ?_
  intro p e s m args below meth cd Q ls A hat hP hK hD hA hend
  obtain ⟨hx, hb, hml, hown, hts, hl⟩ := hat
  replace hown : s.vm.findClass RX4 = some m.cls := hown
  replace hl : lv_has ls 1 [(0, .ref (ad 0))] := hl
  replace hP : va_P (dC, dI) vwCl [((ad 0), .inr (4, [.ref (ad 1), .ref (ad 2), .ref (ad 3), .int (nI (mk μ)), .ref (ad 4), .int (nI (my μ)), .int (mth μ), .int (nI (mat μ)), .int (mfl μ), .int (nI (mva μ)), .ref (ad 5), .int (nI (mtn μ))])), ((ad 1), .inl (cI, 323, .inl (mg μ))), ((ad 2), .inl (cI, 323, .inl (mh μ))), ((ad 3), .inl (cI, 1938, .inl (mp μ))), ((ad 4), .inl (cI, 60, .inl (fun w => nI ((mx μ) w)))), ((ad 5), .inl (cI, 62, .inl (fun w => nI ((mt μ) w))))] s.heap := hP
  replace hD : va_D A [((ad 0), .inr (4, [.ref (ad 1), .ref (ad 2), .ref (ad 3), .int (nI (mk μ)), .ref (ad 4), .int (nI (my μ)), .int (mth μ), .int (nI (mat μ)), .int (mfl μ), .int (nI (mva μ)), .ref (ad 5), .int (nI (mtn μ))])), ((ad 1), .inl (cI, 323, .inl (mg μ))), ((ad 2), .inl (cI, 323, .inl (mh μ))), ((ad 3), .inl (cI, 1938, .inl (mp μ))), ((ad 4), .inl (cI, 60, .inl (fun w => nI ((mx μ) w)))), ((ad 5), .inl (cI, 62, .inl (fun w => nI ((mt μ) w))))] := hD
  have hS : va_S A s.heap s.heap [] := va_S.rf
  have hf19 := hts (.fieldLink RX4 19 "InsideOutWordsModel" "text" "[I") (by decide +kernel)
  have hnX4 : ∀ w ∈ u_ws RX4 TX4 12, w ∈ wsX4_isValue := by decide +kernel
  have hf105 := hts (.fieldLink RX4 105 "InsideOutWordsModel" "at" "I") (by decide +kernel)
  have hf120 := hts (.fieldLink RX4 120 "InsideOutWordsModel" "value" "I") (by decide +kernel)
  have hy6 : my μ ≤ 60 := hMok.2.2.2
  refine lv_aload_n hx hb dX4_isValue_0 rfl (lv_at hl 0 rfl) ?_
  refine lv_bipush (v := 48) hx hb dX4_isValue_1 (by decide) ?_
  refine lv_bipush (v := 57) hx hb dX4_isValue_3 (by decide) ?_
  refine z_cVi (As := [.int 48, .int 57]) (rest := []) ⟨hx, hb, hml, hown, hts⟩ (k_X4_isAt l dC dI ad cI μ hMok 48 (by omega) 57 (by omega) hf (show (mat μ) ≤ (my μ) by omega)) (cwV 2 hts gX4_isValue_X4_isAt rfl rfl rfl (by decide +kernel) ⟨Nat.le_of_ble_eq_true rfl, Nat.le_of_ble_eq_true rfl⟩) (va_recv hK hP (ci := 4) (q0 := 0) rfl rfl) (hP.sub (ws' := zMW ad cI μ) [0, 1, 2, 3, 4, 5] rfl) (hK.sub (tys' := [(cI, .int)]) [0] rfl) rfl hl.1 rfl (Nat.le_of_ble_eq_true rfl) dX4_isValue_5 ⟨Nat.le_of_ble_eq_true rfl, Nat.le_of_ble_eq_true rfl⟩ (fun r_1 hr_1 => ?_)
  refine z_ifneB hx hb hr_1 (tgt := 16) dX4_isValue_8 (by decide) (fun c_2 => ?_) (fun c_2 => ?_)
  · skip
    replace c_2 : qA (mx μ) (my μ) (mat μ) 48 57 := c_2
    obtain ⟨q1_3, q2_3, q3_3⟩ : (mat μ) < (my μ) ∧ 48 ≤ (mx μ) (mat μ) ∧ (mx μ) (mat μ) ≤ 57 := id c_2
    refine lv_aload_n hx hb dX4_isValue_16 rfl (lv_at hl 0 rfl) ?_
    refine lv_aload_n hx hb dX4_isValue_17 rfl (lv_at hl 0 rfl) ?_
    refine va_get (D := (dC, dI)) (ci := 4) (v := .ref (ad 4)) (C := RX4) (T := TX4) (N := 12) hx hb hts hnX4 hown hK hP 0 rfl rfl 4 (by decide) hf19 (fun _ h9 => h9) rfl dX4_isValue_18 ?_
    refine lv_aload_n hx hb dX4_isValue_21 rfl (lv_at hl 0 rfl) ?_
    refine va_get (D := (dC, dI)) (ci := 4) (v := .int (nI (mat μ))) (C := RX4) (T := TX4) (N := 12) hx hb hts hnX4 hown hK hP 0 rfl rfl 7 (by decide) hf105 (fun _ h9 => h9) rfl dX4_isValue_22 ?_
    refine z_ald hx hb hK hP 4 0 (mat μ) (f := (fun w => nI ((mx μ) w))) rfl rfl (by first | omega | decide) (by first | decide | omega) dX4_isValue_25 ?_
    refine lv_bipush (v := 48) hx hb dX4_isValue_26 (by decide) ?_
    refine z_isub hx hb ((mx μ) (mat μ)) 48 (by omega) dX4_isValue_28 ?_
    refine va_put (D := (dC, dI)) (ci := 4) (v := .int (nI (((mx μ) (mat μ)) - 48))) (ty := .int) (C := RX4) (T := TX4) (N := 12) hx hb hts hnX4 tyX4 tyX4_ok nmX4 hown hK hP hD hS 0 rfl rfl 9 (by decide) hf120 (fun _ h9 => h9) rfl (by decide +kernel) rfl rfl (Nat.le_of_ble_eq_true rfl) dX4_isValue_29 (fun H locs (hP : va_P (dC, dI) vwCl [((ad 0), .inr (4, [.ref (ad 1), .ref (ad 2), .ref (ad 3), .int (nI (mk μ)), .ref (ad 4), .int (nI (my μ)), .int (mth μ), .int (nI (mat μ)), .int (mfl μ), .int (nI (((mx μ) (mat μ)) - 48)), .ref (ad 5), .int (nI (mtn μ))])), ((ad 1), .inl (cI, 323, .inl (mg μ))), ((ad 2), .inl (cI, 323, .inl (mh μ))), ((ad 3), .inl (cI, 1938, .inl (mp μ))), ((ad 4), .inl (cI, 60, .inl (fun w => nI ((mx μ) w)))), ((ad 5), .inl (cI, 62, .inl (fun w => nI ((mt μ) w))))] H) (hD : va_D A [((ad 0), .inr (4, [.ref (ad 1), .ref (ad 2), .ref (ad 3), .int (nI (mk μ)), .ref (ad 4), .int (nI (my μ)), .int (mth μ), .int (nI (mat μ)), .int (mfl μ), .int (nI (((mx μ) (mat μ)) - 48)), .ref (ad 5), .int (nI (mtn μ))])), ((ad 1), .inl (cI, 323, .inl (mg μ))), ((ad 2), .inl (cI, 323, .inl (mh μ))), ((ad 3), .inl (cI, 1938, .inl (mp μ))), ((ad 4), .inl (cI, 60, .inl (fun w => nI ((mx μ) w)))), ((ad 5), .inl (cI, 62, .inl (fun w => nI ((mt μ) w))))]) hS => ?_)
    refine lv_aload_n hx hb dX4_isValue_32 rfl (lv_at hl 0 rfl) ?_
    refine lv_dup hx hb dX4_isValue_33 rfl ?_
    refine va_get (D := (dC, dI)) (ci := 4) (v := .int (nI (mat μ))) (C := RX4) (T := TX4) (N := 12) hx hb hts hnX4 hown hK hP 0 rfl rfl 7 (by decide) hf105 (fun _ h9 => h9) rfl dX4_isValue_34 ?_
    refine lv_iconst (v := 1) hx hb dX4_isValue_37 (by decide) ?_
    refine z_iadd hx hb (mat μ) 1 dX4_isValue_38 ?_
    refine va_put (D := (dC, dI)) (ci := 4) (v := .int (nI ((mat μ) + 1))) (ty := .int) (C := RX4) (T := TX4) (N := 12) hx hb hts hnX4 tyX4 tyX4_ok nmX4 hown hK hP hD hS 0 rfl rfl 7 (by decide) hf105 (fun _ h9 => h9) rfl (by decide +kernel) rfl rfl (Nat.le_of_ble_eq_true rfl) dX4_isValue_39 (fun H locs (hP : va_P (dC, dI) vwCl [((ad 0), .inr (4, [.ref (ad 1), .ref (ad 2), .ref (ad 3), .int (nI (mk μ)), .ref (ad 4), .int (nI (my μ)), .int (mth μ), .int (nI ((mat μ) + 1)), .int (mfl μ), .int (nI (((mx μ) (mat μ)) - 48)), .ref (ad 5), .int (nI (mtn μ))])), ((ad 1), .inl (cI, 323, .inl (mg μ))), ((ad 2), .inl (cI, 323, .inl (mh μ))), ((ad 3), .inl (cI, 1938, .inl (mp μ))), ((ad 4), .inl (cI, 60, .inl (fun w => nI ((mx μ) w)))), ((ad 5), .inl (cI, 62, .inl (fun w => nI ((mt μ) w))))] H) (hD : va_D A [((ad 0), .inr (4, [.ref (ad 1), .ref (ad 2), .ref (ad 3), .int (nI (mk μ)), .ref (ad 4), .int (nI (my μ)), .int (mth μ), .int (nI ((mat μ) + 1)), .int (mfl μ), .int (nI (((mx μ) (mat μ)) - 48)), .ref (ad 5), .int (nI (mtn μ))])), ((ad 1), .inl (cI, 323, .inl (mg μ))), ((ad 2), .inl (cI, 323, .inl (mh μ))), ((ad 3), .inl (cI, 1938, .inl (mp μ))), ((ad 4), .inl (cI, 60, .inl (fun w => nI ((mx μ) w)))), ((ad 5), .inl (cI, 62, .inl (fun w => nI ((mt μ) w))))]) hS => ?_)
    have hC_42 : ∀ (nf : Nat) (a : Nat) (v : Nat) (kk : Nat) (ls : Array Slot) (H : Heap) (locs : List Loc), kk < nf → lv_has ls 1 [(0, .ref (ad 0))] → (a ≤ my μ) → (v ≤ 4095) → (my μ - a ≤ kk) → (qD (mx μ) (my μ) kk a v = qD0 (mx μ) (my μ) (mat μ)) → va_P (dC, dI) vwCl [((ad 0), .inr (4, [.ref (ad 1), .ref (ad 2), .ref (ad 3), .int (nI (mk μ)), .ref (ad 4), .int (nI (my μ)), .int (mth μ), .int (nI a), .int (mfl μ), .int (nI v), .ref (ad 5), .int (nI (mtn μ))])), ((ad 1), .inl (cI, 323, .inl (mg μ))), ((ad 2), .inl (cI, 323, .inl (mh μ))), ((ad 3), .inl (cI, 1938, .inl (mp μ))), ((ad 4), .inl (cI, 60, .inl (fun w => nI (mx μ w)))), ((ad 5), .inl (cI, 62, .inl (fun w => nI (mt μ w))))] H → va_D A [((ad 0), .inr (4, [.ref (ad 1), .ref (ad 2), .ref (ad 3), .int (nI (mk μ)), .ref (ad 4), .int (nI (my μ)), .int (mth μ), .int (nI a), .int (mfl μ), .int (nI v), .ref (ad 5), .int (nI (mtn μ))])), ((ad 1), .inl (cI, 323, .inl (mg μ))), ((ad 2), .inl (cI, 323, .inl (mh μ))), ((ad 3), .inl (cI, 1938, .inl (mp μ))), ((ad 4), .inl (cI, 60, .inl (fun w => nI (mx μ w)))), ((ad 5), .inl (cI, 62, .inl (fun w => nI (mt μ w))))] → va_S A s.heap H locs → W p l e rX4_isValue s m args below meth cd H locs 0 0 Q (F0 m 42 ls []) := by
      intro nf
      induction nf with
      | zero => intro a v kk ls H locs hm_42 hl ha1 hv1 hk1 hq hP hD hS; exact absurd hm_42 (Nat.not_lt_zero _)
      | succ nf ih_42 =>
        intro a v kk ls H locs hm_42 hl ha1 hv1 hk1 hq hP hD hS
        refine lv_aload_n hx hb dX4_isValue_42 rfl (lv_at hl 0 rfl) ?_
        refine va_get (D := (dC, dI)) (ci := 4) (v := .int (nI v)) (C := RX4) (T := TX4) (N := 12) hx hb hts hnX4 hown hK hP 0 rfl rfl 9 (by decide) hf120 (fun _ h9 => h9) rfl dX4_isValue_43 ?_
        refine z_ifle hx hb v (by omega) (tgt := 123) dX4_isValue_46 (by decide) (fun c_4 => ?_) (fun c_4 => ?_)
        · skip
          refine lv_iconst (v := 1) hx hb dX4_isValue_123 (by decide) ?_
          replace hP : va_P (dC, dI) vwCl (zMW ad cI (mg μ, mh μ, mp μ, mx μ, mt μ, mk μ, my μ, mth μ, a, mfl μ, v, mtn μ)) H := hP.sub (ws' := zMW ad cI (mg μ, mh μ, mp μ, mx μ, mt μ, mk μ, my μ, mth μ, a, mfl μ, v, mtn μ)) [0, 1, 2, 3, 4, 5] rfl
          replace hD : va_D A (zMW ad cI (mg μ, mh μ, mp μ, mx μ, mt μ, mk μ, my μ, mth μ, a, mfl μ, v, mtn μ)) := hD.sub (ws' := zMW ad cI (mg μ, mh μ, mp μ, mx μ, mt μ, mk μ, my μ, mth μ, a, mfl μ, v, mtn μ)) [0, 1, 2, 3, 4, 5] (by decide) rfl
          have e9 : mset_q μ (qV (mx μ) (my μ) (mQ μ)) = (mg μ, mh μ, mp μ, mx μ, mt μ, mk μ, my μ, mth μ, a, mfl μ, v, mtn μ) := by rw [show qV (mx μ) (my μ) (mQ μ) = ((qD0 (mx μ) (my μ) (mat μ)).1, (qD0 (mx μ) (my μ) (mat μ)).2, mfl μ, mt μ, mtn μ) from if_pos c_2, ← hq, qD_end (by first | exact fun z => z.1 c_4 | exact fun z => c_4 z.2.1 | exact fun z => c_4 ((isnum_iff (by omega)).mpr z.2.2))]
          replace hP : va_P (dC, dI) vwCl (zMW ad cI (mset_q μ (qV (mx μ) (my μ) (mQ μ)))) H := by rw [e9]; exact hP
          replace hD : va_D A (zMW ad cI (mset_q μ (qV (mx μ) (my μ) (mQ μ)))) := by rw [e9]; exact hD
          exact hend _ () _ _ _ _ ((if_pos c_2).symm) hP hD hS dX4_isValue_124
        · skip
          refine lv_aload_n hx hb dX4_isValue_49 rfl (lv_at hl 0 rfl) ?_
          refine lv_bipush (v := 48) hx hb dX4_isValue_50 (by decide) ?_
          refine lv_bipush (v := 57) hx hb dX4_isValue_52 (by decide) ?_
          refine z_cVi (As := [.int 48, .int 57]) (rest := []) ⟨hx, hb, hml, hown, hts⟩ (k_X4_isAt l dC dI ad cI (mg μ, mh μ, mp μ, mx μ, mt μ, mk μ, my μ, mth μ, a, mfl μ, v, mtn μ) hMok 48 (by omega) 57 (by omega) hf (show a ≤ (my μ) by omega)) (cwV 2 hts gX4_isValue_X4_isAt rfl rfl rfl (by decide +kernel) ⟨Nat.le_of_ble_eq_true rfl, Nat.le_of_ble_eq_true rfl⟩) (va_recv hK hP (ci := 4) (q0 := 0) rfl rfl) (hP.sub (ws' := zMW ad cI (mg μ, mh μ, mp μ, mx μ, mt μ, mk μ, my μ, mth μ, a, mfl μ, v, mtn μ)) [0, 1, 2, 3, 4, 5] rfl) (hK.sub (tys' := [(cI, .int)]) [0] rfl) rfl hl.1 rfl (Nat.le_of_ble_eq_true rfl) dX4_isValue_54 ⟨Nat.le_of_ble_eq_true rfl, Nat.le_of_ble_eq_true rfl⟩ (fun r_5 hr_5 => ?_)
          refine z_ifeqB hx hb hr_5 (tgt := 123) dX4_isValue_57 (by decide) (fun c_6 => ?_) (fun c_6 => ?_)
          · skip
            refine lv_iconst (v := 1) hx hb dX4_isValue_123 (by decide) ?_
            replace hP : va_P (dC, dI) vwCl (zMW ad cI (mg μ, mh μ, mp μ, mx μ, mt μ, mk μ, my μ, mth μ, a, mfl μ, v, mtn μ)) H := hP.sub (ws' := zMW ad cI (mg μ, mh μ, mp μ, mx μ, mt μ, mk μ, my μ, mth μ, a, mfl μ, v, mtn μ)) [0, 1, 2, 3, 4, 5] rfl
            replace hD : va_D A (zMW ad cI (mg μ, mh μ, mp μ, mx μ, mt μ, mk μ, my μ, mth μ, a, mfl μ, v, mtn μ)) := hD.sub (ws' := zMW ad cI (mg μ, mh μ, mp μ, mx μ, mt μ, mk μ, my μ, mth μ, a, mfl μ, v, mtn μ)) [0, 1, 2, 3, 4, 5] (by decide) rfl
            have e9 : mset_q μ (qV (mx μ) (my μ) (mQ μ)) = (mg μ, mh μ, mp μ, mx μ, mt μ, mk μ, my μ, mth μ, a, mfl μ, v, mtn μ) := by rw [show qV (mx μ) (my μ) (mQ μ) = ((qD0 (mx μ) (my μ) (mat μ)).1, (qD0 (mx μ) (my μ) (mat μ)).2, mfl μ, mt μ, mtn μ) from if_pos c_2, ← hq, qD_end (by first | exact fun z => z.1 c_6 | exact fun z => c_6 z.2.1 | exact fun z => c_6 ((isnum_iff (by omega)).mpr z.2.2))]
            replace hP : va_P (dC, dI) vwCl (zMW ad cI (mset_q μ (qV (mx μ) (my μ) (mQ μ)))) H := by rw [e9]; exact hP
            replace hD : va_D A (zMW ad cI (mset_q μ (qV (mx μ) (my μ) (mQ μ)))) := by rw [e9]; exact hD
            exact hend _ () _ _ _ _ ((if_pos c_2).symm) hP hD hS dX4_isValue_124
          · skip
            replace c_6 : qA (mx μ) (my μ) a 48 57 := c_6
            obtain ⟨q1_7, q2_7, q3_7⟩ : a < (my μ) ∧ 48 ≤ (mx μ) a ∧ (mx μ) a ≤ 57 := id c_6
            have hfa := hf a (by omega)
            refine lv_bipush (v := 10) hx hb dX4_isValue_60 (by decide) ?_
            refine lv_aload_n hx hb dX4_isValue_62 rfl (lv_at hl 0 rfl) ?_
            refine va_get (D := (dC, dI)) (ci := 4) (v := .int (nI v)) (C := RX4) (T := TX4) (N := 12) hx hb hts hnX4 hown hK hP 0 rfl rfl 9 (by decide) hf120 (fun _ h9 => h9) rfl dX4_isValue_63 ?_
            refine z_imul hx hb 10 v dX4_isValue_66 ?_
            refine lv_aload_n hx hb dX4_isValue_67 rfl (lv_at hl 0 rfl) ?_
            refine va_get (D := (dC, dI)) (ci := 4) (v := .ref (ad 4)) (C := RX4) (T := TX4) (N := 12) hx hb hts hnX4 hown hK hP 0 rfl rfl 4 (by decide) hf19 (fun _ h9 => h9) rfl dX4_isValue_68 ?_
            refine lv_aload_n hx hb dX4_isValue_71 rfl (lv_at hl 0 rfl) ?_
            refine va_get (D := (dC, dI)) (ci := 4) (v := .int (nI a)) (C := RX4) (T := TX4) (N := 12) hx hb hts hnX4 hown hK hP 0 rfl rfl 7 (by decide) hf105 (fun _ h9 => h9) rfl dX4_isValue_72 ?_
            refine z_ald hx hb hK hP 4 0 a (f := (fun w => nI (mx μ w))) rfl rfl (by first | omega | decide) (by first | decide | omega) dX4_isValue_75 ?_
            refine z_iadd hx hb (10 * v) (mx μ a) dX4_isValue_76 ?_
            refine lv_bipush (v := 48) hx hb dX4_isValue_77 (by decide) ?_
            refine z_isub hx hb ((10 * v) + (mx μ a)) 48 (by omega) dX4_isValue_79 ?_
            refine z_top (congrArg nI (show ((10 * v) + (mx μ a)) - 48 = v * 10 + (mx μ a - 48) by omega)) ?_
            refine z_cSi (As := [.int (nI (v * 10 + (mx μ a - 48)))]) (rest := []) ⟨hx, hb, hml, hown, hts⟩ (k_X4_isNumber l dC dI (nI (v * 10 + (mx μ a - 48)))) (va_cwS 1 hts gX4_isValue_X4_isNumber rfl rfl rfl (by decide +kernel) ⟨Nat.le_of_ble_eq_true rfl, Nat.le_of_ble_eq_true rfl⟩) (hP.sub (ws' := []) [] rfl) (hK.sub (tys' := []) [] rfl) rfl hl.1 rfl (Nat.le_of_ble_eq_true rfl) dX4_isValue_80 ⟨Nat.le_of_ble_eq_true rfl, Nat.le_of_ble_eq_true rfl⟩ (fun r_8 hr_8 => ?_)
            refine z_ifeqB hx hb hr_8 (tgt := 123) dX4_isValue_83 (by decide) (fun c_9 => ?_) (fun c_9 => ?_)
            · skip
              refine lv_iconst (v := 1) hx hb dX4_isValue_123 (by decide) ?_
              replace hP : va_P (dC, dI) vwCl (zMW ad cI (mg μ, mh μ, mp μ, mx μ, mt μ, mk μ, my μ, mth μ, a, mfl μ, v, mtn μ)) H := hP.sub (ws' := zMW ad cI (mg μ, mh μ, mp μ, mx μ, mt μ, mk μ, my μ, mth μ, a, mfl μ, v, mtn μ)) [0, 1, 2, 3, 4, 5] rfl
              replace hD : va_D A (zMW ad cI (mg μ, mh μ, mp μ, mx μ, mt μ, mk μ, my μ, mth μ, a, mfl μ, v, mtn μ)) := hD.sub (ws' := zMW ad cI (mg μ, mh μ, mp μ, mx μ, mt μ, mk μ, my μ, mth μ, a, mfl μ, v, mtn μ)) [0, 1, 2, 3, 4, 5] (by decide) rfl
              have e9 : mset_q μ (qV (mx μ) (my μ) (mQ μ)) = (mg μ, mh μ, mp μ, mx μ, mt μ, mk μ, my μ, mth μ, a, mfl μ, v, mtn μ) := by rw [show qV (mx μ) (my μ) (mQ μ) = ((qD0 (mx μ) (my μ) (mat μ)).1, (qD0 (mx μ) (my μ) (mat μ)).2, mfl μ, mt μ, mtn μ) from if_pos c_2, ← hq, qD_end (by first | exact fun z => z.1 c_9 | exact fun z => c_9 z.2.1 | exact fun z => c_9 ((isnum_iff (by omega)).mpr z.2.2))]
              replace hP : va_P (dC, dI) vwCl (zMW ad cI (mset_q μ (qV (mx μ) (my μ) (mQ μ)))) H := by rw [e9]; exact hP
              replace hD : va_D A (zMW ad cI (mset_q μ (qV (mx μ) (my μ) (mQ μ)))) := by rw [e9]; exact hD
              exact hend _ () _ _ _ _ ((if_pos c_2).symm) hP hD hS dX4_isValue_124
            · skip
              have hnm := (isnum_iff (by omega)).mp c_9
              refine lv_aload_n hx hb dX4_isValue_86 rfl (lv_at hl 0 rfl) ?_
              refine lv_bipush (v := 10) hx hb dX4_isValue_87 (by decide) ?_
              refine lv_aload_n hx hb dX4_isValue_89 rfl (lv_at hl 0 rfl) ?_
              refine va_get (D := (dC, dI)) (ci := 4) (v := .int (nI v)) (C := RX4) (T := TX4) (N := 12) hx hb hts hnX4 hown hK hP 0 rfl rfl 9 (by decide) hf120 (fun _ h9 => h9) rfl dX4_isValue_90 ?_
              refine z_imul hx hb 10 v dX4_isValue_93 ?_
              refine lv_aload_n hx hb dX4_isValue_94 rfl (lv_at hl 0 rfl) ?_
              refine va_get (D := (dC, dI)) (ci := 4) (v := .ref (ad 4)) (C := RX4) (T := TX4) (N := 12) hx hb hts hnX4 hown hK hP 0 rfl rfl 4 (by decide) hf19 (fun _ h9 => h9) rfl dX4_isValue_95 ?_
              refine lv_aload_n hx hb dX4_isValue_98 rfl (lv_at hl 0 rfl) ?_
              refine va_get (D := (dC, dI)) (ci := 4) (v := .int (nI a)) (C := RX4) (T := TX4) (N := 12) hx hb hts hnX4 hown hK hP 0 rfl rfl 7 (by decide) hf105 (fun _ h9 => h9) rfl dX4_isValue_99 ?_
              refine z_ald hx hb hK hP 4 0 a (f := (fun w => nI (mx μ w))) rfl rfl (by first | omega | decide) (by first | decide | omega) dX4_isValue_102 ?_
              refine z_iadd hx hb (10 * v) (mx μ a) dX4_isValue_103 ?_
              refine lv_bipush (v := 48) hx hb dX4_isValue_104 (by decide) ?_
              refine z_isub hx hb ((10 * v) + (mx μ a)) 48 (by omega) dX4_isValue_106 ?_
              refine z_top (congrArg nI (show ((10 * v) + (mx μ a)) - 48 = v * 10 + (mx μ a - 48) by omega)) ?_
              refine va_put (D := (dC, dI)) (ci := 4) (v := .int (nI (v * 10 + (mx μ a - 48)))) (ty := .int) (C := RX4) (T := TX4) (N := 12) hx hb hts hnX4 tyX4 tyX4_ok nmX4 hown hK hP hD hS 0 rfl rfl 9 (by decide) hf120 (fun _ h9 => h9) rfl (by decide +kernel) rfl rfl (Nat.le_of_ble_eq_true rfl) dX4_isValue_107 (fun H locs (hP : va_P (dC, dI) vwCl [((ad 0), .inr (4, [.ref (ad 1), .ref (ad 2), .ref (ad 3), .int (nI (mk μ)), .ref (ad 4), .int (nI (my μ)), .int (mth μ), .int (nI a), .int (mfl μ), .int (nI (v * 10 + (mx μ a - 48))), .ref (ad 5), .int (nI (mtn μ))])), ((ad 1), .inl (cI, 323, .inl (mg μ))), ((ad 2), .inl (cI, 323, .inl (mh μ))), ((ad 3), .inl (cI, 1938, .inl (mp μ))), ((ad 4), .inl (cI, 60, .inl (fun w => nI (mx μ w)))), ((ad 5), .inl (cI, 62, .inl (fun w => nI (mt μ w))))] H) (hD : va_D A [((ad 0), .inr (4, [.ref (ad 1), .ref (ad 2), .ref (ad 3), .int (nI (mk μ)), .ref (ad 4), .int (nI (my μ)), .int (mth μ), .int (nI a), .int (mfl μ), .int (nI (v * 10 + (mx μ a - 48))), .ref (ad 5), .int (nI (mtn μ))])), ((ad 1), .inl (cI, 323, .inl (mg μ))), ((ad 2), .inl (cI, 323, .inl (mh μ))), ((ad 3), .inl (cI, 1938, .inl (mp μ))), ((ad 4), .inl (cI, 60, .inl (fun w => nI (mx μ w)))), ((ad 5), .inl (cI, 62, .inl (fun w => nI (mt μ w))))]) hS => ?_)
              refine lv_aload_n hx hb dX4_isValue_110 rfl (lv_at hl 0 rfl) ?_
              refine lv_dup hx hb dX4_isValue_111 rfl ?_
              refine va_get (D := (dC, dI)) (ci := 4) (v := .int (nI a)) (C := RX4) (T := TX4) (N := 12) hx hb hts hnX4 hown hK hP 0 rfl rfl 7 (by decide) hf105 (fun _ h9 => h9) rfl dX4_isValue_112 ?_
              refine lv_iconst (v := 1) hx hb dX4_isValue_115 (by decide) ?_
              refine z_iadd hx hb a 1 dX4_isValue_116 ?_
              refine va_put (D := (dC, dI)) (ci := 4) (v := .int (nI (a + 1))) (ty := .int) (C := RX4) (T := TX4) (N := 12) hx hb hts hnX4 tyX4 tyX4_ok nmX4 hown hK hP hD hS 0 rfl rfl 7 (by decide) hf105 (fun _ h9 => h9) rfl (by decide +kernel) rfl rfl (Nat.le_of_ble_eq_true rfl) dX4_isValue_117 (fun H locs (hP : va_P (dC, dI) vwCl [((ad 0), .inr (4, [.ref (ad 1), .ref (ad 2), .ref (ad 3), .int (nI (mk μ)), .ref (ad 4), .int (nI (my μ)), .int (mth μ), .int (nI (a + 1)), .int (mfl μ), .int (nI (v * 10 + (mx μ a - 48))), .ref (ad 5), .int (nI (mtn μ))])), ((ad 1), .inl (cI, 323, .inl (mg μ))), ((ad 2), .inl (cI, 323, .inl (mh μ))), ((ad 3), .inl (cI, 1938, .inl (mp μ))), ((ad 4), .inl (cI, 60, .inl (fun w => nI (mx μ w)))), ((ad 5), .inl (cI, 62, .inl (fun w => nI (mt μ w))))] H) (hD : va_D A [((ad 0), .inr (4, [.ref (ad 1), .ref (ad 2), .ref (ad 3), .int (nI (mk μ)), .ref (ad 4), .int (nI (my μ)), .int (mth μ), .int (nI (a + 1)), .int (mfl μ), .int (nI (v * 10 + (mx μ a - 48))), .ref (ad 5), .int (nI (mtn μ))])), ((ad 1), .inl (cI, 323, .inl (mg μ))), ((ad 2), .inl (cI, 323, .inl (mh μ))), ((ad 3), .inl (cI, 1938, .inl (mp μ))), ((ad 4), .inl (cI, 60, .inl (fun w => nI (mx μ w)))), ((ad 5), .inl (cI, 62, .inl (fun w => nI (mt μ w))))]) hS => ?_)
              refine lv_goto (tgt := 42) hx hb dX4_isValue_120 (by decide) ?_
              exact ih_42 (a + 1) (v * 10 + (mx μ a - 48)) (kk - 1) _ _ _ (by omega) (lv_sub hl [0] rfl) (by omega) (by omega) (by omega) (by have e1 := qD_go (k := kk - 1) (f := mx μ) (n := my μ) (a := a) (v := v) ⟨c_4, c_6, hnm⟩; rw [show kk - 1 + 1 = kk by omega] at e1; exact e1.symm.trans hq) hP hD hS
    exact hC_42 _ ((mat μ) + 1) (((mx μ) (mat μ)) - 48) (my μ) _ _ _ (Nat.lt_succ_self _) (lv_sub hl [0] rfl) (by omega) (by have := hf (mat μ) (by omega); omega) (by omega) (rfl) hP hD hS
  · skip
    refine lv_aload_n hx hb dX4_isValue_11 rfl (lv_at hl 0 rfl) ?_
    try clear hPq hDq
    refine z_cWi (wr := []) (As := []) (rest := []) ⟨hx, hb, hml, hown, hts⟩ (k_X4_stops l dC dI ad cI μ hMok (show (mat μ) ≤ (my μ) by omega) (s.heap).size) (cwV 0 hts gX4_isValue_X4_stops rfl rfl rfl (by decide +kernel) ⟨Nat.le_of_ble_eq_true rfl, Nat.le_of_ble_eq_true rfl⟩) (va_recv hK hP (ci := 4) (q0 := 0) rfl rfl) hP hD hS hA (hP.sub (ws' := zMW ad cI μ) [0, 1, 2, 3, 4, 5] rfl) (hD.sub (ws' := zMW ad cI μ) [0, 1, 2, 3, 4, 5] (by decide) rfl) (hK.sub (tys' := [(cI, .int)]) [0] rfl) [0, 1, 2, 3, 4, 5] [] rfl rfl (by decide) (by decide) rfl hl.1 rfl (Nat.le_of_ble_eq_true rfl) dX4_isValue_12 ⟨Nat.le_of_ble_eq_true rfl, Nat.le_of_ble_eq_true rfl⟩ (fun r_10 _ H locs hr_10 (hP : va_P (dC, dI) vwCl [((ad 0), .inr (4, [.ref (ad 1), .ref (ad 2), .ref (ad 3), .int (nI (mk (mset_q μ (qE (my μ) (mQ μ))))), .ref (ad 4), .int (nI (my (mset_q μ (qE (my μ) (mQ μ))))), .int (mth (mset_q μ (qE (my μ) (mQ μ)))), .int (nI (mat (mset_q μ (qE (my μ) (mQ μ))))), .int (mfl (mset_q μ (qE (my μ) (mQ μ)))), .int (nI (mva (mset_q μ (qE (my μ) (mQ μ))))), .ref (ad 5), .int (nI (mtn (mset_q μ (qE (my μ) (mQ μ)))))])), ((ad 1), .inl (cI, 323, .inl (mg (mset_q μ (qE (my μ) (mQ μ)))))), ((ad 2), .inl (cI, 323, .inl (mh (mset_q μ (qE (my μ) (mQ μ)))))), ((ad 3), .inl (cI, 1938, .inl (mp (mset_q μ (qE (my μ) (mQ μ)))))), ((ad 4), .inl (cI, 60, .inl (fun w => nI ((mx (mset_q μ (qE (my μ) (mQ μ)))) w)))), ((ad 5), .inl (cI, 62, .inl (fun w => nI ((mt (mset_q μ (qE (my μ) (mQ μ)))) w))))] H) (hD : va_D A [((ad 0), .inr (4, [.ref (ad 1), .ref (ad 2), .ref (ad 3), .int (nI (mk (mset_q μ (qE (my μ) (mQ μ))))), .ref (ad 4), .int (nI (my (mset_q μ (qE (my μ) (mQ μ))))), .int (mth (mset_q μ (qE (my μ) (mQ μ)))), .int (nI (mat (mset_q μ (qE (my μ) (mQ μ))))), .int (mfl (mset_q μ (qE (my μ) (mQ μ)))), .int (nI (mva (mset_q μ (qE (my μ) (mQ μ))))), .ref (ad 5), .int (nI (mtn (mset_q μ (qE (my μ) (mQ μ)))))])), ((ad 1), .inl (cI, 323, .inl (mg (mset_q μ (qE (my μ) (mQ μ)))))), ((ad 2), .inl (cI, 323, .inl (mh (mset_q μ (qE (my μ) (mQ μ)))))), ((ad 3), .inl (cI, 1938, .inl (mp (mset_q μ (qE (my μ) (mQ μ)))))), ((ad 4), .inl (cI, 60, .inl (fun w => nI ((mx (mset_q μ (qE (my μ) (mQ μ)))) w)))), ((ad 5), .inl (cI, 62, .inl (fun w => nI ((mt (mset_q μ (qE (my μ) (mQ μ)))) w))))]) hS => ?_)
    have hM_10 : zMok (mset_q μ (qE (my μ) (mQ μ))) := hMok
    replace hP : va_P (dC, dI) vwCl (zMW ad cI (mset_q μ (qE (my μ) (mQ μ)))) H := hP.sub (ws' := zMW ad cI (mset_q μ (qE (my μ) (mQ μ)))) [0, 1, 2, 3, 4, 5] rfl
    replace hD : va_D A (zMW ad cI (mset_q μ (qE (my μ) (mQ μ)))) := hD.sub (ws' := zMW ad cI (mset_q μ (qE (my μ) (mQ μ)))) [0, 1, 2, 3, 4, 5] (by decide) rfl
    have e9 : mset_q μ (qV (mx μ) (my μ) (mQ μ)) = mset_q μ (qE (my μ) (mQ μ)) := by rw [show qV (mx μ) (my μ) (mQ μ) = qE (my μ) (mQ μ) from if_neg c_2]
    replace hP : va_P (dC, dI) vwCl (zMW ad cI (mset_q μ (qV (mx μ) (my μ) (mQ μ)))) H := by rw [e9]; exact hP
    replace hD : va_D A (zMW ad cI (mset_q μ (qV (mx μ) (my μ) (mQ μ)))) := by rw [e9]; exact hD
    exact hend _ () _ _ _ _ (by rw [hr_10, if_neg (fun z => z), if_neg c_2]) hP hD hS dX4_isValue_15

abbrev rX4_isPart : Room := { frames := 3, cells := 0, slots := 0, locals := 64 }
set_option maxHeartbeats 4000000 in
set_option maxRecDepth 100000 in
theorem k_X4_isPart (l : Launch) (dC : Nat → ClassId) (dI : Nat → Nat → Nat) (ad : Nat → Nat) (cI : ClassId) (μ : zM) (hMok : zMok μ) (hf : ∀ i, i < my μ → mx μ i < 128) (ho : qok (my μ) (mQ μ) 0) (sz : Nat) : zWi (S := Unit) l yX4_isPart wsX4_isPart rX4_isPart (dC, dI) [.ref (ad 0)] (zMW ad cI μ) [(cI, .int)] sz (fun r (_ : Unit) => r = if (qP (mx μ) (my μ) (mQ μ)).1 = true then 1 else 0) (fun _ => zMW ad cI (mset_q μ (qP (mx μ) (my μ) (mQ μ)).2)) 0 0 := by
  refine zWi_of (cc := cX4_isPart) (maxL := 3) (ty := .boolean) (by decide) rfl (Nat.le_of_ble_eq_true rfl) (fun v u h => by rw [h]; split <;> rfl) ?_
  intro p e s m args below meth cd Q ls A hat hP hK hD hA hend
  obtain ⟨hx, hb, hml, hown, hts, hl⟩ := hat
  replace hown : s.vm.findClass RX4 = some m.cls := hown
  replace hl : lv_has ls 3 [(0, .ref (ad 0))] := hl
  replace hP : va_P (dC, dI) vwCl [((ad 0), .inr (4, [.ref (ad 1), .ref (ad 2), .ref (ad 3), .int (nI (mk μ)), .ref (ad 4), .int (nI (my μ)), .int (mth μ), .int (nI (mat μ)), .int (mfl μ), .int (nI (mva μ)), .ref (ad 5), .int (nI (mtn μ))])), ((ad 1), .inl (cI, 323, .inl (mg μ))), ((ad 2), .inl (cI, 323, .inl (mh μ))), ((ad 3), .inl (cI, 1938, .inl (mp μ))), ((ad 4), .inl (cI, 60, .inl (fun w => nI ((mx μ) w)))), ((ad 5), .inl (cI, 62, .inl (fun w => nI ((mt μ) w))))] s.heap := hP
  replace hD : va_D A [((ad 0), .inr (4, [.ref (ad 1), .ref (ad 2), .ref (ad 3), .int (nI (mk μ)), .ref (ad 4), .int (nI (my μ)), .int (mth μ), .int (nI (mat μ)), .int (mfl μ), .int (nI (mva μ)), .ref (ad 5), .int (nI (mtn μ))])), ((ad 1), .inl (cI, 323, .inl (mg μ))), ((ad 2), .inl (cI, 323, .inl (mh μ))), ((ad 3), .inl (cI, 1938, .inl (mp μ))), ((ad 4), .inl (cI, 60, .inl (fun w => nI ((mx μ) w)))), ((ad 5), .inl (cI, 62, .inl (fun w => nI ((mt μ) w))))] := hD
  have hS : va_S A s.heap s.heap [] := va_S.rf
  have hf19 := hts (.fieldLink RX4 19 "InsideOutWordsModel" "text" "[I") (by decide +kernel)
  have hnX4 : ∀ w ∈ u_ws RX4 TX4 12, w ∈ wsX4_isPart := by decide +kernel
  have hf105 := hts (.fieldLink RX4 105 "InsideOutWordsModel" "at" "I") (by decide +kernel)
  have hf22 := hts (.fieldLink RX4 22 "InsideOutWordsModel" "told" "[I") (by decide +kernel)
  have hf126 := hts (.fieldLink RX4 126 "InsideOutWordsModel" "tolds" "I") (by decide +kernel)
  have hf120 := hts (.fieldLink RX4 120 "InsideOutWordsModel" "value" "I") (by decide +kernel)
  have hy6 : my μ ≤ 60 := hMok.2.2.2
  have ha : mat μ ≤ my μ := ho.1
  refine lv_aload_n hx hb dX4_isPart_0 rfl (lv_at hl 0 rfl) ?_
  refine lv_bipush (v := 97) hx hb dX4_isPart_1 (by decide) ?_
  refine lv_bipush (v := 112) hx hb dX4_isPart_3 (by decide) ?_
  refine z_cVi (As := [.int 97, .int 112]) (rest := []) ⟨hx, hb, hml, hown, hts⟩ (k_X4_isAt l dC dI ad cI μ hMok 97 (by omega) 112 (by omega) hf (show (mat μ) ≤ (my μ) by omega)) (cwV 2 hts gX4_isPart_X4_isAt rfl rfl rfl (by decide +kernel) ⟨Nat.le_of_ble_eq_true rfl, Nat.le_of_ble_eq_true rfl⟩) (va_recv hK hP (ci := 4) (q0 := 0) rfl rfl) (hP.sub (ws' := zMW ad cI μ) [0, 1, 2, 3, 4, 5] rfl) (hK.sub (tys' := [(cI, .int)]) [0] rfl) rfl hl.1 rfl (Nat.le_of_ble_eq_true rfl) dX4_isPart_5 ⟨Nat.le_of_ble_eq_true rfl, Nat.le_of_ble_eq_true rfl⟩ (fun r_1 hr_1 => ?_)
  refine z_ifneB hx hb hr_1 (tgt := 16) dX4_isPart_8 (by decide) (fun c_2 => ?_) (fun c_2 => ?_)
  · skip
    replace c_2 : qA (mx μ) (my μ) (mat μ) 97 112 := c_2
    obtain ⟨q1_3, q2_3, q3_3⟩ : (mat μ) < (my μ) ∧ 97 ≤ (mx μ) (mat μ) ∧ (mx μ) (mat μ) ≤ 112 := id c_2
    refine lv_aload_n hx hb dX4_isPart_16 rfl (lv_at hl 0 rfl) ?_
    refine va_get (D := (dC, dI)) (ci := 4) (v := .ref (ad 4)) (C := RX4) (T := TX4) (N := 12) hx hb hts hnX4 hown hK hP 0 rfl rfl 4 (by decide) hf19 (fun _ h9 => h9) rfl dX4_isPart_17 ?_
    refine lv_aload_n hx hb dX4_isPart_20 rfl (lv_at hl 0 rfl) ?_
    refine va_get (D := (dC, dI)) (ci := 4) (v := .int (nI (mat μ))) (C := RX4) (T := TX4) (N := 12) hx hb hts hnX4 hown hK hP 0 rfl rfl 7 (by decide) hf105 (fun _ h9 => h9) rfl dX4_isPart_21 ?_
    refine z_ald hx hb hK hP 4 0 (mat μ) (f := (fun w => nI ((mx μ) w))) rfl rfl (by first | omega | decide) (by first | decide | omega) dX4_isPart_24 ?_
    refine lv_bipush (v := 97) hx hb dX4_isPart_25 (by decide) ?_
    refine z_isub hx hb ((mx μ) (mat μ)) 97 (by omega) dX4_isPart_27 ?_
    refine lv_istore_n (lv' := [(1, .int (nI (((mx μ) (mat μ)) - 97))), (0, .ref (ad 0))]) hx hb dX4_isPart_28 rfl hl (by decide) rfl (fun ls hl => ?_)
    refine lv_aload_n hx hb dX4_isPart_29 rfl (lv_at hl 1 rfl) ?_
    refine lv_dup hx hb dX4_isPart_30 rfl ?_
    refine va_get (D := (dC, dI)) (ci := 4) (v := .int (nI (mat μ))) (C := RX4) (T := TX4) (N := 12) hx hb hts hnX4 hown hK hP 0 rfl rfl 7 (by decide) hf105 (fun _ h9 => h9) rfl dX4_isPart_31 ?_
    refine lv_iconst (v := 1) hx hb dX4_isPart_34 (by decide) ?_
    refine z_iadd hx hb (mat μ) 1 dX4_isPart_35 ?_
    refine va_put (D := (dC, dI)) (ci := 4) (v := .int (nI ((mat μ) + 1))) (ty := .int) (C := RX4) (T := TX4) (N := 12) hx hb hts hnX4 tyX4 tyX4_ok nmX4 hown hK hP hD hS 0 rfl rfl 7 (by decide) hf105 (fun _ h9 => h9) rfl (by decide +kernel) rfl rfl (Nat.le_of_ble_eq_true rfl) dX4_isPart_36 (fun H locs (hP : va_P (dC, dI) vwCl [((ad 0), .inr (4, [.ref (ad 1), .ref (ad 2), .ref (ad 3), .int (nI (mk μ)), .ref (ad 4), .int (nI (my μ)), .int (mth μ), .int (nI ((mat μ) + 1)), .int (mfl μ), .int (nI (mva μ)), .ref (ad 5), .int (nI (mtn μ))])), ((ad 1), .inl (cI, 323, .inl (mg μ))), ((ad 2), .inl (cI, 323, .inl (mh μ))), ((ad 3), .inl (cI, 1938, .inl (mp μ))), ((ad 4), .inl (cI, 60, .inl (fun w => nI ((mx μ) w)))), ((ad 5), .inl (cI, 62, .inl (fun w => nI ((mt μ) w))))] H) (hD : va_D A [((ad 0), .inr (4, [.ref (ad 1), .ref (ad 2), .ref (ad 3), .int (nI (mk μ)), .ref (ad 4), .int (nI (my μ)), .int (mth μ), .int (nI ((mat μ) + 1)), .int (mfl μ), .int (nI (mva μ)), .ref (ad 5), .int (nI (mtn μ))])), ((ad 1), .inl (cI, 323, .inl (mg μ))), ((ad 2), .inl (cI, 323, .inl (mh μ))), ((ad 3), .inl (cI, 1938, .inl (mp μ))), ((ad 4), .inl (cI, 60, .inl (fun w => nI ((mx μ) w)))), ((ad 5), .inl (cI, 62, .inl (fun w => nI ((mt μ) w))))]) hS => ?_)
    refine lv_aload_n hx hb dX4_isPart_39 rfl (lv_at hl 1 rfl) ?_
    refine lv_bipush (v := 61) hx hb dX4_isPart_40 (by decide) ?_
    refine lv_bipush (v := 61) hx hb dX4_isPart_42 (by decide) ?_
    refine z_cVi (As := [.int 61, .int 61]) (rest := []) ⟨hx, hb, hml, hown, hts⟩ (k_X4_isAt l dC dI ad cI ((mg μ), (mh μ), (mp μ), (mx μ), (mt μ), (mk μ), (my μ), (mth μ), (mat μ) + 1, (mfl μ), (mva μ), (mtn μ)) hMok 61 (by omega) 61 (by omega) hf (show ((mat μ) + 1) ≤ (my μ) by omega)) (cwV 2 hts gX4_isPart_X4_isAt rfl rfl rfl (by decide +kernel) ⟨Nat.le_of_ble_eq_true rfl, Nat.le_of_ble_eq_true rfl⟩) (va_recv hK hP (ci := 4) (q0 := 0) rfl rfl) (hP.sub (ws' := zMW ad cI ((mg μ), (mh μ), (mp μ), (mx μ), (mt μ), (mk μ), (my μ), (mth μ), (mat μ) + 1, (mfl μ), (mva μ), (mtn μ))) [0, 1, 2, 3, 4, 5] rfl) (hK.sub (tys' := [(cI, .int)]) [0] rfl) rfl hl.1 rfl (Nat.le_of_ble_eq_true rfl) dX4_isPart_44 ⟨Nat.le_of_ble_eq_true rfl, Nat.le_of_ble_eq_true rfl⟩ (fun r_4 hr_4 => ?_)
    refine z_ifneB hx hb hr_4 (tgt := 55) dX4_isPart_47 (by decide) (fun c_5 => ?_) (fun c_5 => ?_)
    · skip
      replace c_5 : qA (mx μ) (my μ) ((mat μ) + 1) 61 61 := c_5
      obtain ⟨q1_6, q2_6, q3_6⟩ : ((mat μ) + 1) < (my μ) ∧ 61 ≤ (mx μ) ((mat μ) + 1) ∧ (mx μ) ((mat μ) + 1) ≤ 61 := id c_5
      have hw16 : (mx μ (mat μ) - 97) < 16 := by omega
      refine lv_iconst (v := 1) hx hb dX4_isPart_55 (by decide) ?_
      refine lv_istore_n (lv' := [(2, .int 1), (1, .int (nI (((mx μ) (mat μ)) - 97))), (0, .ref (ad 0))]) hx hb dX4_isPart_56 rfl hl (by decide) rfl (fun ls hl => ?_)
      refine lv_iload_n hx hb dX4_isPart_57 rfl (lv_at hl 0 rfl) ?_
      refine lv_if_eq (tgt := 131) hx hb dX4_isPart_58 (by decide) (fun z => absurd z (by decide)) (fun _ => ?_)
      have hC_61 : ∀ (nf : Nat) (a : Nat) (va : Nat) (fl : Int32) (tt : Nat → Nat) (tn : Nat) (kk : Nat) (ls : Array Slot) (H : Heap) (locs : List Loc), kk < nf → lv_has ls 3 [(0, .ref (ad 0)), (1, .int (nI (mx μ (mat μ) - 97)))] → (a < my μ) → (my μ - a ≤ kk) → (qok (my μ) (a, va, fl, tt, tn) 1) → (qL (mx μ) (my μ) (mx μ (mat μ) - 97) kk (a, va, fl, tt, tn) = qL (mx μ) (my μ) (mx μ (mat μ) - 97) (my μ) (qS (mQ μ))) → va_P (dC, dI) vwCl [((ad 0), .inr (4, [.ref (ad 1), .ref (ad 2), .ref (ad 3), .int (nI (mk μ)), .ref (ad 4), .int (nI (my μ)), .int (mth μ), .int (nI a), .int fl, .int (nI va), .ref (ad 5), .int (nI tn)])), ((ad 1), .inl (cI, 323, .inl (mg μ))), ((ad 2), .inl (cI, 323, .inl (mh μ))), ((ad 3), .inl (cI, 1938, .inl (mp μ))), ((ad 4), .inl (cI, 60, .inl (fun w => nI (mx μ w)))), ((ad 5), .inl (cI, 62, .inl (fun w => nI (tt w))))] H → va_D A [((ad 0), .inr (4, [.ref (ad 1), .ref (ad 2), .ref (ad 3), .int (nI (mk μ)), .ref (ad 4), .int (nI (my μ)), .int (mth μ), .int (nI a), .int fl, .int (nI va), .ref (ad 5), .int (nI tn)])), ((ad 1), .inl (cI, 323, .inl (mg μ))), ((ad 2), .inl (cI, 323, .inl (mh μ))), ((ad 3), .inl (cI, 1938, .inl (mp μ))), ((ad 4), .inl (cI, 60, .inl (fun w => nI (mx μ w)))), ((ad 5), .inl (cI, 62, .inl (fun w => nI (tt w))))] → va_S A s.heap H locs → W p l e rX4_isPart s m args below meth cd H locs 0 0 Q (F0 m 61 ls []) := by
        intro nf
        induction nf with
        | zero => intro a va fl tt tn kk ls H locs hm_61 hl ha1 hk1 ho1 hq hP hD hS; exact absurd hm_61 (Nat.not_lt_zero _)
        | succ nf ih_61 =>
          intro a va fl tt tn kk ls H locs hm_61 hl ha1 hk1 ho1 hq hP hD hS
          refine lv_aload_n hx hb dX4_isPart_61 rfl (lv_at hl 0 rfl) ?_
          refine lv_dup hx hb dX4_isPart_62 rfl ?_
          refine va_get (D := (dC, dI)) (ci := 4) (v := .int (nI a)) (C := RX4) (T := TX4) (N := 12) hx hb hts hnX4 hown hK hP 0 rfl rfl 7 (by decide) hf105 (fun _ h9 => h9) rfl dX4_isPart_63 ?_
          refine lv_iconst (v := 1) hx hb dX4_isPart_66 (by decide) ?_
          refine z_iadd hx hb a 1 dX4_isPart_67 ?_
          refine va_put (D := (dC, dI)) (ci := 4) (v := .int (nI (a + 1))) (ty := .int) (C := RX4) (T := TX4) (N := 12) hx hb hts hnX4 tyX4 tyX4_ok nmX4 hown hK hP hD hS 0 rfl rfl 7 (by decide) hf105 (fun _ h9 => h9) rfl (by decide +kernel) rfl rfl (Nat.le_of_ble_eq_true rfl) dX4_isPart_68 (fun H locs (hP : va_P (dC, dI) vwCl [((ad 0), .inr (4, [.ref (ad 1), .ref (ad 2), .ref (ad 3), .int (nI (mk μ)), .ref (ad 4), .int (nI (my μ)), .int (mth μ), .int (nI (a + 1)), .int fl, .int (nI va), .ref (ad 5), .int (nI tn)])), ((ad 1), .inl (cI, 323, .inl (mg μ))), ((ad 2), .inl (cI, 323, .inl (mh μ))), ((ad 3), .inl (cI, 1938, .inl (mp μ))), ((ad 4), .inl (cI, 60, .inl (fun w => nI (mx μ w)))), ((ad 5), .inl (cI, 62, .inl (fun w => nI (tt w))))] H) (hD : va_D A [((ad 0), .inr (4, [.ref (ad 1), .ref (ad 2), .ref (ad 3), .int (nI (mk μ)), .ref (ad 4), .int (nI (my μ)), .int (mth μ), .int (nI (a + 1)), .int fl, .int (nI va), .ref (ad 5), .int (nI tn)])), ((ad 1), .inl (cI, 323, .inl (mg μ))), ((ad 2), .inl (cI, 323, .inl (mh μ))), ((ad 3), .inl (cI, 1938, .inl (mp μ))), ((ad 4), .inl (cI, 60, .inl (fun w => nI (mx μ w)))), ((ad 5), .inl (cI, 62, .inl (fun w => nI (tt w))))]) hS => ?_)
          refine lv_aload_n hx hb dX4_isPart_71 rfl (lv_at hl 0 rfl) ?_
          try clear hPq hDq
          refine z_cWi (wr := []) (As := []) (rest := []) ⟨hx, hb, hml, hown, hts⟩ (k_X4_isValue l dC dI ad cI (mg μ, mh μ, mp μ, mx μ, tt, mk μ, my μ, mth μ, a + 1, fl, va, tn) hMok hf (show (a + 1) ≤ (my μ) by omega) H.size) (cwV 0 hts gX4_isPart_X4_isValue rfl rfl rfl (by decide +kernel) ⟨Nat.le_of_ble_eq_true rfl, Nat.le_of_ble_eq_true rfl⟩) (va_recv hK hP (ci := 4) (q0 := 0) rfl rfl) hP hD hS hA (hP.sub (ws' := zMW ad cI (mg μ, mh μ, mp μ, mx μ, tt, mk μ, my μ, mth μ, a + 1, fl, va, tn)) [0, 1, 2, 3, 4, 5] rfl) (hD.sub (ws' := zMW ad cI (mg μ, mh μ, mp μ, mx μ, tt, mk μ, my μ, mth μ, a + 1, fl, va, tn)) [0, 1, 2, 3, 4, 5] (by decide) rfl) (hK.sub (tys' := [(cI, .int)]) [0] rfl) [0, 1, 2, 3, 4, 5] [] rfl rfl (by decide) (by decide) rfl hl.1 rfl (Nat.le_of_ble_eq_true rfl) dX4_isPart_72 ⟨Nat.le_of_ble_eq_true rfl, Nat.le_of_ble_eq_true rfl⟩ (fun r_8 _ H locs hr_8 hP hD hS => ?_)
          replace hP : va_P (dC, dI) vwCl (zMW ad cI (mg μ, mh μ, mp μ, mx μ, kt (qV (mx μ) (my μ) (a + 1, va, fl, tt, tn)), mk μ, my μ, mth μ, ka (qV (mx μ) (my μ) (a + 1, va, fl, tt, tn)), kf (qV (mx μ) (my μ) (a + 1, va, fl, tt, tn)), kv (qV (mx μ) (my μ) (a + 1, va, fl, tt, tn)), kn (qV (mx μ) (my μ) (a + 1, va, fl, tt, tn)))) H := hP
          replace hD : va_D A (zMW ad cI (mg μ, mh μ, mp μ, mx μ, kt (qV (mx μ) (my μ) (a + 1, va, fl, tt, tn)), mk μ, my μ, mth μ, ka (qV (mx μ) (my μ) (a + 1, va, fl, tt, tn)), kf (qV (mx μ) (my μ) (a + 1, va, fl, tt, tn)), kv (qV (mx μ) (my μ) (a + 1, va, fl, tt, tn)), kn (qV (mx μ) (my μ) (a + 1, va, fl, tt, tn)))) := hD
          obtain ⟨q_8, eq_8⟩ : ∃ zz : zQ, zz = qV (mx μ) (my μ) (a + 1, va, fl, tt, tn) := ⟨_, rfl⟩
          rw [← eq_8] at hP hD
          replace hr_8 : r_8 = if qA (mx μ) (my μ) (a + 1) 48 57 then 1 else 0 := hr_8
          replace hP : va_P (dC, dI) vwCl [((ad 0), .inr (4, [.ref (ad 1), .ref (ad 2), .ref (ad 3), .int (nI (mk μ)), .ref (ad 4), .int (nI (my μ)), .int (mth μ), .int (nI (ka q_8)), .int (kf q_8), .int (nI (kv q_8)), .ref (ad 5), .int (nI (kn q_8))])), ((ad 1), .inl (cI, 323, .inl (mg μ))), ((ad 2), .inl (cI, 323, .inl (mh μ))), ((ad 3), .inl (cI, 1938, .inl (mp μ))), ((ad 4), .inl (cI, 60, .inl (fun w => nI (mx μ w)))), ((ad 5), .inl (cI, 62, .inl (fun w => nI (kt q_8 w))))] H := hP
          replace hD : va_D A [((ad 0), .inr (4, [.ref (ad 1), .ref (ad 2), .ref (ad 3), .int (nI (mk μ)), .ref (ad 4), .int (nI (my μ)), .int (mth μ), .int (nI (ka q_8)), .int (kf q_8), .int (nI (kv q_8)), .ref (ad 5), .int (nI (kn q_8))])), ((ad 1), .inl (cI, 323, .inl (mg μ))), ((ad 2), .inl (cI, 323, .inl (mh μ))), ((ad 3), .inl (cI, 1938, .inl (mp μ))), ((ad 4), .inl (cI, 60, .inl (fun w => nI (mx μ w)))), ((ad 5), .inl (cI, 62, .inl (fun w => nI (kt q_8 w))))] := hD
          refine z_ifneB hx hb hr_8 (tgt := 80) dX4_isPart_75 (by decide) (fun c_9 => ?_) (fun c_9 => ?_)
          · skip
            have hv9 := qV_ok (f := mx μ) (n := my μ) (q := (a + 1, va, fl, tt, tn)) c_9
            rw [← eq_8] at hv9
            obtain ⟨v1, v2, v3, v4, v5, v6⟩ := hv9
            replace v1 : a + 1 + 1 ≤ ka q_8 := v1
            replace v4 : kt q_8 = tt := v4
            replace v5 : kn q_8 = tn := v5
            have o2 : 2 * tn + 1 ≤ a := ho1.2.1
            have hok9 := qT_ok (f := mx μ) (n := my μ) (w := (mx μ (mat μ) - 97)) (q := (a, va, fl, tt, tn)) hw16 c_9 ho1
            replace hok9 : qok (my μ) (qT (mx μ (mat μ) - 97) (qV (mx μ) (my μ) (a + 1, va, fl, tt, tn))) 1 := hok9
            rw [← eq_8] at hok9
            refine lv_aload_n hx hb dX4_isPart_80 rfl (lv_at hl 0 rfl) ?_
            refine va_get (D := (dC, dI)) (ci := 4) (v := .ref (ad 5)) (C := RX4) (T := TX4) (N := 12) hx hb hts hnX4 hown hK hP 0 rfl rfl 10 (by decide) hf22 (fun _ h9 => h9) rfl dX4_isPart_81 ?_
            refine lv_iconst (v := 2) hx hb dX4_isPart_84 (by decide) ?_
            refine lv_aload_n hx hb dX4_isPart_85 rfl (lv_at hl 0 rfl) ?_
            refine va_get (D := (dC, dI)) (ci := 4) (v := .int (nI (kn q_8))) (C := RX4) (T := TX4) (N := 12) hx hb hts hnX4 hown hK hP 0 rfl rfl 11 (by decide) hf126 (fun _ h9 => h9) rfl dX4_isPart_86 ?_
            refine z_imul hx hb 2 (kn q_8) dX4_isPart_89 ?_
            refine lv_iload_n hx hb dX4_isPart_90 rfl (lv_at hl 1 rfl) ?_
            refine z_ast hx hb hK hP hD hS 5 0 (2 * (kn q_8)) (f := (fun w => nI (kt q_8 w))) rfl rfl (by first | omega | decide) (by first | decide | omega) dX4_isPart_91 (fun H locs hP hD hS => ?_)
            rw [upd_nI] at hP hD
            replace hP : va_P (dC, dI) vwCl [((ad 0), .inr (4, [.ref (ad 1), .ref (ad 2), .ref (ad 3), .int (nI (mk μ)), .ref (ad 4), .int (nI (my μ)), .int (mth μ), .int (nI (ka q_8)), .int (kf q_8), .int (nI (kv q_8)), .ref (ad 5), .int (nI (kn q_8))])), ((ad 1), .inl (cI, 323, .inl (mg μ))), ((ad 2), .inl (cI, 323, .inl (mh μ))), ((ad 3), .inl (cI, 1938, .inl (mp μ))), ((ad 4), .inl (cI, 60, .inl (fun w => nI (mx μ w)))), ((ad 5), .inl (cI, 62, .inl (fun w => nI ((va_up (kt q_8) (2 * (kn q_8)) (mx μ (mat μ) - 97)) w))))] H := hP
            replace hD : va_D A [((ad 0), .inr (4, [.ref (ad 1), .ref (ad 2), .ref (ad 3), .int (nI (mk μ)), .ref (ad 4), .int (nI (my μ)), .int (mth μ), .int (nI (ka q_8)), .int (kf q_8), .int (nI (kv q_8)), .ref (ad 5), .int (nI (kn q_8))])), ((ad 1), .inl (cI, 323, .inl (mg μ))), ((ad 2), .inl (cI, 323, .inl (mh μ))), ((ad 3), .inl (cI, 1938, .inl (mp μ))), ((ad 4), .inl (cI, 60, .inl (fun w => nI (mx μ w)))), ((ad 5), .inl (cI, 62, .inl (fun w => nI ((va_up (kt q_8) (2 * (kn q_8)) (mx μ (mat μ) - 97)) w))))] := hD
            refine lv_aload_n hx hb dX4_isPart_92 rfl (lv_at hl 0 rfl) ?_
            refine va_get (D := (dC, dI)) (ci := 4) (v := .ref (ad 5)) (C := RX4) (T := TX4) (N := 12) hx hb hts hnX4 hown hK hP 0 rfl rfl 10 (by decide) hf22 (fun _ h9 => h9) rfl dX4_isPart_93 ?_
            refine lv_iconst (v := 2) hx hb dX4_isPart_96 (by decide) ?_
            refine lv_aload_n hx hb dX4_isPart_97 rfl (lv_at hl 0 rfl) ?_
            refine va_get (D := (dC, dI)) (ci := 4) (v := .int (nI (kn q_8))) (C := RX4) (T := TX4) (N := 12) hx hb hts hnX4 hown hK hP 0 rfl rfl 11 (by decide) hf126 (fun _ h9 => h9) rfl dX4_isPart_98 ?_
            refine z_imul hx hb 2 (kn q_8) dX4_isPart_101 ?_
            refine lv_iconst (v := 1) hx hb dX4_isPart_102 (by decide) ?_
            refine z_iadd hx hb (2 * (kn q_8)) 1 dX4_isPart_103 ?_
            refine lv_aload_n hx hb dX4_isPart_104 rfl (lv_at hl 0 rfl) ?_
            refine va_get (D := (dC, dI)) (ci := 4) (v := .int (nI (kv q_8))) (C := RX4) (T := TX4) (N := 12) hx hb hts hnX4 hown hK hP 0 rfl rfl 9 (by decide) hf120 (fun _ h9 => h9) rfl dX4_isPart_105 ?_
            refine z_ast hx hb hK hP hD hS 5 0 ((2 * (kn q_8)) + 1) (f := (fun w => nI ((va_up (kt q_8) (2 * (kn q_8)) (mx μ (mat μ) - 97)) w))) rfl rfl (by first | omega | decide) (by first | decide | omega) dX4_isPart_108 (fun H locs hP hD hS => ?_)
            rw [upd_nI] at hP hD
            replace hP : va_P (dC, dI) vwCl [((ad 0), .inr (4, [.ref (ad 1), .ref (ad 2), .ref (ad 3), .int (nI (mk μ)), .ref (ad 4), .int (nI (my μ)), .int (mth μ), .int (nI (ka q_8)), .int (kf q_8), .int (nI (kv q_8)), .ref (ad 5), .int (nI (kn q_8))])), ((ad 1), .inl (cI, 323, .inl (mg μ))), ((ad 2), .inl (cI, 323, .inl (mh μ))), ((ad 3), .inl (cI, 1938, .inl (mp μ))), ((ad 4), .inl (cI, 60, .inl (fun w => nI (mx μ w)))), ((ad 5), .inl (cI, 62, .inl (fun w => nI ((va_up (va_up (kt q_8) (2 * (kn q_8)) (mx μ (mat μ) - 97)) ((2 * (kn q_8)) + 1) (kv q_8)) w))))] H := hP
            replace hD : va_D A [((ad 0), .inr (4, [.ref (ad 1), .ref (ad 2), .ref (ad 3), .int (nI (mk μ)), .ref (ad 4), .int (nI (my μ)), .int (mth μ), .int (nI (ka q_8)), .int (kf q_8), .int (nI (kv q_8)), .ref (ad 5), .int (nI (kn q_8))])), ((ad 1), .inl (cI, 323, .inl (mg μ))), ((ad 2), .inl (cI, 323, .inl (mh μ))), ((ad 3), .inl (cI, 1938, .inl (mp μ))), ((ad 4), .inl (cI, 60, .inl (fun w => nI (mx μ w)))), ((ad 5), .inl (cI, 62, .inl (fun w => nI ((va_up (va_up (kt q_8) (2 * (kn q_8)) (mx μ (mat μ) - 97)) ((2 * (kn q_8)) + 1) (kv q_8)) w))))] := hD
            refine lv_aload_n hx hb dX4_isPart_109 rfl (lv_at hl 0 rfl) ?_
            refine lv_dup hx hb dX4_isPart_110 rfl ?_
            refine va_get (D := (dC, dI)) (ci := 4) (v := .int (nI (kn q_8))) (C := RX4) (T := TX4) (N := 12) hx hb hts hnX4 hown hK hP 0 rfl rfl 11 (by decide) hf126 (fun _ h9 => h9) rfl dX4_isPart_111 ?_
            refine lv_iconst (v := 1) hx hb dX4_isPart_114 (by decide) ?_
            refine z_iadd hx hb (kn q_8) 1 dX4_isPart_115 ?_
            refine va_put (D := (dC, dI)) (ci := 4) (v := .int (nI ((kn q_8) + 1))) (ty := .int) (C := RX4) (T := TX4) (N := 12) hx hb hts hnX4 tyX4 tyX4_ok nmX4 hown hK hP hD hS 0 rfl rfl 11 (by decide) hf126 (fun _ h9 => h9) rfl (by decide +kernel) rfl rfl (Nat.le_of_ble_eq_true rfl) dX4_isPart_116 (fun H locs (hP : va_P (dC, dI) vwCl [((ad 0), .inr (4, [.ref (ad 1), .ref (ad 2), .ref (ad 3), .int (nI (mk μ)), .ref (ad 4), .int (nI (my μ)), .int (mth μ), .int (nI (ka q_8)), .int (kf q_8), .int (nI (kv q_8)), .ref (ad 5), .int (nI ((kn q_8) + 1))])), ((ad 1), .inl (cI, 323, .inl (mg μ))), ((ad 2), .inl (cI, 323, .inl (mh μ))), ((ad 3), .inl (cI, 1938, .inl (mp μ))), ((ad 4), .inl (cI, 60, .inl (fun w => nI (mx μ w)))), ((ad 5), .inl (cI, 62, .inl (fun w => nI ((va_up (va_up (kt q_8) (2 * (kn q_8)) (mx μ (mat μ) - 97)) ((2 * (kn q_8)) + 1) (kv q_8)) w))))] H) (hD : va_D A [((ad 0), .inr (4, [.ref (ad 1), .ref (ad 2), .ref (ad 3), .int (nI (mk μ)), .ref (ad 4), .int (nI (my μ)), .int (mth μ), .int (nI (ka q_8)), .int (kf q_8), .int (nI (kv q_8)), .ref (ad 5), .int (nI ((kn q_8) + 1))])), ((ad 1), .inl (cI, 323, .inl (mg μ))), ((ad 2), .inl (cI, 323, .inl (mh μ))), ((ad 3), .inl (cI, 1938, .inl (mp μ))), ((ad 4), .inl (cI, 60, .inl (fun w => nI (mx μ w)))), ((ad 5), .inl (cI, 62, .inl (fun w => nI ((va_up (va_up (kt q_8) (2 * (kn q_8)) (mx μ (mat μ) - 97)) ((2 * (kn q_8)) + 1) (kv q_8)) w))))]) hS => ?_)
            refine lv_aload_n hx hb dX4_isPart_119 rfl (lv_at hl 0 rfl) ?_
            refine lv_bipush (v := 44) hx hb dX4_isPart_120 (by decide) ?_
            refine lv_bipush (v := 44) hx hb dX4_isPart_122 (by decide) ?_
            refine z_cVi (As := [.int 44, .int 44]) (rest := []) ⟨hx, hb, hml, hown, hts⟩ (k_X4_isAt l dC dI ad cI (mg μ, mh μ, mp μ, mx μ, (va_up (va_up (kt q_8) (2 * (kn q_8)) (mx μ (mat μ) - 97)) ((2 * (kn q_8)) + 1) (kv q_8)), mk μ, my μ, mth μ, ka q_8, kf q_8, kv q_8, (kn q_8) + 1) hMok 44 (by omega) 44 (by omega) hf (show (ka q_8) ≤ (my μ) by omega)) (cwV 2 hts gX4_isPart_X4_isAt rfl rfl rfl (by decide +kernel) ⟨Nat.le_of_ble_eq_true rfl, Nat.le_of_ble_eq_true rfl⟩) (va_recv hK hP (ci := 4) (q0 := 0) rfl rfl) (hP.sub (ws' := zMW ad cI (mg μ, mh μ, mp μ, mx μ, (va_up (va_up (kt q_8) (2 * (kn q_8)) (mx μ (mat μ) - 97)) ((2 * (kn q_8)) + 1) (kv q_8)), mk μ, my μ, mth μ, ka q_8, kf q_8, kv q_8, (kn q_8) + 1)) [0, 1, 2, 3, 4, 5] rfl) (hK.sub (tys' := [(cI, .int)]) [0] rfl) rfl hl.1 rfl (Nat.le_of_ble_eq_true rfl) dX4_isPart_124 ⟨Nat.le_of_ble_eq_true rfl, Nat.le_of_ble_eq_true rfl⟩ (fun r_10 hr_10 => ?_)
            refine lv_istore_n (lv' := [(2, .int r_10), (0, .ref (ad 0)), (1, .int (nI (mx μ (mat μ) - 97)))]) hx hb dX4_isPart_127 rfl hl (by decide) rfl (fun ls hl => ?_)
            refine lv_goto (tgt := 57) hx hb dX4_isPart_128 (by decide) ?_
            refine lv_iload_n hx hb dX4_isPart_57 rfl (lv_at hl 0 rfl) ?_
            refine z_ifeqB hx hb hr_10 (tgt := 131) dX4_isPart_58 (by decide) (fun c_11 => ?_) (fun c_11 => ?_)
            · skip
              refine lv_iconst (v := 1) hx hb dX4_isPart_131 (by decide) ?_
              have hPq : qP (mx μ) (my μ) (mQ μ) = (true, qT (mx μ (mat μ) - 97) q_8) := by unfold qP; rw [if_pos c_2, if_pos c_5]; exact hq.symm.trans (by have e1 := qL_stop (k := kk - 1) (f := mx μ) (n := my μ) (w := (mx μ (mat μ) - 97)) (q := (a, va, fl, tt, tn)) c_9 (by show ¬ qA (mx μ) (my μ) (ka (qV (mx μ) (my μ) (a + 1, va, fl, tt, tn))) 44 44; rw [← eq_8]; exact c_11); rw [show kk - 1 + 1 = kk by omega] at e1; replace e1 : qL (mx μ) (my μ) (mx μ (mat μ) - 97) kk (a, va, fl, tt, tn) = (true, qT (mx μ (mat μ) - 97) (qV (mx μ) (my μ) (a + 1, va, fl, tt, tn))) := e1; rw [← eq_8] at e1; exact e1)
              replace hP : va_P (dC, dI) vwCl (zMW ad cI (mg μ, mh μ, mp μ, mx μ, (va_up (va_up (kt q_8) (2 * (kn q_8)) (mx μ (mat μ) - 97)) ((2 * (kn q_8)) + 1) (kv q_8)), mk μ, my μ, mth μ, ka q_8, kf q_8, kv q_8, (kn q_8) + 1)) H := hP.sub (ws' := zMW ad cI (mg μ, mh μ, mp μ, mx μ, (va_up (va_up (kt q_8) (2 * (kn q_8)) (mx μ (mat μ) - 97)) ((2 * (kn q_8)) + 1) (kv q_8)), mk μ, my μ, mth μ, ka q_8, kf q_8, kv q_8, (kn q_8) + 1)) [0, 1, 2, 3, 4, 5] rfl
              replace hD : va_D A (zMW ad cI (mg μ, mh μ, mp μ, mx μ, (va_up (va_up (kt q_8) (2 * (kn q_8)) (mx μ (mat μ) - 97)) ((2 * (kn q_8)) + 1) (kv q_8)), mk μ, my μ, mth μ, ka q_8, kf q_8, kv q_8, (kn q_8) + 1)) := hD.sub (ws' := zMW ad cI (mg μ, mh μ, mp μ, mx μ, (va_up (va_up (kt q_8) (2 * (kn q_8)) (mx μ (mat μ) - 97)) ((2 * (kn q_8)) + 1) (kv q_8)), mk μ, my μ, mth μ, ka q_8, kf q_8, kv q_8, (kn q_8) + 1)) [0, 1, 2, 3, 4, 5] (by decide) rfl
              have e9 : mset_q μ (qP (mx μ) (my μ) (mQ μ)).2 = (mg μ, mh μ, mp μ, mx μ, (va_up (va_up (kt q_8) (2 * (kn q_8)) (mx μ (mat μ) - 97)) ((2 * (kn q_8)) + 1) (kv q_8)), mk μ, my μ, mth μ, ka q_8, kf q_8, kv q_8, (kn q_8) + 1) := by rw [hPq]
              replace hP : va_P (dC, dI) vwCl (zMW ad cI (mset_q μ (qP (mx μ) (my μ) (mQ μ)).2)) H := by rw [e9]; exact hP
              replace hD : va_D A (zMW ad cI (mset_q μ (qP (mx μ) (my μ) (mQ μ)).2)) := by rw [e9]; exact hD
              exact hend _ () _ _ _ _ (by rw [hPq]; rfl) hP hD hS dX4_isPart_132
            · skip
              exact ih_61 (ka q_8) (kv q_8) (kf q_8) (va_up (va_up (kt q_8) (2 * (kn q_8)) (mx μ (mat μ) - 97)) ((2 * (kn q_8)) + 1) (kv q_8)) ((kn q_8) + 1) (kk - 1) _ _ _ (by omega) (lv_sub hl [1, 2] rfl) (c_11.1) (by omega) (hok9) (by have e1 := qL_go (k := kk - 1) (f := mx μ) (n := my μ) (w := (mx μ (mat μ) - 97)) (q := (a, va, fl, tt, tn)) c_9 (by show qA (mx μ) (my μ) (ka (qV (mx μ) (my μ) (a + 1, va, fl, tt, tn))) 44 44; rw [← eq_8]; exact c_11); rw [show kk - 1 + 1 = kk by omega] at e1; replace e1 : qL (mx μ) (my μ) (mx μ (mat μ) - 97) kk (a, va, fl, tt, tn) = qL (mx μ) (my μ) (mx μ (mat μ) - 97) (kk - 1) (qT (mx μ (mat μ) - 97) (qV (mx μ) (my μ) (a + 1, va, fl, tt, tn))) := e1; rw [← eq_8] at e1; exact e1.symm.trans hq) hP hD hS
          · skip
            refine lv_iconst (v := 0) hx hb dX4_isPart_78 (by decide) ?_
            have hPq : qP (mx μ) (my μ) (mQ μ) = (false, q_8) := by unfold qP; rw [if_pos c_2, if_pos c_5]; exact hq.symm.trans (by have e1 := qL_end (k := kk - 1) (f := mx μ) (n := my μ) (w := (mx μ (mat μ) - 97)) (q := (a, va, fl, tt, tn)) c_9; rw [show kk - 1 + 1 = kk by omega] at e1; replace e1 : qL (mx μ) (my μ) (mx μ (mat μ) - 97) kk (a, va, fl, tt, tn) = (false, qV (mx μ) (my μ) (a + 1, va, fl, tt, tn)) := e1; rw [← eq_8] at e1; exact e1)
            replace hP : va_P (dC, dI) vwCl (zMW ad cI (mg μ, mh μ, mp μ, mx μ, kt q_8, mk μ, my μ, mth μ, ka q_8, kf q_8, kv q_8, kn q_8)) H := hP.sub (ws' := zMW ad cI (mg μ, mh μ, mp μ, mx μ, kt q_8, mk μ, my μ, mth μ, ka q_8, kf q_8, kv q_8, kn q_8)) [0, 1, 2, 3, 4, 5] rfl
            replace hD : va_D A (zMW ad cI (mg μ, mh μ, mp μ, mx μ, kt q_8, mk μ, my μ, mth μ, ka q_8, kf q_8, kv q_8, kn q_8)) := hD.sub (ws' := zMW ad cI (mg μ, mh μ, mp μ, mx μ, kt q_8, mk μ, my μ, mth μ, ka q_8, kf q_8, kv q_8, kn q_8)) [0, 1, 2, 3, 4, 5] (by decide) rfl
            have e9 : mset_q μ (qP (mx μ) (my μ) (mQ μ)).2 = (mg μ, mh μ, mp μ, mx μ, kt q_8, mk μ, my μ, mth μ, ka q_8, kf q_8, kv q_8, kn q_8) := by rw [hPq]
            replace hP : va_P (dC, dI) vwCl (zMW ad cI (mset_q μ (qP (mx μ) (my μ) (mQ μ)).2)) H := by rw [e9]; exact hP
            replace hD : va_D A (zMW ad cI (mset_q μ (qP (mx μ) (my μ) (mQ μ)).2)) := by rw [e9]; exact hD
            exact hend _ () _ _ _ _ (by rw [hPq]; rfl) hP hD hS dX4_isPart_79
      exact hC_61 _ ((mat μ) + 1) (mva μ) (mfl μ) (mt μ) (mtn μ) (my μ) _ _ _ (Nat.lt_succ_self _) (lv_sub hl [2, 1] rfl) (by omega) (by omega) (⟨by show mat μ + 1 ≤ my μ; omega, by have := ho.2.1; show 2 * mtn μ + 1 ≤ mat μ + 1; exact Nat.succ_le_succ this, ho.2.2⟩) (rfl) hP hD hS
    · skip
      refine lv_aload_n hx hb dX4_isPart_50 rfl (lv_at hl 1 rfl) ?_
      try clear hPq hDq
      refine z_cWi (wr := []) (As := []) (rest := []) ⟨hx, hb, hml, hown, hts⟩ (k_X4_stops l dC dI ad cI ((mg μ), (mh μ), (mp μ), (mx μ), (mt μ), (mk μ), (my μ), (mth μ), (mat μ) + 1, (mfl μ), (mva μ), (mtn μ)) hMok (show ((mat μ) + 1) ≤ (my μ) by omega) H.size) (cwV 0 hts gX4_isPart_X4_stops rfl rfl rfl (by decide +kernel) ⟨Nat.le_of_ble_eq_true rfl, Nat.le_of_ble_eq_true rfl⟩) (va_recv hK hP (ci := 4) (q0 := 0) rfl rfl) hP hD hS hA (hP.sub (ws' := zMW ad cI ((mg μ), (mh μ), (mp μ), (mx μ), (mt μ), (mk μ), (my μ), (mth μ), (mat μ) + 1, (mfl μ), (mva μ), (mtn μ))) [0, 1, 2, 3, 4, 5] rfl) (hD.sub (ws' := zMW ad cI ((mg μ), (mh μ), (mp μ), (mx μ), (mt μ), (mk μ), (my μ), (mth μ), (mat μ) + 1, (mfl μ), (mva μ), (mtn μ))) [0, 1, 2, 3, 4, 5] (by decide) rfl) (hK.sub (tys' := [(cI, .int)]) [0] rfl) [0, 1, 2, 3, 4, 5] [] rfl rfl (by decide) (by decide) rfl hl.1 rfl (Nat.le_of_ble_eq_true rfl) dX4_isPart_51 ⟨Nat.le_of_ble_eq_true rfl, Nat.le_of_ble_eq_true rfl⟩ (fun r_12 _ H locs hr_12 (hP : va_P (dC, dI) vwCl [((ad 0), .inr (4, [.ref (ad 1), .ref (ad 2), .ref (ad 3), .int (nI (mk (mset_q ((mg μ), (mh μ), (mp μ), (mx μ), (mt μ), (mk μ), (my μ), (mth μ), (mat μ) + 1, (mfl μ), (mva μ), (mtn μ)) (qE (my ((mg μ), (mh μ), (mp μ), (mx μ), (mt μ), (mk μ), (my μ), (mth μ), (mat μ) + 1, (mfl μ), (mva μ), (mtn μ))) (mQ ((mg μ), (mh μ), (mp μ), (mx μ), (mt μ), (mk μ), (my μ), (mth μ), (mat μ) + 1, (mfl μ), (mva μ), (mtn μ))))))), .ref (ad 4), .int (nI (my (mset_q ((mg μ), (mh μ), (mp μ), (mx μ), (mt μ), (mk μ), (my μ), (mth μ), (mat μ) + 1, (mfl μ), (mva μ), (mtn μ)) (qE (my ((mg μ), (mh μ), (mp μ), (mx μ), (mt μ), (mk μ), (my μ), (mth μ), (mat μ) + 1, (mfl μ), (mva μ), (mtn μ))) (mQ ((mg μ), (mh μ), (mp μ), (mx μ), (mt μ), (mk μ), (my μ), (mth μ), (mat μ) + 1, (mfl μ), (mva μ), (mtn μ))))))), .int (mth (mset_q ((mg μ), (mh μ), (mp μ), (mx μ), (mt μ), (mk μ), (my μ), (mth μ), (mat μ) + 1, (mfl μ), (mva μ), (mtn μ)) (qE (my ((mg μ), (mh μ), (mp μ), (mx μ), (mt μ), (mk μ), (my μ), (mth μ), (mat μ) + 1, (mfl μ), (mva μ), (mtn μ))) (mQ ((mg μ), (mh μ), (mp μ), (mx μ), (mt μ), (mk μ), (my μ), (mth μ), (mat μ) + 1, (mfl μ), (mva μ), (mtn μ)))))), .int (nI (mat (mset_q ((mg μ), (mh μ), (mp μ), (mx μ), (mt μ), (mk μ), (my μ), (mth μ), (mat μ) + 1, (mfl μ), (mva μ), (mtn μ)) (qE (my ((mg μ), (mh μ), (mp μ), (mx μ), (mt μ), (mk μ), (my μ), (mth μ), (mat μ) + 1, (mfl μ), (mva μ), (mtn μ))) (mQ ((mg μ), (mh μ), (mp μ), (mx μ), (mt μ), (mk μ), (my μ), (mth μ), (mat μ) + 1, (mfl μ), (mva μ), (mtn μ))))))), .int (mfl (mset_q ((mg μ), (mh μ), (mp μ), (mx μ), (mt μ), (mk μ), (my μ), (mth μ), (mat μ) + 1, (mfl μ), (mva μ), (mtn μ)) (qE (my ((mg μ), (mh μ), (mp μ), (mx μ), (mt μ), (mk μ), (my μ), (mth μ), (mat μ) + 1, (mfl μ), (mva μ), (mtn μ))) (mQ ((mg μ), (mh μ), (mp μ), (mx μ), (mt μ), (mk μ), (my μ), (mth μ), (mat μ) + 1, (mfl μ), (mva μ), (mtn μ)))))), .int (nI (mva (mset_q ((mg μ), (mh μ), (mp μ), (mx μ), (mt μ), (mk μ), (my μ), (mth μ), (mat μ) + 1, (mfl μ), (mva μ), (mtn μ)) (qE (my ((mg μ), (mh μ), (mp μ), (mx μ), (mt μ), (mk μ), (my μ), (mth μ), (mat μ) + 1, (mfl μ), (mva μ), (mtn μ))) (mQ ((mg μ), (mh μ), (mp μ), (mx μ), (mt μ), (mk μ), (my μ), (mth μ), (mat μ) + 1, (mfl μ), (mva μ), (mtn μ))))))), .ref (ad 5), .int (nI (mtn (mset_q ((mg μ), (mh μ), (mp μ), (mx μ), (mt μ), (mk μ), (my μ), (mth μ), (mat μ) + 1, (mfl μ), (mva μ), (mtn μ)) (qE (my ((mg μ), (mh μ), (mp μ), (mx μ), (mt μ), (mk μ), (my μ), (mth μ), (mat μ) + 1, (mfl μ), (mva μ), (mtn μ))) (mQ ((mg μ), (mh μ), (mp μ), (mx μ), (mt μ), (mk μ), (my μ), (mth μ), (mat μ) + 1, (mfl μ), (mva μ), (mtn μ)))))))])), ((ad 1), .inl (cI, 323, .inl (mg (mset_q ((mg μ), (mh μ), (mp μ), (mx μ), (mt μ), (mk μ), (my μ), (mth μ), (mat μ) + 1, (mfl μ), (mva μ), (mtn μ)) (qE (my ((mg μ), (mh μ), (mp μ), (mx μ), (mt μ), (mk μ), (my μ), (mth μ), (mat μ) + 1, (mfl μ), (mva μ), (mtn μ))) (mQ ((mg μ), (mh μ), (mp μ), (mx μ), (mt μ), (mk μ), (my μ), (mth μ), (mat μ) + 1, (mfl μ), (mva μ), (mtn μ)))))))), ((ad 2), .inl (cI, 323, .inl (mh (mset_q ((mg μ), (mh μ), (mp μ), (mx μ), (mt μ), (mk μ), (my μ), (mth μ), (mat μ) + 1, (mfl μ), (mva μ), (mtn μ)) (qE (my ((mg μ), (mh μ), (mp μ), (mx μ), (mt μ), (mk μ), (my μ), (mth μ), (mat μ) + 1, (mfl μ), (mva μ), (mtn μ))) (mQ ((mg μ), (mh μ), (mp μ), (mx μ), (mt μ), (mk μ), (my μ), (mth μ), (mat μ) + 1, (mfl μ), (mva μ), (mtn μ)))))))), ((ad 3), .inl (cI, 1938, .inl (mp (mset_q ((mg μ), (mh μ), (mp μ), (mx μ), (mt μ), (mk μ), (my μ), (mth μ), (mat μ) + 1, (mfl μ), (mva μ), (mtn μ)) (qE (my ((mg μ), (mh μ), (mp μ), (mx μ), (mt μ), (mk μ), (my μ), (mth μ), (mat μ) + 1, (mfl μ), (mva μ), (mtn μ))) (mQ ((mg μ), (mh μ), (mp μ), (mx μ), (mt μ), (mk μ), (my μ), (mth μ), (mat μ) + 1, (mfl μ), (mva μ), (mtn μ)))))))), ((ad 4), .inl (cI, 60, .inl (fun w => nI ((mx (mset_q ((mg μ), (mh μ), (mp μ), (mx μ), (mt μ), (mk μ), (my μ), (mth μ), (mat μ) + 1, (mfl μ), (mva μ), (mtn μ)) (qE (my ((mg μ), (mh μ), (mp μ), (mx μ), (mt μ), (mk μ), (my μ), (mth μ), (mat μ) + 1, (mfl μ), (mva μ), (mtn μ))) (mQ ((mg μ), (mh μ), (mp μ), (mx μ), (mt μ), (mk μ), (my μ), (mth μ), (mat μ) + 1, (mfl μ), (mva μ), (mtn μ)))))) w)))), ((ad 5), .inl (cI, 62, .inl (fun w => nI ((mt (mset_q ((mg μ), (mh μ), (mp μ), (mx μ), (mt μ), (mk μ), (my μ), (mth μ), (mat μ) + 1, (mfl μ), (mva μ), (mtn μ)) (qE (my ((mg μ), (mh μ), (mp μ), (mx μ), (mt μ), (mk μ), (my μ), (mth μ), (mat μ) + 1, (mfl μ), (mva μ), (mtn μ))) (mQ ((mg μ), (mh μ), (mp μ), (mx μ), (mt μ), (mk μ), (my μ), (mth μ), (mat μ) + 1, (mfl μ), (mva μ), (mtn μ)))))) w))))] H) (hD : va_D A [((ad 0), .inr (4, [.ref (ad 1), .ref (ad 2), .ref (ad 3), .int (nI (mk (mset_q ((mg μ), (mh μ), (mp μ), (mx μ), (mt μ), (mk μ), (my μ), (mth μ), (mat μ) + 1, (mfl μ), (mva μ), (mtn μ)) (qE (my ((mg μ), (mh μ), (mp μ), (mx μ), (mt μ), (mk μ), (my μ), (mth μ), (mat μ) + 1, (mfl μ), (mva μ), (mtn μ))) (mQ ((mg μ), (mh μ), (mp μ), (mx μ), (mt μ), (mk μ), (my μ), (mth μ), (mat μ) + 1, (mfl μ), (mva μ), (mtn μ))))))), .ref (ad 4), .int (nI (my (mset_q ((mg μ), (mh μ), (mp μ), (mx μ), (mt μ), (mk μ), (my μ), (mth μ), (mat μ) + 1, (mfl μ), (mva μ), (mtn μ)) (qE (my ((mg μ), (mh μ), (mp μ), (mx μ), (mt μ), (mk μ), (my μ), (mth μ), (mat μ) + 1, (mfl μ), (mva μ), (mtn μ))) (mQ ((mg μ), (mh μ), (mp μ), (mx μ), (mt μ), (mk μ), (my μ), (mth μ), (mat μ) + 1, (mfl μ), (mva μ), (mtn μ))))))), .int (mth (mset_q ((mg μ), (mh μ), (mp μ), (mx μ), (mt μ), (mk μ), (my μ), (mth μ), (mat μ) + 1, (mfl μ), (mva μ), (mtn μ)) (qE (my ((mg μ), (mh μ), (mp μ), (mx μ), (mt μ), (mk μ), (my μ), (mth μ), (mat μ) + 1, (mfl μ), (mva μ), (mtn μ))) (mQ ((mg μ), (mh μ), (mp μ), (mx μ), (mt μ), (mk μ), (my μ), (mth μ), (mat μ) + 1, (mfl μ), (mva μ), (mtn μ)))))), .int (nI (mat (mset_q ((mg μ), (mh μ), (mp μ), (mx μ), (mt μ), (mk μ), (my μ), (mth μ), (mat μ) + 1, (mfl μ), (mva μ), (mtn μ)) (qE (my ((mg μ), (mh μ), (mp μ), (mx μ), (mt μ), (mk μ), (my μ), (mth μ), (mat μ) + 1, (mfl μ), (mva μ), (mtn μ))) (mQ ((mg μ), (mh μ), (mp μ), (mx μ), (mt μ), (mk μ), (my μ), (mth μ), (mat μ) + 1, (mfl μ), (mva μ), (mtn μ))))))), .int (mfl (mset_q ((mg μ), (mh μ), (mp μ), (mx μ), (mt μ), (mk μ), (my μ), (mth μ), (mat μ) + 1, (mfl μ), (mva μ), (mtn μ)) (qE (my ((mg μ), (mh μ), (mp μ), (mx μ), (mt μ), (mk μ), (my μ), (mth μ), (mat μ) + 1, (mfl μ), (mva μ), (mtn μ))) (mQ ((mg μ), (mh μ), (mp μ), (mx μ), (mt μ), (mk μ), (my μ), (mth μ), (mat μ) + 1, (mfl μ), (mva μ), (mtn μ)))))), .int (nI (mva (mset_q ((mg μ), (mh μ), (mp μ), (mx μ), (mt μ), (mk μ), (my μ), (mth μ), (mat μ) + 1, (mfl μ), (mva μ), (mtn μ)) (qE (my ((mg μ), (mh μ), (mp μ), (mx μ), (mt μ), (mk μ), (my μ), (mth μ), (mat μ) + 1, (mfl μ), (mva μ), (mtn μ))) (mQ ((mg μ), (mh μ), (mp μ), (mx μ), (mt μ), (mk μ), (my μ), (mth μ), (mat μ) + 1, (mfl μ), (mva μ), (mtn μ))))))), .ref (ad 5), .int (nI (mtn (mset_q ((mg μ), (mh μ), (mp μ), (mx μ), (mt μ), (mk μ), (my μ), (mth μ), (mat μ) + 1, (mfl μ), (mva μ), (mtn μ)) (qE (my ((mg μ), (mh μ), (mp μ), (mx μ), (mt μ), (mk μ), (my μ), (mth μ), (mat μ) + 1, (mfl μ), (mva μ), (mtn μ))) (mQ ((mg μ), (mh μ), (mp μ), (mx μ), (mt μ), (mk μ), (my μ), (mth μ), (mat μ) + 1, (mfl μ), (mva μ), (mtn μ)))))))])), ((ad 1), .inl (cI, 323, .inl (mg (mset_q ((mg μ), (mh μ), (mp μ), (mx μ), (mt μ), (mk μ), (my μ), (mth μ), (mat μ) + 1, (mfl μ), (mva μ), (mtn μ)) (qE (my ((mg μ), (mh μ), (mp μ), (mx μ), (mt μ), (mk μ), (my μ), (mth μ), (mat μ) + 1, (mfl μ), (mva μ), (mtn μ))) (mQ ((mg μ), (mh μ), (mp μ), (mx μ), (mt μ), (mk μ), (my μ), (mth μ), (mat μ) + 1, (mfl μ), (mva μ), (mtn μ)))))))), ((ad 2), .inl (cI, 323, .inl (mh (mset_q ((mg μ), (mh μ), (mp μ), (mx μ), (mt μ), (mk μ), (my μ), (mth μ), (mat μ) + 1, (mfl μ), (mva μ), (mtn μ)) (qE (my ((mg μ), (mh μ), (mp μ), (mx μ), (mt μ), (mk μ), (my μ), (mth μ), (mat μ) + 1, (mfl μ), (mva μ), (mtn μ))) (mQ ((mg μ), (mh μ), (mp μ), (mx μ), (mt μ), (mk μ), (my μ), (mth μ), (mat μ) + 1, (mfl μ), (mva μ), (mtn μ)))))))), ((ad 3), .inl (cI, 1938, .inl (mp (mset_q ((mg μ), (mh μ), (mp μ), (mx μ), (mt μ), (mk μ), (my μ), (mth μ), (mat μ) + 1, (mfl μ), (mva μ), (mtn μ)) (qE (my ((mg μ), (mh μ), (mp μ), (mx μ), (mt μ), (mk μ), (my μ), (mth μ), (mat μ) + 1, (mfl μ), (mva μ), (mtn μ))) (mQ ((mg μ), (mh μ), (mp μ), (mx μ), (mt μ), (mk μ), (my μ), (mth μ), (mat μ) + 1, (mfl μ), (mva μ), (mtn μ)))))))), ((ad 4), .inl (cI, 60, .inl (fun w => nI ((mx (mset_q ((mg μ), (mh μ), (mp μ), (mx μ), (mt μ), (mk μ), (my μ), (mth μ), (mat μ) + 1, (mfl μ), (mva μ), (mtn μ)) (qE (my ((mg μ), (mh μ), (mp μ), (mx μ), (mt μ), (mk μ), (my μ), (mth μ), (mat μ) + 1, (mfl μ), (mva μ), (mtn μ))) (mQ ((mg μ), (mh μ), (mp μ), (mx μ), (mt μ), (mk μ), (my μ), (mth μ), (mat μ) + 1, (mfl μ), (mva μ), (mtn μ)))))) w)))), ((ad 5), .inl (cI, 62, .inl (fun w => nI ((mt (mset_q ((mg μ), (mh μ), (mp μ), (mx μ), (mt μ), (mk μ), (my μ), (mth μ), (mat μ) + 1, (mfl μ), (mva μ), (mtn μ)) (qE (my ((mg μ), (mh μ), (mp μ), (mx μ), (mt μ), (mk μ), (my μ), (mth μ), (mat μ) + 1, (mfl μ), (mva μ), (mtn μ))) (mQ ((mg μ), (mh μ), (mp μ), (mx μ), (mt μ), (mk μ), (my μ), (mth μ), (mat μ) + 1, (mfl μ), (mva μ), (mtn μ)))))) w))))]) hS => ?_)
      have hM_12 : zMok (mset_q ((mg μ), (mh μ), (mp μ), (mx μ), (mt μ), (mk μ), (my μ), (mth μ), (mat μ) + 1, (mfl μ), (mva μ), (mtn μ)) (qE (my ((mg μ), (mh μ), (mp μ), (mx μ), (mt μ), (mk μ), (my μ), (mth μ), (mat μ) + 1, (mfl μ), (mva μ), (mtn μ))) (mQ ((mg μ), (mh μ), (mp μ), (mx μ), (mt μ), (mk μ), (my μ), (mth μ), (mat μ) + 1, (mfl μ), (mva μ), (mtn μ))))) := hMok
      have hPq : qP (mx μ) (my μ) (mQ μ) = (false, qE (my μ) (qS (mQ μ))) := by unfold qP; rw [if_pos c_2, if_neg c_5]
      replace hP : va_P (dC, dI) vwCl (zMW ad cI (mset_q ((mg μ), (mh μ), (mp μ), (mx μ), (mt μ), (mk μ), (my μ), (mth μ), (mat μ) + 1, (mfl μ), (mva μ), (mtn μ)) (qE (my ((mg μ), (mh μ), (mp μ), (mx μ), (mt μ), (mk μ), (my μ), (mth μ), (mat μ) + 1, (mfl μ), (mva μ), (mtn μ))) (mQ ((mg μ), (mh μ), (mp μ), (mx μ), (mt μ), (mk μ), (my μ), (mth μ), (mat μ) + 1, (mfl μ), (mva μ), (mtn μ)))))) H := hP.sub (ws' := zMW ad cI (mset_q ((mg μ), (mh μ), (mp μ), (mx μ), (mt μ), (mk μ), (my μ), (mth μ), (mat μ) + 1, (mfl μ), (mva μ), (mtn μ)) (qE (my ((mg μ), (mh μ), (mp μ), (mx μ), (mt μ), (mk μ), (my μ), (mth μ), (mat μ) + 1, (mfl μ), (mva μ), (mtn μ))) (mQ ((mg μ), (mh μ), (mp μ), (mx μ), (mt μ), (mk μ), (my μ), (mth μ), (mat μ) + 1, (mfl μ), (mva μ), (mtn μ)))))) [0, 1, 2, 3, 4, 5] rfl
      replace hD : va_D A (zMW ad cI (mset_q ((mg μ), (mh μ), (mp μ), (mx μ), (mt μ), (mk μ), (my μ), (mth μ), (mat μ) + 1, (mfl μ), (mva μ), (mtn μ)) (qE (my ((mg μ), (mh μ), (mp μ), (mx μ), (mt μ), (mk μ), (my μ), (mth μ), (mat μ) + 1, (mfl μ), (mva μ), (mtn μ))) (mQ ((mg μ), (mh μ), (mp μ), (mx μ), (mt μ), (mk μ), (my μ), (mth μ), (mat μ) + 1, (mfl μ), (mva μ), (mtn μ)))))) := hD.sub (ws' := zMW ad cI (mset_q ((mg μ), (mh μ), (mp μ), (mx μ), (mt μ), (mk μ), (my μ), (mth μ), (mat μ) + 1, (mfl μ), (mva μ), (mtn μ)) (qE (my ((mg μ), (mh μ), (mp μ), (mx μ), (mt μ), (mk μ), (my μ), (mth μ), (mat μ) + 1, (mfl μ), (mva μ), (mtn μ))) (mQ ((mg μ), (mh μ), (mp μ), (mx μ), (mt μ), (mk μ), (my μ), (mth μ), (mat μ) + 1, (mfl μ), (mva μ), (mtn μ)))))) [0, 1, 2, 3, 4, 5] (by decide) rfl
      have e9 : mset_q μ (qP (mx μ) (my μ) (mQ μ)).2 = mset_q ((mg μ), (mh μ), (mp μ), (mx μ), (mt μ), (mk μ), (my μ), (mth μ), (mat μ) + 1, (mfl μ), (mva μ), (mtn μ)) (qE (my ((mg μ), (mh μ), (mp μ), (mx μ), (mt μ), (mk μ), (my μ), (mth μ), (mat μ) + 1, (mfl μ), (mva μ), (mtn μ))) (mQ ((mg μ), (mh μ), (mp μ), (mx μ), (mt μ), (mk μ), (my μ), (mth μ), (mat μ) + 1, (mfl μ), (mva μ), (mtn μ)))) := by rw [hPq]
      replace hP : va_P (dC, dI) vwCl (zMW ad cI (mset_q μ (qP (mx μ) (my μ) (mQ μ)).2)) H := by rw [e9]; exact hP
      replace hD : va_D A (zMW ad cI (mset_q μ (qP (mx μ) (my μ) (mQ μ)).2)) := by rw [e9]; exact hD
      exact hend _ () _ _ _ _ (by rw [hr_12, if_neg (fun z => z)]; rw [hPq]; rfl) hP hD hS dX4_isPart_54
  · skip
    refine lv_aload_n hx hb dX4_isPart_11 rfl (lv_at hl 0 rfl) ?_
    try clear hPq hDq
    refine z_cWi (wr := []) (As := []) (rest := []) ⟨hx, hb, hml, hown, hts⟩ (k_X4_stops l dC dI ad cI μ hMok (show (mat μ) ≤ (my μ) by omega) (s.heap).size) (cwV 0 hts gX4_isPart_X4_stops rfl rfl rfl (by decide +kernel) ⟨Nat.le_of_ble_eq_true rfl, Nat.le_of_ble_eq_true rfl⟩) (va_recv hK hP (ci := 4) (q0 := 0) rfl rfl) hP hD hS hA (hP.sub (ws' := zMW ad cI μ) [0, 1, 2, 3, 4, 5] rfl) (hD.sub (ws' := zMW ad cI μ) [0, 1, 2, 3, 4, 5] (by decide) rfl) (hK.sub (tys' := [(cI, .int)]) [0] rfl) [0, 1, 2, 3, 4, 5] [] rfl rfl (by decide) (by decide) rfl hl.1 rfl (Nat.le_of_ble_eq_true rfl) dX4_isPart_12 ⟨Nat.le_of_ble_eq_true rfl, Nat.le_of_ble_eq_true rfl⟩ (fun r_13 _ H locs hr_13 (hP : va_P (dC, dI) vwCl [((ad 0), .inr (4, [.ref (ad 1), .ref (ad 2), .ref (ad 3), .int (nI (mk (mset_q μ (qE (my μ) (mQ μ))))), .ref (ad 4), .int (nI (my (mset_q μ (qE (my μ) (mQ μ))))), .int (mth (mset_q μ (qE (my μ) (mQ μ)))), .int (nI (mat (mset_q μ (qE (my μ) (mQ μ))))), .int (mfl (mset_q μ (qE (my μ) (mQ μ)))), .int (nI (mva (mset_q μ (qE (my μ) (mQ μ))))), .ref (ad 5), .int (nI (mtn (mset_q μ (qE (my μ) (mQ μ)))))])), ((ad 1), .inl (cI, 323, .inl (mg (mset_q μ (qE (my μ) (mQ μ)))))), ((ad 2), .inl (cI, 323, .inl (mh (mset_q μ (qE (my μ) (mQ μ)))))), ((ad 3), .inl (cI, 1938, .inl (mp (mset_q μ (qE (my μ) (mQ μ)))))), ((ad 4), .inl (cI, 60, .inl (fun w => nI ((mx (mset_q μ (qE (my μ) (mQ μ)))) w)))), ((ad 5), .inl (cI, 62, .inl (fun w => nI ((mt (mset_q μ (qE (my μ) (mQ μ)))) w))))] H) (hD : va_D A [((ad 0), .inr (4, [.ref (ad 1), .ref (ad 2), .ref (ad 3), .int (nI (mk (mset_q μ (qE (my μ) (mQ μ))))), .ref (ad 4), .int (nI (my (mset_q μ (qE (my μ) (mQ μ))))), .int (mth (mset_q μ (qE (my μ) (mQ μ)))), .int (nI (mat (mset_q μ (qE (my μ) (mQ μ))))), .int (mfl (mset_q μ (qE (my μ) (mQ μ)))), .int (nI (mva (mset_q μ (qE (my μ) (mQ μ))))), .ref (ad 5), .int (nI (mtn (mset_q μ (qE (my μ) (mQ μ)))))])), ((ad 1), .inl (cI, 323, .inl (mg (mset_q μ (qE (my μ) (mQ μ)))))), ((ad 2), .inl (cI, 323, .inl (mh (mset_q μ (qE (my μ) (mQ μ)))))), ((ad 3), .inl (cI, 1938, .inl (mp (mset_q μ (qE (my μ) (mQ μ)))))), ((ad 4), .inl (cI, 60, .inl (fun w => nI ((mx (mset_q μ (qE (my μ) (mQ μ)))) w)))), ((ad 5), .inl (cI, 62, .inl (fun w => nI ((mt (mset_q μ (qE (my μ) (mQ μ)))) w))))]) hS => ?_)
    have hM_13 : zMok (mset_q μ (qE (my μ) (mQ μ))) := hMok
    have hPq : qP (mx μ) (my μ) (mQ μ) = (false, qE (my μ) (mQ μ)) := by unfold qP; rw [if_neg c_2]
    replace hP : va_P (dC, dI) vwCl (zMW ad cI (mset_q μ (qE (my μ) (mQ μ)))) H := hP.sub (ws' := zMW ad cI (mset_q μ (qE (my μ) (mQ μ)))) [0, 1, 2, 3, 4, 5] rfl
    replace hD : va_D A (zMW ad cI (mset_q μ (qE (my μ) (mQ μ)))) := hD.sub (ws' := zMW ad cI (mset_q μ (qE (my μ) (mQ μ)))) [0, 1, 2, 3, 4, 5] (by decide) rfl
    have e9 : mset_q μ (qP (mx μ) (my μ) (mQ μ)).2 = mset_q μ (qE (my μ) (mQ μ)) := by rw [hPq]
    replace hP : va_P (dC, dI) vwCl (zMW ad cI (mset_q μ (qP (mx μ) (my μ) (mQ μ)).2)) H := by rw [e9]; exact hP
    replace hD : va_D A (zMW ad cI (mset_q μ (qP (mx μ) (my μ) (mQ μ)).2)) := by rw [e9]; exact hD
    exact hend _ () _ _ _ _ (by rw [hr_13, if_neg (fun z => z)]; rw [hPq]; rfl) hP hD hS dX4_isPart_15

abbrev rX4_isText : Room := { frames := 4, cells := 0, slots := 0, locals := 86 }
set_option maxHeartbeats 4000000 in
set_option maxRecDepth 100000 in
theorem k_X4_isText (l : Launch) (dC : Nat → ClassId) (dI : Nat → Nat → Nat) (ad : Nat → Nat) (cI : ClassId) (μ : zM) (hMok : zMok μ) (hf : ∀ i, i < my μ → mx μ i < 128) (sz : Nat) : zWi (S := Unit) l yX4_isText wsX4_isText rX4_isText (dC, dI) [.ref (ad 0)] (zMW ad cI μ) [(cI, .int)] sz (fun r (_ : Unit) => r = if (qText μ).1 = true then 1 else 0) (fun _ => zMW ad cI (mset_q μ (qText μ).2)) 0 0 := by
  refine zWi_of (cc := cX4_isText) (maxL := 2) (ty := .boolean) (by decide) rfl (Nat.le_of_ble_eq_true rfl) (fun v u h => by rw [h]; split <;> rfl) ?_
  intro p e s m args below meth cd Q ls A hat hP hK hD hA hend
  obtain ⟨hx, hb, hml, hown, hts, hl⟩ := hat
  replace hown : s.vm.findClass RX4 = some m.cls := hown
  replace hl : lv_has ls 2 [(0, .ref (ad 0))] := hl
  replace hP : va_P (dC, dI) vwCl [((ad 0), .inr (4, [.ref (ad 1), .ref (ad 2), .ref (ad 3), .int (nI (mk μ)), .ref (ad 4), .int (nI (my μ)), .int (mth μ), .int (nI (mat μ)), .int (mfl μ), .int (nI (mva μ)), .ref (ad 5), .int (nI (mtn μ))])), ((ad 1), .inl (cI, 323, .inl (mg μ))), ((ad 2), .inl (cI, 323, .inl (mh μ))), ((ad 3), .inl (cI, 1938, .inl (mp μ))), ((ad 4), .inl (cI, 60, .inl (fun w => nI ((mx μ) w)))), ((ad 5), .inl (cI, 62, .inl (fun w => nI ((mt μ) w))))] s.heap := hP
  replace hD : va_D A [((ad 0), .inr (4, [.ref (ad 1), .ref (ad 2), .ref (ad 3), .int (nI (mk μ)), .ref (ad 4), .int (nI (my μ)), .int (mth μ), .int (nI (mat μ)), .int (mfl μ), .int (nI (mva μ)), .ref (ad 5), .int (nI (mtn μ))])), ((ad 1), .inl (cI, 323, .inl (mg μ))), ((ad 2), .inl (cI, 323, .inl (mh μ))), ((ad 3), .inl (cI, 1938, .inl (mp μ))), ((ad 4), .inl (cI, 60, .inl (fun w => nI ((mx μ) w)))), ((ad 5), .inl (cI, 62, .inl (fun w => nI ((mt μ) w))))] := hD
  have hS : va_S A s.heap s.heap [] := va_S.rf
  have hf105 := hts (.fieldLink RX4 105 "InsideOutWordsModel" "at" "I") (by decide +kernel)
  have hnX4 : ∀ w ∈ u_ws RX4 TX4 12, w ∈ wsX4_isText := by decide +kernel
  have hf126 := hts (.fieldLink RX4 126 "InsideOutWordsModel" "tolds" "I") (by decide +kernel)
  have hf108 := hts (.fieldLink RX4 108 "InsideOutWordsModel" "isFault" "Z") (by decide +kernel)
  have hf102 := hts (.fieldLink RX4 102 "InsideOutWordsModel" "typed" "I") (by decide +kernel)
  have hy6 : my μ ≤ 60 := hMok.2.2.2
  refine lv_aload_n hx hb dX4_isText_0 rfl (lv_at hl 0 rfl) ?_
  refine lv_iconst (v := 0) hx hb dX4_isText_1 (by decide) ?_
  refine va_put (D := (dC, dI)) (ci := 4) (v := .int 0) (ty := .int) (C := RX4) (T := TX4) (N := 12) hx hb hts hnX4 tyX4 tyX4_ok nmX4 hown hK hP hD hS 0 rfl rfl 7 (by decide) hf105 (fun _ h9 => h9) rfl (by decide +kernel) rfl rfl (Nat.le_of_ble_eq_true rfl) dX4_isText_2 (fun H locs (hP : va_P (dC, dI) vwCl [((ad 0), .inr (4, [.ref (ad 1), .ref (ad 2), .ref (ad 3), .int (nI (mk μ)), .ref (ad 4), .int (nI (my μ)), .int (mth μ), .int 0, .int (mfl μ), .int (nI (mva μ)), .ref (ad 5), .int (nI (mtn μ))])), ((ad 1), .inl (cI, 323, .inl (mg μ))), ((ad 2), .inl (cI, 323, .inl (mh μ))), ((ad 3), .inl (cI, 1938, .inl (mp μ))), ((ad 4), .inl (cI, 60, .inl (fun w => nI ((mx μ) w)))), ((ad 5), .inl (cI, 62, .inl (fun w => nI ((mt μ) w))))] H) (hD : va_D A [((ad 0), .inr (4, [.ref (ad 1), .ref (ad 2), .ref (ad 3), .int (nI (mk μ)), .ref (ad 4), .int (nI (my μ)), .int (mth μ), .int 0, .int (mfl μ), .int (nI (mva μ)), .ref (ad 5), .int (nI (mtn μ))])), ((ad 1), .inl (cI, 323, .inl (mg μ))), ((ad 2), .inl (cI, 323, .inl (mh μ))), ((ad 3), .inl (cI, 1938, .inl (mp μ))), ((ad 4), .inl (cI, 60, .inl (fun w => nI ((mx μ) w)))), ((ad 5), .inl (cI, 62, .inl (fun w => nI ((mt μ) w))))]) hS => ?_)
  refine lv_aload_n hx hb dX4_isText_5 rfl (lv_at hl 0 rfl) ?_
  refine lv_iconst (v := 0) hx hb dX4_isText_6 (by decide) ?_
  refine va_put (D := (dC, dI)) (ci := 4) (v := .int 0) (ty := .int) (C := RX4) (T := TX4) (N := 12) hx hb hts hnX4 tyX4 tyX4_ok nmX4 hown hK hP hD hS 0 rfl rfl 11 (by decide) hf126 (fun _ h9 => h9) rfl (by decide +kernel) rfl rfl (Nat.le_of_ble_eq_true rfl) dX4_isText_7 (fun H locs (hP : va_P (dC, dI) vwCl [((ad 0), .inr (4, [.ref (ad 1), .ref (ad 2), .ref (ad 3), .int (nI (mk μ)), .ref (ad 4), .int (nI (my μ)), .int (mth μ), .int 0, .int (mfl μ), .int (nI (mva μ)), .ref (ad 5), .int 0])), ((ad 1), .inl (cI, 323, .inl (mg μ))), ((ad 2), .inl (cI, 323, .inl (mh μ))), ((ad 3), .inl (cI, 1938, .inl (mp μ))), ((ad 4), .inl (cI, 60, .inl (fun w => nI ((mx μ) w)))), ((ad 5), .inl (cI, 62, .inl (fun w => nI ((mt μ) w))))] H) (hD : va_D A [((ad 0), .inr (4, [.ref (ad 1), .ref (ad 2), .ref (ad 3), .int (nI (mk μ)), .ref (ad 4), .int (nI (my μ)), .int (mth μ), .int 0, .int (mfl μ), .int (nI (mva μ)), .ref (ad 5), .int 0])), ((ad 1), .inl (cI, 323, .inl (mg μ))), ((ad 2), .inl (cI, 323, .inl (mh μ))), ((ad 3), .inl (cI, 1938, .inl (mp μ))), ((ad 4), .inl (cI, 60, .inl (fun w => nI ((mx μ) w)))), ((ad 5), .inl (cI, 62, .inl (fun w => nI ((mt μ) w))))]) hS => ?_)
  refine lv_aload_n hx hb dX4_isText_10 rfl (lv_at hl 0 rfl) ?_
  refine lv_iconst (v := 0) hx hb dX4_isText_11 (by decide) ?_
  refine va_put (D := (dC, dI)) (ci := 4) (v := .int 0) (ty := .boolean) (C := RX4) (T := TX4) (N := 12) hx hb hts hnX4 tyX4 tyX4_ok nmX4 hown hK hP hD hS 0 rfl rfl 8 (by decide) hf108 (fun _ h9 => h9) rfl (by decide +kernel) rfl rfl (Nat.le_of_ble_eq_true rfl) dX4_isText_12 (fun H locs (hP : va_P (dC, dI) vwCl [((ad 0), .inr (4, [.ref (ad 1), .ref (ad 2), .ref (ad 3), .int (nI (mk μ)), .ref (ad 4), .int (nI (my μ)), .int (mth μ), .int 0, .int 0, .int (nI (mva μ)), .ref (ad 5), .int 0])), ((ad 1), .inl (cI, 323, .inl (mg μ))), ((ad 2), .inl (cI, 323, .inl (mh μ))), ((ad 3), .inl (cI, 1938, .inl (mp μ))), ((ad 4), .inl (cI, 60, .inl (fun w => nI ((mx μ) w)))), ((ad 5), .inl (cI, 62, .inl (fun w => nI ((mt μ) w))))] H) (hD : va_D A [((ad 0), .inr (4, [.ref (ad 1), .ref (ad 2), .ref (ad 3), .int (nI (mk μ)), .ref (ad 4), .int (nI (my μ)), .int (mth μ), .int 0, .int 0, .int (nI (mva μ)), .ref (ad 5), .int 0])), ((ad 1), .inl (cI, 323, .inl (mg μ))), ((ad 2), .inl (cI, 323, .inl (mh μ))), ((ad 3), .inl (cI, 1938, .inl (mp μ))), ((ad 4), .inl (cI, 60, .inl (fun w => nI ((mx μ) w)))), ((ad 5), .inl (cI, 62, .inl (fun w => nI ((mt μ) w))))]) hS => ?_)
  refine lv_iconst (v := 1) hx hb dX4_isText_15 (by decide) ?_
  refine lv_istore_n (lv' := [(1, .int 1), (0, .ref (ad 0))]) hx hb dX4_isText_16 rfl hl (by decide) rfl (fun ls hl => ?_)
  refine lv_iload_n hx hb dX4_isText_17 rfl (lv_at hl 0 rfl) ?_
  refine lv_if_eq (tgt := 60) hx hb dX4_isText_18 (by decide) (fun z => absurd z (by decide)) (fun _ => ?_)
  have hC_21 : ∀ (nf : Nat) (a : Nat) (va : Nat) (fl : Int32) (tt : Nat → Nat) (tn : Nat) (kk : Nat) (ls : Array Slot) (H : Heap) (locs : List Loc), kk < nf → lv_has ls 2 [(0, .ref (ad 0))] → (qok (my μ) (a, va, fl, tt, tn) 0) → (my μ - a + 1 ≤ kk) → (qX (mx μ) (my μ) kk (a, va, fl, tt, tn) = qText μ) → va_P (dC, dI) vwCl [((ad 0), .inr (4, [.ref (ad 1), .ref (ad 2), .ref (ad 3), .int (nI (mk μ)), .ref (ad 4), .int (nI (my μ)), .int (mth μ), .int (nI a), .int fl, .int (nI va), .ref (ad 5), .int (nI tn)])), ((ad 1), .inl (cI, 323, .inl (mg μ))), ((ad 2), .inl (cI, 323, .inl (mh μ))), ((ad 3), .inl (cI, 1938, .inl (mp μ))), ((ad 4), .inl (cI, 60, .inl (fun w => nI (mx μ w)))), ((ad 5), .inl (cI, 62, .inl (fun w => nI (tt w))))] H → va_D A [((ad 0), .inr (4, [.ref (ad 1), .ref (ad 2), .ref (ad 3), .int (nI (mk μ)), .ref (ad 4), .int (nI (my μ)), .int (mth μ), .int (nI a), .int fl, .int (nI va), .ref (ad 5), .int (nI tn)])), ((ad 1), .inl (cI, 323, .inl (mg μ))), ((ad 2), .inl (cI, 323, .inl (mh μ))), ((ad 3), .inl (cI, 1938, .inl (mp μ))), ((ad 4), .inl (cI, 60, .inl (fun w => nI (mx μ w)))), ((ad 5), .inl (cI, 62, .inl (fun w => nI (tt w))))] → va_S A s.heap H locs → W p l e rX4_isText s m args below meth cd H locs 0 0 Q (F0 m 21 ls []) := by
    intro nf
    induction nf with
    | zero => intro a va fl tt tn kk ls H locs hm_21 hl ho1 hk1 hq hP hD hS; exact absurd hm_21 (Nat.not_lt_zero _)
    | succ nf ih_21 =>
      intro a va fl tt tn kk ls H locs hm_21 hl ho1 hk1 hq hP hD hS
      refine lv_aload_n hx hb dX4_isText_21 rfl (lv_at hl 0 rfl) ?_
      try clear hPq hDq
      refine z_cWi (wr := []) (As := []) (rest := []) ⟨hx, hb, hml, hown, hts⟩ (k_X4_isPart l dC dI ad cI (mg μ, mh μ, mp μ, mx μ, tt, mk μ, my μ, mth μ, a, fl, va, tn) hMok hf ho1 H.size) (cwV 0 hts gX4_isText_X4_isPart rfl rfl rfl (by decide +kernel) ⟨Nat.le_of_ble_eq_true rfl, Nat.le_of_ble_eq_true rfl⟩) (va_recv hK hP (ci := 4) (q0 := 0) rfl rfl) hP hD hS hA (hP.sub (ws' := zMW ad cI (mg μ, mh μ, mp μ, mx μ, tt, mk μ, my μ, mth μ, a, fl, va, tn)) [0, 1, 2, 3, 4, 5] rfl) (hD.sub (ws' := zMW ad cI (mg μ, mh μ, mp μ, mx μ, tt, mk μ, my μ, mth μ, a, fl, va, tn)) [0, 1, 2, 3, 4, 5] (by decide) rfl) (hK.sub (tys' := [(cI, .int)]) [0] rfl) [0, 1, 2, 3, 4, 5] [] rfl rfl (by decide) (by decide) rfl hl.1 rfl (Nat.le_of_ble_eq_true rfl) dX4_isText_22 ⟨Nat.le_of_ble_eq_true rfl, Nat.le_of_ble_eq_true rfl⟩ (fun r_2 _ H locs hr_2 hP hD hS => ?_)
      replace hP : va_P (dC, dI) vwCl (zMW ad cI (mg μ, mh μ, mp μ, mx μ, kt (qP (mx μ) (my μ) (a, va, fl, tt, tn)).2, mk μ, my μ, mth μ, ka (qP (mx μ) (my μ) (a, va, fl, tt, tn)).2, kf (qP (mx μ) (my μ) (a, va, fl, tt, tn)).2, kv (qP (mx μ) (my μ) (a, va, fl, tt, tn)).2, kn (qP (mx μ) (my μ) (a, va, fl, tt, tn)).2)) H := hP
      replace hD : va_D A (zMW ad cI (mg μ, mh μ, mp μ, mx μ, kt (qP (mx μ) (my μ) (a, va, fl, tt, tn)).2, mk μ, my μ, mth μ, ka (qP (mx μ) (my μ) (a, va, fl, tt, tn)).2, kf (qP (mx μ) (my μ) (a, va, fl, tt, tn)).2, kv (qP (mx μ) (my μ) (a, va, fl, tt, tn)).2, kn (qP (mx μ) (my μ) (a, va, fl, tt, tn)).2)) := hD
      obtain ⟨q_2, eq_2⟩ : ∃ zz : Bool × zQ, zz = qP (mx μ) (my μ) (a, va, fl, tt, tn) := ⟨_, rfl⟩
      rw [← eq_2] at hP hD
      replace hr_2 : r_2 = if (qP (mx μ) (my μ) (a, va, fl, tt, tn)).1 = true then 1 else 0 := hr_2
      rw [← eq_2] at hr_2
      replace hP : va_P (dC, dI) vwCl [((ad 0), .inr (4, [.ref (ad 1), .ref (ad 2), .ref (ad 3), .int (nI (mk μ)), .ref (ad 4), .int (nI (my μ)), .int (mth μ), .int (nI (ka q_2.2)), .int (kf q_2.2), .int (nI (kv q_2.2)), .ref (ad 5), .int (nI (kn q_2.2))])), ((ad 1), .inl (cI, 323, .inl (mg μ))), ((ad 2), .inl (cI, 323, .inl (mh μ))), ((ad 3), .inl (cI, 1938, .inl (mp μ))), ((ad 4), .inl (cI, 60, .inl (fun w => nI (mx μ w)))), ((ad 5), .inl (cI, 62, .inl (fun w => nI (kt q_2.2 w))))] H := hP
      replace hD : va_D A [((ad 0), .inr (4, [.ref (ad 1), .ref (ad 2), .ref (ad 3), .int (nI (mk μ)), .ref (ad 4), .int (nI (my μ)), .int (mth μ), .int (nI (ka q_2.2)), .int (kf q_2.2), .int (nI (kv q_2.2)), .ref (ad 5), .int (nI (kn q_2.2))])), ((ad 1), .inl (cI, 323, .inl (mg μ))), ((ad 2), .inl (cI, 323, .inl (mh μ))), ((ad 3), .inl (cI, 1938, .inl (mp μ))), ((ad 4), .inl (cI, 60, .inl (fun w => nI (mx μ w)))), ((ad 5), .inl (cI, 62, .inl (fun w => nI (kt q_2.2 w))))] := hD
      refine z_ifneB hx hb hr_2 (tgt := 30) dX4_isText_25 (by decide) (fun c_3 => ?_) (fun c_3 => ?_)
      · skip
        have hp9 := qP_ok (f := mx μ) ho1
        rw [← eq_2] at hp9
        obtain ⟨hp5, hp6⟩ := hp9.2.2 c_3
        have hp7 : ka q_2.2 ≤ my μ := hp5.1
        have hp8 : a < ka q_2.2 := hp6
        refine lv_aload_n hx hb dX4_isText_30 rfl (lv_at hl 0 rfl) ?_
        refine lv_bipush (v := 59) hx hb dX4_isText_31 (by decide) ?_
        refine lv_bipush (v := 59) hx hb dX4_isText_33 (by decide) ?_
        refine z_cVi (As := [.int 59, .int 59]) (rest := []) ⟨hx, hb, hml, hown, hts⟩ (k_X4_isAt l dC dI ad cI (mg μ, mh μ, mp μ, mx μ, kt q_2.2, mk μ, my μ, mth μ, ka q_2.2, kf q_2.2, kv q_2.2, kn q_2.2) hMok 59 (by omega) 59 (by omega) hf (show (ka q_2.2) ≤ (my μ) by omega)) (cwV 2 hts gX4_isText_X4_isAt rfl rfl rfl (by decide +kernel) ⟨Nat.le_of_ble_eq_true rfl, Nat.le_of_ble_eq_true rfl⟩) (va_recv hK hP (ci := 4) (q0 := 0) rfl rfl) (hP.sub (ws' := zMW ad cI (mg μ, mh μ, mp μ, mx μ, kt q_2.2, mk μ, my μ, mth μ, ka q_2.2, kf q_2.2, kv q_2.2, kn q_2.2)) [0, 1, 2, 3, 4, 5] rfl) (hK.sub (tys' := [(cI, .int)]) [0] rfl) rfl hl.1 rfl (Nat.le_of_ble_eq_true rfl) dX4_isText_35 ⟨Nat.le_of_ble_eq_true rfl, Nat.le_of_ble_eq_true rfl⟩ (fun r_4 hr_4 => ?_)
        refine lv_istore_n (lv' := [(1, .int r_4), (0, .ref (ad 0))]) hx hb dX4_isText_38 rfl hl (by decide) rfl (fun ls hl => ?_)
        refine lv_aload_n hx hb dX4_isText_39 rfl (lv_at hl 1 rfl) ?_
        refine lv_dup hx hb dX4_isText_40 rfl ?_
        refine va_get (D := (dC, dI)) (ci := 4) (v := .int (nI (ka q_2.2))) (C := RX4) (T := TX4) (N := 12) hx hb hts hnX4 hown hK hP 0 rfl rfl 7 (by decide) hf105 (fun _ h9 => h9) rfl dX4_isText_41 ?_
        refine lv_iload_n hx hb dX4_isText_44 rfl (lv_at hl 0 rfl) ?_
        refine z_ifeqB hx hb hr_4 (tgt := 52) dX4_isText_45 (by decide) (fun c_5 => ?_) (fun c_5 => ?_)
        · skip
          refine lv_iconst (v := 0) hx hb dX4_isText_52 (by decide) ?_
          refine z_iadd hx hb (ka q_2.2) 0 dX4_isText_53 ?_
          refine z_top (congrArg nI (Nat.add_zero (ka q_2.2))) ?_
          refine va_put (D := (dC, dI)) (ci := 4) (v := .int (nI (ka q_2.2))) (ty := .int) (C := RX4) (T := TX4) (N := 12) hx hb hts hnX4 tyX4 tyX4_ok nmX4 hown hK hP hD hS 0 rfl rfl 7 (by decide) hf105 (fun _ h9 => h9) rfl (by decide +kernel) rfl rfl (Nat.le_of_ble_eq_true rfl) dX4_isText_54 (fun H locs (hP : va_P (dC, dI) vwCl [((ad 0), .inr (4, [.ref (ad 1), .ref (ad 2), .ref (ad 3), .int (nI (mk μ)), .ref (ad 4), .int (nI (my μ)), .int (mth μ), .int (nI (ka q_2.2)), .int (kf q_2.2), .int (nI (kv q_2.2)), .ref (ad 5), .int (nI (kn q_2.2))])), ((ad 1), .inl (cI, 323, .inl (mg μ))), ((ad 2), .inl (cI, 323, .inl (mh μ))), ((ad 3), .inl (cI, 1938, .inl (mp μ))), ((ad 4), .inl (cI, 60, .inl (fun w => nI (mx μ w)))), ((ad 5), .inl (cI, 62, .inl (fun w => nI (kt q_2.2 w))))] H) (hD : va_D A [((ad 0), .inr (4, [.ref (ad 1), .ref (ad 2), .ref (ad 3), .int (nI (mk μ)), .ref (ad 4), .int (nI (my μ)), .int (mth μ), .int (nI (ka q_2.2)), .int (kf q_2.2), .int (nI (kv q_2.2)), .ref (ad 5), .int (nI (kn q_2.2))])), ((ad 1), .inl (cI, 323, .inl (mg μ))), ((ad 2), .inl (cI, 323, .inl (mh μ))), ((ad 3), .inl (cI, 1938, .inl (mp μ))), ((ad 4), .inl (cI, 60, .inl (fun w => nI (mx μ w)))), ((ad 5), .inl (cI, 62, .inl (fun w => nI (kt q_2.2 w))))]) hS => ?_)
          refine lv_goto (tgt := 17) hx hb dX4_isText_57 (by decide) ?_
          refine lv_iload_n hx hb dX4_isText_17 rfl (lv_at hl 0 rfl) ?_
          refine z_ifeqB hx hb hr_4 (tgt := 60) dX4_isText_18 (by decide) (fun _ => ?_) (fun z => absurd z c_5)
          refine lv_aload_n hx hb dX4_isText_60 rfl (lv_at hl 1 rfl) ?_
          refine lv_aload_n hx hb dX4_isText_61 rfl (lv_at hl 1 rfl) ?_
          refine va_get (D := (dC, dI)) (ci := 4) (v := .int (nI (ka q_2.2))) (C := RX4) (T := TX4) (N := 12) hx hb hts hnX4 hown hK hP 0 rfl rfl 7 (by decide) hf105 (fun _ h9 => h9) rfl dX4_isText_62 ?_
          refine lv_aload_n hx hb dX4_isText_65 rfl (lv_at hl 1 rfl) ?_
          refine va_get (D := (dC, dI)) (ci := 4) (v := .int (nI (my μ))) (C := RX4) (T := TX4) (N := 12) hx hb hts hnX4 hown hK hP 0 rfl rfl 5 (by decide) hf102 (fun _ h9 => h9) rfl dX4_isText_66 ?_
          have hJ_6 : ∀ b_6 : Int32, b_6 = (if (ka q_2.2) < (my μ) then 1 else 0) → W p l e rX4_isText s m args below meth cd H locs 0 0 Q (F0 m 77 ls (.int b_6 :: [.ref (ad 0)])) := by
            intro b_6 eb_6
            refine va_put (D := (dC, dI)) (ci := 4) (v := .int b_6) (ty := .boolean) (C := RX4) (T := TX4) (N := 12) hx hb hts hnX4 tyX4 tyX4_ok nmX4 hown hK hP hD hS 0 rfl rfl 8 (by decide) hf108 (fun _ h9 => h9) rfl (by decide +kernel) (by rw [eb_6]; split <;> rfl) (by rw [eb_6]; split <;> rfl) (Nat.le_of_ble_eq_true rfl) dX4_isText_77 (fun H locs (hP : va_P (dC, dI) vwCl [((ad 0), .inr (4, [.ref (ad 1), .ref (ad 2), .ref (ad 3), .int (nI (mk μ)), .ref (ad 4), .int (nI (my μ)), .int (mth μ), .int (nI (ka q_2.2)), .int b_6, .int (nI (kv q_2.2)), .ref (ad 5), .int (nI (kn q_2.2))])), ((ad 1), .inl (cI, 323, .inl (mg μ))), ((ad 2), .inl (cI, 323, .inl (mh μ))), ((ad 3), .inl (cI, 1938, .inl (mp μ))), ((ad 4), .inl (cI, 60, .inl (fun w => nI (mx μ w)))), ((ad 5), .inl (cI, 62, .inl (fun w => nI (kt q_2.2 w))))] H) (hD : va_D A [((ad 0), .inr (4, [.ref (ad 1), .ref (ad 2), .ref (ad 3), .int (nI (mk μ)), .ref (ad 4), .int (nI (my μ)), .int (mth μ), .int (nI (ka q_2.2)), .int b_6, .int (nI (kv q_2.2)), .ref (ad 5), .int (nI (kn q_2.2))])), ((ad 1), .inl (cI, 323, .inl (mg μ))), ((ad 2), .inl (cI, 323, .inl (mh μ))), ((ad 3), .inl (cI, 1938, .inl (mp μ))), ((ad 4), .inl (cI, 60, .inl (fun w => nI (mx μ w)))), ((ad 5), .inl (cI, 62, .inl (fun w => nI (kt q_2.2 w))))]) hS => ?_)
            refine lv_aload_n hx hb dX4_isText_80 rfl (lv_at hl 1 rfl) ?_
            refine va_get (D := (dC, dI)) (ci := 4) (v := .int (nI (ka q_2.2))) (C := RX4) (T := TX4) (N := 12) hx hb hts hnX4 hown hK hP 0 rfl rfl 7 (by decide) hf105 (fun _ h9 => h9) rfl dX4_isText_81 ?_
            refine lv_aload_n hx hb dX4_isText_84 rfl (lv_at hl 1 rfl) ?_
            refine va_get (D := (dC, dI)) (ci := 4) (v := .int (nI (my μ))) (C := RX4) (T := TX4) (N := 12) hx hb hts hnX4 hown hK hP 0 rfl rfl 5 (by decide) hf102 (fun _ h9 => h9) rfl dX4_isText_85 ?_
            have hJ_7 : ∀ b_7 : Int32, b_7 = (if (ka q_2.2) = (my μ) then 1 else 0) → W p l e rX4_isText s m args below meth cd H locs 0 0 Q (F0 m 96 ls (.int b_7 :: [])) := by
              intro b_7 eb_7
              have hXq : qText μ = (decide (ka q_2.2 = my μ), qE (my μ) q_2.2) := hq.symm.trans (by have e1 := qX_stop (k := kk - 1) (f := mx μ) (n := my μ) (q := (a, va, fl, tt, tn)) (by rw [← eq_2]; exact c_3) (by rw [← eq_2]; exact c_5); rw [show kk - 1 + 1 = kk by omega] at e1; rw [← eq_2] at e1; exact e1)
              replace hP : va_P (dC, dI) vwCl (zMW ad cI (mg μ, mh μ, mp μ, mx μ, kt q_2.2, mk μ, my μ, mth μ, ka q_2.2, b_6, kv q_2.2, kn q_2.2)) H := hP.sub (ws' := zMW ad cI (mg μ, mh μ, mp μ, mx μ, kt q_2.2, mk μ, my μ, mth μ, ka q_2.2, b_6, kv q_2.2, kn q_2.2)) [0, 1, 2, 3, 4, 5] rfl
              replace hD : va_D A (zMW ad cI (mg μ, mh μ, mp μ, mx μ, kt q_2.2, mk μ, my μ, mth μ, ka q_2.2, b_6, kv q_2.2, kn q_2.2)) := hD.sub (ws' := zMW ad cI (mg μ, mh μ, mp μ, mx μ, kt q_2.2, mk μ, my μ, mth μ, ka q_2.2, b_6, kv q_2.2, kn q_2.2)) [0, 1, 2, 3, 4, 5] (by decide) rfl
              have e9 : mset_q μ (qText μ).2 = (mg μ, mh μ, mp μ, mx μ, kt q_2.2, mk μ, my μ, mth μ, ka q_2.2, b_6, kv q_2.2, kn q_2.2) := by rw [hXq, eb_6]
              replace hP : va_P (dC, dI) vwCl (zMW ad cI (mset_q μ (qText μ).2)) H := by rw [e9]; exact hP
              replace hD : va_D A (zMW ad cI (mset_q μ (qText μ).2)) := by rw [e9]; exact hD
              exact hend _ () _ _ _ _ (by rw [eb_7, hXq]; exact z_ifc ⟨fun z => decide_eq_true z, fun z => of_decide_eq_true z⟩) hP hD hS dX4_isText_96
            refine z_ne hx hb (ka q_2.2) (my μ) (by omega) (by omega) (tgt := 95) dX4_isText_88 (by decide) (fun c_7 => ?_) (fun c_7 => ?_)
            · refine lv_iconst (v := 0) hx hb dX4_isText_95 (by decide) ?_
              exact hJ_7 _ (if_neg (by omega)).symm
            · refine lv_iconst (v := 1) hx hb dX4_isText_91 (by decide) ?_
              refine lv_goto (tgt := 96) hx hb dX4_isText_92 (by decide) ?_
              exact hJ_7 _ (if_pos c_7).symm
          refine z_ge hx hb (ka q_2.2) (my μ) (by omega) (by omega) (tgt := 76) dX4_isText_69 (by decide) (fun c_6 => ?_) (fun c_6 => ?_)
          · refine lv_iconst (v := 0) hx hb dX4_isText_76 (by decide) ?_
            exact hJ_6 _ (if_neg (by omega)).symm
          · refine lv_iconst (v := 1) hx hb dX4_isText_72 (by decide) ?_
            refine lv_goto (tgt := 77) hx hb dX4_isText_73 (by decide) ?_
            exact hJ_6 _ (if_pos c_6).symm
        · skip
          refine lv_iconst (v := 1) hx hb dX4_isText_48 (by decide) ?_
          refine lv_goto (tgt := 53) hx hb dX4_isText_49 (by decide) ?_
          refine z_iadd hx hb (ka q_2.2) 1 dX4_isText_53 ?_
          refine va_put (D := (dC, dI)) (ci := 4) (v := .int (nI ((ka q_2.2) + 1))) (ty := .int) (C := RX4) (T := TX4) (N := 12) hx hb hts hnX4 tyX4 tyX4_ok nmX4 hown hK hP hD hS 0 rfl rfl 7 (by decide) hf105 (fun _ h9 => h9) rfl (by decide +kernel) rfl rfl (Nat.le_of_ble_eq_true rfl) dX4_isText_54 (fun H locs (hP : va_P (dC, dI) vwCl [((ad 0), .inr (4, [.ref (ad 1), .ref (ad 2), .ref (ad 3), .int (nI (mk μ)), .ref (ad 4), .int (nI (my μ)), .int (mth μ), .int (nI ((ka q_2.2) + 1)), .int (kf q_2.2), .int (nI (kv q_2.2)), .ref (ad 5), .int (nI (kn q_2.2))])), ((ad 1), .inl (cI, 323, .inl (mg μ))), ((ad 2), .inl (cI, 323, .inl (mh μ))), ((ad 3), .inl (cI, 1938, .inl (mp μ))), ((ad 4), .inl (cI, 60, .inl (fun w => nI (mx μ w)))), ((ad 5), .inl (cI, 62, .inl (fun w => nI (kt q_2.2 w))))] H) (hD : va_D A [((ad 0), .inr (4, [.ref (ad 1), .ref (ad 2), .ref (ad 3), .int (nI (mk μ)), .ref (ad 4), .int (nI (my μ)), .int (mth μ), .int (nI ((ka q_2.2) + 1)), .int (kf q_2.2), .int (nI (kv q_2.2)), .ref (ad 5), .int (nI (kn q_2.2))])), ((ad 1), .inl (cI, 323, .inl (mg μ))), ((ad 2), .inl (cI, 323, .inl (mh μ))), ((ad 3), .inl (cI, 1938, .inl (mp μ))), ((ad 4), .inl (cI, 60, .inl (fun w => nI (mx μ w)))), ((ad 5), .inl (cI, 62, .inl (fun w => nI (kt q_2.2 w))))]) hS => ?_)
          refine lv_goto (tgt := 17) hx hb dX4_isText_57 (by decide) ?_
          refine lv_iload_n hx hb dX4_isText_17 rfl (lv_at hl 0 rfl) ?_
          refine z_ifeqB hx hb hr_4 (tgt := 60) dX4_isText_18 (by decide) (fun z => absurd c_5 z) (fun _ => ?_)
          exact ih_21 ((ka q_2.2) + 1) (kv q_2.2) (kf q_2.2) (kt q_2.2) (kn q_2.2) (kk - 1) _ _ _ (by omega) (lv_sub hl [1] rfl) (⟨c_5.1, by have := hp5.2.1; show 2 * kn q_2.2 + 0 ≤ ka q_2.2 + 1; omega, hp5.2.2⟩) (by have := c_5.1; omega) (by have e1 := qX_go (k := kk - 1) (f := mx μ) (n := my μ) (q := (a, va, fl, tt, tn)) (by rw [← eq_2]; exact c_3) (by rw [← eq_2]; exact c_5); rw [show kk - 1 + 1 = kk by omega] at e1; rw [← eq_2] at e1; exact e1.symm.trans hq) hP hD hS
      · skip
        refine lv_iconst (v := 0) hx hb dX4_isText_28 (by decide) ?_
        have hXq : qText μ = (false, q_2.2) := hq.symm.trans (by have e1 := qX_end (k := kk - 1) (f := mx μ) (n := my μ) (q := (a, va, fl, tt, tn)) (by rw [← eq_2]; exact c_3); rw [show kk - 1 + 1 = kk by omega] at e1; rw [← eq_2] at e1; exact e1)
        replace hP : va_P (dC, dI) vwCl (zMW ad cI (mg μ, mh μ, mp μ, mx μ, kt q_2.2, mk μ, my μ, mth μ, ka q_2.2, kf q_2.2, kv q_2.2, kn q_2.2)) H := hP.sub (ws' := zMW ad cI (mg μ, mh μ, mp μ, mx μ, kt q_2.2, mk μ, my μ, mth μ, ka q_2.2, kf q_2.2, kv q_2.2, kn q_2.2)) [0, 1, 2, 3, 4, 5] rfl
        replace hD : va_D A (zMW ad cI (mg μ, mh μ, mp μ, mx μ, kt q_2.2, mk μ, my μ, mth μ, ka q_2.2, kf q_2.2, kv q_2.2, kn q_2.2)) := hD.sub (ws' := zMW ad cI (mg μ, mh μ, mp μ, mx μ, kt q_2.2, mk μ, my μ, mth μ, ka q_2.2, kf q_2.2, kv q_2.2, kn q_2.2)) [0, 1, 2, 3, 4, 5] (by decide) rfl
        have e9 : mset_q μ (qText μ).2 = (mg μ, mh μ, mp μ, mx μ, kt q_2.2, mk μ, my μ, mth μ, ka q_2.2, kf q_2.2, kv q_2.2, kn q_2.2) := by rw [hXq]
        replace hP : va_P (dC, dI) vwCl (zMW ad cI (mset_q μ (qText μ).2)) H := by rw [e9]; exact hP
        replace hD : va_D A (zMW ad cI (mset_q μ (qText μ).2)) := by rw [e9]; exact hD
        exact hend _ () _ _ _ _ (by rw [hXq]; rfl) hP hD hS dX4_isText_29
  exact hC_21 _ 0 (mva μ) 0 (mt μ) 0 (my μ + 1) _ _ _ (Nat.lt_succ_self _) (lv_sub hl [1] rfl) (⟨Nat.zero_le _, Nat.le_refl _, fun i hi => absurd hi (Nat.not_lt_zero _)⟩) (by omega) (rfl) hP hD hS
