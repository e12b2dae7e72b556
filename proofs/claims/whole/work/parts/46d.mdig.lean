abbrev rX4_firstError : Room := { frames := 5, cells := 0, slots := 0, locals := 107 }
set_option maxHeartbeats 1500000 in
set_option maxRecDepth 100000 in
theorem k_X4_firstError (l : Launch) (dC : Nat → ClassId) (dI : Nat → Nat → Nat) (ad : Nat → Nat) (cI : ClassId) (μ : zM) (hMok : zMok μ) (hf : ∀ i, i < my μ → mx μ i < 128) (sz : Nat) : zWi (S := Unit) l yX4_firstError wsX4_firstError rX4_firstError (dC, dI) [.ref (ad 0)] (zMW ad cI μ) [(cI, .int)] sz (fun r (_ : Unit) => r = (rFirst μ).2) (fun _ => zMW ad cI ((rFirst μ).1)) 0 0 := by
  refine zWi_of (cc := cX4_firstError) (maxL := 2) (ty := .int) (by decide) rfl (Nat.le_of_ble_eq_true rfl) (fun _ _ _ => rfl) ?_
  intro p e s m args below meth cd Q ls A hat hP hK hD hA hend
  obtain ⟨hx, hb, hml, hown, hts, hl⟩ := hat
  replace hown : s.vm.findClass RX4 = some m.cls := hown
  replace hl : lv_has ls 2 [(0, .ref (ad 0))] := hl
  replace hP : va_P (dC, dI) vwCl [((ad 0), .inr (4, [.ref (ad 1), .ref (ad 2), .ref (ad 3), .int (nI (mk μ)), .ref (ad 4), .int (nI (my μ)), .int (mth μ), .int (nI (mat μ)), .int (mfl μ), .int (nI (mva μ)), .ref (ad 5), .int (nI (mtn μ))])), ((ad 1), .inl (cI, 323, .inl (mg μ))), ((ad 2), .inl (cI, 323, .inl (mh μ))), ((ad 3), .inl (cI, 1938, .inl (mp μ))), ((ad 4), .inl (cI, 60, .inl (fun w => nI ((mx μ) w)))), ((ad 5), .inl (cI, 62, .inl (fun w => nI ((mt μ) w))))] s.heap := hP
  replace hD : va_D A [((ad 0), .inr (4, [.ref (ad 1), .ref (ad 2), .ref (ad 3), .int (nI (mk μ)), .ref (ad 4), .int (nI (my μ)), .int (mth μ), .int (nI (mat μ)), .int (mfl μ), .int (nI (mva μ)), .ref (ad 5), .int (nI (mtn μ))])), ((ad 1), .inl (cI, 323, .inl (mg μ))), ((ad 2), .inl (cI, 323, .inl (mh μ))), ((ad 3), .inl (cI, 1938, .inl (mp μ))), ((ad 4), .inl (cI, 60, .inl (fun w => nI ((mx μ) w)))), ((ad 5), .inl (cI, 62, .inl (fun w => nI ((mt μ) w))))] := hD
  have hS : va_S A s.heap s.heap [] := va_S.rf
  have hf25 := hts (.fieldLink RX4 25 "InsideOutWordsModel" "thrown" "I") (by decide +kernel)
  have hnX4 : ∀ w ∈ u_ws RX4 TX4 12, w ∈ wsX4_firstError := by decide +kernel
  have hf102 := hts (.fieldLink RX4 102 "InsideOutWordsModel" "typed" "I") (by decide +kernel)
  have hf108 := hts (.fieldLink RX4 108 "InsideOutWordsModel" "isFault" "Z") (by decide +kernel)
  have hf105 := hts (.fieldLink RX4 105 "InsideOutWordsModel" "at" "I") (by decide +kernel)
  have hy6 : my μ ≤ 60 := hMok.2.2.2
  refine lv_aload_n hx hb dX4_firstError_0 rfl (lv_at hl 0 rfl) ?_
  refine lv_iconst (v := 0) hx hb dX4_firstError_1 (by decide) ?_
  refine va_put (D := (dC, dI)) (ci := 4) (v := .int 0) (ty := .int) (C := RX4) (T := TX4) (N := 12) hx hb hts hnX4 tyX4 tyX4_ok nmX4 hown hK hP hD hS 0 rfl rfl 6 (by decide) hf25 (fun _ h9 => h9) rfl (by decide +kernel) rfl rfl (Nat.le_of_ble_eq_true rfl) dX4_firstError_2 (fun H locs (hP : va_P (dC, dI) vwCl [((ad 0), .inr (4, [.ref (ad 1), .ref (ad 2), .ref (ad 3), .int (nI (mk μ)), .ref (ad 4), .int (nI (my μ)), .int 0, .int (nI (mat μ)), .int (mfl μ), .int (nI (mva μ)), .ref (ad 5), .int (nI (mtn μ))])), ((ad 1), .inl (cI, 323, .inl (mg μ))), ((ad 2), .inl (cI, 323, .inl (mh μ))), ((ad 3), .inl (cI, 1938, .inl (mp μ))), ((ad 4), .inl (cI, 60, .inl (fun w => nI ((mx μ) w)))), ((ad 5), .inl (cI, 62, .inl (fun w => nI ((mt μ) w))))] H) (hD : va_D A [((ad 0), .inr (4, [.ref (ad 1), .ref (ad 2), .ref (ad 3), .int (nI (mk μ)), .ref (ad 4), .int (nI (my μ)), .int 0, .int (nI (mat μ)), .int (mfl μ), .int (nI (mva μ)), .ref (ad 5), .int (nI (mtn μ))])), ((ad 1), .inl (cI, 323, .inl (mg μ))), ((ad 2), .inl (cI, 323, .inl (mh μ))), ((ad 3), .inl (cI, 1938, .inl (mp μ))), ((ad 4), .inl (cI, 60, .inl (fun w => nI ((mx μ) w)))), ((ad 5), .inl (cI, 62, .inl (fun w => nI ((mt μ) w))))]) hS => ?_)
  refine lv_aload_n hx hb dX4_firstError_5 rfl (lv_at hl 0 rfl) ?_
  try clear hPq hDq
  refine z_cWi (wr := []) (As := []) (rest := []) ⟨hx, hb, hml, hown, hts⟩ (k_X4_isText l dC dI ad cI ((mg μ), (mh μ), (mp μ), (mx μ), (mt μ), (mk μ), (my μ), 0, (mat μ), (mfl μ), (mva μ), (mtn μ)) hMok hf H.size) (cwV 0 hts gX4_firstError_X4_isText rfl rfl rfl (by decide +kernel) ⟨Nat.le_of_ble_eq_true rfl, Nat.le_of_ble_eq_true rfl⟩) (va_recv hK hP (ci := 4) (q0 := 0) rfl rfl) hP hD hS hA (hP.sub (ws' := zMW ad cI ((mg μ), (mh μ), (mp μ), (mx μ), (mt μ), (mk μ), (my μ), 0, (mat μ), (mfl μ), (mva μ), (mtn μ))) [0, 1, 2, 3, 4, 5] rfl) (hD.sub (ws' := zMW ad cI ((mg μ), (mh μ), (mp μ), (mx μ), (mt μ), (mk μ), (my μ), 0, (mat μ), (mfl μ), (mva μ), (mtn μ))) [0, 1, 2, 3, 4, 5] (by decide) rfl) (hK.sub (tys' := [(cI, .int)]) [0] rfl) [0, 1, 2, 3, 4, 5] [] rfl rfl (by decide) (by decide) rfl hl.1 rfl (Nat.le_of_ble_eq_true rfl) dX4_firstError_6 ⟨Nat.le_of_ble_eq_true rfl, Nat.le_of_ble_eq_true rfl⟩ (fun r_1 _ H locs hr_1 hP hD hS => ?_)
  replace hP : va_P (dC, dI) vwCl (zMW ad cI ((mg μ), (mh μ), (mp μ), (mx μ), kt (qText μ).2, (mk μ), (my μ), 0, ka (qText μ).2, kf (qText μ).2, kv (qText μ).2, kn (qText μ).2)) H := hP
  replace hD : va_D A (zMW ad cI ((mg μ), (mh μ), (mp μ), (mx μ), kt (qText μ).2, (mk μ), (my μ), 0, ka (qText μ).2, kf (qText μ).2, kv (qText μ).2, kn (qText μ).2)) := hD
  obtain ⟨q_1, eq_1⟩ : ∃ zz : Bool × zQ, zz = qText μ := ⟨_, rfl⟩
  rw [← eq_1] at hP hD
  replace hr_1 : r_1 = if (qText μ).1 = true then 1 else 0 := hr_1
  rw [← eq_1] at hr_1
  have hto := qText_ok μ
  rw [← eq_1] at hto
  have hta : ka q_1.2 ≤ my μ := hto.1
  replace hP : va_P (dC, dI) vwCl [((ad 0), .inr (4, [.ref (ad 1), .ref (ad 2), .ref (ad 3), .int (nI (mk μ)), .ref (ad 4), .int (nI (my μ)), .int 0, .int (nI (ka q_1.2)), .int (kf q_1.2), .int (nI (kv q_1.2)), .ref (ad 5), .int (nI (kn q_1.2))])), ((ad 1), .inl (cI, 323, .inl (mg μ))), ((ad 2), .inl (cI, 323, .inl (mh μ))), ((ad 3), .inl (cI, 1938, .inl (mp μ))), ((ad 4), .inl (cI, 60, .inl (fun w => nI ((mx μ) w)))), ((ad 5), .inl (cI, 62, .inl (fun w => nI (kt q_1.2 w))))] H := hP
  replace hD : va_D A [((ad 0), .inr (4, [.ref (ad 1), .ref (ad 2), .ref (ad 3), .int (nI (mk μ)), .ref (ad 4), .int (nI (my μ)), .int 0, .int (nI (ka q_1.2)), .int (kf q_1.2), .int (nI (kv q_1.2)), .ref (ad 5), .int (nI (kn q_1.2))])), ((ad 1), .inl (cI, 323, .inl (mg μ))), ((ad 2), .inl (cI, 323, .inl (mh μ))), ((ad 3), .inl (cI, 1938, .inl (mp μ))), ((ad 4), .inl (cI, 60, .inl (fun w => nI ((mx μ) w)))), ((ad 5), .inl (cI, 62, .inl (fun w => nI (kt q_1.2 w))))] := hD
  refine lv_istore_n (lv' := [(1, .int r_1), (0, .ref (ad 0))]) hx hb dX4_firstError_9 rfl hl (by decide) rfl (fun ls hl => ?_)
  refine lv_iload_n hx hb dX4_firstError_10 rfl (lv_at hl 0 rfl) ?_
  refine z_ifneB hx hb hr_1 (tgt := 28) dX4_firstError_11 (by decide) (fun c_2 => ?_) (fun c_2 => ?_)
  · skip
    refine lv_aload_n hx hb dX4_firstError_28 rfl (lv_at hl 1 rfl) ?_
    refine va_get (D := (dC, dI)) (ci := 4) (v := .int (nI (my μ))) (C := RX4) (T := TX4) (N := 12) hx hb hts hnX4 hown hK hP 0 rfl rfl 5 (by decide) hf102 (fun _ h9 => h9) rfl dX4_firstError_29 ?_
    replace hP : va_P (dC, dI) vwCl (zMW ad cI ((mg μ), (mh μ), (mp μ), (mx μ), kt q_1.2, (mk μ), (my μ), 0, ka q_1.2, kf q_1.2, kv q_1.2, kn q_1.2)) H := hP.sub (ws' := zMW ad cI ((mg μ), (mh μ), (mp μ), (mx μ), kt q_1.2, (mk μ), (my μ), 0, ka q_1.2, kf q_1.2, kv q_1.2, kn q_1.2)) [0, 1, 2, 3, 4, 5] rfl
    replace hD : va_D A (zMW ad cI ((mg μ), (mh μ), (mp μ), (mx μ), kt q_1.2, (mk μ), (my μ), 0, ka q_1.2, kf q_1.2, kv q_1.2, kn q_1.2)) := hD.sub (ws' := zMW ad cI ((mg μ), (mh μ), (mp μ), (mx μ), kt q_1.2, (mk μ), (my μ), 0, ka q_1.2, kf q_1.2, kv q_1.2, kn q_1.2)) [0, 1, 2, 3, 4, 5] (by decide) rfl
    have e9 : (rFirst μ).1 = ((mg μ), (mh μ), (mp μ), (mx μ), kt q_1.2, (mk μ), (my μ), 0, ka q_1.2, kf q_1.2, kv q_1.2, kn q_1.2) := by show mset_th (mset_q μ (qText μ).2) 0 = _; rw [← eq_1]
    replace hP : va_P (dC, dI) vwCl (zMW ad cI ((rFirst μ).1)) H := by rw [e9]; exact hP
    replace hD : va_D A (zMW ad cI ((rFirst μ).1)) := by rw [e9]; exact hD
    exact hend _ () _ _ _ _ (by show _ = nI (if ¬ (qText μ).1 = true ∧ ¬ kf (qText μ).2 = 0 then ka (qText μ).2 else my μ); rw [← eq_1, if_neg (fun z => z.1 c_2)]) hP hD hS dX4_firstError_32
  · skip
    refine lv_aload_n hx hb dX4_firstError_14 rfl (lv_at hl 1 rfl) ?_
    refine va_get (D := (dC, dI)) (ci := 4) (v := .int (kf q_1.2)) (C := RX4) (T := TX4) (N := 12) hx hb hts hnX4 hown hK hP 0 rfl rfl 8 (by decide) hf108 (fun _ h9 => h9) rfl dX4_firstError_15 ?_
    refine lv_if_eq (tgt := 28) hx hb dX4_firstError_18 (by decide) (fun c_3 => ?_) (fun c_3 => ?_)
    · skip
      refine lv_aload_n hx hb dX4_firstError_28 rfl (lv_at hl 1 rfl) ?_
      refine va_get (D := (dC, dI)) (ci := 4) (v := .int (nI (my μ))) (C := RX4) (T := TX4) (N := 12) hx hb hts hnX4 hown hK hP 0 rfl rfl 5 (by decide) hf102 (fun _ h9 => h9) rfl dX4_firstError_29 ?_
      replace hP : va_P (dC, dI) vwCl (zMW ad cI ((mg μ), (mh μ), (mp μ), (mx μ), kt q_1.2, (mk μ), (my μ), 0, ka q_1.2, kf q_1.2, kv q_1.2, kn q_1.2)) H := hP.sub (ws' := zMW ad cI ((mg μ), (mh μ), (mp μ), (mx μ), kt q_1.2, (mk μ), (my μ), 0, ka q_1.2, kf q_1.2, kv q_1.2, kn q_1.2)) [0, 1, 2, 3, 4, 5] rfl
      replace hD : va_D A (zMW ad cI ((mg μ), (mh μ), (mp μ), (mx μ), kt q_1.2, (mk μ), (my μ), 0, ka q_1.2, kf q_1.2, kv q_1.2, kn q_1.2)) := hD.sub (ws' := zMW ad cI ((mg μ), (mh μ), (mp μ), (mx μ), kt q_1.2, (mk μ), (my μ), 0, ka q_1.2, kf q_1.2, kv q_1.2, kn q_1.2)) [0, 1, 2, 3, 4, 5] (by decide) rfl
      have e9 : (rFirst μ).1 = ((mg μ), (mh μ), (mp μ), (mx μ), kt q_1.2, (mk μ), (my μ), 0, ka q_1.2, kf q_1.2, kv q_1.2, kn q_1.2) := by show mset_th (mset_q μ (qText μ).2) 0 = _; rw [← eq_1]
      replace hP : va_P (dC, dI) vwCl (zMW ad cI ((rFirst μ).1)) H := by rw [e9]; exact hP
      replace hD : va_D A (zMW ad cI ((rFirst μ).1)) := by rw [e9]; exact hD
      exact hend _ () _ _ _ _ (by show _ = nI (if ¬ (qText μ).1 = true ∧ ¬ kf (qText μ).2 = 0 then ka (qText μ).2 else my μ); rw [← eq_1, if_neg (fun z => z.2 c_3)]) hP hD hS dX4_firstError_32
    · skip
      refine lv_aload_n hx hb dX4_firstError_21 rfl (lv_at hl 1 rfl) ?_
      refine va_get (D := (dC, dI)) (ci := 4) (v := .int (nI (ka q_1.2))) (C := RX4) (T := TX4) (N := 12) hx hb hts hnX4 hown hK hP 0 rfl rfl 7 (by decide) hf105 (fun _ h9 => h9) rfl dX4_firstError_22 ?_
      refine lv_goto (tgt := 32) hx hb dX4_firstError_25 (by decide) ?_
      replace hP : va_P (dC, dI) vwCl (zMW ad cI ((mg μ), (mh μ), (mp μ), (mx μ), kt q_1.2, (mk μ), (my μ), 0, ka q_1.2, kf q_1.2, kv q_1.2, kn q_1.2)) H := hP.sub (ws' := zMW ad cI ((mg μ), (mh μ), (mp μ), (mx μ), kt q_1.2, (mk μ), (my μ), 0, ka q_1.2, kf q_1.2, kv q_1.2, kn q_1.2)) [0, 1, 2, 3, 4, 5] rfl
      replace hD : va_D A (zMW ad cI ((mg μ), (mh μ), (mp μ), (mx μ), kt q_1.2, (mk μ), (my μ), 0, ka q_1.2, kf q_1.2, kv q_1.2, kn q_1.2)) := hD.sub (ws' := zMW ad cI ((mg μ), (mh μ), (mp μ), (mx μ), kt q_1.2, (mk μ), (my μ), 0, ka q_1.2, kf q_1.2, kv q_1.2, kn q_1.2)) [0, 1, 2, 3, 4, 5] (by decide) rfl
      have e9 : (rFirst μ).1 = ((mg μ), (mh μ), (mp μ), (mx μ), kt q_1.2, (mk μ), (my μ), 0, ka q_1.2, kf q_1.2, kv q_1.2, kn q_1.2) := by show mset_th (mset_q μ (qText μ).2) 0 = _; rw [← eq_1]
      replace hP : va_P (dC, dI) vwCl (zMW ad cI ((rFirst μ).1)) H := by rw [e9]; exact hP
      replace hD : va_D A (zMW ad cI ((rFirst μ).1)) := by rw [e9]; exact hD
      exact hend _ () _ _ _ _ (by show _ = nI (if ¬ (qText μ).1 = true ∧ ¬ kf (qText μ).2 = 0 then ka (qText μ).2 else my μ); rw [← eq_1, if_pos ⟨c_2, c_3⟩]) hP hD hS dX4_firstError_32

abbrev rX4_writeAll : Room := { frames := 6, cells := 0, slots := 0, locals := 148 }
set_option maxHeartbeats 1500000 in
set_option maxRecDepth 100000 in
theorem k_X4_writeAll (l : Launch) (dC : Nat → ClassId) (dI : Nat → Nat → Nat) (ad : Nat → Nat) (cI : ClassId) (μ : zM) (hMok : zMok μ) (hf : ∀ i, i < my μ → mx μ i < 128) (sz : Nat) : zWi (S := Unit) l yX4_writeAll wsX4_writeAll rX4_writeAll (dC, dI) [.ref (ad 0)] (zMW ad cI μ) [(cI, .int)] sz (fun r (_ : Unit) => r = (rWriteAll μ).2) (fun _ => zMW ad cI ((rWriteAll μ).1)) 0 0 := by
  refine zWi_of (cc := cX4_writeAll) (maxL := 2) (ty := .int) (by decide) rfl (Nat.le_of_ble_eq_true rfl) (fun _ _ _ => rfl) ?_
  intro p e s m args below meth cd Q ls A hat hP hK hD hA hend
  obtain ⟨hx, hb, hml, hown, hts, hl⟩ := hat
  replace hown : s.vm.findClass RX4 = some m.cls := hown
  replace hl : lv_has ls 2 [(0, .ref (ad 0))] := hl
  replace hP : va_P (dC, dI) vwCl [((ad 0), .inr (4, [.ref (ad 1), .ref (ad 2), .ref (ad 3), .int (nI (mk μ)), .ref (ad 4), .int (nI (my μ)), .int (mth μ), .int (nI (mat μ)), .int (mfl μ), .int (nI (mva μ)), .ref (ad 5), .int (nI (mtn μ))])), ((ad 1), .inl (cI, 323, .inl (mg μ))), ((ad 2), .inl (cI, 323, .inl (mh μ))), ((ad 3), .inl (cI, 1938, .inl (mp μ))), ((ad 4), .inl (cI, 60, .inl (fun w => nI ((mx μ) w)))), ((ad 5), .inl (cI, 62, .inl (fun w => nI ((mt μ) w))))] s.heap := hP
  replace hD : va_D A [((ad 0), .inr (4, [.ref (ad 1), .ref (ad 2), .ref (ad 3), .int (nI (mk μ)), .ref (ad 4), .int (nI (my μ)), .int (mth μ), .int (nI (mat μ)), .int (mfl μ), .int (nI (mva μ)), .ref (ad 5), .int (nI (mtn μ))])), ((ad 1), .inl (cI, 323, .inl (mg μ))), ((ad 2), .inl (cI, 323, .inl (mh μ))), ((ad 3), .inl (cI, 1938, .inl (mp μ))), ((ad 4), .inl (cI, 60, .inl (fun w => nI ((mx μ) w)))), ((ad 5), .inl (cI, 62, .inl (fun w => nI ((mt μ) w))))] := hD
  have hS : va_S A s.heap s.heap [] := va_S.rf
  have hf25 := hts (.fieldLink RX4 25 "InsideOutWordsModel" "thrown" "I") (by decide +kernel)
  have hnX4 : ∀ w ∈ u_ws RX4 TX4 12, w ∈ wsX4_writeAll := by decide +kernel
  have hf102 := hts (.fieldLink RX4 102 "InsideOutWordsModel" "typed" "I") (by decide +kernel)
  have hf126 := hts (.fieldLink RX4 126 "InsideOutWordsModel" "tolds" "I") (by decide +kernel)
  have hf7 := hts (.fieldLink RX4 7 "InsideOutWordsModel" "now" "[I") (by decide +kernel)
  have hf22 := hts (.fieldLink RX4 22 "InsideOutWordsModel" "told" "[I") (by decide +kernel)
  have hy6 : my μ ≤ 60 := hMok.2.2.2
  refine lv_aload_n hx hb dX4_writeAll_0 rfl (lv_at hl 0 rfl) ?_
  refine lv_iconst (v := 0) hx hb dX4_writeAll_1 (by decide) ?_
  refine va_put (D := (dC, dI)) (ci := 4) (v := .int 0) (ty := .int) (C := RX4) (T := TX4) (N := 12) hx hb hts hnX4 tyX4 tyX4_ok nmX4 hown hK hP hD hS 0 rfl rfl 6 (by decide) hf25 (fun _ h9 => h9) rfl (by decide +kernel) rfl rfl (Nat.le_of_ble_eq_true rfl) dX4_writeAll_2 (fun H locs (hP : va_P (dC, dI) vwCl [((ad 0), .inr (4, [.ref (ad 1), .ref (ad 2), .ref (ad 3), .int (nI (mk μ)), .ref (ad 4), .int (nI (my μ)), .int 0, .int (nI (mat μ)), .int (mfl μ), .int (nI (mva μ)), .ref (ad 5), .int (nI (mtn μ))])), ((ad 1), .inl (cI, 323, .inl (mg μ))), ((ad 2), .inl (cI, 323, .inl (mh μ))), ((ad 3), .inl (cI, 1938, .inl (mp μ))), ((ad 4), .inl (cI, 60, .inl (fun w => nI ((mx μ) w)))), ((ad 5), .inl (cI, 62, .inl (fun w => nI ((mt μ) w))))] H) (hD : va_D A [((ad 0), .inr (4, [.ref (ad 1), .ref (ad 2), .ref (ad 3), .int (nI (mk μ)), .ref (ad 4), .int (nI (my μ)), .int 0, .int (nI (mat μ)), .int (mfl μ), .int (nI (mva μ)), .ref (ad 5), .int (nI (mtn μ))])), ((ad 1), .inl (cI, 323, .inl (mg μ))), ((ad 2), .inl (cI, 323, .inl (mh μ))), ((ad 3), .inl (cI, 1938, .inl (mp μ))), ((ad 4), .inl (cI, 60, .inl (fun w => nI ((mx μ) w)))), ((ad 5), .inl (cI, 62, .inl (fun w => nI ((mt μ) w))))]) hS => ?_)
  refine lv_aload_n hx hb dX4_writeAll_5 rfl (lv_at hl 0 rfl) ?_
  try clear hPq hDq
  refine z_cWi (wr := []) (As := []) (rest := []) ⟨hx, hb, hml, hown, hts⟩ (k_X4_isText l dC dI ad cI ((mg μ), (mh μ), (mp μ), (mx μ), (mt μ), (mk μ), (my μ), 0, (mat μ), (mfl μ), (mva μ), (mtn μ)) hMok hf H.size) (cwV 0 hts gX4_writeAll_X4_isText rfl rfl rfl (by decide +kernel) ⟨Nat.le_of_ble_eq_true rfl, Nat.le_of_ble_eq_true rfl⟩) (va_recv hK hP (ci := 4) (q0 := 0) rfl rfl) hP hD hS hA (hP.sub (ws' := zMW ad cI ((mg μ), (mh μ), (mp μ), (mx μ), (mt μ), (mk μ), (my μ), 0, (mat μ), (mfl μ), (mva μ), (mtn μ))) [0, 1, 2, 3, 4, 5] rfl) (hD.sub (ws' := zMW ad cI ((mg μ), (mh μ), (mp μ), (mx μ), (mt μ), (mk μ), (my μ), 0, (mat μ), (mfl μ), (mva μ), (mtn μ))) [0, 1, 2, 3, 4, 5] (by decide) rfl) (hK.sub (tys' := [(cI, .int)]) [0] rfl) [0, 1, 2, 3, 4, 5] [] rfl rfl (by decide) (by decide) rfl hl.1 rfl (Nat.le_of_ble_eq_true rfl) dX4_writeAll_6 ⟨Nat.le_of_ble_eq_true rfl, Nat.le_of_ble_eq_true rfl⟩ (fun r_1 _ H locs hr_1 hP hD hS => ?_)
  replace hP : va_P (dC, dI) vwCl (zMW ad cI ((mg μ), (mh μ), (mp μ), (mx μ), kt (qText μ).2, (mk μ), (my μ), 0, ka (qText μ).2, kf (qText μ).2, kv (qText μ).2, kn (qText μ).2)) H := hP
  replace hD : va_D A (zMW ad cI ((mg μ), (mh μ), (mp μ), (mx μ), kt (qText μ).2, (mk μ), (my μ), 0, ka (qText μ).2, kf (qText μ).2, kv (qText μ).2, kn (qText μ).2)) := hD
  obtain ⟨q_1, eq_1⟩ : ∃ zz : Bool × zQ, zz = qText μ := ⟨_, rfl⟩
  rw [← eq_1] at hP hD
  replace hr_1 : r_1 = if (qText μ).1 = true then 1 else 0 := hr_1
  rw [← eq_1] at hr_1
  have hto := qText_ok μ
  rw [← eq_1] at hto
  have hta : ka q_1.2 ≤ my μ := hto.1
  replace hP : va_P (dC, dI) vwCl [((ad 0), .inr (4, [.ref (ad 1), .ref (ad 2), .ref (ad 3), .int (nI (mk μ)), .ref (ad 4), .int (nI (my μ)), .int 0, .int (nI (ka q_1.2)), .int (kf q_1.2), .int (nI (kv q_1.2)), .ref (ad 5), .int (nI (kn q_1.2))])), ((ad 1), .inl (cI, 323, .inl (mg μ))), ((ad 2), .inl (cI, 323, .inl (mh μ))), ((ad 3), .inl (cI, 1938, .inl (mp μ))), ((ad 4), .inl (cI, 60, .inl (fun w => nI ((mx μ) w)))), ((ad 5), .inl (cI, 62, .inl (fun w => nI (kt q_1.2 w))))] H := hP
  replace hD : va_D A [((ad 0), .inr (4, [.ref (ad 1), .ref (ad 2), .ref (ad 3), .int (nI (mk μ)), .ref (ad 4), .int (nI (my μ)), .int 0, .int (nI (ka q_1.2)), .int (kf q_1.2), .int (nI (kv q_1.2)), .ref (ad 5), .int (nI (kn q_1.2))])), ((ad 1), .inl (cI, 323, .inl (mg μ))), ((ad 2), .inl (cI, 323, .inl (mh μ))), ((ad 3), .inl (cI, 1938, .inl (mp μ))), ((ad 4), .inl (cI, 60, .inl (fun w => nI ((mx μ) w)))), ((ad 5), .inl (cI, 62, .inl (fun w => nI (kt q_1.2 w))))] := hD
  refine z_ifneB hx hb hr_1 (tgt := 18) dX4_writeAll_9 (by decide) (fun c_2 => ?_) (fun c_2 => ?_)
  · skip
    have hqk := hto.2 c_2
    refine lv_aload_n hx hb dX4_writeAll_18 rfl (lv_at hl 0 rfl) ?_
    try clear hPq hDq
    refine z_cWv (wr := []) (As := []) (rest := []) ⟨hx, hb, hml, hown, hts⟩ (k_X4_saves l dC dI ad cI ((mg μ), (mh μ), (mp μ), (mx μ), kt q_1.2, (mk μ), (my μ), 0, ka q_1.2, kf q_1.2, kv q_1.2, kn q_1.2) hMok H.size) (cwV 0 hts gX4_writeAll_X4_saves rfl rfl rfl (by decide +kernel) ⟨Nat.le_of_ble_eq_true rfl, Nat.le_of_ble_eq_true rfl⟩) (va_recv hK hP (ci := 4) (q0 := 0) rfl rfl) hP hD hS hA (hP.sub (ws' := zMW ad cI ((mg μ), (mh μ), (mp μ), (mx μ), kt q_1.2, (mk μ), (my μ), 0, ka q_1.2, kf q_1.2, kv q_1.2, kn q_1.2)) [0, 1, 2, 3, 4, 5] rfl) (hD.sub (ws' := zMW ad cI ((mg μ), (mh μ), (mp μ), (mx μ), kt q_1.2, (mk μ), (my μ), 0, ka q_1.2, kf q_1.2, kv q_1.2, kn q_1.2)) [0, 1, 2, 3, 4, 5] (by decide) rfl) (hK.sub (tys' := [(cI, .int)]) [0] rfl) [0, 1, 2, 3, 4, 5] [] rfl rfl (by decide) (by decide) rfl hl.1 rfl (Nat.le_of_ble_eq_true rfl) dX4_writeAll_19 ⟨Nat.le_of_ble_eq_true rfl, Nat.le_of_ble_eq_true rfl⟩ (fun _ H locs hr_3 (hP : va_P (dC, dI) vwCl [((ad 0), .inr (4, [.ref (ad 1), .ref (ad 2), .ref (ad 3), .int (nI (pSvk (mk μ))), .ref (ad 4), .int (nI (my μ)), .int 0, .int (nI (ka q_1.2)), .int (kf q_1.2), .int (nI (kv q_1.2)), .ref (ad 5), .int (nI (kn q_1.2))])), ((ad 1), .inl (cI, 323, .inl (mg μ))), ((ad 2), .inl (cI, 323, .inl (mh μ))), ((ad 3), .inl (cI, 1938, .inl (pSvp (mg μ) (mp μ) (mk μ)))), ((ad 4), .inl (cI, 60, .inl (fun w => nI ((mx μ) w)))), ((ad 5), .inl (cI, 62, .inl (fun w => nI (kt q_1.2 w))))] H) (hD : va_D A [((ad 0), .inr (4, [.ref (ad 1), .ref (ad 2), .ref (ad 3), .int (nI (pSvk (mk μ))), .ref (ad 4), .int (nI (my μ)), .int 0, .int (nI (ka q_1.2)), .int (kf q_1.2), .int (nI (kv q_1.2)), .ref (ad 5), .int (nI (kn q_1.2))])), ((ad 1), .inl (cI, 323, .inl (mg μ))), ((ad 2), .inl (cI, 323, .inl (mh μ))), ((ad 3), .inl (cI, 1938, .inl (pSvp (mg μ) (mp μ) (mk μ)))), ((ad 4), .inl (cI, 60, .inl (fun w => nI ((mx μ) w)))), ((ad 5), .inl (cI, 62, .inl (fun w => nI (kt q_1.2 w))))]) hS => ?_)
    have hM_3 : zMok ((mg μ), (mh μ), (pSvp (mg μ) (mp μ) (mk μ)), (mx μ), kt q_1.2, pSvk (mk μ), (my μ), 0, ka q_1.2, kf q_1.2, kv q_1.2, kn q_1.2) := ⟨hMok.1, hMok.2.1, (pSvk_le hMok.2.2.1).1, hMok.2.2.2⟩
    refine lv_aload_n hx hb dX4_writeAll_22 rfl (lv_at hl 0 rfl) ?_
    refine lv_iconst (v := 0) hx hb dX4_writeAll_23 (by decide) ?_
    refine va_put (D := (dC, dI)) (ci := 4) (v := .int 0) (ty := .int) (C := RX4) (T := TX4) (N := 12) hx hb hts hnX4 tyX4 tyX4_ok nmX4 hown hK hP hD hS 0 rfl rfl 5 (by decide) hf102 (fun _ h9 => h9) rfl (by decide +kernel) rfl rfl (Nat.le_of_ble_eq_true rfl) dX4_writeAll_24 (fun H locs (hP : va_P (dC, dI) vwCl [((ad 0), .inr (4, [.ref (ad 1), .ref (ad 2), .ref (ad 3), .int (nI (pSvk (mk μ))), .ref (ad 4), .int 0, .int 0, .int (nI (ka q_1.2)), .int (kf q_1.2), .int (nI (kv q_1.2)), .ref (ad 5), .int (nI (kn q_1.2))])), ((ad 1), .inl (cI, 323, .inl (mg μ))), ((ad 2), .inl (cI, 323, .inl (mh μ))), ((ad 3), .inl (cI, 1938, .inl (pSvp (mg μ) (mp μ) (mk μ)))), ((ad 4), .inl (cI, 60, .inl (fun w => nI ((mx μ) w)))), ((ad 5), .inl (cI, 62, .inl (fun w => nI (kt q_1.2 w))))] H) (hD : va_D A [((ad 0), .inr (4, [.ref (ad 1), .ref (ad 2), .ref (ad 3), .int (nI (pSvk (mk μ))), .ref (ad 4), .int 0, .int 0, .int (nI (ka q_1.2)), .int (kf q_1.2), .int (nI (kv q_1.2)), .ref (ad 5), .int (nI (kn q_1.2))])), ((ad 1), .inl (cI, 323, .inl (mg μ))), ((ad 2), .inl (cI, 323, .inl (mh μ))), ((ad 3), .inl (cI, 1938, .inl (pSvp (mg μ) (mp μ) (mk μ)))), ((ad 4), .inl (cI, 60, .inl (fun w => nI ((mx μ) w)))), ((ad 5), .inl (cI, 62, .inl (fun w => nI (kt q_1.2 w))))]) hS => ?_)
    have hkn : 2 * kn q_1.2 + 0 ≤ ka q_1.2 := hqk.2.1
    refine lv_iconst (v := 0) hx hb dX4_writeAll_27 (by decide) ?_
    refine lv_istore_n (lv' := [(1, .int 0), (0, .ref (ad 0))]) hx hb dX4_writeAll_28 rfl hl (by decide) rfl (fun ls hl => ?_)
    have hC_29 : ∀ (nf : Nat) (u : Nat → Int32) (i : Nat) (ls : Array Slot) (H : Heap) (locs : List Loc), kn q_1.2 - i < nf → lv_has ls 2 [(0, .ref (ad 0)), (1, .int (nI i))] → (gok u) → (gbt u) → (i ≤ kn q_1.2) → (pMW (kt q_1.2) (kn q_1.2 - i) i u = pMW (kt q_1.2) (kn q_1.2) 0 (mg μ)) → va_P (dC, dI) vwCl [((ad 0), .inr (4, [.ref (ad 1), .ref (ad 2), .ref (ad 3), .int (nI (pSvk (mk μ))), .ref (ad 4), .int (nI 0), .int 0, .int (nI (ka q_1.2)), .int (kf q_1.2), .int (nI (kv q_1.2)), .ref (ad 5), .int (nI (kn q_1.2))])), ((ad 1), .inl (cI, 323, .inl u)), ((ad 2), .inl (cI, 323, .inl (mh μ))), ((ad 3), .inl (cI, 1938, .inl (pSvp (mg μ) (mp μ) (mk μ)))), ((ad 4), .inl (cI, 60, .inl (fun w => nI ((mx μ) w)))), ((ad 5), .inl (cI, 62, .inl (fun w => nI (kt q_1.2 w))))] H → va_D A [((ad 0), .inr (4, [.ref (ad 1), .ref (ad 2), .ref (ad 3), .int (nI (pSvk (mk μ))), .ref (ad 4), .int (nI 0), .int 0, .int (nI (ka q_1.2)), .int (kf q_1.2), .int (nI (kv q_1.2)), .ref (ad 5), .int (nI (kn q_1.2))])), ((ad 1), .inl (cI, 323, .inl u)), ((ad 2), .inl (cI, 323, .inl (mh μ))), ((ad 3), .inl (cI, 1938, .inl (pSvp (mg μ) (mp μ) (mk μ)))), ((ad 4), .inl (cI, 60, .inl (fun w => nI ((mx μ) w)))), ((ad 5), .inl (cI, 62, .inl (fun w => nI (kt q_1.2 w))))] → va_S A s.heap H locs → W p l e rX4_writeAll s m args below meth cd H locs 0 0 Q (F0 m 29 ls []) := by
      intro nf
      induction nf with
      | zero => intro u i ls H locs hm_29 hl hou hbu hi1 hq hP hD hS; exact absurd hm_29 (Nat.not_lt_zero _)
      | succ nf ih_29 =>
        intro u i ls H locs hm_29 hl hou hbu hi1 hq hP hD hS
        refine lv_iload_n hx hb dX4_writeAll_29 rfl (lv_at hl 1 rfl) ?_
        refine lv_aload_n hx hb dX4_writeAll_30 rfl (lv_at hl 0 rfl) ?_
        refine va_get (D := (dC, dI)) (ci := 4) (v := .int (nI (kn q_1.2))) (C := RX4) (T := TX4) (N := 12) hx hb hts hnX4 hown hK hP 0 rfl rfl 11 (by decide) hf126 (fun _ h9 => h9) rfl dX4_writeAll_31 ?_
        refine z_ge hx hb i (kn q_1.2) (by omega) (by omega) (tgt := 72) dX4_writeAll_34 (by decide) (fun c_4 => ?_) (fun c_4 => ?_)
        · skip
          refine lv_iload_n hx hb dX4_writeAll_72 rfl (lv_at hl 1 rfl) ?_
          have hMW : pMW (kt q_1.2) (kn q_1.2) 0 (mg μ) = (u, i) := by rw [← hq, show kn q_1.2 - i = 0 by omega]; rfl
          replace hP : va_P (dC, dI) vwCl (zMW ad cI (u, (mh μ), (pSvp (mg μ) (mp μ) (mk μ)), (mx μ), kt q_1.2, pSvk (mk μ), 0, 0, ka q_1.2, kf q_1.2, kv q_1.2, kn q_1.2)) H := hP.sub (ws' := zMW ad cI (u, (mh μ), (pSvp (mg μ) (mp μ) (mk μ)), (mx μ), kt q_1.2, pSvk (mk μ), 0, 0, ka q_1.2, kf q_1.2, kv q_1.2, kn q_1.2)) [0, 1, 2, 3, 4, 5] rfl
          replace hD : va_D A (zMW ad cI (u, (mh μ), (pSvp (mg μ) (mp μ) (mk μ)), (mx μ), kt q_1.2, pSvk (mk μ), 0, 0, ka q_1.2, kf q_1.2, kv q_1.2, kn q_1.2)) := hD.sub (ws' := zMW ad cI (u, (mh μ), (pSvp (mg μ) (mp μ) (mk μ)), (mx μ), kt q_1.2, pSvk (mk μ), 0, 0, ka q_1.2, kf q_1.2, kv q_1.2, kn q_1.2)) [0, 1, 2, 3, 4, 5] (by decide) rfl
          have e9 : (rWriteAll μ).1 = (u, (mh μ), (pSvp (mg μ) (mp μ) (mk μ)), (mx μ), kt q_1.2, pSvk (mk μ), 0, 0, ka q_1.2, kf q_1.2, kv q_1.2, kn q_1.2) := by unfold rWriteAll; rw [if_pos (by rw [← eq_1]; exact c_2), ← eq_1, hMW] <;> rfl
          replace hP : va_P (dC, dI) vwCl (zMW ad cI ((rWriteAll μ).1)) H := by rw [e9]; exact hP
          replace hD : va_D A (zMW ad cI ((rWriteAll μ).1)) := by rw [e9]; exact hD
          exact hend _ () _ _ _ _ (by unfold rWriteAll; rw [if_pos (by rw [← eq_1]; exact c_2), ← eq_1, hMW] <;> rfl) hP hD hS dX4_writeAll_73
        · skip
          refine lv_aload_n hx hb dX4_writeAll_37 rfl (lv_at hl 0 rfl) ?_
          refine va_get (D := (dC, dI)) (ci := 4) (v := .ref (ad 1)) (C := RX4) (T := TX4) (N := 12) hx hb hts hnX4 hown hK hP 0 rfl rfl 0 (by decide) hf7 (fun _ h9 => h9) rfl dX4_writeAll_38 ?_
          refine lv_aload_n hx hb dX4_writeAll_41 rfl (lv_at hl 0 rfl) ?_
          refine va_get (D := (dC, dI)) (ci := 4) (v := .ref (ad 5)) (C := RX4) (T := TX4) (N := 12) hx hb hts hnX4 hown hK hP 0 rfl rfl 10 (by decide) hf22 (fun _ h9 => h9) rfl dX4_writeAll_42 ?_
          refine lv_iconst (v := 2) hx hb dX4_writeAll_45 (by decide) ?_
          refine lv_iload_n hx hb dX4_writeAll_46 rfl (lv_at hl 1 rfl) ?_
          refine z_imul hx hb 2 i dX4_writeAll_47 ?_
          refine z_ald hx hb hK hP 5 0 (2 * i) (f := (fun w => nI (kt q_1.2 w))) rfl rfl (by first | omega | decide) (by first | decide | omega) dX4_writeAll_48 ?_
          refine lv_aload_n hx hb dX4_writeAll_49 rfl (lv_at hl 0 rfl) ?_
          refine va_get (D := (dC, dI)) (ci := 4) (v := .ref (ad 5)) (C := RX4) (T := TX4) (N := 12) hx hb hts hnX4 hown hK hP 0 rfl rfl 10 (by decide) hf22 (fun _ h9 => h9) rfl dX4_writeAll_50 ?_
          refine lv_iconst (v := 2) hx hb dX4_writeAll_53 (by decide) ?_
          refine lv_iload_n hx hb dX4_writeAll_54 rfl (lv_at hl 1 rfl) ?_
          refine z_imul hx hb 2 i dX4_writeAll_55 ?_
          refine lv_iconst (v := 1) hx hb dX4_writeAll_56 (by decide) ?_
          refine z_iadd hx hb (2 * i) 1 dX4_writeAll_57 ?_
          refine z_ald hx hb hK hP 5 0 ((2 * i) + 1) (f := (fun w => nI (kt q_1.2 w))) rfl rfl (by first | omega | decide) (by first | decide | omega) dX4_writeAll_58 ?_
          have hb9 := hqk.2.2 i (by omega)
          have hb1 : kt q_1.2 (2 * i) < 16 := hb9.1
          have hb2 : kt q_1.2 ((2 * i) + 1) < 4096 := hb9.2
          try clear hPq hDq
          refine z_cWSi (wr := [((ad 0), .inr (4, [.ref (ad 1), .ref (ad 2), .ref (ad 3), .int (nI (pSvk (mk μ))), .ref (ad 4), .int (nI 0), .int 0, .int (nI (ka q_1.2)), .int (kf q_1.2), .int (nI (kv q_1.2)), .ref (ad 5), .int (nI (kn q_1.2))])), ((ad 2), .inl (cI, 323, .inl (mh μ))), ((ad 3), .inl (cI, 1938, .inl (pSvp (mg μ) (mp μ) (mk μ)))), ((ad 4), .inl (cI, 60, .inl (fun w => nI ((mx μ) w)))), ((ad 5), .inl (cI, 62, .inl (fun w => nI (kt q_1.2 w))))]) (As := [.ref (ad 1), .int (nI (kt q_1.2 (2 * i))), .int (nI (kt q_1.2 ((2 * i) + 1)))]) (rest := []) ⟨hx, hb, hml, hown, hts⟩ (k_X4_writes l dC dI (ad 1) cI u hou hbu (kt q_1.2 (2 * i)) (by omega) (kt q_1.2 ((2 * i) + 1)) (by omega) H.size) (va_cwS 3 hts gX4_writeAll_X4_writes rfl rfl rfl (by decide +kernel) ⟨Nat.le_of_ble_eq_true rfl, Nat.le_of_ble_eq_true rfl⟩) hP hD hS hA (hP.sub (ws' := [((ad 1), .inl (cI, 323, .inl u))]) [1] rfl) (hD.sub (ws' := [((ad 1), .inl (cI, 323, .inl u))]) [1] (by decide) rfl) (hK.sub (tys' := [(cI, .int)]) [0] rfl) [1] [0, 2, 3, 4, 5] rfl rfl (by decide) (by decide) rfl hl.1 rfl (Nat.le_of_ble_eq_true rfl) dX4_writeAll_59 ⟨Nat.le_of_ble_eq_true rfl, Nat.le_of_ble_eq_true rfl⟩ (fun r_5 _ H locs hr_5 (hP : va_P (dC, dI) vwCl [((ad 0), .inr (4, [.ref (ad 1), .ref (ad 2), .ref (ad 3), .int (nI (pSvk (mk μ))), .ref (ad 4), .int (nI 0), .int 0, .int (nI (ka q_1.2)), .int (kf q_1.2), .int (nI (kv q_1.2)), .ref (ad 5), .int (nI (kn q_1.2))])), ((ad 2), .inl (cI, 323, .inl (mh μ))), ((ad 3), .inl (cI, 1938, .inl (pSvp (mg μ) (mp μ) (mk μ)))), ((ad 4), .inl (cI, 60, .inl (fun w => nI ((mx μ) w)))), ((ad 5), .inl (cI, 62, .inl (fun w => nI (kt q_1.2 w)))), ((ad 1), .inl (cI, 323, .inl (pWst u (kt q_1.2 (2 * i)) (kt q_1.2 ((2 * i) + 1)))))] H) (hD : va_D A [((ad 0), .inr (4, [.ref (ad 1), .ref (ad 2), .ref (ad 3), .int (nI (pSvk (mk μ))), .ref (ad 4), .int (nI 0), .int 0, .int (nI (ka q_1.2)), .int (kf q_1.2), .int (nI (kv q_1.2)), .ref (ad 5), .int (nI (kn q_1.2))])), ((ad 2), .inl (cI, 323, .inl (mh μ))), ((ad 3), .inl (cI, 1938, .inl (pSvp (mg μ) (mp μ) (mk μ)))), ((ad 4), .inl (cI, 60, .inl (fun w => nI ((mx μ) w)))), ((ad 5), .inl (cI, 62, .inl (fun w => nI (kt q_1.2 w)))), ((ad 1), .inl (cI, 323, .inl (pWst u (kt q_1.2 (2 * i)) (kt q_1.2 ((2 * i) + 1)))))]) hS => ?_)
          subst hr_5
          refine lv_iconst (v := (-1)) hx hb dX4_writeAll_62 (by decide) ?_
          refine lv_icmp_eq (tgt := 72) hx hb dX4_writeAll_63 (by decide) (fun c_6 => ?_) (fun c_6 => ?_)
          · skip
            refine lv_iload_n hx hb dX4_writeAll_72 rfl (lv_at hl 1 rfl) ?_
            have hMW : pMW (kt q_1.2) (kn q_1.2) 0 (mg μ) = ((pWst u (kt q_1.2 (2 * i)) (kt q_1.2 ((2 * i) + 1))), i) := hq.symm.trans (by rw [show kn q_1.2 - i = (kn q_1.2 - (i + 1)) + 1 by omega, pMW_end c_6])
            replace hP : va_P (dC, dI) vwCl (zMW ad cI ((pWst u (kt q_1.2 (2 * i)) (kt q_1.2 ((2 * i) + 1))), (mh μ), (pSvp (mg μ) (mp μ) (mk μ)), (mx μ), kt q_1.2, pSvk (mk μ), 0, 0, ka q_1.2, kf q_1.2, kv q_1.2, kn q_1.2)) H := hP.sub (ws' := zMW ad cI ((pWst u (kt q_1.2 (2 * i)) (kt q_1.2 ((2 * i) + 1))), (mh μ), (pSvp (mg μ) (mp μ) (mk μ)), (mx μ), kt q_1.2, pSvk (mk μ), 0, 0, ka q_1.2, kf q_1.2, kv q_1.2, kn q_1.2)) [0, 5, 1, 2, 3, 4] rfl
            replace hD : va_D A (zMW ad cI ((pWst u (kt q_1.2 (2 * i)) (kt q_1.2 ((2 * i) + 1))), (mh μ), (pSvp (mg μ) (mp μ) (mk μ)), (mx μ), kt q_1.2, pSvk (mk μ), 0, 0, ka q_1.2, kf q_1.2, kv q_1.2, kn q_1.2)) := hD.sub (ws' := zMW ad cI ((pWst u (kt q_1.2 (2 * i)) (kt q_1.2 ((2 * i) + 1))), (mh μ), (pSvp (mg μ) (mp μ) (mk μ)), (mx μ), kt q_1.2, pSvk (mk μ), 0, 0, ka q_1.2, kf q_1.2, kv q_1.2, kn q_1.2)) [0, 5, 1, 2, 3, 4] (by decide) rfl
            have e9 : (rWriteAll μ).1 = ((pWst u (kt q_1.2 (2 * i)) (kt q_1.2 ((2 * i) + 1))), (mh μ), (pSvp (mg μ) (mp μ) (mk μ)), (mx μ), kt q_1.2, pSvk (mk μ), 0, 0, ka q_1.2, kf q_1.2, kv q_1.2, kn q_1.2) := by unfold rWriteAll; rw [if_pos (by rw [← eq_1]; exact c_2), ← eq_1, hMW] <;> rfl
            replace hP : va_P (dC, dI) vwCl (zMW ad cI ((rWriteAll μ).1)) H := by rw [e9]; exact hP
            replace hD : va_D A (zMW ad cI ((rWriteAll μ).1)) := by rw [e9]; exact hD
            exact hend _ () _ _ _ _ (by unfold rWriteAll; rw [if_pos (by rw [← eq_1]; exact c_2), ← eq_1, hMW] <;> rfl) hP hD hS dX4_writeAll_73
          · skip
            refine lv_iinc (v := nI (i + 1)) (lv' := [(1, .int (nI (i + 1))), (0, .ref (ad 0))]) hx hb dX4_writeAll_66 hl (k := 1) rfl (z_inc1 _) (by decide) rfl (fun ls hl => ?_)
            refine lv_goto (tgt := 29) hx hb dX4_writeAll_69 (by decide) ?_
            replace hP : va_P (dC, dI) vwCl [((ad 0), .inr (4, [.ref (ad 1), .ref (ad 2), .ref (ad 3), .int (nI (pSvk (mk μ))), .ref (ad 4), .int (nI 0), .int 0, .int (nI (ka q_1.2)), .int (kf q_1.2), .int (nI (kv q_1.2)), .ref (ad 5), .int (nI (kn q_1.2))])), ((ad 1), .inl (cI, 323, .inl (pWst u (kt q_1.2 (2 * i)) (kt q_1.2 ((2 * i) + 1))))), ((ad 2), .inl (cI, 323, .inl (mh μ))), ((ad 3), .inl (cI, 1938, .inl (pSvp (mg μ) (mp μ) (mk μ)))), ((ad 4), .inl (cI, 60, .inl (fun w => nI ((mx μ) w)))), ((ad 5), .inl (cI, 62, .inl (fun w => nI (kt q_1.2 w))))] H := hP.sub (ws' := [((ad 0), .inr (4, [.ref (ad 1), .ref (ad 2), .ref (ad 3), .int (nI (pSvk (mk μ))), .ref (ad 4), .int (nI 0), .int 0, .int (nI (ka q_1.2)), .int (kf q_1.2), .int (nI (kv q_1.2)), .ref (ad 5), .int (nI (kn q_1.2))])), ((ad 1), .inl (cI, 323, .inl (pWst u (kt q_1.2 (2 * i)) (kt q_1.2 ((2 * i) + 1))))), ((ad 2), .inl (cI, 323, .inl (mh μ))), ((ad 3), .inl (cI, 1938, .inl (pSvp (mg μ) (mp μ) (mk μ)))), ((ad 4), .inl (cI, 60, .inl (fun w => nI ((mx μ) w)))), ((ad 5), .inl (cI, 62, .inl (fun w => nI (kt q_1.2 w))))]) [0, 5, 1, 2, 3, 4] rfl
            replace hD : va_D A [((ad 0), .inr (4, [.ref (ad 1), .ref (ad 2), .ref (ad 3), .int (nI (pSvk (mk μ))), .ref (ad 4), .int (nI 0), .int 0, .int (nI (ka q_1.2)), .int (kf q_1.2), .int (nI (kv q_1.2)), .ref (ad 5), .int (nI (kn q_1.2))])), ((ad 1), .inl (cI, 323, .inl (pWst u (kt q_1.2 (2 * i)) (kt q_1.2 ((2 * i) + 1))))), ((ad 2), .inl (cI, 323, .inl (mh μ))), ((ad 3), .inl (cI, 1938, .inl (pSvp (mg μ) (mp μ) (mk μ)))), ((ad 4), .inl (cI, 60, .inl (fun w => nI ((mx μ) w)))), ((ad 5), .inl (cI, 62, .inl (fun w => nI (kt q_1.2 w))))] := hD.sub (ws' := [((ad 0), .inr (4, [.ref (ad 1), .ref (ad 2), .ref (ad 3), .int (nI (pSvk (mk μ))), .ref (ad 4), .int (nI 0), .int 0, .int (nI (ka q_1.2)), .int (kf q_1.2), .int (nI (kv q_1.2)), .ref (ad 5), .int (nI (kn q_1.2))])), ((ad 1), .inl (cI, 323, .inl (pWst u (kt q_1.2 (2 * i)) (kt q_1.2 ((2 * i) + 1))))), ((ad 2), .inl (cI, 323, .inl (mh μ))), ((ad 3), .inl (cI, 1938, .inl (pSvp (mg μ) (mp μ) (mk μ)))), ((ad 4), .inl (cI, 60, .inl (fun w => nI ((mx μ) w)))), ((ad 5), .inl (cI, 62, .inl (fun w => nI (kt q_1.2 w))))]) [0, 5, 1, 2, 3, 4] (by decide) rfl
            exact ih_29 (pWst u (kt q_1.2 (2 * i)) (kt q_1.2 ((2 * i) + 1))) (i + 1) _ _ _ (by omega) (lv_sub hl [1, 0] rfl) ((pWst_ok hou (by omega))) ((pWst_bt hbu (by omega))) (by omega) (by rw [← hq, show kn q_1.2 - i = (kn q_1.2 - (i + 1)) + 1 by omega, pMW_go c_6]) hP hD hS
    replace hP : va_P (dC, dI) vwCl [((ad 0), .inr (4, [.ref (ad 1), .ref (ad 2), .ref (ad 3), .int (nI (pSvk (mk μ))), .ref (ad 4), .int 0, .int 0, .int (nI (ka q_1.2)), .int (kf q_1.2), .int (nI (kv q_1.2)), .ref (ad 5), .int (nI (kn q_1.2))])), ((ad 1), .inl (cI, 323, .inl (mg μ))), ((ad 2), .inl (cI, 323, .inl (mh μ))), ((ad 3), .inl (cI, 1938, .inl (pSvp (mg μ) (mp μ) (mk μ)))), ((ad 4), .inl (cI, 60, .inl (fun w => nI ((mx μ) w)))), ((ad 5), .inl (cI, 62, .inl (fun w => nI (kt q_1.2 w))))] H := hP.sub (ws' := [((ad 0), .inr (4, [.ref (ad 1), .ref (ad 2), .ref (ad 3), .int (nI (pSvk (mk μ))), .ref (ad 4), .int 0, .int 0, .int (nI (ka q_1.2)), .int (kf q_1.2), .int (nI (kv q_1.2)), .ref (ad 5), .int (nI (kn q_1.2))])), ((ad 1), .inl (cI, 323, .inl (mg μ))), ((ad 2), .inl (cI, 323, .inl (mh μ))), ((ad 3), .inl (cI, 1938, .inl (pSvp (mg μ) (mp μ) (mk μ)))), ((ad 4), .inl (cI, 60, .inl (fun w => nI ((mx μ) w)))), ((ad 5), .inl (cI, 62, .inl (fun w => nI (kt q_1.2 w))))]) [0, 1, 2, 3, 4, 5] rfl
    replace hD : va_D A [((ad 0), .inr (4, [.ref (ad 1), .ref (ad 2), .ref (ad 3), .int (nI (pSvk (mk μ))), .ref (ad 4), .int 0, .int 0, .int (nI (ka q_1.2)), .int (kf q_1.2), .int (nI (kv q_1.2)), .ref (ad 5), .int (nI (kn q_1.2))])), ((ad 1), .inl (cI, 323, .inl (mg μ))), ((ad 2), .inl (cI, 323, .inl (mh μ))), ((ad 3), .inl (cI, 1938, .inl (pSvp (mg μ) (mp μ) (mk μ)))), ((ad 4), .inl (cI, 60, .inl (fun w => nI ((mx μ) w)))), ((ad 5), .inl (cI, 62, .inl (fun w => nI (kt q_1.2 w))))] := hD.sub (ws' := [((ad 0), .inr (4, [.ref (ad 1), .ref (ad 2), .ref (ad 3), .int (nI (pSvk (mk μ))), .ref (ad 4), .int 0, .int 0, .int (nI (ka q_1.2)), .int (kf q_1.2), .int (nI (kv q_1.2)), .ref (ad 5), .int (nI (kn q_1.2))])), ((ad 1), .inl (cI, 323, .inl (mg μ))), ((ad 2), .inl (cI, 323, .inl (mh μ))), ((ad 3), .inl (cI, 1938, .inl (pSvp (mg μ) (mp μ) (mk μ)))), ((ad 4), .inl (cI, 60, .inl (fun w => nI ((mx μ) w)))), ((ad 5), .inl (cI, 62, .inl (fun w => nI (kt q_1.2 w))))]) [0, 1, 2, 3, 4, 5] (by decide) rfl
    exact hC_29 _ (mg μ) 0 _ _ _ (Nat.lt_succ_self _) (lv_sub hl [1, 0] rfl) (hM_3.1) (hM_3.2.1) (by omega) (rfl) hP hD hS
  · skip
    refine lv_aload_n hx hb dX4_writeAll_12 rfl (lv_at hl 0 rfl) ?_
    refine lv_iconst (v := 1) hx hb dX4_writeAll_13 (by decide) ?_
    try clear hPq hDq
    refine z_cWi (wr := []) (As := [.int 1]) (rest := []) ⟨hx, hb, hml, hown, hts⟩ (k_X4_fails l dC dI ad cI ((mg μ), (mh μ), (mp μ), (mx μ), kt q_1.2, (mk μ), (my μ), 0, ka q_1.2, kf q_1.2, kv q_1.2, kn q_1.2) hMok (1 : Int32) H.size) (cwV 1 hts gX4_writeAll_X4_fails rfl rfl rfl (by decide +kernel) ⟨Nat.le_of_ble_eq_true rfl, Nat.le_of_ble_eq_true rfl⟩) (va_recv hK hP (ci := 4) (q0 := 0) rfl rfl) hP hD hS hA (hP.sub (ws' := zMW ad cI ((mg μ), (mh μ), (mp μ), (mx μ), kt q_1.2, (mk μ), (my μ), 0, ka q_1.2, kf q_1.2, kv q_1.2, kn q_1.2)) [0, 1, 2, 3, 4, 5] rfl) (hD.sub (ws' := zMW ad cI ((mg μ), (mh μ), (mp μ), (mx μ), kt q_1.2, (mk μ), (my μ), 0, ka q_1.2, kf q_1.2, kv q_1.2, kn q_1.2)) [0, 1, 2, 3, 4, 5] (by decide) rfl) (hK.sub (tys' := [(cI, .int)]) [0] rfl) [0, 1, 2, 3, 4, 5] [] rfl rfl (by decide) (by decide) rfl hl.1 rfl (Nat.le_of_ble_eq_true rfl) dX4_writeAll_14 ⟨Nat.le_of_ble_eq_true rfl, Nat.le_of_ble_eq_true rfl⟩ (fun r_7 _ H locs hr_7 (hP : va_P (dC, dI) vwCl [((ad 0), .inr (4, [.ref (ad 1), .ref (ad 2), .ref (ad 3), .int (nI (mk (mset_th ((mg μ), (mh μ), (mp μ), (mx μ), kt q_1.2, (mk μ), (my μ), 0, ka q_1.2, kf q_1.2, kv q_1.2, kn q_1.2) (1 : Int32)))), .ref (ad 4), .int (nI (my (mset_th ((mg μ), (mh μ), (mp μ), (mx μ), kt q_1.2, (mk μ), (my μ), 0, ka q_1.2, kf q_1.2, kv q_1.2, kn q_1.2) (1 : Int32)))), .int (mth (mset_th ((mg μ), (mh μ), (mp μ), (mx μ), kt q_1.2, (mk μ), (my μ), 0, ka q_1.2, kf q_1.2, kv q_1.2, kn q_1.2) (1 : Int32))), .int (nI (mat (mset_th ((mg μ), (mh μ), (mp μ), (mx μ), kt q_1.2, (mk μ), (my μ), 0, ka q_1.2, kf q_1.2, kv q_1.2, kn q_1.2) (1 : Int32)))), .int (mfl (mset_th ((mg μ), (mh μ), (mp μ), (mx μ), kt q_1.2, (mk μ), (my μ), 0, ka q_1.2, kf q_1.2, kv q_1.2, kn q_1.2) (1 : Int32))), .int (nI (mva (mset_th ((mg μ), (mh μ), (mp μ), (mx μ), kt q_1.2, (mk μ), (my μ), 0, ka q_1.2, kf q_1.2, kv q_1.2, kn q_1.2) (1 : Int32)))), .ref (ad 5), .int (nI (mtn (mset_th ((mg μ), (mh μ), (mp μ), (mx μ), kt q_1.2, (mk μ), (my μ), 0, ka q_1.2, kf q_1.2, kv q_1.2, kn q_1.2) (1 : Int32))))])), ((ad 1), .inl (cI, 323, .inl (mg (mset_th ((mg μ), (mh μ), (mp μ), (mx μ), kt q_1.2, (mk μ), (my μ), 0, ka q_1.2, kf q_1.2, kv q_1.2, kn q_1.2) (1 : Int32))))), ((ad 2), .inl (cI, 323, .inl (mh (mset_th ((mg μ), (mh μ), (mp μ), (mx μ), kt q_1.2, (mk μ), (my μ), 0, ka q_1.2, kf q_1.2, kv q_1.2, kn q_1.2) (1 : Int32))))), ((ad 3), .inl (cI, 1938, .inl (mp (mset_th ((mg μ), (mh μ), (mp μ), (mx μ), kt q_1.2, (mk μ), (my μ), 0, ka q_1.2, kf q_1.2, kv q_1.2, kn q_1.2) (1 : Int32))))), ((ad 4), .inl (cI, 60, .inl (fun w => nI ((mx (mset_th ((mg μ), (mh μ), (mp μ), (mx μ), kt q_1.2, (mk μ), (my μ), 0, ka q_1.2, kf q_1.2, kv q_1.2, kn q_1.2) (1 : Int32))) w)))), ((ad 5), .inl (cI, 62, .inl (fun w => nI ((mt (mset_th ((mg μ), (mh μ), (mp μ), (mx μ), kt q_1.2, (mk μ), (my μ), 0, ka q_1.2, kf q_1.2, kv q_1.2, kn q_1.2) (1 : Int32))) w))))] H) (hD : va_D A [((ad 0), .inr (4, [.ref (ad 1), .ref (ad 2), .ref (ad 3), .int (nI (mk (mset_th ((mg μ), (mh μ), (mp μ), (mx μ), kt q_1.2, (mk μ), (my μ), 0, ka q_1.2, kf q_1.2, kv q_1.2, kn q_1.2) (1 : Int32)))), .ref (ad 4), .int (nI (my (mset_th ((mg μ), (mh μ), (mp μ), (mx μ), kt q_1.2, (mk μ), (my μ), 0, ka q_1.2, kf q_1.2, kv q_1.2, kn q_1.2) (1 : Int32)))), .int (mth (mset_th ((mg μ), (mh μ), (mp μ), (mx μ), kt q_1.2, (mk μ), (my μ), 0, ka q_1.2, kf q_1.2, kv q_1.2, kn q_1.2) (1 : Int32))), .int (nI (mat (mset_th ((mg μ), (mh μ), (mp μ), (mx μ), kt q_1.2, (mk μ), (my μ), 0, ka q_1.2, kf q_1.2, kv q_1.2, kn q_1.2) (1 : Int32)))), .int (mfl (mset_th ((mg μ), (mh μ), (mp μ), (mx μ), kt q_1.2, (mk μ), (my μ), 0, ka q_1.2, kf q_1.2, kv q_1.2, kn q_1.2) (1 : Int32))), .int (nI (mva (mset_th ((mg μ), (mh μ), (mp μ), (mx μ), kt q_1.2, (mk μ), (my μ), 0, ka q_1.2, kf q_1.2, kv q_1.2, kn q_1.2) (1 : Int32)))), .ref (ad 5), .int (nI (mtn (mset_th ((mg μ), (mh μ), (mp μ), (mx μ), kt q_1.2, (mk μ), (my μ), 0, ka q_1.2, kf q_1.2, kv q_1.2, kn q_1.2) (1 : Int32))))])), ((ad 1), .inl (cI, 323, .inl (mg (mset_th ((mg μ), (mh μ), (mp μ), (mx μ), kt q_1.2, (mk μ), (my μ), 0, ka q_1.2, kf q_1.2, kv q_1.2, kn q_1.2) (1 : Int32))))), ((ad 2), .inl (cI, 323, .inl (mh (mset_th ((mg μ), (mh μ), (mp μ), (mx μ), kt q_1.2, (mk μ), (my μ), 0, ka q_1.2, kf q_1.2, kv q_1.2, kn q_1.2) (1 : Int32))))), ((ad 3), .inl (cI, 1938, .inl (mp (mset_th ((mg μ), (mh μ), (mp μ), (mx μ), kt q_1.2, (mk μ), (my μ), 0, ka q_1.2, kf q_1.2, kv q_1.2, kn q_1.2) (1 : Int32))))), ((ad 4), .inl (cI, 60, .inl (fun w => nI ((mx (mset_th ((mg μ), (mh μ), (mp μ), (mx μ), kt q_1.2, (mk μ), (my μ), 0, ka q_1.2, kf q_1.2, kv q_1.2, kn q_1.2) (1 : Int32))) w)))), ((ad 5), .inl (cI, 62, .inl (fun w => nI ((mt (mset_th ((mg μ), (mh μ), (mp μ), (mx μ), kt q_1.2, (mk μ), (my μ), 0, ka q_1.2, kf q_1.2, kv q_1.2, kn q_1.2) (1 : Int32))) w))))]) hS => ?_)
    have hM_7 : zMok (mset_th ((mg μ), (mh μ), (mp μ), (mx μ), kt q_1.2, (mk μ), (my μ), 0, ka q_1.2, kf q_1.2, kv q_1.2, kn q_1.2) (1 : Int32)) := hMok
    subst hr_7
    replace hP : va_P (dC, dI) vwCl (zMW ad cI (mset_th ((mg μ), (mh μ), (mp μ), (mx μ), kt q_1.2, (mk μ), (my μ), 0, ka q_1.2, kf q_1.2, kv q_1.2, kn q_1.2) (1 : Int32))) H := hP.sub (ws' := zMW ad cI (mset_th ((mg μ), (mh μ), (mp μ), (mx μ), kt q_1.2, (mk μ), (my μ), 0, ka q_1.2, kf q_1.2, kv q_1.2, kn q_1.2) (1 : Int32))) [0, 1, 2, 3, 4, 5] rfl
    replace hD : va_D A (zMW ad cI (mset_th ((mg μ), (mh μ), (mp μ), (mx μ), kt q_1.2, (mk μ), (my μ), 0, ka q_1.2, kf q_1.2, kv q_1.2, kn q_1.2) (1 : Int32))) := hD.sub (ws' := zMW ad cI (mset_th ((mg μ), (mh μ), (mp μ), (mx μ), kt q_1.2, (mk μ), (my μ), 0, ka q_1.2, kf q_1.2, kv q_1.2, kn q_1.2) (1 : Int32))) [0, 1, 2, 3, 4, 5] (by decide) rfl
    have e9 : (rWriteAll μ).1 = mset_th ((mg μ), (mh μ), (mp μ), (mx μ), kt q_1.2, (mk μ), (my μ), 0, ka q_1.2, kf q_1.2, kv q_1.2, kn q_1.2) (1 : Int32) := by unfold rWriteAll; rw [if_neg (by rw [← eq_1]; exact c_2), ← eq_1] <;> rfl
    replace hP : va_P (dC, dI) vwCl (zMW ad cI ((rWriteAll μ).1)) H := by rw [e9]; exact hP
    replace hD : va_D A (zMW ad cI ((rWriteAll μ).1)) := by rw [e9]; exact hD
    exact hend _ () _ _ _ _ (by unfold rWriteAll; rw [if_neg (by rw [← eq_1]; exact c_2), ← eq_1] <;> rfl) hP hD hS dX4_writeAll_17

abbrev rX4_share : Room := { frames := 1, cells := 0, slots := 0, locals := 20 }
set_option maxHeartbeats 1500000 in
set_option maxRecDepth 100000 in
theorem k_X4_share (l : Launch) (dC : Nat → ClassId) (dI : Nat → Nat → Nat) (ad : Nat → Nat) (cI : ClassId) (μ : zM) (hMok : zMok μ) (sz : Nat) : zWd (S := Unit) l yX4_share wsX4_share rX4_share (dC, dI) [.ref (ad 0)] (zMW ad cI μ) [(cI, .int)] sz (fun r (_ : Unit) => r = pShare (mg μ 3) (mg μ 4)) (fun _ => zMW ad cI (mset_th μ 0)) 0 0 := by
  refine zWd_of (cc := cX4_share) (maxL := 1) (by decide) rfl (Nat.le_of_ble_eq_true rfl) ?_
  intro p e s m args below meth cd Q ls A hat hP hK hD hA hend
  obtain ⟨hx, hb, hml, hown, hts, hl⟩ := hat
  replace hown : s.vm.findClass RX4 = some m.cls := hown
  replace hl : lv_has ls 1 [(0, .ref (ad 0))] := hl
  replace hP : va_P (dC, dI) vwCl [((ad 0), .inr (4, [.ref (ad 1), .ref (ad 2), .ref (ad 3), .int (nI (mk μ)), .ref (ad 4), .int (nI (my μ)), .int (mth μ), .int (nI (mat μ)), .int (mfl μ), .int (nI (mva μ)), .ref (ad 5), .int (nI (mtn μ))])), ((ad 1), .inl (cI, 323, .inl (mg μ))), ((ad 2), .inl (cI, 323, .inl (mh μ))), ((ad 3), .inl (cI, 1938, .inl (mp μ))), ((ad 4), .inl (cI, 60, .inl (fun w => nI ((mx μ) w)))), ((ad 5), .inl (cI, 62, .inl (fun w => nI ((mt μ) w))))] s.heap := hP
  replace hD : va_D A [((ad 0), .inr (4, [.ref (ad 1), .ref (ad 2), .ref (ad 3), .int (nI (mk μ)), .ref (ad 4), .int (nI (my μ)), .int (mth μ), .int (nI (mat μ)), .int (mfl μ), .int (nI (mva μ)), .ref (ad 5), .int (nI (mtn μ))])), ((ad 1), .inl (cI, 323, .inl (mg μ))), ((ad 2), .inl (cI, 323, .inl (mh μ))), ((ad 3), .inl (cI, 1938, .inl (mp μ))), ((ad 4), .inl (cI, 60, .inl (fun w => nI ((mx μ) w)))), ((ad 5), .inl (cI, 62, .inl (fun w => nI ((mt μ) w))))] := hD
  have hS : va_S A s.heap s.heap [] := va_S.rf
  have hf25 := hts (.fieldLink RX4 25 "InsideOutWordsModel" "thrown" "I") (by decide +kernel)
  have hnX4 : ∀ w ∈ u_ws RX4 TX4 12, w ∈ wsX4_share := by decide +kernel
  refine lv_aload_n hx hb dX4_share_0 rfl (lv_at hl 0 rfl) ?_
  refine lv_iconst (v := 0) hx hb dX4_share_1 (by decide) ?_
  refine va_put (D := (dC, dI)) (ci := 4) (v := .int 0) (ty := .int) (C := RX4) (T := TX4) (N := 12) hx hb hts hnX4 tyX4 tyX4_ok nmX4 hown hK hP hD hS 0 rfl rfl 6 (by decide) hf25 (fun _ h9 => h9) rfl (by decide +kernel) rfl rfl (Nat.le_of_ble_eq_true rfl) dX4_share_2 (fun H locs (hP : va_P (dC, dI) vwCl [((ad 0), .inr (4, [.ref (ad 1), .ref (ad 2), .ref (ad 3), .int (nI (mk μ)), .ref (ad 4), .int (nI (my μ)), .int 0, .int (nI (mat μ)), .int (mfl μ), .int (nI (mva μ)), .ref (ad 5), .int (nI (mtn μ))])), ((ad 1), .inl (cI, 323, .inl (mg μ))), ((ad 2), .inl (cI, 323, .inl (mh μ))), ((ad 3), .inl (cI, 1938, .inl (mp μ))), ((ad 4), .inl (cI, 60, .inl (fun w => nI ((mx μ) w)))), ((ad 5), .inl (cI, 62, .inl (fun w => nI ((mt μ) w))))] H) (hD : va_D A [((ad 0), .inr (4, [.ref (ad 1), .ref (ad 2), .ref (ad 3), .int (nI (mk μ)), .ref (ad 4), .int (nI (my μ)), .int 0, .int (nI (mat μ)), .int (mfl μ), .int (nI (mva μ)), .ref (ad 5), .int (nI (mtn μ))])), ((ad 1), .inl (cI, 323, .inl (mg μ))), ((ad 2), .inl (cI, 323, .inl (mh μ))), ((ad 3), .inl (cI, 1938, .inl (mp μ))), ((ad 4), .inl (cI, 60, .inl (fun w => nI ((mx μ) w)))), ((ad 5), .inl (cI, 62, .inl (fun w => nI ((mt μ) w))))]) hS => ?_)
  refine lv_aload_n hx hb dX4_share_5 rfl (lv_at hl 0 rfl) ?_
  refine z_cVd (As := []) (rest := []) ⟨hx, hb, hml, hown, hts⟩ (k_X4_saved l dC dI ad cI ((mg μ), (mh μ), (mp μ), (mx μ), (mt μ), (mk μ), (my μ), 0, (mat μ), (mfl μ), (mva μ), (mtn μ)) hMok) (cwV 0 hts gX4_share_X4_saved rfl rfl rfl (by decide +kernel) ⟨Nat.le_of_ble_eq_true rfl, Nat.le_of_ble_eq_true rfl⟩) (va_recv hK hP (ci := 4) (q0 := 0) rfl rfl) (hP.sub (ws' := zMW ad cI ((mg μ), (mh μ), (mp μ), (mx μ), (mt μ), (mk μ), (my μ), 0, (mat μ), (mfl μ), (mva μ), (mtn μ))) [0, 1, 2, 3, 4, 5] rfl) (hK.sub (tys' := [(cI, .int)]) [0] rfl) rfl hl.1 rfl (Nat.le_of_ble_eq_true rfl) dX4_share_6 ⟨Nat.le_of_ble_eq_true rfl, Nat.le_of_ble_eq_true rfl⟩ (fun r_1 hr_1 => ?_)
  subst hr_1
  replace hP : va_P (dC, dI) vwCl (zMW ad cI ((mg μ), (mh μ), (mp μ), (mx μ), (mt μ), (mk μ), (my μ), 0, (mat μ), (mfl μ), (mva μ), (mtn μ))) H := hP.sub (ws' := zMW ad cI ((mg μ), (mh μ), (mp μ), (mx μ), (mt μ), (mk μ), (my μ), 0, (mat μ), (mfl μ), (mva μ), (mtn μ))) [0, 1, 2, 3, 4, 5] rfl
  replace hD : va_D A (zMW ad cI ((mg μ), (mh μ), (mp μ), (mx μ), (mt μ), (mk μ), (my μ), 0, (mat μ), (mfl μ), (mva μ), (mtn μ))) := hD.sub (ws' := zMW ad cI ((mg μ), (mh μ), (mp μ), (mx μ), (mt μ), (mk μ), (my μ), 0, (mat μ), (mfl μ), (mva μ), (mtn μ))) [0, 1, 2, 3, 4, 5] (by decide) rfl
  have e9 : mset_th μ 0 = ((mg μ), (mh μ), (mp μ), (mx μ), (mt μ), (mk μ), (my μ), 0, (mat μ), (mfl μ), (mva μ), (mtn μ)) := rfl
  replace hP : va_P (dC, dI) vwCl (zMW ad cI (mset_th μ 0)) H := by rw [e9]; exact hP
  replace hD : va_D A (zMW ad cI (mset_th μ 0)) := by rw [e9]; exact hD
  exact hend _ () _ _ _ _ rfl hP hD hS dX4_share_9

abbrev rX4_digest : Room := { frames := 8, cells := 0, slots := 0, locals := 194 }
set_option maxHeartbeats 1500000 in
set_option maxRecDepth 100000 in
theorem k_X4_digest (l : Launch) (dC : Nat → ClassId) (dI : Nat → Nat → Nat) (ad : Nat → Nat) (cI : ClassId) (μ : zM) (hMok : zMok μ) (hns : zNorm (pShare (mg μ 3) (mg μ 4))) (sz : Nat) : zWl (S := Unit) l yX4_digest wsX4_digest rX4_digest (dC, dI) [.ref (ad 0)] (zMW ad cI μ) [(cI, .int)] sz (fun r (_ : Unit) => r = pDg (gS (mg μ)) (mk μ) (fun j => pdr (gS (mg μ)) (zpl (gS (mg μ)) j)) (nI (pHam 0 819 500 0 (mg μ)).2) (pShare (mg μ 3) (mg μ 4)) (mx μ) (my μ)) (fun _ => zMW ad cI (mset_h (mset_th μ 0) (pHam 0 819 500 0 (mg μ)).1)) 0 0 := by
  refine zWl_of (cc := cX4_digest) (maxL := 5) (by decide) rfl (Nat.le_of_ble_eq_true rfl) ?_
  intro p e s m args below meth cd Q ls A hat hP hK hD hA hend
  obtain ⟨hx, hb, hml, hown, hts, hl⟩ := hat
  replace hown : s.vm.findClass RX4 = some m.cls := hown
  replace hl : lv_has ls 5 [(0, .ref (ad 0))] := hl
  replace hP : va_P (dC, dI) vwCl [((ad 0), .inr (4, [.ref (ad 1), .ref (ad 2), .ref (ad 3), .int (nI (mk μ)), .ref (ad 4), .int (nI (my μ)), .int (mth μ), .int (nI (mat μ)), .int (mfl μ), .int (nI (mva μ)), .ref (ad 5), .int (nI (mtn μ))])), ((ad 1), .inl (cI, 323, .inl (mg μ))), ((ad 2), .inl (cI, 323, .inl (mh μ))), ((ad 3), .inl (cI, 1938, .inl (mp μ))), ((ad 4), .inl (cI, 60, .inl (fun w => nI ((mx μ) w)))), ((ad 5), .inl (cI, 62, .inl (fun w => nI ((mt μ) w))))] s.heap := hP
  replace hD : va_D A [((ad 0), .inr (4, [.ref (ad 1), .ref (ad 2), .ref (ad 3), .int (nI (mk μ)), .ref (ad 4), .int (nI (my μ)), .int (mth μ), .int (nI (mat μ)), .int (mfl μ), .int (nI (mva μ)), .ref (ad 5), .int (nI (mtn μ))])), ((ad 1), .inl (cI, 323, .inl (mg μ))), ((ad 2), .inl (cI, 323, .inl (mh μ))), ((ad 3), .inl (cI, 1938, .inl (mp μ))), ((ad 4), .inl (cI, 60, .inl (fun w => nI ((mx μ) w)))), ((ad 5), .inl (cI, 62, .inl (fun w => nI ((mt μ) w))))] := hD
  have hS : va_S A s.heap s.heap [] := va_S.rf
  have hf25 := hts (.fieldLink RX4 25 "InsideOutWordsModel" "thrown" "I") (by decide +kernel)
  have hnX4 : ∀ w ∈ u_ws RX4 TX4 12, w ∈ wsX4_digest := by decide +kernel
  have hc169 := hts (.constantLong RX4 169 (2969)) (by decide +kernel)
  have hc171 := hts (.constantLong RX4 171 (31)) (by decide +kernel)
  have hf7 := hts (.fieldLink RX4 7 "InsideOutWordsModel" "now" "[I") (by decide +kernel)
  have hf102 := hts (.fieldLink RX4 102 "InsideOutWordsModel" "typed" "I") (by decide +kernel)
  have hf19 := hts (.fieldLink RX4 19 "InsideOutWordsModel" "text" "[I") (by decide +kernel)
  have hy6 : my μ ≤ 60 := hMok.2.2.2
  refine lv_aload_n hx hb dX4_digest_0 rfl (lv_at hl 0 rfl) ?_
  refine lv_iconst (v := 0) hx hb dX4_digest_1 (by decide) ?_
  refine va_put (D := (dC, dI)) (ci := 4) (v := .int 0) (ty := .int) (C := RX4) (T := TX4) (N := 12) hx hb hts hnX4 tyX4 tyX4_ok nmX4 hown hK hP hD hS 0 rfl rfl 6 (by decide) hf25 (fun _ h9 => h9) rfl (by decide +kernel) rfl rfl (Nat.le_of_ble_eq_true rfl) dX4_digest_2 (fun H locs (hP : va_P (dC, dI) vwCl [((ad 0), .inr (4, [.ref (ad 1), .ref (ad 2), .ref (ad 3), .int (nI (mk μ)), .ref (ad 4), .int (nI (my μ)), .int 0, .int (nI (mat μ)), .int (mfl μ), .int (nI (mva μ)), .ref (ad 5), .int (nI (mtn μ))])), ((ad 1), .inl (cI, 323, .inl (mg μ))), ((ad 2), .inl (cI, 323, .inl (mh μ))), ((ad 3), .inl (cI, 1938, .inl (mp μ))), ((ad 4), .inl (cI, 60, .inl (fun w => nI ((mx μ) w)))), ((ad 5), .inl (cI, 62, .inl (fun w => nI ((mt μ) w))))] H) (hD : va_D A [((ad 0), .inr (4, [.ref (ad 1), .ref (ad 2), .ref (ad 3), .int (nI (mk μ)), .ref (ad 4), .int (nI (my μ)), .int 0, .int (nI (mat μ)), .int (mfl μ), .int (nI (mva μ)), .ref (ad 5), .int (nI (mtn μ))])), ((ad 1), .inl (cI, 323, .inl (mg μ))), ((ad 2), .inl (cI, 323, .inl (mh μ))), ((ad 3), .inl (cI, 1938, .inl (mp μ))), ((ad 4), .inl (cI, 60, .inl (fun w => nI ((mx μ) w)))), ((ad 5), .inl (cI, 62, .inl (fun w => nI ((mt μ) w))))]) hS => ?_)
  refine lv_ldc2 hx hb hown hc169 dX4_digest_5 ?_
  refine lv_lstore_n (lv' := [(1, .long 2969), (0, .ref (ad 0))]) hx hb dX4_digest_8 rfl hl (by decide) rfl (fun ls hl => ?_)
  refine lv_iconst (v := 0) hx hb dX4_digest_9 (by decide) ?_
  refine lv_istore_n (lv' := [(3, .int 0), (1, .long 2969), (0, .ref (ad 0))]) hx hb dX4_digest_10 rfl hl (by decide) rfl (fun ls hl => ?_)
  have hC_11 : ∀ (nf : Nat) (y1 : Int64) (i1 : Nat) (ls : Array Slot), 10 - i1 < nf → lv_has ls 5 [(0, .ref (ad 0)), (1, .long y1), (3, .int (nI i1))] → (i1 ≤ 10) → (y1 = pHs (vCount (gS (mg μ)) (mk μ)) i1 2969) → W p l e rX4_digest s m args below meth cd H locs 0 0 Q (F0 m 11 ls []) := by
    intro nf
    induction nf with
    | zero => intro y1 i1 ls hm_11 hl hi1 ey1; exact absurd hm_11 (Nat.not_lt_zero _)
    | succ nf ih_11 =>
      intro y1 i1 ls hm_11 hl hi1 ey1
      refine lv_iload_n hx hb dX4_digest_11 rfl (lv_at hl 2 rfl) ?_
      refine lv_bipush (v := 10) hx hb dX4_digest_12 (by decide) ?_
      refine z_ge hx hb i1 10 (by omega) (by omega) (tgt := 36) dX4_digest_14 (by decide) (fun c_1 => ?_) (fun c_1 => ?_)
      · skip
        refine lv_ldc2 hx hb hown hc171 dX4_digest_36 ?_
        refine lv_ldc2 hx hb hown hc171 dX4_digest_39 ?_
        refine lv_lload_n hx hb dX4_digest_42 rfl (lv_at hl 1 rfl) ?_
        refine lv_lmul hx hb dX4_digest_43 ?_
        refine lv_aload_n hx hb dX4_digest_44 rfl (lv_at hl 0 rfl) ?_
        refine va_get (D := (dC, dI)) (ci := 4) (v := .ref (ad 1)) (C := RX4) (T := TX4) (N := 12) hx hb hts hnX4 hown hK hP 0 rfl rfl 0 (by decide) hf7 (fun _ h9 => h9) rfl dX4_digest_45 ?_
        refine lv_iconst (v := 0) hx hb dX4_digest_48 (by decide) ?_
        refine z_ald hx hb hK hP 1 0 0 (f := (mg μ)) rfl rfl (by first | omega | decide) (by first | decide | omega) dX4_digest_49 ?_
        refine lv_i2l (v := ((mg μ) 0).toInt64) hx hb dX4_digest_50 rfl ?_
        refine lv_ladd hx hb dX4_digest_51 ?_
        refine lv_lmul hx hb dX4_digest_52 ?_
        refine lv_aload_n hx hb dX4_digest_53 rfl (lv_at hl 0 rfl) ?_
        refine va_get (D := (dC, dI)) (ci := 4) (v := .ref (ad 1)) (C := RX4) (T := TX4) (N := 12) hx hb hts hnX4 hown hK hP 0 rfl rfl 0 (by decide) hf7 (fun _ h9 => h9) rfl dX4_digest_54 ?_
        refine lv_iconst (v := 1) hx hb dX4_digest_57 (by decide) ?_
        refine z_ald hx hb hK hP 1 0 1 (f := (mg μ)) rfl rfl (by first | omega | decide) (by first | decide | omega) dX4_digest_58 ?_
        refine lv_i2l (v := ((mg μ) 1).toInt64) hx hb dX4_digest_59 rfl ?_
        refine lv_ladd hx hb dX4_digest_60 ?_
        refine lv_lstore_n (lv' := [(1, .long ((31 * ((31 * y1) + (((mg μ) 0).toInt64))) + (((mg μ) 1).toInt64))), (0, .ref (ad 0)), (3, .int (nI i1))]) hx hb dX4_digest_61 rfl hl (by decide) rfl (fun ls hl => ?_)
        refine lv_iconst (v := 0) hx hb dX4_digest_62 (by decide) ?_
        refine lv_istore_n (lv' := [(3, .int 0), (1, .long ((31 * ((31 * y1) + (((mg μ) 0).toInt64))) + (((mg μ) 1).toInt64))), (0, .ref (ad 0))]) hx hb dX4_digest_63 rfl hl (by decide) rfl (fun ls hl => ?_)
        have hC_64 : ∀ (nf : Nat) (y2 : Int64) (i2 : Nat) (ls : Array Slot), 16 - i2 < nf → lv_has ls 5 [(0, .ref (ad 0)), (1, .long y2), (3, .int (nI i2))] → (i2 ≤ 16) → (y2 = pFold (pDgW (gS (mg μ)) (fun j => pdr (gS (mg μ)) (zpl (gS (mg μ)) j))) i2 (pDg1 (gS (mg μ)) (mk μ))) → W p l e rX4_digest s m args below meth cd H locs 0 0 Q (F0 m 64 ls []) := by
          intro nf
          induction nf with
          | zero => intro y2 i2 ls hm_64 hl hi2 ey2; exact absurd hm_64 (Nat.not_lt_zero _)
          | succ nf ih_64 =>
            intro y2 i2 ls hm_64 hl hi2 ey2
            refine lv_iload_n hx hb dX4_digest_64 rfl (lv_at hl 2 rfl) ?_
            refine lv_bipush (v := 16) hx hb dX4_digest_65 (by decide) ?_
            refine z_ge hx hb i2 16 (by omega) (by omega) (tgt := 152) dX4_digest_67 (by decide) (fun c_2 => ?_) (fun c_2 => ?_)
            · skip
              refine lv_iconst (v := 0) hx hb dX4_digest_152 (by decide) ?_
              refine lv_istore_n (lv' := [(3, .int 0), (0, .ref (ad 0)), (1, .long y2)]) hx hb dX4_digest_153 rfl hl (by decide) rfl (fun ls hl => ?_)
              have hC_154 : ∀ (nf : Nat) (y4 : Int64) (i4 : Nat) (ls : Array Slot), 18 - i4 < nf → lv_has ls 5 [(0, .ref (ad 0)), (1, .long y4), (3, .int (nI i4))] → (i4 ≤ 18) → (y4 = pFold (pDgS (gS (mg μ))) i4 (pFold (pDgW (gS (mg μ)) (fun j => pdr (gS (mg μ)) (zpl (gS (mg μ)) j))) 16 (pDg1 (gS (mg μ)) (mk μ)))) → W p l e rX4_digest s m args below meth cd H locs 0 0 Q (F0 m 154 ls []) := by
                intro nf
                induction nf with
                | zero => intro y4 i4 ls hm_154 hl hi4 ey4; exact absurd hm_154 (Nat.not_lt_zero _)
                | succ nf ih_154 =>
                  intro y4 i4 ls hm_154 hl hi4 ey4
                  refine lv_iload_n hx hb dX4_digest_154 rfl (lv_at hl 2 rfl) ?_
                  refine lv_bipush (v := 18) hx hb dX4_digest_155 (by decide) ?_
                  refine z_ge hx hb i4 18 (by omega) (by omega) (tgt := 224) dX4_digest_157 (by decide) (fun c_3 => ?_) (fun c_3 => ?_)
                  · skip
                    refine lv_iconst (v := 0) hx hb dX4_digest_224 (by decide) ?_
                    refine lv_istore_n (lv' := [(3, .int 0), (0, .ref (ad 0)), (1, .long y4)]) hx hb dX4_digest_225 rfl hl (by decide) rfl (fun ls hl => ?_)
                    have hC_226 : ∀ (nf : Nat) (y6 : Int64) (i6 : Nat) (ls : Array Slot), 13 - i6 < nf → lv_has ls 5 [(0, .ref (ad 0)), (1, .long y6), (3, .int (nI i6))] → (i6 ≤ 13) → (y6 = pHs (fun c => zwn (gS (mg μ)) (0 * 13 + c)) i6 (pFold (pDgS (gS (mg μ))) 18 (pFold (pDgW (gS (mg μ)) (fun j => pdr (gS (mg μ)) (zpl (gS (mg μ)) j))) 16 (pDg1 (gS (mg μ)) (mk μ))))) → W p l e rX4_digest s m args below meth cd H locs 0 0 Q (F0 m 226 ls []) := by
                      intro nf
                      induction nf with
                      | zero => intro y6 i6 ls hm_226 hl hi6 ey6; exact absurd hm_226 (Nat.not_lt_zero _)
                      | succ nf ih_226 =>
                        intro y6 i6 ls hm_226 hl hi6 ey6
                        refine lv_iload_n hx hb dX4_digest_226 rfl (lv_at hl 2 rfl) ?_
                        refine lv_bipush (v := 13) hx hb dX4_digest_227 (by decide) ?_
                        refine z_ge hx hb i6 13 (by omega) (by omega) (tgt := 255) dX4_digest_229 (by decide) (fun c_4 => ?_) (fun c_4 => ?_)
                        · skip
                          refine lv_ldc2 hx hb hown hc171 dX4_digest_255 ?_
                          refine lv_lload_n hx hb dX4_digest_258 rfl (lv_at hl 1 rfl) ?_
                          refine lv_lmul hx hb dX4_digest_259 ?_
                          refine lv_aload_n hx hb dX4_digest_260 rfl (lv_at hl 0 rfl) ?_
                          refine lv_iconst (v := 0) hx hb dX4_digest_261 (by decide) ?_
                          refine lv_sipush (v := 819) hx hb dX4_digest_262 (by decide) ?_
                          try clear hPq hDq
                          refine z_cWi (wr := []) (As := [.int 0, .int 819]) (rest := [.long (31 * y6)]) ⟨hx, hb, hml, hown, hts⟩ (k_X4_lives l dC dI ad cI ((mg μ), (mh μ), (mp μ), (mx μ), (mt μ), (mk μ), (my μ), 0, (mat μ), (mfl μ), (mva μ), (mtn μ)) hMok 0 (by omega) 819 (by omega) H.size) (cwV 2 hts gX4_digest_X4_lives rfl rfl rfl (by decide +kernel) ⟨Nat.le_of_ble_eq_true rfl, Nat.le_of_ble_eq_true rfl⟩) (va_recv hK hP (ci := 4) (q0 := 0) rfl rfl) hP hD hS hA (hP.sub (ws' := zMW ad cI ((mg μ), (mh μ), (mp μ), (mx μ), (mt μ), (mk μ), (my μ), 0, (mat μ), (mfl μ), (mva μ), (mtn μ))) [0, 1, 2, 3, 4, 5] rfl) (hD.sub (ws' := zMW ad cI ((mg μ), (mh μ), (mp μ), (mx μ), (mt μ), (mk μ), (my μ), 0, (mat μ), (mfl μ), (mva μ), (mtn μ))) [0, 1, 2, 3, 4, 5] (by decide) rfl) (hK.sub (tys' := [(cI, .int)]) [0] rfl) [0, 1, 2, 3, 4, 5] [] rfl rfl (by decide) (by decide) rfl hl.1 rfl (Nat.le_of_ble_eq_true rfl) dX4_digest_265 ⟨Nat.le_of_ble_eq_true rfl, Nat.le_of_ble_eq_true rfl⟩ (fun r_5 _ H locs hr_5 (hP : va_P (dC, dI) vwCl [((ad 0), .inr (4, [.ref (ad 1), .ref (ad 2), .ref (ad 3), .int (nI (mk μ)), .ref (ad 4), .int (nI (my μ)), .int 0, .int (nI (mat μ)), .int (mfl μ), .int (nI (mva μ)), .ref (ad 5), .int (nI (mtn μ))])), ((ad 1), .inl (cI, 323, .inl (mg μ))), ((ad 2), .inl (cI, 323, .inl ((pHam 0 819 500 0 (mg μ)).1))), ((ad 3), .inl (cI, 1938, .inl (mp μ))), ((ad 4), .inl (cI, 60, .inl (fun w => nI ((mx μ) w)))), ((ad 5), .inl (cI, 62, .inl (fun w => nI ((mt μ) w))))] H) (hD : va_D A [((ad 0), .inr (4, [.ref (ad 1), .ref (ad 2), .ref (ad 3), .int (nI (mk μ)), .ref (ad 4), .int (nI (my μ)), .int 0, .int (nI (mat μ)), .int (mfl μ), .int (nI (mva μ)), .ref (ad 5), .int (nI (mtn μ))])), ((ad 1), .inl (cI, 323, .inl (mg μ))), ((ad 2), .inl (cI, 323, .inl ((pHam 0 819 500 0 (mg μ)).1))), ((ad 3), .inl (cI, 1938, .inl (mp μ))), ((ad 4), .inl (cI, 60, .inl (fun w => nI ((mx μ) w)))), ((ad 5), .inl (cI, 62, .inl (fun w => nI ((mt μ) w))))]) hS => ?_)
                          subst hr_5
                          refine lv_i2l (v := (nI ((pHam 0 819 500 0 (mg μ)).2)).toInt64) hx hb dX4_digest_268 rfl ?_
                          refine lv_ladd hx hb dX4_digest_269 ?_
                          refine lv_lstore_n (lv' := [(1, .long ((31 * y6) + ((nI ((pHam 0 819 500 0 (mg μ)).2)).toInt64))), (0, .ref (ad 0)), (3, .int (nI i6))]) hx hb dX4_digest_270 rfl hl (by decide) rfl (fun ls hl => ?_)
                          refine lv_ldc2 hx hb hown hc171 dX4_digest_271 ?_
                          refine lv_ldc2 hx hb hown hc171 dX4_digest_274 ?_
                          refine lv_lload_n hx hb dX4_digest_277 rfl (lv_at hl 0 rfl) ?_
                          refine lv_lmul hx hb dX4_digest_278 ?_
                          refine lv_aload_n hx hb dX4_digest_279 rfl (lv_at hl 1 rfl) ?_
                          refine z_cVd (As := []) (rest := [.long (31 * ((31 * y6) + ((nI ((pHam 0 819 500 0 (mg μ)).2)).toInt64))), .long 31]) ⟨hx, hb, hml, hown, hts⟩ (k_X4_saved l dC dI ad cI ((mg μ), (pHam 0 819 500 0 (mg μ)).1, (mp μ), (mx μ), (mt μ), (mk μ), (my μ), 0, (mat μ), (mfl μ), (mva μ), (mtn μ)) hMok) (cwV 0 hts gX4_digest_X4_saved rfl rfl rfl (by decide +kernel) ⟨Nat.le_of_ble_eq_true rfl, Nat.le_of_ble_eq_true rfl⟩) (va_recv hK hP (ci := 4) (q0 := 0) rfl rfl) (hP.sub (ws' := zMW ad cI ((mg μ), (pHam 0 819 500 0 (mg μ)).1, (mp μ), (mx μ), (mt μ), (mk μ), (my μ), 0, (mat μ), (mfl μ), (mva μ), (mtn μ))) [0, 1, 2, 3, 4, 5] rfl) (hK.sub (tys' := [(cI, .int)]) [0] rfl) rfl hl.1 rfl (Nat.le_of_ble_eq_true rfl) dX4_digest_280 ⟨Nat.le_of_ble_eq_true rfl, Nat.le_of_ble_eq_true rfl⟩ (fun r_6 hr_6 => ?_)
                          subst hr_6
                          refine z_cSl (As := [.double (pShare (mg ((mg μ), (pHam 0 819 500 0 (mg μ)).1, (mp μ), (mx μ), (mt μ), (mk μ), (my μ), 0, (mat μ), (mfl μ), (mva μ), (mtn μ)) 3) (mg ((mg μ), (pHam 0 819 500 0 (mg μ)).1, (mp μ), (mx μ), (mt μ), (mk μ), (my μ), 0, (mat μ), (mfl μ), (mva μ), (mtn μ)) 4))]) (rest := [.long (31 * ((31 * y6) + ((nI ((pHam 0 819 500 0 (mg μ)).2)).toInt64))), .long 31]) ⟨hx, hb, hml, hown, hts⟩ (k_Jxe99ae_doubleToLongBits_ccdee l dC dI (pShare (mg ((mg μ), (pHam 0 819 500 0 (mg μ)).1, (mp μ), (mx μ), (mt μ), (mk μ), (my μ), 0, (mat μ), (mfl μ), (mva μ), (mtn μ)) 3) (mg ((mg μ), (pHam 0 819 500 0 (mg μ)).1, (mp μ), (mx μ), (mt μ), (mk μ), (my μ), 0, (mat μ), (mfl μ), (mva μ), (mtn μ)) 4)) (dlb_ok hns)) (va_cwS 1 hts gX4_digest_Jxe99ae_doubleToLongBits_ccdee rfl rfl rfl (by decide +kernel) ⟨Nat.le_of_ble_eq_true rfl, Nat.le_of_ble_eq_true rfl⟩) (hP.sub (ws' := []) [] rfl) (hK.sub (tys' := []) [] rfl) rfl hl.1 rfl (Nat.le_of_ble_eq_true rfl) dX4_digest_283 ⟨Nat.le_of_ble_eq_true rfl, Nat.le_of_ble_eq_true rfl⟩ (fun r_7 hr_7 => ?_)
                          subst hr_7
                          refine lv_ladd hx hb dX4_digest_286 ?_
                          refine lv_lmul hx hb dX4_digest_287 ?_
                          refine lv_aload_n hx hb dX4_digest_288 rfl (lv_at hl 1 rfl) ?_
                          refine va_get (D := (dC, dI)) (ci := 4) (v := .int (nI (my μ))) (C := RX4) (T := TX4) (N := 12) hx hb hts hnX4 hown hK hP 0 rfl rfl 5 (by decide) hf102 (fun _ h9 => h9) rfl dX4_digest_289 ?_
                          refine lv_i2l (v := (nI (my μ)).toInt64) hx hb dX4_digest_292 rfl ?_
                          refine lv_ladd hx hb dX4_digest_293 ?_
                          refine lv_lstore_n (lv' := [(1, .long ((31 * ((31 * ((31 * y6) + ((nI ((pHam 0 819 500 0 (mg μ)).2)).toInt64))) + ((pShare (mg ((mg μ), (pHam 0 819 500 0 (mg μ)).1, (mp μ), (mx μ), (mt μ), (mk μ), (my μ), 0, (mat μ), (mfl μ), (mva μ), (mtn μ)) 3) (mg ((mg μ), (pHam 0 819 500 0 (mg μ)).1, (mp μ), (mx μ), (mt μ), (mk μ), (my μ), 0, (mat μ), (mfl μ), (mva μ), (mtn μ)) 4)).toInt64))) + ((nI (my μ)).toInt64))), (0, .ref (ad 0)), (3, .int (nI i6))]) hx hb dX4_digest_294 rfl hl (by decide) rfl (fun ls hl => ?_)
                          refine lv_iconst (v := 0) hx hb dX4_digest_295 (by decide) ?_
                          refine lv_istore_n (lv' := [(3, .int 0), (1, .long ((31 * ((31 * ((31 * y6) + ((nI ((pHam 0 819 500 0 (mg μ)).2)).toInt64))) + ((pShare (mg ((mg μ), (pHam 0 819 500 0 (mg μ)).1, (mp μ), (mx μ), (mt μ), (mk μ), (my μ), 0, (mat μ), (mfl μ), (mva μ), (mtn μ)) 3) (mg ((mg μ), (pHam 0 819 500 0 (mg μ)).1, (mp μ), (mx μ), (mt μ), (mk μ), (my μ), 0, (mat μ), (mfl μ), (mva μ), (mtn μ)) 4)).toInt64))) + ((nI (my μ)).toInt64))), (0, .ref (ad 0))]) hx hb dX4_digest_296 rfl hl (by decide) rfl (fun ls hl => ?_)
                          have hC_297 : ∀ (nf : Nat) (y7 : Int64) (i7 : Nat) (ls : Array Slot), my μ - i7 < nf → lv_has ls 5 [(0, .ref (ad 0)), (1, .long y7), (3, .int (nI i7))] → (i7 ≤ my μ) → (y7 = pHashA (mx μ) i7 ((31 * ((31 * ((31 * y6) + ((nI ((pHam 0 819 500 0 (mg μ)).2)).toInt64))) + ((pShare (mg ((mg μ), (pHam 0 819 500 0 (mg μ)).1, (mp μ), (mx μ), (mt μ), (mk μ), (my μ), 0, (mat μ), (mfl μ), (mva μ), (mtn μ)) 3) (mg ((mg μ), (pHam 0 819 500 0 (mg μ)).1, (mp μ), (mx μ), (mt μ), (mk μ), (my μ), 0, (mat μ), (mfl μ), (mva μ), (mtn μ)) 4)).toInt64))) + ((nI (my μ)).toInt64))) → W p l e rX4_digest s m args below meth cd H locs 0 0 Q (F0 m 297 ls []) := by
                            intro nf
                            induction nf with
                            | zero => intro y7 i7 ls hm_297 hl hi7 ey7; exact absurd hm_297 (Nat.not_lt_zero _)
                            | succ nf ih_297 =>
                              intro y7 i7 ls hm_297 hl hi7 ey7
                              refine lv_iload_n hx hb dX4_digest_297 rfl (lv_at hl 2 rfl) ?_
                              refine lv_aload_n hx hb dX4_digest_298 rfl (lv_at hl 0 rfl) ?_
                              refine va_get (D := (dC, dI)) (ci := 4) (v := .int (nI (my μ))) (C := RX4) (T := TX4) (N := 12) hx hb hts hnX4 hown hK hP 0 rfl rfl 5 (by decide) hf102 (fun _ h9 => h9) rfl dX4_digest_299 ?_
                              refine z_ge hx hb i7 (my μ) (by omega) (by omega) (tgt := 325) dX4_digest_302 (by decide) (fun c_8 => ?_) (fun c_8 => ?_)
                              · skip
                                refine lv_lload_n hx hb dX4_digest_325 rfl (lv_at hl 1 rfl) ?_
                                replace hP : va_P (dC, dI) vwCl (zMW ad cI ((mg μ), (pHam 0 819 500 0 (mg μ)).1, (mp μ), (mx μ), (mt μ), (mk μ), (my μ), 0, (mat μ), (mfl μ), (mva μ), (mtn μ))) H := hP.sub (ws' := zMW ad cI ((mg μ), (pHam 0 819 500 0 (mg μ)).1, (mp μ), (mx μ), (mt μ), (mk μ), (my μ), 0, (mat μ), (mfl μ), (mva μ), (mtn μ))) [0, 1, 2, 3, 4, 5] rfl
                                replace hD : va_D A (zMW ad cI ((mg μ), (pHam 0 819 500 0 (mg μ)).1, (mp μ), (mx μ), (mt μ), (mk μ), (my μ), 0, (mat μ), (mfl μ), (mva μ), (mtn μ))) := hD.sub (ws' := zMW ad cI ((mg μ), (pHam 0 819 500 0 (mg μ)).1, (mp μ), (mx μ), (mt μ), (mk μ), (my μ), 0, (mat μ), (mfl μ), (mva μ), (mtn μ))) [0, 1, 2, 3, 4, 5] (by decide) rfl
                                have e9 : mset_h (mset_th μ 0) (pHam 0 819 500 0 (mg μ)).1 = ((mg μ), (pHam 0 819 500 0 (mg μ)).1, (mp μ), (mx μ), (mt μ), (mk μ), (my μ), 0, (mat μ), (mfl μ), (mva μ), (mtn μ)) := rfl
                                replace hP : va_P (dC, dI) vwCl (zMW ad cI (mset_h (mset_th μ 0) (pHam 0 819 500 0 (mg μ)).1)) H := by rw [e9]; exact hP
                                replace hD : va_D A (zMW ad cI (mset_h (mset_th μ 0) (pHam 0 819 500 0 (mg μ)).1)) := by rw [e9]; exact hD
                                exact hend _ () _ _ _ _ (by rw [ey7, show i7 = my μ by omega, ey6, show i6 = 13 by omega, pDg, pDg2]) hP hD hS dX4_digest_326
                              · skip
                                refine lv_ldc2 hx hb hown hc171 dX4_digest_305 ?_
                                refine lv_lload_n hx hb dX4_digest_308 rfl (lv_at hl 1 rfl) ?_
                                refine lv_lmul hx hb dX4_digest_309 ?_
                                refine lv_aload_n hx hb dX4_digest_310 rfl (lv_at hl 0 rfl) ?_
                                refine va_get (D := (dC, dI)) (ci := 4) (v := .ref (ad 4)) (C := RX4) (T := TX4) (N := 12) hx hb hts hnX4 hown hK hP 0 rfl rfl 4 (by decide) hf19 (fun _ h9 => h9) rfl dX4_digest_311 ?_
                                refine lv_iload_n hx hb dX4_digest_314 rfl (lv_at hl 2 rfl) ?_
                                refine z_ald hx hb hK hP 4 0 i7 (f := (fun w => nI ((mx μ) w))) rfl rfl (by first | omega | decide) (by first | decide | omega) dX4_digest_315 ?_
                                refine lv_i2l (v := (nI ((mx μ) i7)).toInt64) hx hb dX4_digest_316 rfl ?_
                                refine lv_ladd hx hb dX4_digest_317 ?_
                                refine lv_lstore_n (lv' := [(1, .long ((31 * y7) + ((nI ((mx μ) i7)).toInt64))), (0, .ref (ad 0)), (3, .int (nI i7))]) hx hb dX4_digest_318 rfl hl (by decide) rfl (fun ls hl => ?_)
                                refine lv_iinc (v := nI (i7 + 1)) (lv' := [(3, .int (nI (i7 + 1))), (1, .long ((31 * y7) + ((nI ((mx μ) i7)).toInt64))), (0, .ref (ad 0))]) hx hb dX4_digest_319 hl (k := 2) rfl (z_inc1 _) (by decide) rfl (fun ls hl => ?_)
                                refine lv_goto (tgt := 297) hx hb dX4_digest_322 (by decide) ?_
                                exact ih_297 ((31 * y7) + ((nI ((mx μ) i7)).toInt64)) (i7 + 1) _ (by omega) (lv_sub hl [2, 1, 0] rfl) (by omega) (by rw [ey7]; rfl)
                          exact hC_297 _ ((31 * ((31 * ((31 * y6) + ((nI ((pHam 0 819 500 0 (mg μ)).2)).toInt64))) + ((pShare (mg ((mg μ), (pHam 0 819 500 0 (mg μ)).1, (mp μ), (mx μ), (mt μ), (mk μ), (my μ), 0, (mat μ), (mfl μ), (mva μ), (mtn μ)) 3) (mg ((mg μ), (pHam 0 819 500 0 (mg μ)).1, (mp μ), (mx μ), (mt μ), (mk μ), (my μ), 0, (mat μ), (mfl μ), (mva μ), (mtn μ)) 4)).toInt64))) + ((nI (my μ)).toInt64)) 0 _ (Nat.lt_succ_self _) (lv_sub hl [2, 1, 0] rfl) (by omega) (rfl)
                        · skip
                          refine lv_ldc2 hx hb hown hc171 dX4_digest_232 ?_
                          refine lv_lload_n hx hb dX4_digest_235 rfl (lv_at hl 1 rfl) ?_
                          refine lv_lmul hx hb dX4_digest_236 ?_
                          refine lv_aload_n hx hb dX4_digest_237 rfl (lv_at hl 0 rfl) ?_
                          refine va_get (D := (dC, dI)) (ci := 4) (v := .ref (ad 1)) (C := RX4) (T := TX4) (N := 12) hx hb hts hnX4 hown hK hP 0 rfl rfl 0 (by decide) hf7 (fun _ h9 => h9) rfl dX4_digest_238 ?_
                          refine lv_iconst (v := 0) hx hb dX4_digest_241 (by decide) ?_
                          refine lv_iload_n hx hb dX4_digest_242 rfl (lv_at hl 2 rfl) ?_
                          refine z_cSi (As := [.ref (ad 1), .int 0, .int (nI i6)]) (rest := [.long (31 * y6)]) ⟨hx, hb, hml, hown, hts⟩ (k_X4_worn l dC dI (ad 1) cI (mg μ) hMok.1 hMok.2.1 0 (by omega) i6 (by omega)) (va_cwS 3 hts gX4_digest_X4_worn rfl rfl rfl (by decide +kernel) ⟨Nat.le_of_ble_eq_true rfl, Nat.le_of_ble_eq_true rfl⟩) (hP.sub (ws' := [((ad 1), .inl (cI, 323, .inl (mg μ)))]) [1] rfl) (hK.sub (tys' := [(cI, .int)]) [0] rfl) rfl hl.1 rfl (Nat.le_of_ble_eq_true rfl) dX4_digest_243 ⟨Nat.le_of_ble_eq_true rfl, Nat.le_of_ble_eq_true rfl⟩ (fun r_9 hr_9 => ?_)
                          subst hr_9
                          refine lv_i2l (v := ((mg μ) (25 + (0 * 13 + i6))).toInt64) hx hb dX4_digest_246 rfl ?_
                          refine lv_ladd hx hb dX4_digest_247 ?_
                          refine lv_lstore_n (lv' := [(1, .long ((31 * y6) + (((mg μ) (25 + (0 * 13 + i6))).toInt64))), (0, .ref (ad 0)), (3, .int (nI i6))]) hx hb dX4_digest_248 rfl hl (by decide) rfl (fun ls hl => ?_)
                          refine lv_iinc (v := nI (i6 + 1)) (lv' := [(3, .int (nI (i6 + 1))), (1, .long ((31 * y6) + (((mg μ) (25 + (0 * 13 + i6))).toInt64))), (0, .ref (ad 0))]) hx hb dX4_digest_249 hl (k := 2) rfl (z_inc1 _) (by decide) rfl (fun ls hl => ?_)
                          refine lv_goto (tgt := 226) hx hb dX4_digest_252 (by decide) ?_
                          exact ih_226 ((31 * y6) + (((mg μ) (25 + (0 * 13 + i6))).toInt64)) (i6 + 1) _ (by omega) (lv_sub hl [2, 1, 0] rfl) (by omega) (by rw [ey6]; rfl)
                    exact hC_226 _ y4 0 _ (Nat.lt_succ_self _) (lv_sub hl [1, 2, 0] rfl) (by omega) (by rw [ey4, show i4 = 18 by omega, pHs_0])
                  · skip
                    refine lv_iconst (v := 0) hx hb dX4_digest_160 (by decide) ?_
                    refine lv_istore (lv' := [(4, .int 0), (0, .ref (ad 0)), (1, .long y4), (3, .int (nI i4))]) hx hb dX4_digest_161 hl (by decide) rfl (fun ls hl => ?_)
                    have hC_163 : ∀ (nf : Nat) (y5 : Int64) (i5 : Nat) (ls : Array Slot), 6 - i5 < nf → lv_has ls 5 [(0, .ref (ad 0)), (1, .long y5), (3, .int (nI i4)), (4, .int (nI i5))] → (i5 ≤ 6) → (y5 = pHs (vSlot (gS (mg μ)) i4) i5 y4) → W p l e rX4_digest s m args below meth cd H locs 0 0 Q (F0 m 163 ls []) := by
                      intro nf
                      induction nf with
                      | zero => intro y5 i5 ls hm_163 hl hi5 ey5; exact absurd hm_163 (Nat.not_lt_zero _)
                      | succ nf ih_163 =>
                        intro y5 i5 ls hm_163 hl hi5 ey5
                        refine lv_iload hx hb dX4_digest_163 (lv_at hl 3 rfl) ?_
                        refine lv_bipush (v := 6) hx hb dX4_digest_165 (by decide) ?_
                        refine z_ge hx hb i5 6 (by omega) (by omega) (tgt := 191) dX4_digest_167 (by decide) (fun c_10 => ?_) (fun c_10 => ?_)
                        · skip
                          refine lv_ldc2 hx hb hown hc171 dX4_digest_191 ?_
                          refine lv_lload_n hx hb dX4_digest_194 rfl (lv_at hl 1 rfl) ?_
                          refine lv_lmul hx hb dX4_digest_195 ?_
                          refine lv_aload_n hx hb dX4_digest_196 rfl (lv_at hl 0 rfl) ?_
                          refine va_get (D := (dC, dI)) (ci := 4) (v := .ref (ad 1)) (C := RX4) (T := TX4) (N := 12) hx hb hts hnX4 hown hK hP 0 rfl rfl 0 (by decide) hf7 (fun _ h9 => h9) rfl dX4_digest_197 ?_
                          refine lv_iload_n hx hb dX4_digest_200 rfl (lv_at hl 2 rfl) ?_
                          refine lv_sipush (v := 2730) hx hb dX4_digest_201 (by decide) ?_
                          refine lv_aload_n hx hb dX4_digest_204 rfl (lv_at hl 0 rfl) ?_
                          refine va_get (D := (dC, dI)) (ci := 4) (v := .ref (ad 1)) (C := RX4) (T := TX4) (N := 12) hx hb hts hnX4 hown hK hP 0 rfl rfl 0 (by decide) hf7 (fun _ h9 => h9) rfl dX4_digest_205 ?_
                          refine lv_iload_n hx hb dX4_digest_208 rfl (lv_at hl 2 rfl) ?_
                          refine z_cSi (As := [.ref (ad 1), .int (nI i4)]) (rest := [.int 2730, .int (nI i4), .ref (ad 1), .long (31 * y5)]) ⟨hx, hb, hml, hown, hts⟩ (k_X4_stuck l dC dI (ad 1) cI (mg μ) hMok.1 hMok.2.1 i4 (by omega)) (va_cwS 2 hts gX4_digest_X4_stuck rfl rfl rfl (by decide +kernel) ⟨Nat.le_of_ble_eq_true rfl, Nat.le_of_ble_eq_true rfl⟩) (hP.sub (ws' := [((ad 1), .inl (cI, 323, .inl (mg μ)))]) [1] rfl) (hK.sub (tys' := [(cI, .int)]) [0] rfl) rfl hl.1 rfl (Nat.le_of_ble_eq_true rfl) dX4_digest_209 ⟨Nat.le_of_ble_eq_true rfl, Nat.le_of_ble_eq_true rfl⟩ (fun r_11 hr_11 => ?_)
                          subst hr_11
                          refine z_cSi (As := [.ref (ad 1), .int (nI i4), .int 2730, .int (pst (gS (mg μ)) i4)]) (rest := [.long (31 * y5)]) ⟨hx, hb, hml, hown, hts⟩ (k_X4_costs l dC dI (ad 1) cI (mg μ) hMok.1 hMok.2.1 i4 (by omega) 2730 (by omega) (pst (gS (mg μ)) i4)) (va_cwS 4 hts gX4_digest_X4_costs rfl rfl rfl (by decide +kernel) ⟨Nat.le_of_ble_eq_true rfl, Nat.le_of_ble_eq_true rfl⟩) (hP.sub (ws' := [((ad 1), .inl (cI, 323, .inl (mg μ)))]) [1] rfl) (hK.sub (tys' := [(cI, .int)]) [0] rfl) rfl hl.1 rfl (Nat.le_of_ble_eq_true rfl) dX4_digest_212 ⟨Nat.le_of_ble_eq_true rfl, Nat.le_of_ble_eq_true rfl⟩ (fun r_12 hr_12 => ?_)
                          subst hr_12
                          refine lv_i2l (v := (pCost ((mg μ) (7 + i4)) (nI 2730) (pst (gS (mg μ)) i4)).toInt64) hx hb dX4_digest_215 rfl ?_
                          refine lv_ladd hx hb dX4_digest_216 ?_
                          refine lv_lstore_n (lv' := [(1, .long ((31 * y5) + ((pCost ((mg μ) (7 + i4)) (nI 2730) (pst (gS (mg μ)) i4)).toInt64))), (0, .ref (ad 0)), (3, .int (nI i4)), (4, .int (nI i5))]) hx hb dX4_digest_217 rfl hl (by decide) rfl (fun ls hl => ?_)
                          refine lv_iinc (v := nI (i4 + 1)) (lv' := [(3, .int (nI (i4 + 1))), (1, .long ((31 * y5) + ((pCost ((mg μ) (7 + i4)) (nI 2730) (pst (gS (mg μ)) i4)).toInt64))), (0, .ref (ad 0)), (4, .int (nI i5))]) hx hb dX4_digest_218 hl (k := 2) rfl (z_inc1 _) (by decide) rfl (fun ls hl => ?_)
                          refine lv_goto (tgt := 154) hx hb dX4_digest_221 (by decide) ?_
                          exact ih_154 ((31 * y5) + ((pCost ((mg μ) (7 + i4)) (nI 2730) (pst (gS (mg μ)) i4)).toInt64)) (i4 + 1) _ (by omega) (lv_sub hl [2, 1, 0] rfl) (by omega) (by rw [ey5, show i5 = 6 by omega, ey4]; exact pFold_s (f := pDgS (gS (mg μ))) (n := i4) (h := (pFold (pDgW (gS (mg μ)) (fun j => pdr (gS (mg μ)) (zpl (gS (mg μ)) j))) 16 (pDg1 (gS (mg μ)) (mk μ)))))
                        · skip
                          refine lv_ldc2 hx hb hown hc171 dX4_digest_170 ?_
                          refine lv_lload_n hx hb dX4_digest_173 rfl (lv_at hl 1 rfl) ?_
                          refine lv_lmul hx hb dX4_digest_174 ?_
                          refine lv_aload_n hx hb dX4_digest_175 rfl (lv_at hl 0 rfl) ?_
                          refine lv_iload_n hx hb dX4_digest_176 rfl (lv_at hl 2 rfl) ?_
                          refine lv_iload hx hb dX4_digest_177 (lv_at hl 3 rfl) ?_
                          refine z_cVi (As := [.int (nI i4), .int (nI i5)]) (rest := [.long (31 * y5)]) ⟨hx, hb, hml, hown, hts⟩ (k_X4_ofSlot l dC dI ad cI ((mg μ), (mh μ), (mp μ), (mx μ), (mt μ), (mk μ), (my μ), 0, (mat μ), (mfl μ), (mva μ), (mtn μ)) hMok i4 (by omega) i5 (by omega)) (cwV 2 hts gX4_digest_X4_ofSlot rfl rfl rfl (by decide +kernel) ⟨Nat.le_of_ble_eq_true rfl, Nat.le_of_ble_eq_true rfl⟩) (va_recv hK hP (ci := 4) (q0 := 0) rfl rfl) (hP.sub (ws' := zMW ad cI ((mg μ), (mh μ), (mp μ), (mx μ), (mt μ), (mk μ), (my μ), 0, (mat μ), (mfl μ), (mva μ), (mtn μ))) [0, 1, 2, 3, 4, 5] rfl) (hK.sub (tys' := [(cI, .int)]) [0] rfl) rfl hl.1 rfl (Nat.le_of_ble_eq_true rfl) dX4_digest_179 ⟨Nat.le_of_ble_eq_true rfl, Nat.le_of_ble_eq_true rfl⟩ (fun r_13 hr_13 => ?_)
                          subst hr_13
                          refine lv_i2l (v := (vSlot (gS (mg ((mg μ), (mh μ), (mp μ), (mx μ), (mt μ), (mk μ), (my μ), 0, (mat μ), (mfl μ), (mva μ), (mtn μ)))) i4 i5).toInt64) hx hb dX4_digest_182 rfl ?_
                          refine lv_ladd hx hb dX4_digest_183 ?_
                          refine lv_lstore_n (lv' := [(1, .long ((31 * y5) + ((vSlot (gS (mg ((mg μ), (mh μ), (mp μ), (mx μ), (mt μ), (mk μ), (my μ), 0, (mat μ), (mfl μ), (mva μ), (mtn μ)))) i4 i5).toInt64))), (0, .ref (ad 0)), (3, .int (nI i4)), (4, .int (nI i5))]) hx hb dX4_digest_184 rfl hl (by decide) rfl (fun ls hl => ?_)
                          refine lv_iinc (v := nI (i5 + 1)) (lv' := [(4, .int (nI (i5 + 1))), (1, .long ((31 * y5) + ((vSlot (gS (mg ((mg μ), (mh μ), (mp μ), (mx μ), (mt μ), (mk μ), (my μ), 0, (mat μ), (mfl μ), (mva μ), (mtn μ)))) i4 i5).toInt64))), (0, .ref (ad 0)), (3, .int (nI i4))]) hx hb dX4_digest_185 hl (k := 3) rfl (z_inc1 _) (by decide) rfl (fun ls hl => ?_)
                          refine lv_goto (tgt := 163) hx hb dX4_digest_188 (by decide) ?_
                          exact ih_163 ((31 * y5) + ((vSlot (gS (mg ((mg μ), (mh μ), (mp μ), (mx μ), (mt μ), (mk μ), (my μ), 0, (mat μ), (mfl μ), (mva μ), (mtn μ)))) i4 i5).toInt64)) (i5 + 1) _ (by omega) (lv_sub hl [2, 1, 3, 0] rfl) (by omega) (by rw [ey5]; rfl)
                    exact hC_163 _ y4 0 _ (Nat.lt_succ_self _) (lv_sub hl [1, 2, 3, 0] rfl) (by omega) (rfl)
              exact hC_154 _ y2 0 _ (Nat.lt_succ_self _) (lv_sub hl [1, 2, 0] rfl) (by omega) (by rw [ey2, show i2 = 16 by omega, pFold_0])
            · skip
              refine lv_ldc2 hx hb hown hc171 dX4_digest_70 ?_
              refine lv_lload_n hx hb dX4_digest_73 rfl (lv_at hl 1 rfl) ?_
              refine lv_lmul hx hb dX4_digest_74 ?_
              refine lv_aload_n hx hb dX4_digest_75 rfl (lv_at hl 0 rfl) ?_
              refine va_get (D := (dC, dI)) (ci := 4) (v := .ref (ad 1)) (C := RX4) (T := TX4) (N := 12) hx hb hts hnX4 hown hK hP 0 rfl rfl 0 (by decide) hf7 (fun _ h9 => h9) rfl dX4_digest_76 ?_
              refine lv_iload_n hx hb dX4_digest_79 rfl (lv_at hl 2 rfl) ?_
              refine z_cSi (As := [.ref (ad 1), .int (nI i2)]) (rest := [.long (31 * y2)]) ⟨hx, hb, hml, hown, hts⟩ (k_X4_reads l dC dI (ad 1) cI (mg μ) hMok.1 hMok.2.1 i2 (by omega)) (va_cwS 2 hts gX4_digest_X4_reads rfl rfl rfl (by decide +kernel) ⟨Nat.le_of_ble_eq_true rfl, Nat.le_of_ble_eq_true rfl⟩) (hP.sub (ws' := [((ad 1), .inl (cI, 323, .inl (mg μ)))]) [1] rfl) (hK.sub (tys' := [(cI, .int)]) [0] rfl) rfl hl.1 rfl (Nat.le_of_ble_eq_true rfl) dX4_digest_80 ⟨Nat.le_of_ble_eq_true rfl, Nat.le_of_ble_eq_true rfl⟩ (fun r_14 hr_14 => ?_)
              subst hr_14
              refine lv_i2l (v := (pnm (gS (mg μ)) i2).toInt64) hx hb dX4_digest_83 rfl ?_
              refine lv_ladd hx hb dX4_digest_84 ?_
              refine lv_lstore_n (lv' := [(1, .long ((31 * y2) + ((pnm (gS (mg μ)) i2).toInt64))), (0, .ref (ad 0)), (3, .int (nI i2))]) hx hb dX4_digest_85 rfl hl (by decide) rfl (fun ls hl => ?_)
              refine lv_iconst (v := 0) hx hb dX4_digest_86 (by decide) ?_
              refine lv_istore (lv' := [(4, .int 0), (1, .long ((31 * y2) + ((pnm (gS (mg μ)) i2).toInt64))), (0, .ref (ad 0)), (3, .int (nI i2))]) hx hb dX4_digest_87 hl (by decide) rfl (fun ls hl => ?_)
              have hC_89 : ∀ (nf : Nat) (y3 : Int64) (i3 : Nat) (ls : Array Slot), 5 - i3 < nf → lv_has ls 5 [(0, .ref (ad 0)), (1, .long y3), (3, .int (nI i2)), (4, .int (nI i3))] → (i3 ≤ 5) → (y3 = pHs (vWord (gS (mg μ)) i2) i3 (31 * y2 + (pnm (gS (mg μ)) i2).toInt64)) → W p l e rX4_digest s m args below meth cd H locs 0 0 Q (F0 m 89 ls []) := by
                intro nf
                induction nf with
                | zero => intro y3 i3 ls hm_89 hl hi3 ey3; exact absurd hm_89 (Nat.not_lt_zero _)
                | succ nf ih_89 =>
                  intro y3 i3 ls hm_89 hl hi3 ey3
                  refine lv_iload hx hb dX4_digest_89 (lv_at hl 3 rfl) ?_
                  refine lv_iconst (v := 5) hx hb dX4_digest_91 (by decide) ?_
                  refine z_ge hx hb i3 5 (by omega) (by omega) (tgt := 116) dX4_digest_92 (by decide) (fun c_15 => ?_) (fun c_15 => ?_)
                  · skip
                    refine lv_ldc2 hx hb hown hc171 dX4_digest_116 ?_
                    refine lv_ldc2 hx hb hown hc171 dX4_digest_119 ?_
                    refine lv_lload_n hx hb dX4_digest_122 rfl (lv_at hl 1 rfl) ?_
                    refine lv_lmul hx hb dX4_digest_123 ?_
                    refine lv_aload_n hx hb dX4_digest_124 rfl (lv_at hl 0 rfl) ?_
                    refine va_get (D := (dC, dI)) (ci := 4) (v := .ref (ad 1)) (C := RX4) (T := TX4) (N := 12) hx hb hts hnX4 hown hK hP 0 rfl rfl 0 (by decide) hf7 (fun _ h9 => h9) rfl dX4_digest_125 ?_
                    refine lv_iload_n hx hb dX4_digest_128 rfl (lv_at hl 2 rfl) ?_
                    refine lv_sipush (v := 1365) hx hb dX4_digest_129 (by decide) ?_
                    refine z_cSi (As := [.ref (ad 1), .int (nI i2), .int 1365]) (rest := [.long (31 * y3), .long 31]) ⟨hx, hb, hml, hown, hts⟩ (k_X4_goesTo l dC dI (ad 1) cI (mg μ) hMok.1 hMok.2.1 i2 (by omega) 1365 (by omega)) (va_cwS 3 hts gX4_digest_X4_goesTo rfl rfl rfl (by decide +kernel) ⟨Nat.le_of_ble_eq_true rfl, Nat.le_of_ble_eq_true rfl⟩) (hP.sub (ws' := [((ad 1), .inl (cI, 323, .inl (mg μ)))]) [1] rfl) (hK.sub (tys' := [(cI, .int)]) [0] rfl) rfl hl.1 rfl (Nat.le_of_ble_eq_true rfl) dX4_digest_132 ⟨Nat.le_of_ble_eq_true rfl, Nat.le_of_ble_eq_true rfl⟩ (fun r_16 hr_16 => ?_)
                    obtain ⟨o_17, eo_17⟩ : ∃ zz : Option Nat, zz = ptg (gS (mg μ)) i2 (nI 1365) := ⟨_, rfl⟩
                    rw [← eo_17] at hr_16
                    subst hr_16
                    have hbo_17 : ∀ i, o_17 = some i → i < 18 := by rw [eo_17]; exact ptg_lt ((hMok.1 _ (by omega)).1)
                    refine lv_i2l (v := (zo o_17).toInt64) hx hb dX4_digest_135 rfl ?_
                    refine lv_ladd hx hb dX4_digest_136 ?_
                    refine lv_lmul hx hb dX4_digest_137 ?_
                    refine lv_aload_n hx hb dX4_digest_138 rfl (lv_at hl 0 rfl) ?_
                    refine lv_iload_n hx hb dX4_digest_139 rfl (lv_at hl 2 rfl) ?_
                    refine z_cVi (As := [.int (nI i2)]) (rest := [.long (31 * ((31 * y3) + ((zo o_17).toInt64)))]) ⟨hx, hb, hml, hown, hts⟩ (k_X4_dearest l dC dI ad cI ((mg μ), (mh μ), (mp μ), (mx μ), (mt μ), (mk μ), (my μ), 0, (mat μ), (mfl μ), (mva μ), (mtn μ)) hMok i2 (by omega)) (cwV 1 hts gX4_digest_X4_dearest rfl rfl rfl (by decide +kernel) ⟨Nat.le_of_ble_eq_true rfl, Nat.le_of_ble_eq_true rfl⟩) (va_recv hK hP (ci := 4) (q0 := 0) rfl rfl) (hP.sub (ws' := zMW ad cI ((mg μ), (mh μ), (mp μ), (mx μ), (mt μ), (mk μ), (my μ), 0, (mat μ), (mfl μ), (mva μ), (mtn μ))) [0, 1, 2, 3, 4, 5] rfl) (hK.sub (tys' := [(cI, .int)]) [0] rfl) rfl hl.1 rfl (Nat.le_of_ble_eq_true rfl) dX4_digest_140 ⟨Nat.le_of_ble_eq_true rfl, Nat.le_of_ble_eq_true rfl⟩ (fun r_18 hr_18 => ?_)
                    obtain ⟨o_19, eo_19⟩ : ∃ zz : Option Nat, zz = (pDr (fun v => pCost (mg ((mg μ), (mh μ), (mp μ), (mx μ), (mt μ), (mk μ), (my μ), 0, (mat μ), (mfl μ), (mva μ), (mtn μ)) (7 + gpl (mg ((mg μ), (mh μ), (mp μ), (mx μ), (mt μ), (mk μ), (my μ), 0, (mat μ), (mfl μ), (mva μ), (mtn μ))) i2)) (nI v) (pst (gS (mg ((mg μ), (mh μ), (mp μ), (mx μ), (mt μ), (mk μ), (my μ), 0, (mat μ), (mfl μ), (mva μ), (mtn μ)))) (gpl (mg ((mg μ), (mh μ), (mp μ), (mx μ), (mt μ), (mk μ), (my μ), 0, (mat μ), (mfl μ), (mva μ), (mtn μ))) i2))) 4096).1 := ⟨_, rfl⟩
                    rw [← eo_19] at hr_18
                    subst hr_18
                    have hbo_19 : ∀ i, o_19 = some i → i < 4096 := by rw [eo_19]; exact fun _ h => pDr_lt h
                    refine lv_i2l (v := (zo o_19).toInt64) hx hb dX4_digest_143 rfl ?_
                    refine lv_ladd hx hb dX4_digest_144 ?_
                    refine lv_lstore_n (lv' := [(1, .long ((31 * ((31 * y3) + ((zo o_17).toInt64))) + ((zo o_19).toInt64))), (0, .ref (ad 0)), (3, .int (nI i2)), (4, .int (nI i3))]) hx hb dX4_digest_145 rfl hl (by decide) rfl (fun ls hl => ?_)
                    refine lv_iinc (v := nI (i2 + 1)) (lv' := [(3, .int (nI (i2 + 1))), (1, .long ((31 * ((31 * y3) + ((zo o_17).toInt64))) + ((zo o_19).toInt64))), (0, .ref (ad 0)), (4, .int (nI i3))]) hx hb dX4_digest_146 hl (k := 2) rfl (z_inc1 _) (by decide) rfl (fun ls hl => ?_)
                    refine lv_goto (tgt := 64) hx hb dX4_digest_149 (by decide) ?_
                    exact ih_64 ((31 * ((31 * y3) + ((zo o_17).toInt64))) + ((zo o_19).toInt64)) (i2 + 1) _ (by omega) (lv_sub hl [2, 1, 0] rfl) (by omega) (by rw [eo_17, eo_19, ey3, show i3 = 5 by omega, ey2]; exact pFold_s (f := pDgW (gS (mg μ)) (fun j => pdr (gS (mg μ)) (zpl (gS (mg μ)) j))) (n := i2) (h := (pDg1 (gS (mg μ)) (mk μ))))
                  · skip
                    refine lv_ldc2 hx hb hown hc171 dX4_digest_95 ?_
                    refine lv_lload_n hx hb dX4_digest_98 rfl (lv_at hl 1 rfl) ?_
                    refine lv_lmul hx hb dX4_digest_99 ?_
                    refine lv_aload_n hx hb dX4_digest_100 rfl (lv_at hl 0 rfl) ?_
                    refine lv_iload_n hx hb dX4_digest_101 rfl (lv_at hl 2 rfl) ?_
                    refine lv_iload hx hb dX4_digest_102 (lv_at hl 3 rfl) ?_
                    refine z_cVi (As := [.int (nI i2), .int (nI i3)]) (rest := [.long (31 * y3)]) ⟨hx, hb, hml, hown, hts⟩ (k_X4_ofWord l dC dI ad cI ((mg μ), (mh μ), (mp μ), (mx μ), (mt μ), (mk μ), (my μ), 0, (mat μ), (mfl μ), (mva μ), (mtn μ)) hMok i2 (by omega) i3 (by omega)) (cwV 2 hts gX4_digest_X4_ofWord rfl rfl rfl (by decide +kernel) ⟨Nat.le_of_ble_eq_true rfl, Nat.le_of_ble_eq_true rfl⟩) (va_recv hK hP (ci := 4) (q0 := 0) rfl rfl) (hP.sub (ws' := zMW ad cI ((mg μ), (mh μ), (mp μ), (mx μ), (mt μ), (mk μ), (my μ), 0, (mat μ), (mfl μ), (mva μ), (mtn μ))) [0, 1, 2, 3, 4, 5] rfl) (hK.sub (tys' := [(cI, .int)]) [0] rfl) rfl hl.1 rfl (Nat.le_of_ble_eq_true rfl) dX4_digest_104 ⟨Nat.le_of_ble_eq_true rfl, Nat.le_of_ble_eq_true rfl⟩ (fun r_20 hr_20 => ?_)
                    subst hr_20
                    refine lv_i2l (v := (vWord (gS (mg ((mg μ), (mh μ), (mp μ), (mx μ), (mt μ), (mk μ), (my μ), 0, (mat μ), (mfl μ), (mva μ), (mtn μ)))) i2 i3).toInt64) hx hb dX4_digest_107 rfl ?_
                    refine lv_ladd hx hb dX4_digest_108 ?_
                    refine lv_lstore_n (lv' := [(1, .long ((31 * y3) + ((vWord (gS (mg ((mg μ), (mh μ), (mp μ), (mx μ), (mt μ), (mk μ), (my μ), 0, (mat μ), (mfl μ), (mva μ), (mtn μ)))) i2 i3).toInt64))), (0, .ref (ad 0)), (3, .int (nI i2)), (4, .int (nI i3))]) hx hb dX4_digest_109 rfl hl (by decide) rfl (fun ls hl => ?_)
                    refine lv_iinc (v := nI (i3 + 1)) (lv' := [(4, .int (nI (i3 + 1))), (1, .long ((31 * y3) + ((vWord (gS (mg ((mg μ), (mh μ), (mp μ), (mx μ), (mt μ), (mk μ), (my μ), 0, (mat μ), (mfl μ), (mva μ), (mtn μ)))) i2 i3).toInt64))), (0, .ref (ad 0)), (3, .int (nI i2))]) hx hb dX4_digest_110 hl (k := 3) rfl (z_inc1 _) (by decide) rfl (fun ls hl => ?_)
                    refine lv_goto (tgt := 89) hx hb dX4_digest_113 (by decide) ?_
                    exact ih_89 ((31 * y3) + ((vWord (gS (mg ((mg μ), (mh μ), (mp μ), (mx μ), (mt μ), (mk μ), (my μ), 0, (mat μ), (mfl μ), (mva μ), (mtn μ)))) i2 i3).toInt64)) (i3 + 1) _ (by omega) (lv_sub hl [2, 1, 3, 0] rfl) (by omega) (by rw [ey3]; rfl)
              exact hC_89 _ ((31 * y2) + ((pnm (gS (mg μ)) i2).toInt64)) 0 _ (Nat.lt_succ_self _) (lv_sub hl [2, 1, 3, 0] rfl) (by omega) (rfl)
        exact hC_64 _ ((31 * ((31 * y1) + (((mg μ) 0).toInt64))) + (((mg μ) 1).toInt64)) 0 _ (Nat.lt_succ_self _) (lv_sub hl [2, 1, 0] rfl) (by omega) ((pHs2 (f := zst (gS (mg μ)))).trans (by rw [ey1, show i1 = 10 by omega, pFold_0, pDg1]))
      · skip
        refine lv_ldc2 hx hb hown hc171 dX4_digest_17 ?_
        refine lv_lload_n hx hb dX4_digest_20 rfl (lv_at hl 1 rfl) ?_
        refine lv_lmul hx hb dX4_digest_21 ?_
        refine lv_aload_n hx hb dX4_digest_22 rfl (lv_at hl 0 rfl) ?_
        refine lv_iload_n hx hb dX4_digest_23 rfl (lv_at hl 2 rfl) ?_
        refine z_cVi (As := [.int (nI i1)]) (rest := [.long (31 * y1)]) ⟨hx, hb, hml, hown, hts⟩ (k_X4_counted l dC dI ad cI ((mg μ), (mh μ), (mp μ), (mx μ), (mt μ), (mk μ), (my μ), 0, (mat μ), (mfl μ), (mva μ), (mtn μ)) hMok i1 (by omega)) (cwV 1 hts gX4_digest_X4_counted rfl rfl rfl (by decide +kernel) ⟨Nat.le_of_ble_eq_true rfl, Nat.le_of_ble_eq_true rfl⟩) (va_recv hK hP (ci := 4) (q0 := 0) rfl rfl) (hP.sub (ws' := zMW ad cI ((mg μ), (mh μ), (mp μ), (mx μ), (mt μ), (mk μ), (my μ), 0, (mat μ), (mfl μ), (mva μ), (mtn μ))) [0, 1, 2, 3, 4, 5] rfl) (hK.sub (tys' := [(cI, .int)]) [0] rfl) rfl hl.1 rfl (Nat.le_of_ble_eq_true rfl) dX4_digest_24 ⟨Nat.le_of_ble_eq_true rfl, Nat.le_of_ble_eq_true rfl⟩ (fun r_21 hr_21 => ?_)
        subst hr_21
        refine lv_i2l (v := (vCount (gS (mg ((mg μ), (mh μ), (mp μ), (mx μ), (mt μ), (mk μ), (my μ), 0, (mat μ), (mfl μ), (mva μ), (mtn μ)))) (mk ((mg μ), (mh μ), (mp μ), (mx μ), (mt μ), (mk μ), (my μ), 0, (mat μ), (mfl μ), (mva μ), (mtn μ))) i1).toInt64) hx hb dX4_digest_27 rfl ?_
        refine lv_ladd hx hb dX4_digest_28 ?_
        refine lv_lstore_n (lv' := [(1, .long ((31 * y1) + ((vCount (gS (mg ((mg μ), (mh μ), (mp μ), (mx μ), (mt μ), (mk μ), (my μ), 0, (mat μ), (mfl μ), (mva μ), (mtn μ)))) (mk ((mg μ), (mh μ), (mp μ), (mx μ), (mt μ), (mk μ), (my μ), 0, (mat μ), (mfl μ), (mva μ), (mtn μ))) i1).toInt64))), (0, .ref (ad 0)), (3, .int (nI i1))]) hx hb dX4_digest_29 rfl hl (by decide) rfl (fun ls hl => ?_)
        refine lv_iinc (v := nI (i1 + 1)) (lv' := [(3, .int (nI (i1 + 1))), (1, .long ((31 * y1) + ((vCount (gS (mg ((mg μ), (mh μ), (mp μ), (mx μ), (mt μ), (mk μ), (my μ), 0, (mat μ), (mfl μ), (mva μ), (mtn μ)))) (mk ((mg μ), (mh μ), (mp μ), (mx μ), (mt μ), (mk μ), (my μ), 0, (mat μ), (mfl μ), (mva μ), (mtn μ))) i1).toInt64))), (0, .ref (ad 0))]) hx hb dX4_digest_30 hl (k := 2) rfl (z_inc1 _) (by decide) rfl (fun ls hl => ?_)
        refine lv_goto (tgt := 11) hx hb dX4_digest_33 (by decide) ?_
        exact ih_11 ((31 * y1) + ((vCount (gS (mg ((mg μ), (mh μ), (mp μ), (mx μ), (mt μ), (mk μ), (my μ), 0, (mat μ), (mfl μ), (mva μ), (mtn μ)))) (mk ((mg μ), (mh μ), (mp μ), (mx μ), (mt μ), (mk μ), (my μ), 0, (mat μ), (mfl μ), (mva μ), (mtn μ))) i1).toInt64)) (i1 + 1) _ (by omega) (lv_sub hl [2, 1, 0] rfl) (by omega) (by rw [ey1]; rfl)
  exact hC_11 _ 2969 0 _ (Nat.lt_succ_self _) (lv_sub hl [2, 1, 0] rfl) (by omega) (rfl)
