abbrev tX3_needWord : Room := { frames := 6, cells := 1, slots := 6, locals := 82 }
set_option maxHeartbeats 4000000 in
set_option maxRecDepth 100000 in
theorem x_X3_needWord (l : Launch) (hl0 : l.stackTraces = false) (n0 : Nat) (dC : Nat → ClassId) (dI : Nat → Nat → Nat) (x : Int32) (h : x < 0 ∨ ¬ x ≤ 15) : zTh l yX3_needWord wsX3_needWord tX3_needWord n0 (dC, dI) [.int x] [] [] XO := by
  refine zTh_of (cc := cX3_needWord) (maxL := 1) (by decide) rfl (Nat.le_of_ble_eq_true rfl) ?_
  intro p e s m args below meth cd ls hat hP hK hE ht hlocks
  obtain ⟨hx, hb, hml, hown, hts, hl⟩ := hat
  replace hown : s.vm.findClass RX3 = some m.cls := hown
  replace hl : lv_has ls 1 [(0, .int x)] := hl
  replace hP : va_P (dC, dI) vwCl [] s.heap := hP
  generalize hQ : vx_MQ below zQF (zTX XO) args s 1 6 (fun _ => False) = Q
  refine lv_iload_n hx hb dX3_needWord_0 rfl (lv_at hl 0 rfl) ?_
  refine lv_iconst (v := 0) hx hb dX3_needWord_1 (by decide) ?_
  refine lv_bipush (v := 15) hx hb dX3_needWord_2 (by decide) ?_
  refine z_cSi (As := [.int x, .int 0, .int 15]) (rest := []) ⟨hx, hb, hml, hown, hts⟩ (k_X3_isOutside l dC dI x (0 : Int32) (15 : Int32)) (va_cwS 3 hts gX3_needWord_X3_isOutside rfl rfl rfl (by decide +kernel) ⟨Nat.le_of_ble_eq_true rfl, Nat.le_of_ble_eq_true rfl⟩) (hP.sub (ws' := []) [] rfl) (hK.sub (tys' := []) [] rfl) rfl hl.1 rfl (Nat.le_of_ble_eq_true rfl) dX3_needWord_4 ⟨Nat.le_of_ble_eq_true rfl, Nat.le_of_ble_eq_true rfl⟩ (fun r_1 hr_1 => ?_)
  refine z_ifeqB hx hb hr_1 (tgt := 21) dX3_needWord_7 (by decide) (fun c_2 => ?_) (fun c_2 => ?_)
  · skip
    exact absurd h c_2
  · skip
    rw [← hQ]
    obtain ⟨sa, hsa⟩ := hE.2.2.2.2 (276, "there is no such word") (by decide)
    exact vx_throwSW (cls := XO) (text := "there is no such word") (names := xNames) (ik := 274) (is := 276) (ic := 278) (sa := sa) (A := fun q => n0 ≤ q) hx hb hl0 hown (by decide +kernel) (by decide +kernel) (hts (.classLink RX3 274 XO) (by decide +kernel)) (hts (.initialized XO) (by decide +kernel)) hsa (vx_hat (fun w hw => hts w (by first | exact List.mem_cons_of_mem _ (List.mem_append_right _ hw) | exact List.mem_cons_of_mem _ (List.mem_append_left _ (List.mem_append_right _ hw)) | exact List.mem_cons_of_mem _ (List.mem_append_left _ (List.mem_append_left _ (List.mem_append_right _ hw))))) xc_O (vx_c (va_Nw.use rfl hE.2.2.1.1) (vx_c (va_Nw.use rfl hE.2.2.2.1.1) (vx_c (va_Nw.use rfl hE.2.2.2.1.2.1) (vx_c (va_Nw.use rfl hE.2.2.2.1.2.2) vx_n))))) (by decide +kernel) hE.1 hE.2.1 va_S.rf (hl.1.trans hml.symm) dX3_needWord_10 dX3_needWord_13 dX3_needWord_14 dX3_needWord_17 dX3_needWord_20 (fun x hx9 => (ht x hx9).elim) (Nat.le_of_ble_eq_true rfl) (Nat.le_of_ble_eq_true rfl) (Nat.le_of_ble_eq_true rfl) (Nat.le_of_ble_eq_true rfl) hlocks (fun t _ h1 h2 => ⟨rfl, h1, h2⟩) (fun _ h => nomatch h) (Nat.le_refl _) (Nat.le_refl _)

abbrev tX3_needSlot : Room := { frames := 6, cells := 1, slots := 6, locals := 82 }
set_option maxHeartbeats 4000000 in
set_option maxRecDepth 100000 in
theorem x_X3_needSlot (l : Launch) (hl0 : l.stackTraces = false) (n0 : Nat) (dC : Nat → ClassId) (dI : Nat → Nat → Nat) (x : Int32) (h : x < 0 ∨ ¬ x ≤ 17) : zTh l yX3_needSlot wsX3_needSlot tX3_needSlot n0 (dC, dI) [.int x] [] [] XO := by
  refine zTh_of (cc := cX3_needSlot) (maxL := 1) (by decide) rfl (Nat.le_of_ble_eq_true rfl) ?_
  intro p e s m args below meth cd ls hat hP hK hE ht hlocks
  obtain ⟨hx, hb, hml, hown, hts, hl⟩ := hat
  replace hown : s.vm.findClass RX3 = some m.cls := hown
  replace hl : lv_has ls 1 [(0, .int x)] := hl
  replace hP : va_P (dC, dI) vwCl [] s.heap := hP
  generalize hQ : vx_MQ below zQF (zTX XO) args s 1 6 (fun _ => False) = Q
  refine lv_iload_n hx hb dX3_needSlot_0 rfl (lv_at hl 0 rfl) ?_
  refine lv_iconst (v := 0) hx hb dX3_needSlot_1 (by decide) ?_
  refine lv_bipush (v := 17) hx hb dX3_needSlot_2 (by decide) ?_
  refine z_cSi (As := [.int x, .int 0, .int 17]) (rest := []) ⟨hx, hb, hml, hown, hts⟩ (k_X3_isOutside l dC dI x (0 : Int32) (17 : Int32)) (va_cwS 3 hts gX3_needSlot_X3_isOutside rfl rfl rfl (by decide +kernel) ⟨Nat.le_of_ble_eq_true rfl, Nat.le_of_ble_eq_true rfl⟩) (hP.sub (ws' := []) [] rfl) (hK.sub (tys' := []) [] rfl) rfl hl.1 rfl (Nat.le_of_ble_eq_true rfl) dX3_needSlot_4 ⟨Nat.le_of_ble_eq_true rfl, Nat.le_of_ble_eq_true rfl⟩ (fun r_1 hr_1 => ?_)
  refine z_ifeqB hx hb hr_1 (tgt := 21) dX3_needSlot_7 (by decide) (fun c_2 => ?_) (fun c_2 => ?_)
  · skip
    exact absurd h c_2
  · skip
    rw [← hQ]
    obtain ⟨sa, hsa⟩ := hE.2.2.2.2 (279, "there is no such slot") (by decide)
    exact vx_throwSW (cls := XO) (text := "there is no such slot") (names := xNames) (ik := 274) (is := 279) (ic := 278) (sa := sa) (A := fun q => n0 ≤ q) hx hb hl0 hown (by decide +kernel) (by decide +kernel) (hts (.classLink RX3 274 XO) (by decide +kernel)) (hts (.initialized XO) (by decide +kernel)) hsa (vx_hat (fun w hw => hts w (by first | exact List.mem_cons_of_mem _ (List.mem_append_right _ hw) | exact List.mem_cons_of_mem _ (List.mem_append_left _ (List.mem_append_right _ hw)) | exact List.mem_cons_of_mem _ (List.mem_append_left _ (List.mem_append_left _ (List.mem_append_right _ hw))))) xc_O (vx_c (va_Nw.use rfl hE.2.2.1.1) (vx_c (va_Nw.use rfl hE.2.2.2.1.1) (vx_c (va_Nw.use rfl hE.2.2.2.1.2.1) (vx_c (va_Nw.use rfl hE.2.2.2.1.2.2) vx_n))))) (by decide +kernel) hE.1 hE.2.1 va_S.rf (hl.1.trans hml.symm) dX3_needSlot_10 dX3_needSlot_13 dX3_needSlot_14 dX3_needSlot_17 dX3_needSlot_20 (fun x hx9 => (ht x hx9).elim) (Nat.le_of_ble_eq_true rfl) (Nat.le_of_ble_eq_true rfl) (Nat.le_of_ble_eq_true rfl) (Nat.le_of_ble_eq_true rfl) hlocks (fun t _ h1 h2 => ⟨rfl, h1, h2⟩) (fun _ h => nomatch h) (Nat.le_refl _) (Nat.le_refl _)

abbrev tX3_needCell : Room := { frames := 6, cells := 1, slots := 6, locals := 82 }
set_option maxHeartbeats 4000000 in
set_option maxRecDepth 100000 in
theorem x_X3_needCell (l : Launch) (hl0 : l.stackTraces = false) (n0 : Nat) (dC : Nat → ClassId) (dI : Nat → Nat → Nat) (x : Int32) (h : x < 0 ∨ ¬ x ≤ 12) : zTh l yX3_needCell wsX3_needCell tX3_needCell n0 (dC, dI) [.int x] [] [] XO := by
  refine zTh_of (cc := cX3_needCell) (maxL := 1) (by decide) rfl (Nat.le_of_ble_eq_true rfl) ?_
  intro p e s m args below meth cd ls hat hP hK hE ht hlocks
  obtain ⟨hx, hb, hml, hown, hts, hl⟩ := hat
  replace hown : s.vm.findClass RX3 = some m.cls := hown
  replace hl : lv_has ls 1 [(0, .int x)] := hl
  replace hP : va_P (dC, dI) vwCl [] s.heap := hP
  generalize hQ : vx_MQ below zQF (zTX XO) args s 1 6 (fun _ => False) = Q
  refine lv_iload_n hx hb dX3_needCell_0 rfl (lv_at hl 0 rfl) ?_
  refine lv_iconst (v := 0) hx hb dX3_needCell_1 (by decide) ?_
  refine lv_bipush (v := 12) hx hb dX3_needCell_2 (by decide) ?_
  refine z_cSi (As := [.int x, .int 0, .int 12]) (rest := []) ⟨hx, hb, hml, hown, hts⟩ (k_X3_isOutside l dC dI x (0 : Int32) (12 : Int32)) (va_cwS 3 hts gX3_needCell_X3_isOutside rfl rfl rfl (by decide +kernel) ⟨Nat.le_of_ble_eq_true rfl, Nat.le_of_ble_eq_true rfl⟩) (hP.sub (ws' := []) [] rfl) (hK.sub (tys' := []) [] rfl) rfl hl.1 rfl (Nat.le_of_ble_eq_true rfl) dX3_needCell_4 ⟨Nat.le_of_ble_eq_true rfl, Nat.le_of_ble_eq_true rfl⟩ (fun r_1 hr_1 => ?_)
  refine z_ifeqB hx hb hr_1 (tgt := 21) dX3_needCell_7 (by decide) (fun c_2 => ?_) (fun c_2 => ?_)
  · skip
    exact absurd h c_2
  · skip
    rw [← hQ]
    obtain ⟨sa, hsa⟩ := hE.2.2.2.2 (281, "there is no such cell") (by decide)
    exact vx_throwSW (cls := XO) (text := "there is no such cell") (names := xNames) (ik := 274) (is := 281) (ic := 278) (sa := sa) (A := fun q => n0 ≤ q) hx hb hl0 hown (by decide +kernel) (by decide +kernel) (hts (.classLink RX3 274 XO) (by decide +kernel)) (hts (.initialized XO) (by decide +kernel)) hsa (vx_hat (fun w hw => hts w (by first | exact List.mem_cons_of_mem _ (List.mem_append_right _ hw) | exact List.mem_cons_of_mem _ (List.mem_append_left _ (List.mem_append_right _ hw)) | exact List.mem_cons_of_mem _ (List.mem_append_left _ (List.mem_append_left _ (List.mem_append_right _ hw))))) xc_O (vx_c (va_Nw.use rfl hE.2.2.1.1) (vx_c (va_Nw.use rfl hE.2.2.2.1.1) (vx_c (va_Nw.use rfl hE.2.2.2.1.2.1) (vx_c (va_Nw.use rfl hE.2.2.2.1.2.2) vx_n))))) (by decide +kernel) hE.1 hE.2.1 va_S.rf (hl.1.trans hml.symm) dX3_needCell_10 dX3_needCell_13 dX3_needCell_14 dX3_needCell_17 dX3_needCell_20 (fun x hx9 => (ht x hx9).elim) (Nat.le_of_ble_eq_true rfl) (Nat.le_of_ble_eq_true rfl) (Nat.le_of_ble_eq_true rfl) (Nat.le_of_ble_eq_true rfl) hlocks (fun t _ h1 h2 => ⟨rfl, h1, h2⟩) (fun _ h => nomatch h) (Nat.le_refl _) (Nat.le_refl _)

abbrev tX3_needSetting : Room := { frames := 6, cells := 1, slots := 6, locals := 82 }
set_option maxHeartbeats 4000000 in
set_option maxRecDepth 100000 in
theorem x_X3_needSetting (l : Launch) (hl0 : l.stackTraces = false) (n0 : Nat) (dC : Nat → ClassId) (dI : Nat → Nat → Nat) (x : Int32) (h : x < 0 ∨ ¬ x ≤ 1) : zTh l yX3_needSetting wsX3_needSetting tX3_needSetting n0 (dC, dI) [.int x] [] [] XO := by
  refine zTh_of (cc := cX3_needSetting) (maxL := 1) (by decide) rfl (Nat.le_of_ble_eq_true rfl) ?_
  intro p e s m args below meth cd ls hat hP hK hE ht hlocks
  obtain ⟨hx, hb, hml, hown, hts, hl⟩ := hat
  replace hown : s.vm.findClass RX3 = some m.cls := hown
  replace hl : lv_has ls 1 [(0, .int x)] := hl
  replace hP : va_P (dC, dI) vwCl [] s.heap := hP
  generalize hQ : vx_MQ below zQF (zTX XO) args s 1 6 (fun _ => False) = Q
  refine lv_iload_n hx hb dX3_needSetting_0 rfl (lv_at hl 0 rfl) ?_
  refine lv_iconst (v := 0) hx hb dX3_needSetting_1 (by decide) ?_
  refine lv_iconst (v := 1) hx hb dX3_needSetting_2 (by decide) ?_
  refine z_cSi (As := [.int x, .int 0, .int 1]) (rest := []) ⟨hx, hb, hml, hown, hts⟩ (k_X3_isOutside l dC dI x (0 : Int32) (1 : Int32)) (va_cwS 3 hts gX3_needSetting_X3_isOutside rfl rfl rfl (by decide +kernel) ⟨Nat.le_of_ble_eq_true rfl, Nat.le_of_ble_eq_true rfl⟩) (hP.sub (ws' := []) [] rfl) (hK.sub (tys' := []) [] rfl) rfl hl.1 rfl (Nat.le_of_ble_eq_true rfl) dX3_needSetting_3 ⟨Nat.le_of_ble_eq_true rfl, Nat.le_of_ble_eq_true rfl⟩ (fun r_1 hr_1 => ?_)
  refine z_ifeqB hx hb hr_1 (tgt := 20) dX3_needSetting_6 (by decide) (fun c_2 => ?_) (fun c_2 => ?_)
  · skip
    exact absurd h c_2
  · skip
    rw [← hQ]
    obtain ⟨sa, hsa⟩ := hE.2.2.2.2 (283, "there is no such setting") (by decide)
    exact vx_throwSW (cls := XO) (text := "there is no such setting") (names := xNames) (ik := 274) (is := 283) (ic := 278) (sa := sa) (A := fun q => n0 ≤ q) hx hb hl0 hown (by decide +kernel) (by decide +kernel) (hts (.classLink RX3 274 XO) (by decide +kernel)) (hts (.initialized XO) (by decide +kernel)) hsa (vx_hat (fun w hw => hts w (by first | exact List.mem_cons_of_mem _ (List.mem_append_right _ hw) | exact List.mem_cons_of_mem _ (List.mem_append_left _ (List.mem_append_right _ hw)) | exact List.mem_cons_of_mem _ (List.mem_append_left _ (List.mem_append_left _ (List.mem_append_right _ hw))))) xc_O (vx_c (va_Nw.use rfl hE.2.2.1.1) (vx_c (va_Nw.use rfl hE.2.2.2.1.1) (vx_c (va_Nw.use rfl hE.2.2.2.1.2.1) (vx_c (va_Nw.use rfl hE.2.2.2.1.2.2) vx_n))))) (by decide +kernel) hE.1 hE.2.1 va_S.rf (hl.1.trans hml.symm) dX3_needSetting_9 dX3_needSetting_12 dX3_needSetting_13 dX3_needSetting_16 dX3_needSetting_19 (fun x hx9 => (ht x hx9).elim) (Nat.le_of_ble_eq_true rfl) (Nat.le_of_ble_eq_true rfl) (Nat.le_of_ble_eq_true rfl) (Nat.le_of_ble_eq_true rfl) hlocks (fun t _ h1 h2 => ⟨rfl, h1, h2⟩) (fun _ h => nomatch h) (Nat.le_refl _) (Nat.le_refl _)

abbrev tX3_needNumber : Room := { frames := 6, cells := 1, slots := 6, locals := 82 }
set_option maxHeartbeats 4000000 in
set_option maxRecDepth 100000 in
theorem x_X3_needNumber (l : Launch) (hl0 : l.stackTraces = false) (n0 : Nat) (dC : Nat → ClassId) (dI : Nat → Nat → Nat) (x : Int32) (h : x < 0 ∨ ¬ x ≤ 4095) : zTh l yX3_needNumber wsX3_needNumber tX3_needNumber n0 (dC, dI) [.int x] [] [] XA := by
  refine zTh_of (cc := cX3_needNumber) (maxL := 1) (by decide) rfl (Nat.le_of_ble_eq_true rfl) ?_
  intro p e s m args below meth cd ls hat hP hK hE ht hlocks
  obtain ⟨hx, hb, hml, hown, hts, hl⟩ := hat
  replace hown : s.vm.findClass RX3 = some m.cls := hown
  replace hl : lv_has ls 1 [(0, .int x)] := hl
  replace hP : va_P (dC, dI) vwCl [] s.heap := hP
  generalize hQ : vx_MQ below zQF (zTX XA) args s 1 6 (fun _ => False) = Q
  refine lv_iload_n hx hb dX3_needNumber_0 rfl (lv_at hl 0 rfl) ?_
  refine lv_iconst (v := 0) hx hb dX3_needNumber_1 (by decide) ?_
  refine lv_sipush (v := 4095) hx hb dX3_needNumber_2 (by decide) ?_
  refine z_cSi (As := [.int x, .int 0, .int 4095]) (rest := []) ⟨hx, hb, hml, hown, hts⟩ (k_X3_isOutside l dC dI x (0 : Int32) (4095 : Int32)) (va_cwS 3 hts gX3_needNumber_X3_isOutside rfl rfl rfl (by decide +kernel) ⟨Nat.le_of_ble_eq_true rfl, Nat.le_of_ble_eq_true rfl⟩) (hP.sub (ws' := []) [] rfl) (hK.sub (tys' := []) [] rfl) rfl hl.1 rfl (Nat.le_of_ble_eq_true rfl) dX3_needNumber_5 ⟨Nat.le_of_ble_eq_true rfl, Nat.le_of_ble_eq_true rfl⟩ (fun r_1 hr_1 => ?_)
  refine z_ifeqB hx hb hr_1 (tgt := 22) dX3_needNumber_8 (by decide) (fun c_2 => ?_) (fun c_2 => ?_)
  · skip
    exact absurd h c_2
  · skip
    rw [← hQ]
    obtain ⟨sa, hsa⟩ := hE.2.2.2.2 (285, "number is out of range") (by decide)
    exact vx_throwSW (cls := XA) (text := "number is out of range") (names := xNames) (ik := 63) (is := 285) (ic := 67) (sa := sa) (A := fun q => n0 ≤ q) hx hb hl0 hown (by decide +kernel) (by decide +kernel) (hts (.classLink RX3 63 XA) (by decide +kernel)) (hts (.initialized XA) (by decide +kernel)) hsa (vx_hat (fun w hw => hts w (by first | exact List.mem_cons_of_mem _ (List.mem_append_right _ hw) | exact List.mem_cons_of_mem _ (List.mem_append_left _ (List.mem_append_right _ hw)) | exact List.mem_cons_of_mem _ (List.mem_append_left _ (List.mem_append_left _ (List.mem_append_right _ hw))))) xc_A (vx_c (va_Nw.use rfl hE.2.2.1.2.1) (vx_c (va_Nw.use rfl hE.2.2.2.1.1) (vx_c (va_Nw.use rfl hE.2.2.2.1.2.1) (vx_c (va_Nw.use rfl hE.2.2.2.1.2.2) vx_n))))) (by decide +kernel) hE.1 hE.2.1 va_S.rf (hl.1.trans hml.symm) dX3_needNumber_11 dX3_needNumber_14 dX3_needNumber_15 dX3_needNumber_18 dX3_needNumber_21 (fun x hx9 => (ht x hx9).elim) (Nat.le_of_ble_eq_true rfl) (Nat.le_of_ble_eq_true rfl) (Nat.le_of_ble_eq_true rfl) (Nat.le_of_ble_eq_true rfl) hlocks (fun t _ h1 h2 => ⟨rfl, h1, h2⟩) (fun _ h => nomatch h) (Nat.le_refl _) (Nat.le_refl _)

abbrev tX3_needWhat : Room := { frames := 6, cells := 1, slots := 6, locals := 82 }
set_option maxHeartbeats 4000000 in
set_option maxRecDepth 100000 in
theorem x_X3_needWhat (l : Launch) (hl0 : l.stackTraces = false) (n0 : Nat) (dC : Nat → ClassId) (dI : Nat → Nat → Nat) (x : Int32) (b : Int32) (h : x < 0 ∨ ¬ x ≤ b - 1) : zTh l yX3_needWhat wsX3_needWhat tX3_needWhat n0 (dC, dI) [.int x, .int b] [] [] XA := by
  refine zTh_of (cc := cX3_needWhat) (maxL := 2) (by decide) rfl (Nat.le_of_ble_eq_true rfl) ?_
  intro p e s m args below meth cd ls hat hP hK hE ht hlocks
  obtain ⟨hx, hb, hml, hown, hts, hl⟩ := hat
  replace hown : s.vm.findClass RX3 = some m.cls := hown
  replace hl : lv_has ls 2 [(0, .int x), (1, .int b)] := hl
  replace hP : va_P (dC, dI) vwCl [] s.heap := hP
  generalize hQ : vx_MQ below zQF (zTX XA) args s 1 6 (fun _ => False) = Q
  refine lv_iload_n hx hb dX3_needWhat_0 rfl (lv_at hl 0 rfl) ?_
  refine lv_iconst (v := 0) hx hb dX3_needWhat_1 (by decide) ?_
  refine lv_iload_n hx hb dX3_needWhat_2 rfl (lv_at hl 1 rfl) ?_
  refine lv_iconst (v := 1) hx hb dX3_needWhat_3 (by decide) ?_
  refine lv_isub hx hb dX3_needWhat_4 ?_
  refine z_cSi (As := [.int x, .int 0, .int (b - 1)]) (rest := []) ⟨hx, hb, hml, hown, hts⟩ (k_X3_isOutside l dC dI x (0 : Int32) (b - 1)) (va_cwS 3 hts gX3_needWhat_X3_isOutside rfl rfl rfl (by decide +kernel) ⟨Nat.le_of_ble_eq_true rfl, Nat.le_of_ble_eq_true rfl⟩) (hP.sub (ws' := []) [] rfl) (hK.sub (tys' := []) [] rfl) rfl hl.1 rfl (Nat.le_of_ble_eq_true rfl) dX3_needWhat_5 ⟨Nat.le_of_ble_eq_true rfl, Nat.le_of_ble_eq_true rfl⟩ (fun r_1 hr_1 => ?_)
  refine z_ifeqB hx hb hr_1 (tgt := 22) dX3_needWhat_8 (by decide) (fun c_2 => ?_) (fun c_2 => ?_)
  · skip
    exact absurd h c_2
  · skip
    rw [← hQ]
    obtain ⟨sa, hsa⟩ := hE.2.2.2.2 (287, "what is out of range") (by decide)
    exact vx_throwSW (cls := XA) (text := "what is out of range") (names := xNames) (ik := 63) (is := 287) (ic := 67) (sa := sa) (A := fun q => n0 ≤ q) hx hb hl0 hown (by decide +kernel) (by decide +kernel) (hts (.classLink RX3 63 XA) (by decide +kernel)) (hts (.initialized XA) (by decide +kernel)) hsa (vx_hat (fun w hw => hts w (by first | exact List.mem_cons_of_mem _ (List.mem_append_right _ hw) | exact List.mem_cons_of_mem _ (List.mem_append_left _ (List.mem_append_right _ hw)) | exact List.mem_cons_of_mem _ (List.mem_append_left _ (List.mem_append_left _ (List.mem_append_right _ hw))))) xc_A (vx_c (va_Nw.use rfl hE.2.2.1.2.1) (vx_c (va_Nw.use rfl hE.2.2.2.1.1) (vx_c (va_Nw.use rfl hE.2.2.2.1.2.1) (vx_c (va_Nw.use rfl hE.2.2.2.1.2.2) vx_n))))) (by decide +kernel) hE.1 hE.2.1 va_S.rf (hl.1.trans hml.symm) dX3_needWhat_11 dX3_needWhat_14 dX3_needWhat_15 dX3_needWhat_18 dX3_needWhat_21 (fun x hx9 => (ht x hx9).elim) (Nat.le_of_ble_eq_true rfl) (Nat.le_of_ble_eq_true rfl) (Nat.le_of_ble_eq_true rfl) (Nat.le_of_ble_eq_true rfl) hlocks (fun t _ h1 h2 => ⟨rfl, h1, h2⟩) (fun _ h => nomatch h) (Nat.le_refl _) (Nat.le_refl _)
