abbrev tX3_write_O : Room := { frames := 8, cells := 1, slots := 6, locals := 102 }
set_option maxHeartbeats 4000000 in
set_option maxRecDepth 100000 in
theorem x_X3_write_O (l : Launch) (hl0 : l.stackTraces = false) (n0 : Nat) (dC : Nat → ClassId) (dI : Nat → Nat → Nat) (c0 : Nat) (ad ae ah ax : Nat → Nat) (ar : Nat → Nat → Nat) (cI cS : ClassId) (σ τ : zS) (o n : Nat) (ho : o < 6) (hn : n ≤ 6) (hs : Nat → zS) (ω : zT) (hok : zok σ) (x y : Int32) (h : x < 0 ∨ ¬ x ≤ 15) : zTh l yX3_write wsX3_write tX3_write_O n0 (dC, dI) [.ref c0, .int x, .int y] (zCW c0 ad ae ah ax ar cI cS σ τ o n hs ω) [(cI, .int), (cS, .object RX1)] XO := by
  refine zTh_of (cc := cX3_write) (maxL := 4) (by decide) rfl (Nat.le_of_ble_eq_true rfl) ?_
  intro p e s m args below meth cd ls hat hP hK hE ht hlocks
  obtain ⟨hx, hb, hml, hown, hts, hl⟩ := hat
  replace hown : s.vm.findClass RX3 = some m.cls := hown
  replace hl : lv_has ls 4 [(0, .ref c0), (1, .int x), (2, .int y)] := hl
  replace hP : va_P (dC, dI) vwCl (zCo c0 ad ae ah ax ++ (zW ad cI σ ++ (zW ae cI τ ++ (zHW ah ar cI cS o n hs ++ zTW ax cI ω)))) s.heap := hP
  generalize hQ : vx_MQ below zQF (zTX XO) args s 1 6 (fun _ => False) = Q
  refine lv_iload_n hx hb dX3_write_0 rfl (lv_at hl 1 rfl) ?_
  rw [← hQ]
  exact z_tS (As := [.int x]) (rest := []) ⟨hx, hb, hml, hown, hts⟩ (x_X3_needWord l hl0 n0 dC dI x h) (va_cwS 1 hts gX3_write_X3_needWord rfl rfl rfl (by decide +kernel) ⟨Nat.le_of_ble_eq_true rfl, Nat.le_of_ble_eq_true rfl⟩) (hP.sub (ws' := []) [] rfl) (hK.sub (tys' := []) [] rfl) hE rfl hl.1 rfl (Nat.le_of_ble_eq_true rfl) dX3_write_1 ⟨Nat.le_of_ble_eq_true rfl, Nat.le_of_ble_eq_true rfl⟩ ht hlocks

abbrev tX3_write_A : Room := { frames := 8, cells := 1, slots := 6, locals := 102 }
set_option maxHeartbeats 4000000 in
set_option maxRecDepth 100000 in
theorem x_X3_write_A (l : Launch) (hl0 : l.stackTraces = false) (n0 : Nat) (dC : Nat → ClassId) (dI : Nat → Nat → Nat) (c0 : Nat) (ad ae ah ax : Nat → Nat) (ar : Nat → Nat → Nat) (cI cS : ClassId) (σ τ : zS) (o n : Nat) (ho : o < 6) (hn : n ≤ 6) (hs : Nat → zS) (ω : zT) (hok : zok σ) (j : Nat) (hj : j < 16) (y : Int32) (h : y < 0 ∨ ¬ y ≤ 4095) : zTh l yX3_write wsX3_write tX3_write_A n0 (dC, dI) [.ref c0, .int (nI j), .int y] (zCW c0 ad ae ah ax ar cI cS σ τ o n hs ω) [(cI, .int), (cS, .object RX1)] XA := by
  refine zTh_of (cc := cX3_write) (maxL := 4) (by decide) rfl (Nat.le_of_ble_eq_true rfl) ?_
  intro p e s m args below meth cd ls hat hP hK hE ht hlocks
  obtain ⟨hx, hb, hml, hown, hts, hl⟩ := hat
  replace hown : s.vm.findClass RX3 = some m.cls := hown
  replace hl : lv_has ls 4 [(0, .ref c0), (1, .int (nI j)), (2, .int y)] := hl
  replace hP : va_P (dC, dI) vwCl (zCo c0 ad ae ah ax ++ (zW ad cI σ ++ (zW ae cI τ ++ (zHW ah ar cI cS o n hs ++ zTW ax cI ω)))) s.heap := hP
  generalize hQ : vx_MQ below zQF (zTX XA) args s 1 6 (fun _ => False) = Q
  refine lv_iload_n hx hb dX3_write_0 rfl (lv_at hl 1 rfl) ?_
  refine z_cSv (As := [.int (nI j)]) (rest := []) ⟨hx, hb, hml, hown, hts⟩ (k_X3_needWord l dC dI (nI j) (nI_io (b := 15) (by omega) (by decide))) (va_cwS 1 hts gX3_write_X3_needWord rfl rfl rfl (by decide +kernel) ⟨Nat.le_of_ble_eq_true rfl, Nat.le_of_ble_eq_true rfl⟩) (hP.sub (ws' := []) [] rfl) (hK.sub (tys' := []) [] rfl) rfl hl.1 rfl (Nat.le_of_ble_eq_true rfl) dX3_write_1 ⟨Nat.le_of_ble_eq_true rfl, Nat.le_of_ble_eq_true rfl⟩ ?_
  refine lv_iload_n hx hb dX3_write_4 rfl (lv_at hl 2 rfl) ?_
  rw [← hQ]
  exact z_tS (As := [.int y]) (rest := []) ⟨hx, hb, hml, hown, hts⟩ (x_X3_needNumber l hl0 n0 dC dI y h) (va_cwS 1 hts gX3_write_X3_needNumber rfl rfl rfl (by decide +kernel) ⟨Nat.le_of_ble_eq_true rfl, Nat.le_of_ble_eq_true rfl⟩) (hP.sub (ws' := []) [] rfl) (hK.sub (tys' := []) [] rfl) hE rfl hl.1 rfl (Nat.le_of_ble_eq_true rfl) dX3_write_5 ⟨Nat.le_of_ble_eq_true rfl, Nat.le_of_ble_eq_true rfl⟩ ht hlocks

abbrev tX3_write_T : Room := { frames := 6, cells := 1, slots := 6, locals := 101 }
set_option maxHeartbeats 4000000 in
set_option maxRecDepth 100000 in
theorem x_X3_write_T (l : Launch) (hl0 : l.stackTraces = false) (n0 : Nat) (dC : Nat → ClassId) (dI : Nat → Nat → Nat) (c0 : Nat) (ad ae ah ax : Nat → Nat) (ar : Nat → Nat → Nat) (cI cS : ClassId) (σ τ : zS) (o n : Nat) (ho : o < 6) (hn : n ≤ 6) (hs : Nat → zS) (ω : zT) (hok : zok σ) (j : Nat) (hj : j < 16) (v : Nat) (hv : v < 4096) (hY : ptg σ j (nI v) = none) : zTh l yX3_write wsX3_write tX3_write_T n0 (dC, dI) [.ref c0, .int (nI j), .int (nI v)] (zCW c0 ad ae ah ax ar cI cS σ τ o n hs ω) [(cI, .int), (cS, .object RX1)] XT := by
  refine zTh_of (cc := cX3_write) (maxL := 4) (by decide) rfl (Nat.le_of_ble_eq_true rfl) ?_
  intro p e s m args below meth cd ls hat hP hK hE ht hlocks
  obtain ⟨hx, hb, hml, hown, hts, hl⟩ := hat
  replace hown : s.vm.findClass RX3 = some m.cls := hown
  replace hl : lv_has ls 4 [(0, .ref c0), (1, .int (nI j)), (2, .int (nI v))] := hl
  replace hP : va_P (dC, dI) vwCl (zCo c0 ad ae ah ax ++ (zW ad cI σ ++ (zW ae cI τ ++ (zHW ah ar cI cS o n hs ++ zTW ax cI ω)))) s.heap := hP
  generalize hQ : vx_MQ below zQF (zTX XT) args s 1 6 (fun _ => False) = Q
  have hf10 := hts (.fieldLink RX3 10 "InsideOutWords" "now" "LInsideOutWords$State;") (by decide +kernel)
  have hnX3 : ∀ w ∈ u_ws RX3 TX3 4, w ∈ wsX3_write := by decide +kernel
  refine lv_iload_n hx hb dX3_write_0 rfl (lv_at hl 1 rfl) ?_
  refine z_cSv (As := [.int (nI j)]) (rest := []) ⟨hx, hb, hml, hown, hts⟩ (k_X3_needWord l dC dI (nI j) (nI_io (b := 15) (by omega) (by decide))) (va_cwS 1 hts gX3_write_X3_needWord rfl rfl rfl (by decide +kernel) ⟨Nat.le_of_ble_eq_true rfl, Nat.le_of_ble_eq_true rfl⟩) (hP.sub (ws' := []) [] rfl) (hK.sub (tys' := []) [] rfl) rfl hl.1 rfl (Nat.le_of_ble_eq_true rfl) dX3_write_1 ⟨Nat.le_of_ble_eq_true rfl, Nat.le_of_ble_eq_true rfl⟩ ?_
  refine lv_iload_n hx hb dX3_write_4 rfl (lv_at hl 2 rfl) ?_
  refine z_cSv (As := [.int (nI v)]) (rest := []) ⟨hx, hb, hml, hown, hts⟩ (k_X3_needNumber l dC dI (nI v) (nI_io (b := 4095) (by omega) (by decide))) (va_cwS 1 hts gX3_write_X3_needNumber rfl rfl rfl (by decide +kernel) ⟨Nat.le_of_ble_eq_true rfl, Nat.le_of_ble_eq_true rfl⟩) (hP.sub (ws' := []) [] rfl) (hK.sub (tys' := []) [] rfl) rfl hl.1 rfl (Nat.le_of_ble_eq_true rfl) dX3_write_5 ⟨Nat.le_of_ble_eq_true rfl, Nat.le_of_ble_eq_true rfl⟩ ?_
  refine lv_aload_n hx hb dX3_write_8 rfl (lv_at hl 0 rfl) ?_
  refine va_get (D := (dC, dI)) (ci := 3) (v := .ref (ad 0)) (C := RX3) (T := TX3) (N := 4) hx hb hts hnX3 hown hK hP 0 rfl rfl 0 (by decide) hf10 (fun _ h9 => h9) rfl dX3_write_9 ?_
  refine lv_iload_n hx hb dX3_write_12 rfl (lv_at hl 1 rfl) ?_
  refine lv_iload_n hx hb dX3_write_13 rfl (lv_at hl 2 rfl) ?_
  refine z_cVi (As := [.int (nI j), .int (nI v)]) (rest := []) ⟨hx, hb, hml, hown, hts⟩ (k_X1_targetOf l dC dI ad cI σ hok j (by omega) (nI v)) (cwV 2 hts gX3_write_X1_targetOf rfl rfl rfl (by decide +kernel) ⟨Nat.le_of_ble_eq_true rfl, Nat.le_of_ble_eq_true rfl⟩) (va_recv hK hP (ci := 1) (q0 := 1) rfl rfl) (hP.sub (ws' := zW ad cI σ) [1, 2, 3, 4, 5, 6, 7, 8, 9] rfl) (hK.sub (tys' := [(cI, .int)]) [0] rfl) rfl hl.1 rfl (Nat.le_of_ble_eq_true rfl) dX3_write_14 ⟨Nat.le_of_ble_eq_true rfl, Nat.le_of_ble_eq_true rfl⟩ (fun r_1 hr_1 => ?_)
  obtain ⟨o_2, eo_2⟩ : ∃ zz : Option Nat, zz = ptg σ j (nI v) := ⟨_, rfl⟩
  rw [← eo_2] at hr_1
  subst hr_1
  have hbo_2 : ∀ i, o_2 = some i → i < 18 := by rw [eo_2]; exact ptg_lt (hok _ (by omega))
  refine lv_istore_n (lv' := [(3, .int (zo o_2)), (0, .ref c0), (1, .int (nI j)), (2, .int (nI v))]) hx hb dX3_write_17 rfl hl (by decide) rfl (fun ls hl => ?_)
  refine lv_iload_n hx hb dX3_write_18 rfl (lv_at hl 0 rfl) ?_
  refine lv_iconst (v := (-1)) hx hb dX3_write_19 (by decide) ?_
  refine z_neO hx hb o_2 (fun i hi => Nat.lt_of_lt_of_le (hbo_2 i hi) (by decide)) (tgt := 33) dX3_write_20 (by decide) (fun k_3 ho_3 => ?_) (fun ho_3 => ?_)
  · skip
    have hE_3 := eo_2.symm.trans ho_3
    have hkb_3 := hbo_2 _ ho_3
    try rw [ho_3] at hl
    try rw [ho_3]
    replace hl : lv_has ls 4 [(3, .int (nI k_3)), (0, .ref c0), (1, .int (nI j)), (2, .int (nI v))] := hl
    exact absurd (hY.symm.trans hE_3) (fun z => nomatch z)
  · skip
    have hE_3 := eo_2.symm.trans ho_3
    try rw [ho_3] at hl
    try rw [ho_3]
    replace hl : lv_has ls 4 [(3, .int (-1)), (0, .ref c0), (1, .int (nI j)), (2, .int (nI v))] := hl
    rw [← hQ]
    obtain ⟨sa, hsa⟩ := hE.2.2.2.2 (46, "the write is refused") (by decide)
    exact vx_throwS (cls := XT) (text := "the write is refused") (names := xNames) (ik := 44) (is := 46) (ic := 48) (sa := sa) (A := fun q => n0 ≤ q) hx hb hl0 hown (by decide +kernel) (by decide +kernel) (hts (.classLink RX3 44 XT) (by decide +kernel)) (hts (.initialized XT) (by decide +kernel)) hsa (vx_hat (fun w hw => hts w (by first | exact List.mem_cons_of_mem _ (List.mem_append_right _ hw) | exact List.mem_cons_of_mem _ (List.mem_append_left _ (List.mem_append_right _ hw)) | exact List.mem_cons_of_mem _ (List.mem_append_left _ (List.mem_append_left _ (List.mem_append_right _ hw))))) xc_T (vx_c (va_Nw.use rfl hE.2.2.1.2.2) (vx_c (va_Nw.use rfl hE.2.2.2.1.1) (vx_c (va_Nw.use rfl hE.2.2.2.1.2.1) (vx_c (va_Nw.use rfl hE.2.2.2.1.2.2) vx_n))))) (by decide +kernel) hE.1 hE.2.1 va_S.rf (hl.1.trans hml.symm) dX3_write_23 dX3_write_26 dX3_write_27 dX3_write_29 dX3_write_32 (fun x hx9 => (ht x hx9).elim) (Nat.le_of_ble_eq_true rfl) (Nat.le_of_ble_eq_true rfl) (Nat.le_of_ble_eq_true rfl) (Nat.le_of_ble_eq_true rfl) hlocks (fun t _ h1 h2 => ⟨rfl, h1, h2⟩) (fun _ h => nomatch h) (Nat.le_refl _) (Nat.le_refl _)

abbrev tX3_hammer_O : Room := { frames := 8, cells := 1, slots := 6, locals := 102 }
set_option maxHeartbeats 4000000 in
set_option maxRecDepth 100000 in
theorem x_X3_hammer_O (l : Launch) (hl0 : l.stackTraces = false) (n0 : Nat) (dC : Nat → ClassId) (dI : Nat → Nat → Nat) (c0 : Nat) (ad ae ah ax : Nat → Nat) (ar : Nat → Nat → Nat) (cI cS : ClassId) (σ τ : zS) (o n : Nat) (ho : o < 6) (hn : n ≤ 6) (hs : Nat → zS) (ω : zT) (hok : zok σ) (x y z : Int32) (h : x < 0 ∨ ¬ x ≤ 15) : zTh l yX3_hammer wsX3_hammer tX3_hammer_O n0 (dC, dI) [.ref c0, .int x, .int y, .int z] (zCW c0 ad ae ah ax ar cI cS σ τ o n hs ω) [(cI, .int), (cS, .object RX1)] XO := by
  refine zTh_of (cc := cX3_hammer) (maxL := 4) (by decide) rfl (Nat.le_of_ble_eq_true rfl) ?_
  intro p e s m args below meth cd ls hat hP hK hE ht hlocks
  obtain ⟨hx, hb, hml, hown, hts, hl⟩ := hat
  replace hown : s.vm.findClass RX3 = some m.cls := hown
  replace hl : lv_has ls 4 [(0, .ref c0), (1, .int x), (2, .int y), (3, .int z)] := hl
  replace hP : va_P (dC, dI) vwCl (zCo c0 ad ae ah ax ++ (zW ad cI σ ++ (zW ae cI τ ++ (zHW ah ar cI cS o n hs ++ zTW ax cI ω)))) s.heap := hP
  generalize hQ : vx_MQ below zQF (zTX XO) args s 1 6 (fun _ => False) = Q
  refine lv_iload_n hx hb dX3_hammer_0 rfl (lv_at hl 1 rfl) ?_
  rw [← hQ]
  exact z_tS (As := [.int x]) (rest := []) ⟨hx, hb, hml, hown, hts⟩ (x_X3_needWord l hl0 n0 dC dI x h) (va_cwS 1 hts gX3_hammer_X3_needWord rfl rfl rfl (by decide +kernel) ⟨Nat.le_of_ble_eq_true rfl, Nat.le_of_ble_eq_true rfl⟩) (hP.sub (ws' := []) [] rfl) (hK.sub (tys' := []) [] rfl) hE rfl hl.1 rfl (Nat.le_of_ble_eq_true rfl) dX3_hammer_1 ⟨Nat.le_of_ble_eq_true rfl, Nat.le_of_ble_eq_true rfl⟩ ht hlocks

abbrev tX3_hammer_A : Room := { frames := 8, cells := 1, slots := 6, locals := 102 }
set_option maxHeartbeats 4000000 in
set_option maxRecDepth 100000 in
theorem x_X3_hammer_A (l : Launch) (hl0 : l.stackTraces = false) (n0 : Nat) (dC : Nat → ClassId) (dI : Nat → Nat → Nat) (c0 : Nat) (ad ae ah ax : Nat → Nat) (ar : Nat → Nat → Nat) (cI cS : ClassId) (σ τ : zS) (o n : Nat) (ho : o < 6) (hn : n ≤ 6) (hs : Nat → zS) (ω : zT) (hok : zok σ) (j : Nat) (hj : j < 16) (y z : Int32) (h : y < 0 ∨ ¬ y ≤ 4095) : zTh l yX3_hammer wsX3_hammer tX3_hammer_A n0 (dC, dI) [.ref c0, .int (nI j), .int y, .int z] (zCW c0 ad ae ah ax ar cI cS σ τ o n hs ω) [(cI, .int), (cS, .object RX1)] XA := by
  refine zTh_of (cc := cX3_hammer) (maxL := 4) (by decide) rfl (Nat.le_of_ble_eq_true rfl) ?_
  intro p e s m args below meth cd ls hat hP hK hE ht hlocks
  obtain ⟨hx, hb, hml, hown, hts, hl⟩ := hat
  replace hown : s.vm.findClass RX3 = some m.cls := hown
  replace hl : lv_has ls 4 [(0, .ref c0), (1, .int (nI j)), (2, .int y), (3, .int z)] := hl
  replace hP : va_P (dC, dI) vwCl (zCo c0 ad ae ah ax ++ (zW ad cI σ ++ (zW ae cI τ ++ (zHW ah ar cI cS o n hs ++ zTW ax cI ω)))) s.heap := hP
  generalize hQ : vx_MQ below zQF (zTX XA) args s 1 6 (fun _ => False) = Q
  refine lv_iload_n hx hb dX3_hammer_0 rfl (lv_at hl 1 rfl) ?_
  refine z_cSv (As := [.int (nI j)]) (rest := []) ⟨hx, hb, hml, hown, hts⟩ (k_X3_needWord l dC dI (nI j) (nI_io (b := 15) (by omega) (by decide))) (va_cwS 1 hts gX3_hammer_X3_needWord rfl rfl rfl (by decide +kernel) ⟨Nat.le_of_ble_eq_true rfl, Nat.le_of_ble_eq_true rfl⟩) (hP.sub (ws' := []) [] rfl) (hK.sub (tys' := []) [] rfl) rfl hl.1 rfl (Nat.le_of_ble_eq_true rfl) dX3_hammer_1 ⟨Nat.le_of_ble_eq_true rfl, Nat.le_of_ble_eq_true rfl⟩ ?_
  refine lv_iload_n hx hb dX3_hammer_4 rfl (lv_at hl 2 rfl) ?_
  rw [← hQ]
  exact z_tS (As := [.int y]) (rest := []) ⟨hx, hb, hml, hown, hts⟩ (x_X3_needNumber l hl0 n0 dC dI y h) (va_cwS 1 hts gX3_hammer_X3_needNumber rfl rfl rfl (by decide +kernel) ⟨Nat.le_of_ble_eq_true rfl, Nat.le_of_ble_eq_true rfl⟩) (hP.sub (ws' := []) [] rfl) (hK.sub (tys' := []) [] rfl) hE rfl hl.1 rfl (Nat.le_of_ble_eq_true rfl) dX3_hammer_5 ⟨Nat.le_of_ble_eq_true rfl, Nat.le_of_ble_eq_true rfl⟩ ht hlocks

abbrev tX3_hammer_B : Room := { frames := 6, cells := 1, slots := 6, locals := 82 }
set_option maxHeartbeats 4000000 in
set_option maxRecDepth 100000 in
theorem x_X3_hammer_B (l : Launch) (hl0 : l.stackTraces = false) (n0 : Nat) (dC : Nat → ClassId) (dI : Nat → Nat → Nat) (c0 : Nat) (ad ae ah ax : Nat → Nat) (ar : Nat → Nat → Nat) (cI cS : ClassId) (σ τ : zS) (o n : Nat) (ho : o < 6) (hn : n ≤ 6) (hs : Nat → zS) (ω : zT) (hok : zok σ) (j : Nat) (hj : j < 16) (v : Nat) (hv : v < 4096) (z : Int32) (h : z < 1 ∨ ¬ z ≤ 500) : zTh l yX3_hammer wsX3_hammer tX3_hammer_B n0 (dC, dI) [.ref c0, .int (nI j), .int (nI v), .int z] (zCW c0 ad ae ah ax ar cI cS σ τ o n hs ω) [(cI, .int), (cS, .object RX1)] XA := by
  refine zTh_of (cc := cX3_hammer) (maxL := 4) (by decide) rfl (Nat.le_of_ble_eq_true rfl) ?_
  intro p e s m args below meth cd ls hat hP hK hE ht hlocks
  obtain ⟨hx, hb, hml, hown, hts, hl⟩ := hat
  replace hown : s.vm.findClass RX3 = some m.cls := hown
  replace hl : lv_has ls 4 [(0, .ref c0), (1, .int (nI j)), (2, .int (nI v)), (3, .int z)] := hl
  replace hP : va_P (dC, dI) vwCl (zCo c0 ad ae ah ax ++ (zW ad cI σ ++ (zW ae cI τ ++ (zHW ah ar cI cS o n hs ++ zTW ax cI ω)))) s.heap := hP
  generalize hQ : vx_MQ below zQF (zTX XA) args s 1 6 (fun _ => False) = Q
  refine lv_iload_n hx hb dX3_hammer_0 rfl (lv_at hl 1 rfl) ?_
  refine z_cSv (As := [.int (nI j)]) (rest := []) ⟨hx, hb, hml, hown, hts⟩ (k_X3_needWord l dC dI (nI j) (nI_io (b := 15) (by omega) (by decide))) (va_cwS 1 hts gX3_hammer_X3_needWord rfl rfl rfl (by decide +kernel) ⟨Nat.le_of_ble_eq_true rfl, Nat.le_of_ble_eq_true rfl⟩) (hP.sub (ws' := []) [] rfl) (hK.sub (tys' := []) [] rfl) rfl hl.1 rfl (Nat.le_of_ble_eq_true rfl) dX3_hammer_1 ⟨Nat.le_of_ble_eq_true rfl, Nat.le_of_ble_eq_true rfl⟩ ?_
  refine lv_iload_n hx hb dX3_hammer_4 rfl (lv_at hl 2 rfl) ?_
  refine z_cSv (As := [.int (nI v)]) (rest := []) ⟨hx, hb, hml, hown, hts⟩ (k_X3_needNumber l dC dI (nI v) (nI_io (b := 4095) (by omega) (by decide))) (va_cwS 1 hts gX3_hammer_X3_needNumber rfl rfl rfl (by decide +kernel) ⟨Nat.le_of_ble_eq_true rfl, Nat.le_of_ble_eq_true rfl⟩) (hP.sub (ws' := []) [] rfl) (hK.sub (tys' := []) [] rfl) rfl hl.1 rfl (Nat.le_of_ble_eq_true rfl) dX3_hammer_5 ⟨Nat.le_of_ble_eq_true rfl, Nat.le_of_ble_eq_true rfl⟩ ?_
  refine lv_iload_n hx hb dX3_hammer_8 rfl (lv_at hl 3 rfl) ?_
  refine lv_iconst (v := 1) hx hb dX3_hammer_9 (by decide) ?_
  refine lv_sipush (v := 500) hx hb dX3_hammer_10 (by decide) ?_
  refine z_cSi (As := [.int z, .int 1, .int 500]) (rest := []) ⟨hx, hb, hml, hown, hts⟩ (k_X3_isOutside l dC dI z (1 : Int32) (500 : Int32)) (va_cwS 3 hts gX3_hammer_X3_isOutside rfl rfl rfl (by decide +kernel) ⟨Nat.le_of_ble_eq_true rfl, Nat.le_of_ble_eq_true rfl⟩) (hP.sub (ws' := []) [] rfl) (hK.sub (tys' := []) [] rfl) rfl hl.1 rfl (Nat.le_of_ble_eq_true rfl) dX3_hammer_13 ⟨Nat.le_of_ble_eq_true rfl, Nat.le_of_ble_eq_true rfl⟩ (fun r_1 hr_1 => ?_)
  refine z_ifeqB hx hb hr_1 (tgt := 29) dX3_hammer_16 (by decide) (fun c_2 => ?_) (fun c_2 => ?_)
  · skip
    exact absurd h c_2
  · skip
    rw [← hQ]
    obtain ⟨sa, hsa⟩ := hE.2.2.2.2 (65, "times is out of range") (by decide)
    exact vx_throwS (cls := XA) (text := "times is out of range") (names := xNames) (ik := 63) (is := 65) (ic := 67) (sa := sa) (A := fun q => n0 ≤ q) hx hb hl0 hown (by decide +kernel) (by decide +kernel) (hts (.classLink RX3 63 XA) (by decide +kernel)) (hts (.initialized XA) (by decide +kernel)) hsa (vx_hat (fun w hw => hts w (by first | exact List.mem_cons_of_mem _ (List.mem_append_right _ hw) | exact List.mem_cons_of_mem _ (List.mem_append_left _ (List.mem_append_right _ hw)) | exact List.mem_cons_of_mem _ (List.mem_append_left _ (List.mem_append_left _ (List.mem_append_right _ hw))))) xc_A (vx_c (va_Nw.use rfl hE.2.2.1.2.1) (vx_c (va_Nw.use rfl hE.2.2.2.1.1) (vx_c (va_Nw.use rfl hE.2.2.2.1.2.1) (vx_c (va_Nw.use rfl hE.2.2.2.1.2.2) vx_n))))) (by decide +kernel) hE.1 hE.2.1 va_S.rf (hl.1.trans hml.symm) dX3_hammer_19 dX3_hammer_22 dX3_hammer_23 dX3_hammer_25 dX3_hammer_28 (fun x hx9 => (ht x hx9).elim) (Nat.le_of_ble_eq_true rfl) (Nat.le_of_ble_eq_true rfl) (Nat.le_of_ble_eq_true rfl) (Nat.le_of_ble_eq_true rfl) hlocks (fun t _ h1 h2 => ⟨rfl, h1, h2⟩) (fun _ h => nomatch h) (Nat.le_refl _) (Nat.le_refl _)

abbrev tX3_exchange_O : Room := { frames := 8, cells := 1, slots := 6, locals := 102 }
set_option maxHeartbeats 4000000 in
set_option maxRecDepth 100000 in
theorem x_X3_exchange_O (l : Launch) (hl0 : l.stackTraces = false) (n0 : Nat) (dC : Nat → ClassId) (dI : Nat → Nat → Nat) (c0 : Nat) (ad ae ah ax : Nat → Nat) (ar : Nat → Nat → Nat) (cI cS : ClassId) (σ τ : zS) (o n : Nat) (ho : o < 6) (hn : n ≤ 6) (hs : Nat → zS) (ω : zT) (hok : zok σ) (x y : Int32) (h : x < 0 ∨ ¬ x ≤ 15) : zTh l yX3_exchange wsX3_exchange tX3_exchange_O n0 (dC, dI) [.ref c0, .int x, .int y] (zCW c0 ad ae ah ax ar cI cS σ τ o n hs ω) [(cI, .int), (cS, .object RX1)] XO := by
  refine zTh_of (cc := cX3_exchange) (maxL := 3) (by decide) rfl (Nat.le_of_ble_eq_true rfl) ?_
  intro p e s m args below meth cd ls hat hP hK hE ht hlocks
  obtain ⟨hx, hb, hml, hown, hts, hl⟩ := hat
  replace hown : s.vm.findClass RX3 = some m.cls := hown
  replace hl : lv_has ls 3 [(0, .ref c0), (1, .int x), (2, .int y)] := hl
  replace hP : va_P (dC, dI) vwCl (zCo c0 ad ae ah ax ++ (zW ad cI σ ++ (zW ae cI τ ++ (zHW ah ar cI cS o n hs ++ zTW ax cI ω)))) s.heap := hP
  generalize hQ : vx_MQ below zQF (zTX XO) args s 1 6 (fun _ => False) = Q
  refine lv_iload_n hx hb dX3_exchange_0 rfl (lv_at hl 1 rfl) ?_
  rw [← hQ]
  exact z_tS (As := [.int x]) (rest := []) ⟨hx, hb, hml, hown, hts⟩ (x_X3_needWord l hl0 n0 dC dI x h) (va_cwS 1 hts gX3_exchange_X3_needWord rfl rfl rfl (by decide +kernel) ⟨Nat.le_of_ble_eq_true rfl, Nat.le_of_ble_eq_true rfl⟩) (hP.sub (ws' := []) [] rfl) (hK.sub (tys' := []) [] rfl) hE rfl hl.1 rfl (Nat.le_of_ble_eq_true rfl) dX3_exchange_1 ⟨Nat.le_of_ble_eq_true rfl, Nat.le_of_ble_eq_true rfl⟩ ht hlocks

abbrev tX3_exchange_P : Room := { frames := 8, cells := 1, slots := 6, locals := 102 }
set_option maxHeartbeats 4000000 in
set_option maxRecDepth 100000 in
theorem x_X3_exchange_P (l : Launch) (hl0 : l.stackTraces = false) (n0 : Nat) (dC : Nat → ClassId) (dI : Nat → Nat → Nat) (c0 : Nat) (ad ae ah ax : Nat → Nat) (ar : Nat → Nat → Nat) (cI cS : ClassId) (σ τ : zS) (o n : Nat) (ho : o < 6) (hn : n ≤ 6) (hs : Nat → zS) (ω : zT) (hok : zok σ) (j : Nat) (hj : j < 16) (y : Int32) (h : y < 0 ∨ ¬ y ≤ 15) : zTh l yX3_exchange wsX3_exchange tX3_exchange_P n0 (dC, dI) [.ref c0, .int (nI j), .int y] (zCW c0 ad ae ah ax ar cI cS σ τ o n hs ω) [(cI, .int), (cS, .object RX1)] XO := by
  refine zTh_of (cc := cX3_exchange) (maxL := 3) (by decide) rfl (Nat.le_of_ble_eq_true rfl) ?_
  intro p e s m args below meth cd ls hat hP hK hE ht hlocks
  obtain ⟨hx, hb, hml, hown, hts, hl⟩ := hat
  replace hown : s.vm.findClass RX3 = some m.cls := hown
  replace hl : lv_has ls 3 [(0, .ref c0), (1, .int (nI j)), (2, .int y)] := hl
  replace hP : va_P (dC, dI) vwCl (zCo c0 ad ae ah ax ++ (zW ad cI σ ++ (zW ae cI τ ++ (zHW ah ar cI cS o n hs ++ zTW ax cI ω)))) s.heap := hP
  generalize hQ : vx_MQ below zQF (zTX XO) args s 1 6 (fun _ => False) = Q
  refine lv_iload_n hx hb dX3_exchange_0 rfl (lv_at hl 1 rfl) ?_
  refine z_cSv (As := [.int (nI j)]) (rest := []) ⟨hx, hb, hml, hown, hts⟩ (k_X3_needWord l dC dI (nI j) (nI_io (b := 15) (by omega) (by decide))) (va_cwS 1 hts gX3_exchange_X3_needWord rfl rfl rfl (by decide +kernel) ⟨Nat.le_of_ble_eq_true rfl, Nat.le_of_ble_eq_true rfl⟩) (hP.sub (ws' := []) [] rfl) (hK.sub (tys' := []) [] rfl) rfl hl.1 rfl (Nat.le_of_ble_eq_true rfl) dX3_exchange_1 ⟨Nat.le_of_ble_eq_true rfl, Nat.le_of_ble_eq_true rfl⟩ ?_
  refine lv_iload_n hx hb dX3_exchange_4 rfl (lv_at hl 2 rfl) ?_
  rw [← hQ]
  exact z_tS (As := [.int y]) (rest := []) ⟨hx, hb, hml, hown, hts⟩ (x_X3_needWord l hl0 n0 dC dI y h) (va_cwS 1 hts gX3_exchange_X3_needWord rfl rfl rfl (by decide +kernel) ⟨Nat.le_of_ble_eq_true rfl, Nat.le_of_ble_eq_true rfl⟩) (hP.sub (ws' := []) [] rfl) (hK.sub (tys' := []) [] rfl) hE rfl hl.1 rfl (Nat.le_of_ble_eq_true rfl) dX3_exchange_5 ⟨Nat.le_of_ble_eq_true rfl, Nat.le_of_ble_eq_true rfl⟩ ht hlocks

abbrev tX3_wear_O : Room := { frames := 8, cells := 1, slots := 6, locals := 102 }
set_option maxHeartbeats 4000000 in
set_option maxRecDepth 100000 in
theorem x_X3_wear_O (l : Launch) (hl0 : l.stackTraces = false) (n0 : Nat) (dC : Nat → ClassId) (dI : Nat → Nat → Nat) (c0 : Nat) (ad ae ah ax : Nat → Nat) (ar : Nat → Nat → Nat) (cI cS : ClassId) (σ τ : zS) (o n : Nat) (ho : o < 6) (hn : n ≤ 6) (hs : Nat → zS) (ω : zT) (hok : zok σ) (x y z : Int32) (h : x < 0 ∨ ¬ x ≤ 17) : zTh l yX3_wear wsX3_wear tX3_wear_O n0 (dC, dI) [.ref c0, .int x, .int y, .int z] (zCW c0 ad ae ah ax ar cI cS σ τ o n hs ω) [(cI, .int), (cS, .object RX1)] XO := by
  refine zTh_of (cc := cX3_wear) (maxL := 5) (by decide) rfl (Nat.le_of_ble_eq_true rfl) ?_
  intro p e s m args below meth cd ls hat hP hK hE ht hlocks
  obtain ⟨hx, hb, hml, hown, hts, hl⟩ := hat
  replace hown : s.vm.findClass RX3 = some m.cls := hown
  replace hl : lv_has ls 5 [(0, .ref c0), (1, .int x), (2, .int y), (3, .int z)] := hl
  replace hP : va_P (dC, dI) vwCl (zCo c0 ad ae ah ax ++ (zW ad cI σ ++ (zW ae cI τ ++ (zHW ah ar cI cS o n hs ++ zTW ax cI ω)))) s.heap := hP
  generalize hQ : vx_MQ below zQF (zTX XO) args s 1 6 (fun _ => False) = Q
  refine lv_iload_n hx hb dX3_wear_0 rfl (lv_at hl 1 rfl) ?_
  rw [← hQ]
  exact z_tS (As := [.int x]) (rest := []) ⟨hx, hb, hml, hown, hts⟩ (x_X3_needSlot l hl0 n0 dC dI x h) (va_cwS 1 hts gX3_wear_X3_needSlot rfl rfl rfl (by decide +kernel) ⟨Nat.le_of_ble_eq_true rfl, Nat.le_of_ble_eq_true rfl⟩) (hP.sub (ws' := []) [] rfl) (hK.sub (tys' := []) [] rfl) hE rfl hl.1 rfl (Nat.le_of_ble_eq_true rfl) dX3_wear_1 ⟨Nat.le_of_ble_eq_true rfl, Nat.le_of_ble_eq_true rfl⟩ ht hlocks

abbrev tX3_wear_P : Room := { frames := 8, cells := 1, slots := 6, locals := 102 }
set_option maxHeartbeats 4000000 in
set_option maxRecDepth 100000 in
theorem x_X3_wear_P (l : Launch) (hl0 : l.stackTraces = false) (n0 : Nat) (dC : Nat → ClassId) (dI : Nat → Nat → Nat) (c0 : Nat) (ad ae ah ax : Nat → Nat) (ar : Nat → Nat → Nat) (cI cS : ClassId) (σ τ : zS) (o n : Nat) (ho : o < 6) (hn : n ≤ 6) (hs : Nat → zS) (ω : zT) (hok : zok σ) (j : Nat) (hj : j < 18) (y z : Int32) (h : y < 0 ∨ ¬ y ≤ 12) : zTh l yX3_wear wsX3_wear tX3_wear_P n0 (dC, dI) [.ref c0, .int (nI j), .int y, .int z] (zCW c0 ad ae ah ax ar cI cS σ τ o n hs ω) [(cI, .int), (cS, .object RX1)] XO := by
  refine zTh_of (cc := cX3_wear) (maxL := 5) (by decide) rfl (Nat.le_of_ble_eq_true rfl) ?_
  intro p e s m args below meth cd ls hat hP hK hE ht hlocks
  obtain ⟨hx, hb, hml, hown, hts, hl⟩ := hat
  replace hown : s.vm.findClass RX3 = some m.cls := hown
  replace hl : lv_has ls 5 [(0, .ref c0), (1, .int (nI j)), (2, .int y), (3, .int z)] := hl
  replace hP : va_P (dC, dI) vwCl (zCo c0 ad ae ah ax ++ (zW ad cI σ ++ (zW ae cI τ ++ (zHW ah ar cI cS o n hs ++ zTW ax cI ω)))) s.heap := hP
  generalize hQ : vx_MQ below zQF (zTX XO) args s 1 6 (fun _ => False) = Q
  refine lv_iload_n hx hb dX3_wear_0 rfl (lv_at hl 1 rfl) ?_
  refine z_cSv (As := [.int (nI j)]) (rest := []) ⟨hx, hb, hml, hown, hts⟩ (k_X3_needSlot l dC dI (nI j) (nI_io (b := 17) (by omega) (by decide))) (va_cwS 1 hts gX3_wear_X3_needSlot rfl rfl rfl (by decide +kernel) ⟨Nat.le_of_ble_eq_true rfl, Nat.le_of_ble_eq_true rfl⟩) (hP.sub (ws' := []) [] rfl) (hK.sub (tys' := []) [] rfl) rfl hl.1 rfl (Nat.le_of_ble_eq_true rfl) dX3_wear_1 ⟨Nat.le_of_ble_eq_true rfl, Nat.le_of_ble_eq_true rfl⟩ ?_
  refine lv_iload_n hx hb dX3_wear_4 rfl (lv_at hl 2 rfl) ?_
  rw [← hQ]
  exact z_tS (As := [.int y]) (rest := []) ⟨hx, hb, hml, hown, hts⟩ (x_X3_needCell l hl0 n0 dC dI y h) (va_cwS 1 hts gX3_wear_X3_needCell rfl rfl rfl (by decide +kernel) ⟨Nat.le_of_ble_eq_true rfl, Nat.le_of_ble_eq_true rfl⟩) (hP.sub (ws' := []) [] rfl) (hK.sub (tys' := []) [] rfl) hE rfl hl.1 rfl (Nat.le_of_ble_eq_true rfl) dX3_wear_5 ⟨Nat.le_of_ble_eq_true rfl, Nat.le_of_ble_eq_true rfl⟩ ht hlocks

abbrev tX3_wear_A : Room := { frames := 6, cells := 1, slots := 6, locals := 82 }
set_option maxHeartbeats 4000000 in
set_option maxRecDepth 100000 in
theorem x_X3_wear_A (l : Launch) (hl0 : l.stackTraces = false) (n0 : Nat) (dC : Nat → ClassId) (dI : Nat → Nat → Nat) (c0 : Nat) (ad ae ah ax : Nat → Nat) (ar : Nat → Nat → Nat) (cI cS : ClassId) (σ τ : zS) (o n : Nat) (ho : o < 6) (hn : n ≤ 6) (hs : Nat → zS) (ω : zT) (hok : zok σ) (j : Nat) (hj : j < 18) (i : Nat) (hi : i < 13) (z : Int32) (h : z < 1 ∨ ¬ z ≤ 999) : zTh l yX3_wear wsX3_wear tX3_wear_A n0 (dC, dI) [.ref c0, .int (nI j), .int (nI i), .int z] (zCW c0 ad ae ah ax ar cI cS σ τ o n hs ω) [(cI, .int), (cS, .object RX1)] XA := by
  refine zTh_of (cc := cX3_wear) (maxL := 5) (by decide) rfl (Nat.le_of_ble_eq_true rfl) ?_
  intro p e s m args below meth cd ls hat hP hK hE ht hlocks
  obtain ⟨hx, hb, hml, hown, hts, hl⟩ := hat
  replace hown : s.vm.findClass RX3 = some m.cls := hown
  replace hl : lv_has ls 5 [(0, .ref c0), (1, .int (nI j)), (2, .int (nI i)), (3, .int z)] := hl
  replace hP : va_P (dC, dI) vwCl (zCo c0 ad ae ah ax ++ (zW ad cI σ ++ (zW ae cI τ ++ (zHW ah ar cI cS o n hs ++ zTW ax cI ω)))) s.heap := hP
  generalize hQ : vx_MQ below zQF (zTX XA) args s 1 6 (fun _ => False) = Q
  refine lv_iload_n hx hb dX3_wear_0 rfl (lv_at hl 1 rfl) ?_
  refine z_cSv (As := [.int (nI j)]) (rest := []) ⟨hx, hb, hml, hown, hts⟩ (k_X3_needSlot l dC dI (nI j) (nI_io (b := 17) (by omega) (by decide))) (va_cwS 1 hts gX3_wear_X3_needSlot rfl rfl rfl (by decide +kernel) ⟨Nat.le_of_ble_eq_true rfl, Nat.le_of_ble_eq_true rfl⟩) (hP.sub (ws' := []) [] rfl) (hK.sub (tys' := []) [] rfl) rfl hl.1 rfl (Nat.le_of_ble_eq_true rfl) dX3_wear_1 ⟨Nat.le_of_ble_eq_true rfl, Nat.le_of_ble_eq_true rfl⟩ ?_
  refine lv_iload_n hx hb dX3_wear_4 rfl (lv_at hl 2 rfl) ?_
  refine z_cSv (As := [.int (nI i)]) (rest := []) ⟨hx, hb, hml, hown, hts⟩ (k_X3_needCell l dC dI (nI i) (nI_io (b := 12) (by omega) (by decide))) (va_cwS 1 hts gX3_wear_X3_needCell rfl rfl rfl (by decide +kernel) ⟨Nat.le_of_ble_eq_true rfl, Nat.le_of_ble_eq_true rfl⟩) (hP.sub (ws' := []) [] rfl) (hK.sub (tys' := []) [] rfl) rfl hl.1 rfl (Nat.le_of_ble_eq_true rfl) dX3_wear_5 ⟨Nat.le_of_ble_eq_true rfl, Nat.le_of_ble_eq_true rfl⟩ ?_
  refine lv_iload_n hx hb dX3_wear_8 rfl (lv_at hl 3 rfl) ?_
  refine lv_iconst (v := 1) hx hb dX3_wear_9 (by decide) ?_
  refine lv_sipush (v := 999) hx hb dX3_wear_10 (by decide) ?_
  refine z_cSi (As := [.int z, .int 1, .int 999]) (rest := []) ⟨hx, hb, hml, hown, hts⟩ (k_X3_isOutside l dC dI z (1 : Int32) (999 : Int32)) (va_cwS 3 hts gX3_wear_X3_isOutside rfl rfl rfl (by decide +kernel) ⟨Nat.le_of_ble_eq_true rfl, Nat.le_of_ble_eq_true rfl⟩) (hP.sub (ws' := []) [] rfl) (hK.sub (tys' := []) [] rfl) rfl hl.1 rfl (Nat.le_of_ble_eq_true rfl) dX3_wear_13 ⟨Nat.le_of_ble_eq_true rfl, Nat.le_of_ble_eq_true rfl⟩ (fun r_1 hr_1 => ?_)
  refine z_ifeqB hx hb hr_1 (tgt := 29) dX3_wear_16 (by decide) (fun c_2 => ?_) (fun c_2 => ?_)
  · skip
    exact absurd h c_2
  · skip
    rw [← hQ]
    obtain ⟨sa, hsa⟩ := hE.2.2.2.2 (85, "by is out of range") (by decide)
    exact vx_throwS (cls := XA) (text := "by is out of range") (names := xNames) (ik := 63) (is := 85) (ic := 67) (sa := sa) (A := fun q => n0 ≤ q) hx hb hl0 hown (by decide +kernel) (by decide +kernel) (hts (.classLink RX3 63 XA) (by decide +kernel)) (hts (.initialized XA) (by decide +kernel)) hsa (vx_hat (fun w hw => hts w (by first | exact List.mem_cons_of_mem _ (List.mem_append_right _ hw) | exact List.mem_cons_of_mem _ (List.mem_append_left _ (List.mem_append_right _ hw)) | exact List.mem_cons_of_mem _ (List.mem_append_left _ (List.mem_append_left _ (List.mem_append_right _ hw))))) xc_A (vx_c (va_Nw.use rfl hE.2.2.1.2.1) (vx_c (va_Nw.use rfl hE.2.2.2.1.1) (vx_c (va_Nw.use rfl hE.2.2.2.1.2.1) (vx_c (va_Nw.use rfl hE.2.2.2.1.2.2) vx_n))))) (by decide +kernel) hE.1 hE.2.1 va_S.rf (hl.1.trans hml.symm) dX3_wear_19 dX3_wear_22 dX3_wear_23 dX3_wear_25 dX3_wear_28 (fun x hx9 => (ht x hx9).elim) (Nat.le_of_ble_eq_true rfl) (Nat.le_of_ble_eq_true rfl) (Nat.le_of_ble_eq_true rfl) (Nat.le_of_ble_eq_true rfl) hlocks (fun t _ h1 h2 => ⟨rfl, h1, h2⟩) (fun _ h => nomatch h) (Nat.le_refl _) (Nat.le_refl _)

abbrev tX3_wear_T : Room := { frames := 6, cells := 1, slots := 6, locals := 82 }
set_option maxHeartbeats 4000000 in
set_option maxRecDepth 100000 in
theorem x_X3_wear_T (l : Launch) (hl0 : l.stackTraces = false) (n0 : Nat) (dC : Nat → ClassId) (dI : Nat → Nat → Nat) (c0 : Nat) (ad ae ah ax : Nat → Nat) (ar : Nat → Nat → Nat) (cI cS : ClassId) (σ τ : zS) (o n : Nat) (ho : o < 6) (hn : n ≤ 6) (hs : Nat → zS) (ω : zT) (hok : zok σ) (j : Nat) (hj : j < 18) (i : Nat) (hi : i < 13) (b : Nat) (hb1 : 1 ≤ b) (hb2 : b ≤ 999) (hY : ¬ zwn σ (j * 13 + i) + nI b ≤ 99999) : zTh l yX3_wear wsX3_wear tX3_wear_T n0 (dC, dI) [.ref c0, .int (nI j), .int (nI i), .int (nI b)] (zCW c0 ad ae ah ax ar cI cS σ τ o n hs ω) [(cI, .int), (cS, .object RX1)] XT := by
  refine zTh_of (cc := cX3_wear) (maxL := 5) (by decide) rfl (Nat.le_of_ble_eq_true rfl) ?_
  intro p e s m args below meth cd ls hat hP hK hE ht hlocks
  obtain ⟨hx, hb, hml, hown, hts, hl⟩ := hat
  replace hown : s.vm.findClass RX3 = some m.cls := hown
  replace hl : lv_has ls 5 [(0, .ref c0), (1, .int (nI j)), (2, .int (nI i)), (3, .int (nI b))] := hl
  replace hP : va_P (dC, dI) vwCl (zCo c0 ad ae ah ax ++ (zW ad cI σ ++ (zW ae cI τ ++ (zHW ah ar cI cS o n hs ++ zTW ax cI ω)))) s.heap := hP
  generalize hQ : vx_MQ below zQF (zTX XT) args s 1 6 (fun _ => False) = Q
  have hf10 := hts (.fieldLink RX3 10 "InsideOutWords" "now" "LInsideOutWords$State;") (by decide +kernel)
  have hnX3 : ∀ w ∈ u_ws RX3 TX3 4, w ∈ wsX3_wear := by decide +kernel
  have hc90 := hts (.constant RX3 90 (99999)) (by decide +kernel)
  refine lv_iload_n hx hb dX3_wear_0 rfl (lv_at hl 1 rfl) ?_
  refine z_cSv (As := [.int (nI j)]) (rest := []) ⟨hx, hb, hml, hown, hts⟩ (k_X3_needSlot l dC dI (nI j) (nI_io (b := 17) (by omega) (by decide))) (va_cwS 1 hts gX3_wear_X3_needSlot rfl rfl rfl (by decide +kernel) ⟨Nat.le_of_ble_eq_true rfl, Nat.le_of_ble_eq_true rfl⟩) (hP.sub (ws' := []) [] rfl) (hK.sub (tys' := []) [] rfl) rfl hl.1 rfl (Nat.le_of_ble_eq_true rfl) dX3_wear_1 ⟨Nat.le_of_ble_eq_true rfl, Nat.le_of_ble_eq_true rfl⟩ ?_
  refine lv_iload_n hx hb dX3_wear_4 rfl (lv_at hl 2 rfl) ?_
  refine z_cSv (As := [.int (nI i)]) (rest := []) ⟨hx, hb, hml, hown, hts⟩ (k_X3_needCell l dC dI (nI i) (nI_io (b := 12) (by omega) (by decide))) (va_cwS 1 hts gX3_wear_X3_needCell rfl rfl rfl (by decide +kernel) ⟨Nat.le_of_ble_eq_true rfl, Nat.le_of_ble_eq_true rfl⟩) (hP.sub (ws' := []) [] rfl) (hK.sub (tys' := []) [] rfl) rfl hl.1 rfl (Nat.le_of_ble_eq_true rfl) dX3_wear_5 ⟨Nat.le_of_ble_eq_true rfl, Nat.le_of_ble_eq_true rfl⟩ ?_
  refine lv_iload_n hx hb dX3_wear_8 rfl (lv_at hl 3 rfl) ?_
  refine lv_iconst (v := 1) hx hb dX3_wear_9 (by decide) ?_
  refine lv_sipush (v := 999) hx hb dX3_wear_10 (by decide) ?_
  refine z_cSi (As := [.int (nI b), .int 1, .int 999]) (rest := []) ⟨hx, hb, hml, hown, hts⟩ (k_X3_isOutside l dC dI (nI b) (1 : Int32) (999 : Int32)) (va_cwS 3 hts gX3_wear_X3_isOutside rfl rfl rfl (by decide +kernel) ⟨Nat.le_of_ble_eq_true rfl, Nat.le_of_ble_eq_true rfl⟩) (hP.sub (ws' := []) [] rfl) (hK.sub (tys' := []) [] rfl) rfl hl.1 rfl (Nat.le_of_ble_eq_true rfl) dX3_wear_13 ⟨Nat.le_of_ble_eq_true rfl, Nat.le_of_ble_eq_true rfl⟩ (fun r_1 hr_1 => ?_)
  refine z_ifeqB hx hb hr_1 (tgt := 29) dX3_wear_16 (by decide) (fun c_2 => ?_) (fun c_2 => ?_)
  · skip
    refine lv_aload_n hx hb dX3_wear_29 rfl (lv_at hl 0 rfl) ?_
    refine va_get (D := (dC, dI)) (ci := 3) (v := .ref (ad 0)) (C := RX3) (T := TX3) (N := 4) hx hb hts hnX3 hown hK hP 0 rfl rfl 0 (by decide) hf10 (fun _ h9 => h9) rfl dX3_wear_30 ?_
    refine lv_iload_n hx hb dX3_wear_33 rfl (lv_at hl 1 rfl) ?_
    refine lv_iload_n hx hb dX3_wear_34 rfl (lv_at hl 2 rfl) ?_
    refine z_cVi (As := [.int (nI j), .int (nI i)]) (rest := []) ⟨hx, hb, hml, hown, hts⟩ (k_X1_wornAt l dC dI ad cI σ hok j (by omega) i (by omega)) (cwV 2 hts gX3_wear_X1_wornAt rfl rfl rfl (by decide +kernel) ⟨Nat.le_of_ble_eq_true rfl, Nat.le_of_ble_eq_true rfl⟩) (va_recv hK hP (ci := 1) (q0 := 1) rfl rfl) (hP.sub (ws' := zW ad cI σ) [1, 2, 3, 4, 5, 6, 7, 8, 9] rfl) (hK.sub (tys' := [(cI, .int)]) [0] rfl) rfl hl.1 rfl (Nat.le_of_ble_eq_true rfl) dX3_wear_35 ⟨Nat.le_of_ble_eq_true rfl, Nat.le_of_ble_eq_true rfl⟩ (fun r_3 hr_3 => ?_)
    subst hr_3
    refine lv_iload_n hx hb dX3_wear_38 rfl (lv_at hl 3 rfl) ?_
    refine lv_iadd hx hb dX3_wear_39 ?_
    refine lv_istore (lv' := [(4, .int ((zwn σ (j * 13 + i)) + (nI b))), (0, .ref c0), (1, .int (nI j)), (2, .int (nI i)), (3, .int (nI b))]) hx hb dX3_wear_40 hl (by decide) rfl (fun ls hl => ?_)
    refine lv_iload hx hb dX3_wear_42 (lv_at hl 0 rfl) ?_
    refine lv_ldc hx hb hown hc90 dX3_wear_44 ?_
    refine lv_icmp_le (tgt := 59) hx hb dX3_wear_46 (by decide) (fun c_4 => ?_) (fun c_4 => ?_)
    · skip
      exact absurd c_4 hY
    · skip
      rw [← hQ]
      obtain ⟨sa, hsa⟩ := hE.2.2.2.2 (91, "the wear would be too great") (by decide)
      exact vx_throwS (cls := XT) (text := "the wear would be too great") (names := xNames) (ik := 44) (is := 91) (ic := 48) (sa := sa) (A := fun q => n0 ≤ q) hx hb hl0 hown (by decide +kernel) (by decide +kernel) (hts (.classLink RX3 44 XT) (by decide +kernel)) (hts (.initialized XT) (by decide +kernel)) hsa (vx_hat (fun w hw => hts w (by first | exact List.mem_cons_of_mem _ (List.mem_append_right _ hw) | exact List.mem_cons_of_mem _ (List.mem_append_left _ (List.mem_append_right _ hw)) | exact List.mem_cons_of_mem _ (List.mem_append_left _ (List.mem_append_left _ (List.mem_append_right _ hw))))) xc_T (vx_c (va_Nw.use rfl hE.2.2.1.2.2) (vx_c (va_Nw.use rfl hE.2.2.2.1.1) (vx_c (va_Nw.use rfl hE.2.2.2.1.2.1) (vx_c (va_Nw.use rfl hE.2.2.2.1.2.2) vx_n))))) (by decide +kernel) hE.1 hE.2.1 va_S.rf (hl.1.trans hml.symm) dX3_wear_49 dX3_wear_52 dX3_wear_53 dX3_wear_55 dX3_wear_58 (fun x hx9 => (ht x hx9).elim) (Nat.le_of_ble_eq_true rfl) (Nat.le_of_ble_eq_true rfl) (Nat.le_of_ble_eq_true rfl) (Nat.le_of_ble_eq_true rfl) hlocks (fun t _ h1 h2 => ⟨rfl, h1, h2⟩) (fun _ h => nomatch h) (Nat.le_refl _) (Nat.le_refl _)
  · skip
    exact absurd c_2 (nI_ro (a := 1) (b := 999) (by omega) (by omega) (by decide))

abbrev tX3_set_O : Room := { frames := 8, cells := 1, slots := 6, locals := 102 }
set_option maxHeartbeats 4000000 in
set_option maxRecDepth 100000 in
theorem x_X3_set_O (l : Launch) (hl0 : l.stackTraces = false) (n0 : Nat) (dC : Nat → ClassId) (dI : Nat → Nat → Nat) (c0 : Nat) (ad ae ah ax : Nat → Nat) (ar : Nat → Nat → Nat) (cI cS : ClassId) (σ τ : zS) (o n : Nat) (ho : o < 6) (hn : n ≤ 6) (hs : Nat → zS) (ω : zT) (hok : zok σ) (x y : Int32) (h : x < 0 ∨ ¬ x ≤ 1) : zTh l yX3_set wsX3_set tX3_set_O n0 (dC, dI) [.ref c0, .int x, .int y] (zCW c0 ad ae ah ax ar cI cS σ τ o n hs ω) [(cI, .int), (cS, .object RX1)] XO := by
  refine zTh_of (cc := cX3_set) (maxL := 5) (by decide) rfl (Nat.le_of_ble_eq_true rfl) ?_
  intro p e s m args below meth cd ls hat hP hK hE ht hlocks
  obtain ⟨hx, hb, hml, hown, hts, hl⟩ := hat
  replace hown : s.vm.findClass RX3 = some m.cls := hown
  replace hl : lv_has ls 5 [(0, .ref c0), (1, .int x), (2, .int y)] := hl
  replace hP : va_P (dC, dI) vwCl (zCo c0 ad ae ah ax ++ (zW ad cI σ ++ (zW ae cI τ ++ (zHW ah ar cI cS o n hs ++ zTW ax cI ω)))) s.heap := hP
  generalize hQ : vx_MQ below zQF (zTX XO) args s 1 6 (fun _ => False) = Q
  refine lv_iload_n hx hb dX3_set_0 rfl (lv_at hl 1 rfl) ?_
  rw [← hQ]
  exact z_tS (As := [.int x]) (rest := []) ⟨hx, hb, hml, hown, hts⟩ (x_X3_needSetting l hl0 n0 dC dI x h) (va_cwS 1 hts gX3_set_X3_needSetting rfl rfl rfl (by decide +kernel) ⟨Nat.le_of_ble_eq_true rfl, Nat.le_of_ble_eq_true rfl⟩) (hP.sub (ws' := []) [] rfl) (hK.sub (tys' := []) [] rfl) hE rfl hl.1 rfl (Nat.le_of_ble_eq_true rfl) dX3_set_1 ⟨Nat.le_of_ble_eq_true rfl, Nat.le_of_ble_eq_true rfl⟩ ht hlocks

abbrev tX3_set_A : Room := { frames := 6, cells := 1, slots := 6, locals := 82 }
set_option maxHeartbeats 4000000 in
set_option maxRecDepth 100000 in
theorem x_X3_set_A (l : Launch) (hl0 : l.stackTraces = false) (n0 : Nat) (dC : Nat → ClassId) (dI : Nat → Nat → Nat) (c0 : Nat) (ad ae ah ax : Nat → Nat) (ar : Nat → Nat → Nat) (cI cS : ClassId) (σ τ : zS) (o n : Nat) (ho : o < 6) (hn : n ≤ 6) (hs : Nat → zS) (ω : zT) (hok : zok σ) (q : Nat) (hq : q < 2) (x : Int32) (hY : if q = 0 then (x < 1 ∨ ¬ x ≤ 999) else (x < 0 ∨ ¬ x ≤ 99)) : zTh l yX3_set wsX3_set tX3_set_A n0 (dC, dI) [.ref c0, .int (nI q), .int x] (zCW c0 ad ae ah ax ar cI cS σ τ o n hs ω) [(cI, .int), (cS, .object RX1)] XA := by
  refine zTh_of (cc := cX3_set) (maxL := 5) (by decide) rfl (Nat.le_of_ble_eq_true rfl) ?_
  intro p e s m args below meth cd ls hat hP hK hE ht hlocks
  obtain ⟨hx, hb, hml, hown, hts, hl⟩ := hat
  replace hown : s.vm.findClass RX3 = some m.cls := hown
  replace hl : lv_has ls 5 [(0, .ref c0), (1, .int (nI q)), (2, .int x)] := hl
  replace hP : va_P (dC, dI) vwCl (zCo c0 ad ae ah ax ++ (zW ad cI σ ++ (zW ae cI τ ++ (zHW ah ar cI cS o n hs ++ zTW ax cI ω)))) s.heap := hP
  generalize hQ : vx_MQ below zQF (zTX XA) args s 1 6 (fun _ => False) = Q
  refine lv_iload_n hx hb dX3_set_0 rfl (lv_at hl 1 rfl) ?_
  refine z_cSv (As := [.int (nI q)]) (rest := []) ⟨hx, hb, hml, hown, hts⟩ (k_X3_needSetting l dC dI (nI q) (nI_io (b := 1) (by omega) (by decide))) (va_cwS 1 hts gX3_set_X3_needSetting rfl rfl rfl (by decide +kernel) ⟨Nat.le_of_ble_eq_true rfl, Nat.le_of_ble_eq_true rfl⟩) (hP.sub (ws' := []) [] rfl) (hK.sub (tys' := []) [] rfl) rfl hl.1 rfl (Nat.le_of_ble_eq_true rfl) dX3_set_1 ⟨Nat.le_of_ble_eq_true rfl, Nat.le_of_ble_eq_true rfl⟩ ?_
  refine lv_iload_n hx hb dX3_set_4 rfl (lv_at hl 1 rfl) ?_
  refine z_ifne hx hb q (by omega) (tgt := 19) dX3_set_5 (by decide) (fun c_1 => ?_) (fun c_1 => ?_)
  · skip
    refine lv_iload_n hx hb dX3_set_19 rfl (lv_at hl 2 rfl) ?_
    refine lv_iconst (v := 0) hx hb dX3_set_20 (by decide) ?_
    refine lv_bipush (v := 99) hx hb dX3_set_21 (by decide) ?_
    refine z_cSi (As := [.int x, .int 0, .int 99]) (rest := []) ⟨hx, hb, hml, hown, hts⟩ (k_X3_isOutside l dC dI x (0 : Int32) (99 : Int32)) (va_cwS 3 hts gX3_set_X3_isOutside rfl rfl rfl (by decide +kernel) ⟨Nat.le_of_ble_eq_true rfl, Nat.le_of_ble_eq_true rfl⟩) (hP.sub (ws' := []) [] rfl) (hK.sub (tys' := []) [] rfl) rfl hl.1 rfl (Nat.le_of_ble_eq_true rfl) dX3_set_23 ⟨Nat.le_of_ble_eq_true rfl, Nat.le_of_ble_eq_true rfl⟩ (fun r_2 hr_2 => ?_)
    refine lv_istore_n (lv' := [(3, .int r_2), (0, .ref c0), (1, .int (nI q)), (2, .int x)]) hx hb dX3_set_26 rfl hl (by decide) rfl (fun ls hl => ?_)
    refine lv_iload_n hx hb dX3_set_27 rfl (lv_at hl 0 rfl) ?_
    refine z_ifeqB hx hb hr_2 (tgt := 41) dX3_set_28 (by decide) (fun c_3 => ?_) (fun c_3 => ?_)
    · skip
      exact absurd (by first | (rw [if_pos c_1] at hY; exact hY) | (rw [if_neg c_1] at hY; exact hY)) c_3
    · skip
      rw [← hQ]
      obtain ⟨sa, hsa⟩ := hE.2.2.2.2 (99, "value is out of range") (by decide)
      exact vx_throwS (cls := XA) (text := "value is out of range") (names := xNames) (ik := 63) (is := 99) (ic := 67) (sa := sa) (A := fun q => n0 ≤ q) hx hb hl0 hown (by decide +kernel) (by decide +kernel) (hts (.classLink RX3 63 XA) (by decide +kernel)) (hts (.initialized XA) (by decide +kernel)) hsa (vx_hat (fun w hw => hts w (by first | exact List.mem_cons_of_mem _ (List.mem_append_right _ hw) | exact List.mem_cons_of_mem _ (List.mem_append_left _ (List.mem_append_right _ hw)) | exact List.mem_cons_of_mem _ (List.mem_append_left _ (List.mem_append_left _ (List.mem_append_right _ hw))))) xc_A (vx_c (va_Nw.use rfl hE.2.2.1.2.1) (vx_c (va_Nw.use rfl hE.2.2.2.1.1) (vx_c (va_Nw.use rfl hE.2.2.2.1.2.1) (vx_c (va_Nw.use rfl hE.2.2.2.1.2.2) vx_n))))) (by decide +kernel) hE.1 hE.2.1 va_S.rf (hl.1.trans hml.symm) dX3_set_31 dX3_set_34 dX3_set_35 dX3_set_37 dX3_set_40 (fun x hx9 => (ht x hx9).elim) (Nat.le_of_ble_eq_true rfl) (Nat.le_of_ble_eq_true rfl) (Nat.le_of_ble_eq_true rfl) (Nat.le_of_ble_eq_true rfl) hlocks (fun t _ h1 h2 => ⟨rfl, h1, h2⟩) (fun _ h => nomatch h) (Nat.le_refl _) (Nat.le_refl _)
  · skip
    refine lv_iload_n hx hb dX3_set_8 rfl (lv_at hl 2 rfl) ?_
    refine lv_iconst (v := 1) hx hb dX3_set_9 (by decide) ?_
    refine lv_sipush (v := 999) hx hb dX3_set_10 (by decide) ?_
    refine z_cSi (As := [.int x, .int 1, .int 999]) (rest := []) ⟨hx, hb, hml, hown, hts⟩ (k_X3_isOutside l dC dI x (1 : Int32) (999 : Int32)) (va_cwS 3 hts gX3_set_X3_isOutside rfl rfl rfl (by decide +kernel) ⟨Nat.le_of_ble_eq_true rfl, Nat.le_of_ble_eq_true rfl⟩) (hP.sub (ws' := []) [] rfl) (hK.sub (tys' := []) [] rfl) rfl hl.1 rfl (Nat.le_of_ble_eq_true rfl) dX3_set_13 ⟨Nat.le_of_ble_eq_true rfl, Nat.le_of_ble_eq_true rfl⟩ (fun r_4 hr_4 => ?_)
    refine lv_goto (tgt := 26) hx hb dX3_set_16 (by decide) ?_
    refine lv_istore_n (lv' := [(3, .int r_4), (0, .ref c0), (1, .int (nI q)), (2, .int x)]) hx hb dX3_set_26 rfl hl (by decide) rfl (fun ls hl => ?_)
    refine lv_iload_n hx hb dX3_set_27 rfl (lv_at hl 0 rfl) ?_
    refine z_ifeqB hx hb hr_4 (tgt := 41) dX3_set_28 (by decide) (fun c_5 => ?_) (fun c_5 => ?_)
    · skip
      exact absurd (by first | (rw [if_pos c_1] at hY; exact hY) | (rw [if_neg c_1] at hY; exact hY)) c_5
    · skip
      rw [← hQ]
      obtain ⟨sa, hsa⟩ := hE.2.2.2.2 (99, "value is out of range") (by decide)
      exact vx_throwS (cls := XA) (text := "value is out of range") (names := xNames) (ik := 63) (is := 99) (ic := 67) (sa := sa) (A := fun q => n0 ≤ q) hx hb hl0 hown (by decide +kernel) (by decide +kernel) (hts (.classLink RX3 63 XA) (by decide +kernel)) (hts (.initialized XA) (by decide +kernel)) hsa (vx_hat (fun w hw => hts w (by first | exact List.mem_cons_of_mem _ (List.mem_append_right _ hw) | exact List.mem_cons_of_mem _ (List.mem_append_left _ (List.mem_append_right _ hw)) | exact List.mem_cons_of_mem _ (List.mem_append_left _ (List.mem_append_left _ (List.mem_append_right _ hw))))) xc_A (vx_c (va_Nw.use rfl hE.2.2.1.2.1) (vx_c (va_Nw.use rfl hE.2.2.2.1.1) (vx_c (va_Nw.use rfl hE.2.2.2.1.2.1) (vx_c (va_Nw.use rfl hE.2.2.2.1.2.2) vx_n))))) (by decide +kernel) hE.1 hE.2.1 va_S.rf (hl.1.trans hml.symm) dX3_set_31 dX3_set_34 dX3_set_35 dX3_set_37 dX3_set_40 (fun x hx9 => (ht x hx9).elim) (Nat.le_of_ble_eq_true rfl) (Nat.le_of_ble_eq_true rfl) (Nat.le_of_ble_eq_true rfl) (Nat.le_of_ble_eq_true rfl) hlocks (fun t _ h1 h2 => ⟨rfl, h1, h2⟩) (fun _ h => nomatch h) (Nat.le_refl _) (Nat.le_refl _)

abbrev tX3_append_A : Room := { frames := 6, cells := 1, slots := 6, locals := 82 }
set_option maxHeartbeats 4000000 in
set_option maxRecDepth 100000 in
theorem x_X3_append_A (l : Launch) (hl0 : l.stackTraces = false) (n0 : Nat) (dC : Nat → ClassId) (dI : Nat → Nat → Nat) (c0 : Nat) (ad ae ah ax : Nat → Nat) (ar : Nat → Nat → Nat) (cI cS : ClassId) (σ τ : zS) (o n : Nat) (ho : o < 6) (hn : n ≤ 6) (hs : Nat → zS) (ω : zT) (hok : zok σ) (x : Int32) (h : x < 33 ∨ ¬ x ≤ 126) : zTh l yX3_append wsX3_append tX3_append_A n0 (dC, dI) [.ref c0, .int x] (zCW c0 ad ae ah ax ar cI cS σ τ o n hs ω) [(cI, .int), (cS, .object RX1)] XA := by
  refine zTh_of (cc := cX3_append) (maxL := 2) (by decide) rfl (Nat.le_of_ble_eq_true rfl) ?_
  intro p e s m args below meth cd ls hat hP hK hE ht hlocks
  obtain ⟨hx, hb, hml, hown, hts, hl⟩ := hat
  replace hown : s.vm.findClass RX3 = some m.cls := hown
  replace hl : lv_has ls 2 [(0, .ref c0), (1, .int x)] := hl
  replace hP : va_P (dC, dI) vwCl (zCo c0 ad ae ah ax ++ (zW ad cI σ ++ (zW ae cI τ ++ (zHW ah ar cI cS o n hs ++ zTW ax cI ω)))) s.heap := hP
  generalize hQ : vx_MQ below zQF (zTX XA) args s 1 6 (fun _ => False) = Q
  refine lv_iload_n hx hb dX3_append_0 rfl (lv_at hl 1 rfl) ?_
  refine lv_bipush (v := 33) hx hb dX3_append_1 (by decide) ?_
  refine lv_bipush (v := 126) hx hb dX3_append_3 (by decide) ?_
  refine z_cSi (As := [.int x, .int 33, .int 126]) (rest := []) ⟨hx, hb, hml, hown, hts⟩ (k_X3_isOutside l dC dI x (33 : Int32) (126 : Int32)) (va_cwS 3 hts gX3_append_X3_isOutside rfl rfl rfl (by decide +kernel) ⟨Nat.le_of_ble_eq_true rfl, Nat.le_of_ble_eq_true rfl⟩) (hP.sub (ws' := []) [] rfl) (hK.sub (tys' := []) [] rfl) rfl hl.1 rfl (Nat.le_of_ble_eq_true rfl) dX3_append_5 ⟨Nat.le_of_ble_eq_true rfl, Nat.le_of_ble_eq_true rfl⟩ (fun r_1 hr_1 => ?_)
  refine z_ifeqB hx hb hr_1 (tgt := 21) dX3_append_8 (by decide) (fun c_2 => ?_) (fun c_2 => ?_)
  · skip
    exact absurd h c_2
  · skip
    rw [← hQ]
    obtain ⟨sa, hsa⟩ := hE.2.2.2.2 (104, "code is not 33 to 126") (by decide)
    exact vx_throwS (cls := XA) (text := "code is not 33 to 126") (names := xNames) (ik := 63) (is := 104) (ic := 67) (sa := sa) (A := fun q => n0 ≤ q) hx hb hl0 hown (by decide +kernel) (by decide +kernel) (hts (.classLink RX3 63 XA) (by decide +kernel)) (hts (.initialized XA) (by decide +kernel)) hsa (vx_hat (fun w hw => hts w (by first | exact List.mem_cons_of_mem _ (List.mem_append_right _ hw) | exact List.mem_cons_of_mem _ (List.mem_append_left _ (List.mem_append_right _ hw)) | exact List.mem_cons_of_mem _ (List.mem_append_left _ (List.mem_append_left _ (List.mem_append_right _ hw))))) xc_A (vx_c (va_Nw.use rfl hE.2.2.1.2.1) (vx_c (va_Nw.use rfl hE.2.2.2.1.1) (vx_c (va_Nw.use rfl hE.2.2.2.1.2.1) (vx_c (va_Nw.use rfl hE.2.2.2.1.2.2) vx_n))))) (by decide +kernel) hE.1 hE.2.1 va_S.rf (hl.1.trans hml.symm) dX3_append_11 dX3_append_14 dX3_append_15 dX3_append_17 dX3_append_20 (fun x hx9 => (ht x hx9).elim) (Nat.le_of_ble_eq_true rfl) (Nat.le_of_ble_eq_true rfl) (Nat.le_of_ble_eq_true rfl) (Nat.le_of_ble_eq_true rfl) hlocks (fun t _ h1 h2 => ⟨rfl, h1, h2⟩) (fun _ h => nomatch h) (Nat.le_refl _) (Nat.le_refl _)

abbrev tX3_append_T : Room := { frames := 6, cells := 1, slots := 6, locals := 82 }
set_option maxHeartbeats 4000000 in
set_option maxRecDepth 100000 in
theorem x_X3_append_T (l : Launch) (hl0 : l.stackTraces = false) (n0 : Nat) (dC : Nat → ClassId) (dI : Nat → Nat → Nat) (c0 : Nat) (ad ae ah ax : Nat → Nat) (ar : Nat → Nat → Nat) (cI cS : ClassId) (σ τ : zS) (o n : Nat) (ho : o < 6) (hn : n ≤ 6) (hs : Nat → zS) (ω : zT) (hok : zok σ) (b : Nat) (hb1 : 33 ≤ b) (hb2 : b ≤ 126) (ht : tl ω ≤ 60) (hY : ¬ tl ω < 60) : zTh l yX3_append wsX3_append tX3_append_T n0 (dC, dI) [.ref c0, .int (nI b)] (zCW c0 ad ae ah ax ar cI cS σ τ o n hs ω) [(cI, .int), (cS, .object RX1)] XT := by
  refine zTh_of (cc := cX3_append) (maxL := 2) (by decide) rfl (Nat.le_of_ble_eq_true rfl) ?_
  intro p e s m args below meth cd ls hat hP hK hE ht hlocks
  obtain ⟨hx, hb, hml, hown, hts, hl⟩ := hat
  replace hown : s.vm.findClass RX3 = some m.cls := hown
  replace hl : lv_has ls 2 [(0, .ref c0), (1, .int (nI b))] := hl
  replace hP : va_P (dC, dI) vwCl (zCo c0 ad ae ah ax ++ (zW ad cI σ ++ (zW ae cI τ ++ (zHW ah ar cI cS o n hs ++ zTW ax cI ω)))) s.heap := hP
  generalize hQ : vx_MQ below zQF (zTX XT) args s 1 6 (fun _ => False) = Q
  have hf29 := hts (.fieldLink RX3 29 "InsideOutWords" "text" "LInsideOutWords$Text;") (by decide +kernel)
  have hnX3 : ∀ w ∈ u_ws RX3 TX3 4, w ∈ wsX3_append := by decide +kernel
  have hf106 := hts (.fieldLink RX3 106 "InsideOutWords$Text" "length" "I") (by decide +kernel)
  have hnX2 : ∀ w ∈ u_ws RX2 TX2 7, w ∈ wsX3_append := by decide +kernel
  refine lv_iload_n hx hb dX3_append_0 rfl (lv_at hl 1 rfl) ?_
  refine lv_bipush (v := 33) hx hb dX3_append_1 (by decide) ?_
  refine lv_bipush (v := 126) hx hb dX3_append_3 (by decide) ?_
  refine z_cSi (As := [.int (nI b), .int 33, .int 126]) (rest := []) ⟨hx, hb, hml, hown, hts⟩ (k_X3_isOutside l dC dI (nI b) (33 : Int32) (126 : Int32)) (va_cwS 3 hts gX3_append_X3_isOutside rfl rfl rfl (by decide +kernel) ⟨Nat.le_of_ble_eq_true rfl, Nat.le_of_ble_eq_true rfl⟩) (hP.sub (ws' := []) [] rfl) (hK.sub (tys' := []) [] rfl) rfl hl.1 rfl (Nat.le_of_ble_eq_true rfl) dX3_append_5 ⟨Nat.le_of_ble_eq_true rfl, Nat.le_of_ble_eq_true rfl⟩ (fun r_1 hr_1 => ?_)
  refine z_ifeqB hx hb hr_1 (tgt := 21) dX3_append_8 (by decide) (fun c_2 => ?_) (fun c_2 => ?_)
  · skip
    refine lv_aload_n hx hb dX3_append_21 rfl (lv_at hl 0 rfl) ?_
    refine va_get (D := (dC, dI)) (ci := 3) (v := .ref (ax 0)) (C := RX3) (T := TX3) (N := 4) hx hb hts hnX3 hown hK hP 0 rfl rfl 3 (by decide) hf29 (fun _ h9 => h9) rfl dX3_append_22 ?_
    refine va_get (D := (dC, dI)) (ci := 2) (v := .int (nI (tl ω))) (C := RX2) (T := TX2) (N := 7) hx hb hts hnX2 hown hK hP 75 rfl rfl 1 (by decide) hf106 (fun _ h9 => h9) rfl dX3_append_25 ?_
    refine lv_bipush (v := 60) hx hb dX3_append_28 (by decide) ?_
    refine z_lt hx hb (tl ω) 60 (by omega) (by omega) (tgt := 43) dX3_append_30 (by decide) (fun c_3 => ?_) (fun c_3 => ?_)
    · skip
      exact absurd c_3 hY
    · skip
      rw [← hQ]
      obtain ⟨sa, hsa⟩ := hE.2.2.2.2 (110, "the buffer is full") (by decide)
      exact vx_throwS (cls := XT) (text := "the buffer is full") (names := xNames) (ik := 44) (is := 110) (ic := 48) (sa := sa) (A := fun q => n0 ≤ q) hx hb hl0 hown (by decide +kernel) (by decide +kernel) (hts (.classLink RX3 44 XT) (by decide +kernel)) (hts (.initialized XT) (by decide +kernel)) hsa (vx_hat (fun w hw => hts w (by first | exact List.mem_cons_of_mem _ (List.mem_append_right _ hw) | exact List.mem_cons_of_mem _ (List.mem_append_left _ (List.mem_append_right _ hw)) | exact List.mem_cons_of_mem _ (List.mem_append_left _ (List.mem_append_left _ (List.mem_append_right _ hw))))) xc_T (vx_c (va_Nw.use rfl hE.2.2.1.2.2) (vx_c (va_Nw.use rfl hE.2.2.2.1.1) (vx_c (va_Nw.use rfl hE.2.2.2.1.2.1) (vx_c (va_Nw.use rfl hE.2.2.2.1.2.2) vx_n))))) (by decide +kernel) hE.1 hE.2.1 va_S.rf (hl.1.trans hml.symm) dX3_append_33 dX3_append_36 dX3_append_37 dX3_append_39 dX3_append_42 (fun x hx9 => (ht x hx9).elim) (Nat.le_of_ble_eq_true rfl) (Nat.le_of_ble_eq_true rfl) (Nat.le_of_ble_eq_true rfl) (Nat.le_of_ble_eq_true rfl) hlocks (fun t _ h1 h2 => ⟨rfl, h1, h2⟩) (fun _ h => nomatch h) (Nat.le_refl _) (Nat.le_refl _)
  · skip
    exact absurd c_2 (nI_ro (a := 33) (b := 126) (by omega) (by omega) (by decide))

abbrev tX3_undo_T : Room := { frames := 6, cells := 1, slots := 6, locals := 82 }
set_option maxHeartbeats 4000000 in
set_option maxRecDepth 100000 in
theorem x_X3_undo_T (l : Launch) (hl0 : l.stackTraces = false) (n0 : Nat) (dC : Nat → ClassId) (dI : Nat → Nat → Nat) (c0 : Nat) (ad ae ah ax : Nat → Nat) (ar : Nat → Nat → Nat) (cI cS : ClassId) (σ τ : zS) (o n : Nat) (ho : o < 6) (hn : n ≤ 6) (hs : Nat → zS) (ω : zT) (hok : zok σ) (hY : n = 0) : zTh l yX3_undo wsX3_undo tX3_undo_T n0 (dC, dI) [.ref c0] (zCW c0 ad ae ah ax ar cI cS σ τ o n hs ω) [(cI, .int), (cS, .object RX1)] XT := by
  refine zTh_of (cc := cX3_undo) (maxL := 1) (by decide) rfl (Nat.le_of_ble_eq_true rfl) ?_
  intro p e s m args below meth cd ls hat hP hK hE ht hlocks
  obtain ⟨hx, hb, hml, hown, hts, hl⟩ := hat
  replace hown : s.vm.findClass RX3 = some m.cls := hown
  replace hl : lv_has ls 1 [(0, .ref c0)] := hl
  replace hP : va_P (dC, dI) vwCl (zCo c0 ad ae ah ax ++ (zW ad cI σ ++ (zW ae cI τ ++ (zHW ah ar cI cS o n hs ++ zTW ax cI ω)))) s.heap := hP
  generalize hQ : vx_MQ below zQF (zTX XT) args s 1 6 (fun _ => False) = Q
  have hf22 := hts (.fieldLink RX3 22 "InsideOutWords" "history" "LInsideOutWords$History;") (by decide +kernel)
  have hnX3 : ∀ w ∈ u_ws RX3 TX3 4, w ∈ wsX3_undo := by decide +kernel
  have hf128 := hts (.fieldLink RX3 128 "InsideOutWords$History" "size" "I") (by decide +kernel)
  have hnX0 : ∀ w ∈ u_ws RX0 TX0 3, w ∈ wsX3_undo := by decide +kernel
  refine lv_aload_n hx hb dX3_undo_0 rfl (lv_at hl 0 rfl) ?_
  refine va_get (D := (dC, dI)) (ci := 3) (v := .ref (ah 0)) (C := RX3) (T := TX3) (N := 4) hx hb hts hnX3 hown hK hP 0 rfl rfl 2 (by decide) hf22 (fun _ h9 => h9) rfl dX3_undo_1 ?_
  refine va_get (D := (dC, dI)) (ci := 0) (v := .int (nI n)) (C := RX0) (T := TX0) (N := 3) hx hb hts hnX0 hown hK hP 19 rfl rfl 2 (by decide) hf128 (fun _ h9 => h9) rfl dX3_undo_4 ?_
  refine z_ifne hx hb n (by omega) (tgt := 20) dX3_undo_7 (by decide) (fun c_1 => ?_) (fun c_1 => ?_)
  · skip
    exact absurd hY c_1
  · skip
    rw [← hQ]
    obtain ⟨sa, hsa⟩ := hE.2.2.2.2 (131, "no state is saved") (by decide)
    exact vx_throwS (cls := XT) (text := "no state is saved") (names := xNames) (ik := 44) (is := 131) (ic := 48) (sa := sa) (A := fun q => n0 ≤ q) hx hb hl0 hown (by decide +kernel) (by decide +kernel) (hts (.classLink RX3 44 XT) (by decide +kernel)) (hts (.initialized XT) (by decide +kernel)) hsa (vx_hat (fun w hw => hts w (by first | exact List.mem_cons_of_mem _ (List.mem_append_right _ hw) | exact List.mem_cons_of_mem _ (List.mem_append_left _ (List.mem_append_right _ hw)) | exact List.mem_cons_of_mem _ (List.mem_append_left _ (List.mem_append_left _ (List.mem_append_right _ hw))))) xc_T (vx_c (va_Nw.use rfl hE.2.2.1.2.2) (vx_c (va_Nw.use rfl hE.2.2.2.1.1) (vx_c (va_Nw.use rfl hE.2.2.2.1.2.1) (vx_c (va_Nw.use rfl hE.2.2.2.1.2.2) vx_n))))) (by decide +kernel) hE.1 hE.2.1 va_S.rf (hl.1.trans hml.symm) dX3_undo_10 dX3_undo_13 dX3_undo_14 dX3_undo_16 dX3_undo_19 (fun x hx9 => (ht x hx9).elim) (Nat.le_of_ble_eq_true rfl) (Nat.le_of_ble_eq_true rfl) (Nat.le_of_ble_eq_true rfl) (Nat.le_of_ble_eq_true rfl) hlocks (fun t _ h1 h2 => ⟨rfl, h1, h2⟩) (fun _ h => nomatch h) (Nat.le_refl _) (Nat.le_refl _)

abbrev tX3_read_O : Room := { frames := 8, cells := 1, slots := 6, locals := 102 }
set_option maxHeartbeats 4000000 in
set_option maxRecDepth 100000 in
theorem x_X3_read_O (l : Launch) (hl0 : l.stackTraces = false) (n0 : Nat) (dC : Nat → ClassId) (dI : Nat → Nat → Nat) (c0 : Nat) (ad ae ah ax : Nat → Nat) (ar : Nat → Nat → Nat) (cI cS : ClassId) (σ τ : zS) (o n : Nat) (ho : o < 6) (hn : n ≤ 6) (hs : Nat → zS) (ω : zT) (hok : zok σ) (x : Int32) (h : x < 0 ∨ ¬ x ≤ 15) : zTh l yX3_read wsX3_read tX3_read_O n0 (dC, dI) [.ref c0, .int x] (zCW c0 ad ae ah ax ar cI cS σ τ o n hs ω) [(cI, .int), (cS, .object RX1)] XO := by
  refine zTh_of (cc := cX3_read) (maxL := 2) (by decide) rfl (Nat.le_of_ble_eq_true rfl) ?_
  intro p e s m args below meth cd ls hat hP hK hE ht hlocks
  obtain ⟨hx, hb, hml, hown, hts, hl⟩ := hat
  replace hown : s.vm.findClass RX3 = some m.cls := hown
  replace hl : lv_has ls 2 [(0, .ref c0), (1, .int x)] := hl
  replace hP : va_P (dC, dI) vwCl (zCo c0 ad ae ah ax ++ (zW ad cI σ ++ (zW ae cI τ ++ (zHW ah ar cI cS o n hs ++ zTW ax cI ω)))) s.heap := hP
  generalize hQ : vx_MQ below zQF (zTX XO) args s 1 6 (fun _ => False) = Q
  refine lv_iload_n hx hb dX3_read_0 rfl (lv_at hl 1 rfl) ?_
  rw [← hQ]
  exact z_tS (As := [.int x]) (rest := []) ⟨hx, hb, hml, hown, hts⟩ (x_X3_needWord l hl0 n0 dC dI x h) (va_cwS 1 hts gX3_read_X3_needWord rfl rfl rfl (by decide +kernel) ⟨Nat.le_of_ble_eq_true rfl, Nat.le_of_ble_eq_true rfl⟩) (hP.sub (ws' := []) [] rfl) (hK.sub (tys' := []) [] rfl) hE rfl hl.1 rfl (Nat.le_of_ble_eq_true rfl) dX3_read_1 ⟨Nat.le_of_ble_eq_true rfl, Nat.le_of_ble_eq_true rfl⟩ ht hlocks

abbrev tX3_word_O : Room := { frames := 8, cells := 1, slots := 6, locals := 102 }
set_option maxHeartbeats 4000000 in
set_option maxRecDepth 100000 in
theorem x_X3_word_O (l : Launch) (hl0 : l.stackTraces = false) (n0 : Nat) (dC : Nat → ClassId) (dI : Nat → Nat → Nat) (c0 : Nat) (ad ae ah ax : Nat → Nat) (ar : Nat → Nat → Nat) (cI cS : ClassId) (σ τ : zS) (o n : Nat) (ho : o < 6) (hn : n ≤ 6) (hs : Nat → zS) (ω : zT) (hok : zok σ) (x y : Int32) (h : x < 0 ∨ ¬ x ≤ 15) : zTh l yX3_word wsX3_word tX3_word_O n0 (dC, dI) [.ref c0, .int x, .int y] (zCW c0 ad ae ah ax ar cI cS σ τ o n hs ω) [(cI, .int), (cS, .object RX1)] XO := by
  refine zTh_of (cc := cX3_word) (maxL := 3) (by decide) rfl (Nat.le_of_ble_eq_true rfl) ?_
  intro p e s m args below meth cd ls hat hP hK hE ht hlocks
  obtain ⟨hx, hb, hml, hown, hts, hl⟩ := hat
  replace hown : s.vm.findClass RX3 = some m.cls := hown
  replace hl : lv_has ls 3 [(0, .ref c0), (1, .int x), (2, .int y)] := hl
  replace hP : va_P (dC, dI) vwCl (zCo c0 ad ae ah ax ++ (zW ad cI σ ++ (zW ae cI τ ++ (zHW ah ar cI cS o n hs ++ zTW ax cI ω)))) s.heap := hP
  generalize hQ : vx_MQ below zQF (zTX XO) args s 1 6 (fun _ => False) = Q
  refine lv_iload_n hx hb dX3_word_0 rfl (lv_at hl 1 rfl) ?_
  rw [← hQ]
  exact z_tS (As := [.int x]) (rest := []) ⟨hx, hb, hml, hown, hts⟩ (x_X3_needWord l hl0 n0 dC dI x h) (va_cwS 1 hts gX3_word_X3_needWord rfl rfl rfl (by decide +kernel) ⟨Nat.le_of_ble_eq_true rfl, Nat.le_of_ble_eq_true rfl⟩) (hP.sub (ws' := []) [] rfl) (hK.sub (tys' := []) [] rfl) hE rfl hl.1 rfl (Nat.le_of_ble_eq_true rfl) dX3_word_1 ⟨Nat.le_of_ble_eq_true rfl, Nat.le_of_ble_eq_true rfl⟩ ht hlocks

abbrev tX3_word_A : Room := { frames := 8, cells := 1, slots := 6, locals := 103 }
set_option maxHeartbeats 4000000 in
set_option maxRecDepth 100000 in
theorem x_X3_word_A (l : Launch) (hl0 : l.stackTraces = false) (n0 : Nat) (dC : Nat → ClassId) (dI : Nat → Nat → Nat) (c0 : Nat) (ad ae ah ax : Nat → Nat) (ar : Nat → Nat → Nat) (cI cS : ClassId) (σ τ : zS) (o n : Nat) (ho : o < 6) (hn : n ≤ 6) (hs : Nat → zS) (ω : zT) (hok : zok σ) (j : Nat) (hj : j < 16) (y : Int32) (h : y < 0 ∨ ¬ y ≤ 4) : zTh l yX3_word wsX3_word tX3_word_A n0 (dC, dI) [.ref c0, .int (nI j), .int y] (zCW c0 ad ae ah ax ar cI cS σ τ o n hs ω) [(cI, .int), (cS, .object RX1)] XA := by
  refine zTh_of (cc := cX3_word) (maxL := 3) (by decide) rfl (Nat.le_of_ble_eq_true rfl) ?_
  intro p e s m args below meth cd ls hat hP hK hE ht hlocks
  obtain ⟨hx, hb, hml, hown, hts, hl⟩ := hat
  replace hown : s.vm.findClass RX3 = some m.cls := hown
  replace hl : lv_has ls 3 [(0, .ref c0), (1, .int (nI j)), (2, .int y)] := hl
  replace hP : va_P (dC, dI) vwCl (zCo c0 ad ae ah ax ++ (zW ad cI σ ++ (zW ae cI τ ++ (zHW ah ar cI cS o n hs ++ zTW ax cI ω)))) s.heap := hP
  generalize hQ : vx_MQ below zQF (zTX XA) args s 1 6 (fun _ => False) = Q
  refine lv_iload_n hx hb dX3_word_0 rfl (lv_at hl 1 rfl) ?_
  refine z_cSv (As := [.int (nI j)]) (rest := []) ⟨hx, hb, hml, hown, hts⟩ (k_X3_needWord l dC dI (nI j) (nI_io (b := 15) (by omega) (by decide))) (va_cwS 1 hts gX3_word_X3_needWord rfl rfl rfl (by decide +kernel) ⟨Nat.le_of_ble_eq_true rfl, Nat.le_of_ble_eq_true rfl⟩) (hP.sub (ws' := []) [] rfl) (hK.sub (tys' := []) [] rfl) rfl hl.1 rfl (Nat.le_of_ble_eq_true rfl) dX3_word_1 ⟨Nat.le_of_ble_eq_true rfl, Nat.le_of_ble_eq_true rfl⟩ ?_
  refine lv_iload_n hx hb dX3_word_4 rfl (lv_at hl 2 rfl) ?_
  refine lv_iconst (v := 5) hx hb dX3_word_5 (by decide) ?_
  rw [← hQ]
  exact z_tS (As := [.int y, .int 5]) (rest := []) ⟨hx, hb, hml, hown, hts⟩ (x_X3_needWhat l hl0 n0 dC dI y (5 : Int32) h) (va_cwS 2 hts gX3_word_X3_needWhat rfl rfl rfl (by decide +kernel) ⟨Nat.le_of_ble_eq_true rfl, Nat.le_of_ble_eq_true rfl⟩) (hP.sub (ws' := []) [] rfl) (hK.sub (tys' := []) [] rfl) hE rfl hl.1 rfl (Nat.le_of_ble_eq_true rfl) dX3_word_6 ⟨Nat.le_of_ble_eq_true rfl, Nat.le_of_ble_eq_true rfl⟩ ht hlocks

abbrev tX3_slot_O : Room := { frames := 8, cells := 1, slots := 6, locals := 102 }
set_option maxHeartbeats 4000000 in
set_option maxRecDepth 100000 in
theorem x_X3_slot_O (l : Launch) (hl0 : l.stackTraces = false) (n0 : Nat) (dC : Nat → ClassId) (dI : Nat → Nat → Nat) (c0 : Nat) (ad ae ah ax : Nat → Nat) (ar : Nat → Nat → Nat) (cI cS : ClassId) (σ τ : zS) (o n : Nat) (ho : o < 6) (hn : n ≤ 6) (hs : Nat → zS) (ω : zT) (hok : zok σ) (x y : Int32) (h : x < 0 ∨ ¬ x ≤ 17) : zTh l yX3_slot wsX3_slot tX3_slot_O n0 (dC, dI) [.ref c0, .int x, .int y] (zCW c0 ad ae ah ax ar cI cS σ τ o n hs ω) [(cI, .int), (cS, .object RX1)] XO := by
  refine zTh_of (cc := cX3_slot) (maxL := 3) (by decide) rfl (Nat.le_of_ble_eq_true rfl) ?_
  intro p e s m args below meth cd ls hat hP hK hE ht hlocks
  obtain ⟨hx, hb, hml, hown, hts, hl⟩ := hat
  replace hown : s.vm.findClass RX3 = some m.cls := hown
  replace hl : lv_has ls 3 [(0, .ref c0), (1, .int x), (2, .int y)] := hl
  replace hP : va_P (dC, dI) vwCl (zCo c0 ad ae ah ax ++ (zW ad cI σ ++ (zW ae cI τ ++ (zHW ah ar cI cS o n hs ++ zTW ax cI ω)))) s.heap := hP
  generalize hQ : vx_MQ below zQF (zTX XO) args s 1 6 (fun _ => False) = Q
  refine lv_iload_n hx hb dX3_slot_0 rfl (lv_at hl 1 rfl) ?_
  rw [← hQ]
  exact z_tS (As := [.int x]) (rest := []) ⟨hx, hb, hml, hown, hts⟩ (x_X3_needSlot l hl0 n0 dC dI x h) (va_cwS 1 hts gX3_slot_X3_needSlot rfl rfl rfl (by decide +kernel) ⟨Nat.le_of_ble_eq_true rfl, Nat.le_of_ble_eq_true rfl⟩) (hP.sub (ws' := []) [] rfl) (hK.sub (tys' := []) [] rfl) hE rfl hl.1 rfl (Nat.le_of_ble_eq_true rfl) dX3_slot_1 ⟨Nat.le_of_ble_eq_true rfl, Nat.le_of_ble_eq_true rfl⟩ ht hlocks

abbrev tX3_slot_A : Room := { frames := 8, cells := 1, slots := 6, locals := 103 }
set_option maxHeartbeats 4000000 in
set_option maxRecDepth 100000 in
theorem x_X3_slot_A (l : Launch) (hl0 : l.stackTraces = false) (n0 : Nat) (dC : Nat → ClassId) (dI : Nat → Nat → Nat) (c0 : Nat) (ad ae ah ax : Nat → Nat) (ar : Nat → Nat → Nat) (cI cS : ClassId) (σ τ : zS) (o n : Nat) (ho : o < 6) (hn : n ≤ 6) (hs : Nat → zS) (ω : zT) (hok : zok σ) (j : Nat) (hj : j < 18) (y : Int32) (h : y < 0 ∨ ¬ y ≤ 5) : zTh l yX3_slot wsX3_slot tX3_slot_A n0 (dC, dI) [.ref c0, .int (nI j), .int y] (zCW c0 ad ae ah ax ar cI cS σ τ o n hs ω) [(cI, .int), (cS, .object RX1)] XA := by
  refine zTh_of (cc := cX3_slot) (maxL := 3) (by decide) rfl (Nat.le_of_ble_eq_true rfl) ?_
  intro p e s m args below meth cd ls hat hP hK hE ht hlocks
  obtain ⟨hx, hb, hml, hown, hts, hl⟩ := hat
  replace hown : s.vm.findClass RX3 = some m.cls := hown
  replace hl : lv_has ls 3 [(0, .ref c0), (1, .int (nI j)), (2, .int y)] := hl
  replace hP : va_P (dC, dI) vwCl (zCo c0 ad ae ah ax ++ (zW ad cI σ ++ (zW ae cI τ ++ (zHW ah ar cI cS o n hs ++ zTW ax cI ω)))) s.heap := hP
  generalize hQ : vx_MQ below zQF (zTX XA) args s 1 6 (fun _ => False) = Q
  refine lv_iload_n hx hb dX3_slot_0 rfl (lv_at hl 1 rfl) ?_
  refine z_cSv (As := [.int (nI j)]) (rest := []) ⟨hx, hb, hml, hown, hts⟩ (k_X3_needSlot l dC dI (nI j) (nI_io (b := 17) (by omega) (by decide))) (va_cwS 1 hts gX3_slot_X3_needSlot rfl rfl rfl (by decide +kernel) ⟨Nat.le_of_ble_eq_true rfl, Nat.le_of_ble_eq_true rfl⟩) (hP.sub (ws' := []) [] rfl) (hK.sub (tys' := []) [] rfl) rfl hl.1 rfl (Nat.le_of_ble_eq_true rfl) dX3_slot_1 ⟨Nat.le_of_ble_eq_true rfl, Nat.le_of_ble_eq_true rfl⟩ ?_
  refine lv_iload_n hx hb dX3_slot_4 rfl (lv_at hl 2 rfl) ?_
  refine lv_bipush (v := 6) hx hb dX3_slot_5 (by decide) ?_
  rw [← hQ]
  exact z_tS (As := [.int y, .int 6]) (rest := []) ⟨hx, hb, hml, hown, hts⟩ (x_X3_needWhat l hl0 n0 dC dI y (6 : Int32) h) (va_cwS 2 hts gX3_slot_X3_needWhat rfl rfl rfl (by decide +kernel) ⟨Nat.le_of_ble_eq_true rfl, Nat.le_of_ble_eq_true rfl⟩) (hP.sub (ws' := []) [] rfl) (hK.sub (tys' := []) [] rfl) hE rfl hl.1 rfl (Nat.le_of_ble_eq_true rfl) dX3_slot_7 ⟨Nat.le_of_ble_eq_true rfl, Nat.le_of_ble_eq_true rfl⟩ ht hlocks

abbrev tX3_wearOf_O : Room := { frames := 8, cells := 1, slots := 6, locals := 102 }
set_option maxHeartbeats 4000000 in
set_option maxRecDepth 100000 in
theorem x_X3_wearOf_O (l : Launch) (hl0 : l.stackTraces = false) (n0 : Nat) (dC : Nat → ClassId) (dI : Nat → Nat → Nat) (c0 : Nat) (ad ae ah ax : Nat → Nat) (ar : Nat → Nat → Nat) (cI cS : ClassId) (σ τ : zS) (o n : Nat) (ho : o < 6) (hn : n ≤ 6) (hs : Nat → zS) (ω : zT) (hok : zok σ) (x y : Int32) (h : x < 0 ∨ ¬ x ≤ 17) : zTh l yX3_wearOf wsX3_wearOf tX3_wearOf_O n0 (dC, dI) [.ref c0, .int x, .int y] (zCW c0 ad ae ah ax ar cI cS σ τ o n hs ω) [(cI, .int), (cS, .object RX1)] XO := by
  refine zTh_of (cc := cX3_wearOf) (maxL := 3) (by decide) rfl (Nat.le_of_ble_eq_true rfl) ?_
  intro p e s m args below meth cd ls hat hP hK hE ht hlocks
  obtain ⟨hx, hb, hml, hown, hts, hl⟩ := hat
  replace hown : s.vm.findClass RX3 = some m.cls := hown
  replace hl : lv_has ls 3 [(0, .ref c0), (1, .int x), (2, .int y)] := hl
  replace hP : va_P (dC, dI) vwCl (zCo c0 ad ae ah ax ++ (zW ad cI σ ++ (zW ae cI τ ++ (zHW ah ar cI cS o n hs ++ zTW ax cI ω)))) s.heap := hP
  generalize hQ : vx_MQ below zQF (zTX XO) args s 1 6 (fun _ => False) = Q
  refine lv_iload_n hx hb dX3_wearOf_0 rfl (lv_at hl 1 rfl) ?_
  rw [← hQ]
  exact z_tS (As := [.int x]) (rest := []) ⟨hx, hb, hml, hown, hts⟩ (x_X3_needSlot l hl0 n0 dC dI x h) (va_cwS 1 hts gX3_wearOf_X3_needSlot rfl rfl rfl (by decide +kernel) ⟨Nat.le_of_ble_eq_true rfl, Nat.le_of_ble_eq_true rfl⟩) (hP.sub (ws' := []) [] rfl) (hK.sub (tys' := []) [] rfl) hE rfl hl.1 rfl (Nat.le_of_ble_eq_true rfl) dX3_wearOf_1 ⟨Nat.le_of_ble_eq_true rfl, Nat.le_of_ble_eq_true rfl⟩ ht hlocks

abbrev tX3_wearOf_P : Room := { frames := 8, cells := 1, slots := 6, locals := 102 }
set_option maxHeartbeats 4000000 in
set_option maxRecDepth 100000 in
theorem x_X3_wearOf_P (l : Launch) (hl0 : l.stackTraces = false) (n0 : Nat) (dC : Nat → ClassId) (dI : Nat → Nat → Nat) (c0 : Nat) (ad ae ah ax : Nat → Nat) (ar : Nat → Nat → Nat) (cI cS : ClassId) (σ τ : zS) (o n : Nat) (ho : o < 6) (hn : n ≤ 6) (hs : Nat → zS) (ω : zT) (hok : zok σ) (j : Nat) (hj : j < 18) (y : Int32) (h : y < 0 ∨ ¬ y ≤ 12) : zTh l yX3_wearOf wsX3_wearOf tX3_wearOf_P n0 (dC, dI) [.ref c0, .int (nI j), .int y] (zCW c0 ad ae ah ax ar cI cS σ τ o n hs ω) [(cI, .int), (cS, .object RX1)] XO := by
  refine zTh_of (cc := cX3_wearOf) (maxL := 3) (by decide) rfl (Nat.le_of_ble_eq_true rfl) ?_
  intro p e s m args below meth cd ls hat hP hK hE ht hlocks
  obtain ⟨hx, hb, hml, hown, hts, hl⟩ := hat
  replace hown : s.vm.findClass RX3 = some m.cls := hown
  replace hl : lv_has ls 3 [(0, .ref c0), (1, .int (nI j)), (2, .int y)] := hl
  replace hP : va_P (dC, dI) vwCl (zCo c0 ad ae ah ax ++ (zW ad cI σ ++ (zW ae cI τ ++ (zHW ah ar cI cS o n hs ++ zTW ax cI ω)))) s.heap := hP
  generalize hQ : vx_MQ below zQF (zTX XO) args s 1 6 (fun _ => False) = Q
  refine lv_iload_n hx hb dX3_wearOf_0 rfl (lv_at hl 1 rfl) ?_
  refine z_cSv (As := [.int (nI j)]) (rest := []) ⟨hx, hb, hml, hown, hts⟩ (k_X3_needSlot l dC dI (nI j) (nI_io (b := 17) (by omega) (by decide))) (va_cwS 1 hts gX3_wearOf_X3_needSlot rfl rfl rfl (by decide +kernel) ⟨Nat.le_of_ble_eq_true rfl, Nat.le_of_ble_eq_true rfl⟩) (hP.sub (ws' := []) [] rfl) (hK.sub (tys' := []) [] rfl) rfl hl.1 rfl (Nat.le_of_ble_eq_true rfl) dX3_wearOf_1 ⟨Nat.le_of_ble_eq_true rfl, Nat.le_of_ble_eq_true rfl⟩ ?_
  refine lv_iload_n hx hb dX3_wearOf_4 rfl (lv_at hl 2 rfl) ?_
  rw [← hQ]
  exact z_tS (As := [.int y]) (rest := []) ⟨hx, hb, hml, hown, hts⟩ (x_X3_needCell l hl0 n0 dC dI y h) (va_cwS 1 hts gX3_wearOf_X3_needCell rfl rfl rfl (by decide +kernel) ⟨Nat.le_of_ble_eq_true rfl, Nat.le_of_ble_eq_true rfl⟩) (hP.sub (ws' := []) [] rfl) (hK.sub (tys' := []) [] rfl) hE rfl hl.1 rfl (Nat.le_of_ble_eq_true rfl) dX3_wearOf_5 ⟨Nat.le_of_ble_eq_true rfl, Nat.le_of_ble_eq_true rfl⟩ ht hlocks

abbrev tX3_count_A : Room := { frames := 8, cells := 1, slots := 6, locals := 103 }
set_option maxHeartbeats 4000000 in
set_option maxRecDepth 100000 in
theorem x_X3_count_A (l : Launch) (hl0 : l.stackTraces = false) (n0 : Nat) (dC : Nat → ClassId) (dI : Nat → Nat → Nat) (c0 : Nat) (ad ae ah ax : Nat → Nat) (ar : Nat → Nat → Nat) (cI cS : ClassId) (σ τ : zS) (o n : Nat) (ho : o < 6) (hn : n ≤ 6) (hs : Nat → zS) (ω : zT) (hok : zok σ) (x : Int32) (h : x < 0 ∨ ¬ x ≤ 9) : zTh l yX3_count wsX3_count tX3_count_A n0 (dC, dI) [.ref c0, .int x] (zCW c0 ad ae ah ax ar cI cS σ τ o n hs ω) [(cI, .int), (cS, .object RX1)] XA := by
  refine zTh_of (cc := cX3_count) (maxL := 2) (by decide) rfl (Nat.le_of_ble_eq_true rfl) ?_
  intro p e s m args below meth cd ls hat hP hK hE ht hlocks
  obtain ⟨hx, hb, hml, hown, hts, hl⟩ := hat
  replace hown : s.vm.findClass RX3 = some m.cls := hown
  replace hl : lv_has ls 2 [(0, .ref c0), (1, .int x)] := hl
  replace hP : va_P (dC, dI) vwCl (zCo c0 ad ae ah ax ++ (zW ad cI σ ++ (zW ae cI τ ++ (zHW ah ar cI cS o n hs ++ zTW ax cI ω)))) s.heap := hP
  generalize hQ : vx_MQ below zQF (zTX XA) args s 1 6 (fun _ => False) = Q
  refine lv_iload_n hx hb dX3_count_0 rfl (lv_at hl 1 rfl) ?_
  refine lv_bipush (v := 10) hx hb dX3_count_1 (by decide) ?_
  rw [← hQ]
  exact z_tS (As := [.int x, .int 10]) (rest := []) ⟨hx, hb, hml, hown, hts⟩ (x_X3_needWhat l hl0 n0 dC dI x (10 : Int32) h) (va_cwS 2 hts gX3_count_X3_needWhat rfl rfl rfl (by decide +kernel) ⟨Nat.le_of_ble_eq_true rfl, Nat.le_of_ble_eq_true rfl⟩) (hP.sub (ws' := []) [] rfl) (hK.sub (tys' := []) [] rfl) hE rfl hl.1 rfl (Nat.le_of_ble_eq_true rfl) dX3_count_3 ⟨Nat.le_of_ble_eq_true rfl, Nat.le_of_ble_eq_true rfl⟩ ht hlocks

abbrev tX3_setting_O : Room := { frames := 8, cells := 1, slots := 6, locals := 102 }
set_option maxHeartbeats 4000000 in
set_option maxRecDepth 100000 in
theorem x_X3_setting_O (l : Launch) (hl0 : l.stackTraces = false) (n0 : Nat) (dC : Nat → ClassId) (dI : Nat → Nat → Nat) (c0 : Nat) (ad ae ah ax : Nat → Nat) (ar : Nat → Nat → Nat) (cI cS : ClassId) (σ τ : zS) (o n : Nat) (ho : o < 6) (hn : n ≤ 6) (hs : Nat → zS) (ω : zT) (hok : zok σ) (x : Int32) (h : x < 0 ∨ ¬ x ≤ 1) : zTh l yX3_setting wsX3_setting tX3_setting_O n0 (dC, dI) [.ref c0, .int x] (zCW c0 ad ae ah ax ar cI cS σ τ o n hs ω) [(cI, .int), (cS, .object RX1)] XO := by
  refine zTh_of (cc := cX3_setting) (maxL := 2) (by decide) rfl (Nat.le_of_ble_eq_true rfl) ?_
  intro p e s m args below meth cd ls hat hP hK hE ht hlocks
  obtain ⟨hx, hb, hml, hown, hts, hl⟩ := hat
  replace hown : s.vm.findClass RX3 = some m.cls := hown
  replace hl : lv_has ls 2 [(0, .ref c0), (1, .int x)] := hl
  replace hP : va_P (dC, dI) vwCl (zCo c0 ad ae ah ax ++ (zW ad cI σ ++ (zW ae cI τ ++ (zHW ah ar cI cS o n hs ++ zTW ax cI ω)))) s.heap := hP
  generalize hQ : vx_MQ below zQF (zTX XO) args s 1 6 (fun _ => False) = Q
  refine lv_iload_n hx hb dX3_setting_0 rfl (lv_at hl 1 rfl) ?_
  rw [← hQ]
  exact z_tS (As := [.int x]) (rest := []) ⟨hx, hb, hml, hown, hts⟩ (x_X3_needSetting l hl0 n0 dC dI x h) (va_cwS 1 hts gX3_setting_X3_needSetting rfl rfl rfl (by decide +kernel) ⟨Nat.le_of_ble_eq_true rfl, Nat.le_of_ble_eq_true rfl⟩) (hP.sub (ws' := []) [] rfl) (hK.sub (tys' := []) [] rfl) hE rfl hl.1 rfl (Nat.le_of_ble_eq_true rfl) dX3_setting_1 ⟨Nat.le_of_ble_eq_true rfl, Nat.le_of_ble_eq_true rfl⟩ ht hlocks

abbrev tX3_cost_O : Room := { frames := 8, cells := 1, slots := 6, locals := 102 }
set_option maxHeartbeats 4000000 in
set_option maxRecDepth 100000 in
theorem x_X3_cost_O (l : Launch) (hl0 : l.stackTraces = false) (n0 : Nat) (dC : Nat → ClassId) (dI : Nat → Nat → Nat) (c0 : Nat) (ad ae ah ax : Nat → Nat) (ar : Nat → Nat → Nat) (cI cS : ClassId) (σ τ : zS) (o n : Nat) (ho : o < 6) (hn : n ≤ 6) (hs : Nat → zS) (ω : zT) (hok : zok σ) (x y : Int32) (h : x < 0 ∨ ¬ x ≤ 17) : zTh l yX3_cost wsX3_cost tX3_cost_O n0 (dC, dI) [.ref c0, .int x, .int y] (zCW c0 ad ae ah ax ar cI cS σ τ o n hs ω) [(cI, .int), (cS, .object RX1)] XO := by
  refine zTh_of (cc := cX3_cost) (maxL := 4) (by decide) rfl (Nat.le_of_ble_eq_true rfl) ?_
  intro p e s m args below meth cd ls hat hP hK hE ht hlocks
  obtain ⟨hx, hb, hml, hown, hts, hl⟩ := hat
  replace hown : s.vm.findClass RX3 = some m.cls := hown
  replace hl : lv_has ls 4 [(0, .ref c0), (1, .int x), (2, .int y)] := hl
  replace hP : va_P (dC, dI) vwCl (zCo c0 ad ae ah ax ++ (zW ad cI σ ++ (zW ae cI τ ++ (zHW ah ar cI cS o n hs ++ zTW ax cI ω)))) s.heap := hP
  generalize hQ : vx_MQ below zQF (zTX XO) args s 1 6 (fun _ => False) = Q
  refine lv_iload_n hx hb dX3_cost_0 rfl (lv_at hl 1 rfl) ?_
  rw [← hQ]
  exact z_tS (As := [.int x]) (rest := []) ⟨hx, hb, hml, hown, hts⟩ (x_X3_needSlot l hl0 n0 dC dI x h) (va_cwS 1 hts gX3_cost_X3_needSlot rfl rfl rfl (by decide +kernel) ⟨Nat.le_of_ble_eq_true rfl, Nat.le_of_ble_eq_true rfl⟩) (hP.sub (ws' := []) [] rfl) (hK.sub (tys' := []) [] rfl) hE rfl hl.1 rfl (Nat.le_of_ble_eq_true rfl) dX3_cost_1 ⟨Nat.le_of_ble_eq_true rfl, Nat.le_of_ble_eq_true rfl⟩ ht hlocks

abbrev tX3_cost_A : Room := { frames := 8, cells := 1, slots := 6, locals := 102 }
set_option maxHeartbeats 4000000 in
set_option maxRecDepth 100000 in
theorem x_X3_cost_A (l : Launch) (hl0 : l.stackTraces = false) (n0 : Nat) (dC : Nat → ClassId) (dI : Nat → Nat → Nat) (c0 : Nat) (ad ae ah ax : Nat → Nat) (ar : Nat → Nat → Nat) (cI cS : ClassId) (σ τ : zS) (o n : Nat) (ho : o < 6) (hn : n ≤ 6) (hs : Nat → zS) (ω : zT) (hok : zok σ) (j : Nat) (hj : j < 18) (y : Int32) (h : y < 0 ∨ ¬ y ≤ 4095) : zTh l yX3_cost wsX3_cost tX3_cost_A n0 (dC, dI) [.ref c0, .int (nI j), .int y] (zCW c0 ad ae ah ax ar cI cS σ τ o n hs ω) [(cI, .int), (cS, .object RX1)] XA := by
  refine zTh_of (cc := cX3_cost) (maxL := 4) (by decide) rfl (Nat.le_of_ble_eq_true rfl) ?_
  intro p e s m args below meth cd ls hat hP hK hE ht hlocks
  obtain ⟨hx, hb, hml, hown, hts, hl⟩ := hat
  replace hown : s.vm.findClass RX3 = some m.cls := hown
  replace hl : lv_has ls 4 [(0, .ref c0), (1, .int (nI j)), (2, .int y)] := hl
  replace hP : va_P (dC, dI) vwCl (zCo c0 ad ae ah ax ++ (zW ad cI σ ++ (zW ae cI τ ++ (zHW ah ar cI cS o n hs ++ zTW ax cI ω)))) s.heap := hP
  generalize hQ : vx_MQ below zQF (zTX XA) args s 1 6 (fun _ => False) = Q
  refine lv_iload_n hx hb dX3_cost_0 rfl (lv_at hl 1 rfl) ?_
  refine z_cSv (As := [.int (nI j)]) (rest := []) ⟨hx, hb, hml, hown, hts⟩ (k_X3_needSlot l dC dI (nI j) (nI_io (b := 17) (by omega) (by decide))) (va_cwS 1 hts gX3_cost_X3_needSlot rfl rfl rfl (by decide +kernel) ⟨Nat.le_of_ble_eq_true rfl, Nat.le_of_ble_eq_true rfl⟩) (hP.sub (ws' := []) [] rfl) (hK.sub (tys' := []) [] rfl) rfl hl.1 rfl (Nat.le_of_ble_eq_true rfl) dX3_cost_1 ⟨Nat.le_of_ble_eq_true rfl, Nat.le_of_ble_eq_true rfl⟩ ?_
  refine lv_iload_n hx hb dX3_cost_4 rfl (lv_at hl 2 rfl) ?_
  rw [← hQ]
  exact z_tS (As := [.int y]) (rest := []) ⟨hx, hb, hml, hown, hts⟩ (x_X3_needNumber l hl0 n0 dC dI y h) (va_cwS 1 hts gX3_cost_X3_needNumber rfl rfl rfl (by decide +kernel) ⟨Nat.le_of_ble_eq_true rfl, Nat.le_of_ble_eq_true rfl⟩) (hP.sub (ws' := []) [] rfl) (hK.sub (tys' := []) [] rfl) hE rfl hl.1 rfl (Nat.le_of_ble_eq_true rfl) dX3_cost_5 ⟨Nat.le_of_ble_eq_true rfl, Nat.le_of_ble_eq_true rfl⟩ ht hlocks

abbrev tX3_ifWritten_O : Room := { frames := 8, cells := 1, slots := 6, locals := 102 }
set_option maxHeartbeats 4000000 in
set_option maxRecDepth 100000 in
theorem x_X3_ifWritten_O (l : Launch) (hl0 : l.stackTraces = false) (n0 : Nat) (dC : Nat → ClassId) (dI : Nat → Nat → Nat) (c0 : Nat) (ad ae ah ax : Nat → Nat) (ar : Nat → Nat → Nat) (cI cS : ClassId) (σ τ : zS) (o n : Nat) (ho : o < 6) (hn : n ≤ 6) (hs : Nat → zS) (ω : zT) (hok : zok σ) (x y : Int32) (h : x < 0 ∨ ¬ x ≤ 15) : zTh l yX3_ifWritten wsX3_ifWritten tX3_ifWritten_O n0 (dC, dI) [.ref c0, .int x, .int y] (zCW c0 ad ae ah ax ar cI cS σ τ o n hs ω) [(cI, .int), (cS, .object RX1)] XO := by
  refine zTh_of (cc := cX3_ifWritten) (maxL := 3) (by decide) rfl (Nat.le_of_ble_eq_true rfl) ?_
  intro p e s m args below meth cd ls hat hP hK hE ht hlocks
  obtain ⟨hx, hb, hml, hown, hts, hl⟩ := hat
  replace hown : s.vm.findClass RX3 = some m.cls := hown
  replace hl : lv_has ls 3 [(0, .ref c0), (1, .int x), (2, .int y)] := hl
  replace hP : va_P (dC, dI) vwCl (zCo c0 ad ae ah ax ++ (zW ad cI σ ++ (zW ae cI τ ++ (zHW ah ar cI cS o n hs ++ zTW ax cI ω)))) s.heap := hP
  generalize hQ : vx_MQ below zQF (zTX XO) args s 1 6 (fun _ => False) = Q
  refine lv_iload_n hx hb dX3_ifWritten_0 rfl (lv_at hl 1 rfl) ?_
  rw [← hQ]
  exact z_tS (As := [.int x]) (rest := []) ⟨hx, hb, hml, hown, hts⟩ (x_X3_needWord l hl0 n0 dC dI x h) (va_cwS 1 hts gX3_ifWritten_X3_needWord rfl rfl rfl (by decide +kernel) ⟨Nat.le_of_ble_eq_true rfl, Nat.le_of_ble_eq_true rfl⟩) (hP.sub (ws' := []) [] rfl) (hK.sub (tys' := []) [] rfl) hE rfl hl.1 rfl (Nat.le_of_ble_eq_true rfl) dX3_ifWritten_1 ⟨Nat.le_of_ble_eq_true rfl, Nat.le_of_ble_eq_true rfl⟩ ht hlocks

abbrev tX3_ifWritten_A : Room := { frames := 8, cells := 1, slots := 6, locals := 102 }
set_option maxHeartbeats 4000000 in
set_option maxRecDepth 100000 in
theorem x_X3_ifWritten_A (l : Launch) (hl0 : l.stackTraces = false) (n0 : Nat) (dC : Nat → ClassId) (dI : Nat → Nat → Nat) (c0 : Nat) (ad ae ah ax : Nat → Nat) (ar : Nat → Nat → Nat) (cI cS : ClassId) (σ τ : zS) (o n : Nat) (ho : o < 6) (hn : n ≤ 6) (hs : Nat → zS) (ω : zT) (hok : zok σ) (j : Nat) (hj : j < 16) (y : Int32) (h : y < 0 ∨ ¬ y ≤ 4095) : zTh l yX3_ifWritten wsX3_ifWritten tX3_ifWritten_A n0 (dC, dI) [.ref c0, .int (nI j), .int y] (zCW c0 ad ae ah ax ar cI cS σ τ o n hs ω) [(cI, .int), (cS, .object RX1)] XA := by
  refine zTh_of (cc := cX3_ifWritten) (maxL := 3) (by decide) rfl (Nat.le_of_ble_eq_true rfl) ?_
  intro p e s m args below meth cd ls hat hP hK hE ht hlocks
  obtain ⟨hx, hb, hml, hown, hts, hl⟩ := hat
  replace hown : s.vm.findClass RX3 = some m.cls := hown
  replace hl : lv_has ls 3 [(0, .ref c0), (1, .int (nI j)), (2, .int y)] := hl
  replace hP : va_P (dC, dI) vwCl (zCo c0 ad ae ah ax ++ (zW ad cI σ ++ (zW ae cI τ ++ (zHW ah ar cI cS o n hs ++ zTW ax cI ω)))) s.heap := hP
  generalize hQ : vx_MQ below zQF (zTX XA) args s 1 6 (fun _ => False) = Q
  refine lv_iload_n hx hb dX3_ifWritten_0 rfl (lv_at hl 1 rfl) ?_
  refine z_cSv (As := [.int (nI j)]) (rest := []) ⟨hx, hb, hml, hown, hts⟩ (k_X3_needWord l dC dI (nI j) (nI_io (b := 15) (by omega) (by decide))) (va_cwS 1 hts gX3_ifWritten_X3_needWord rfl rfl rfl (by decide +kernel) ⟨Nat.le_of_ble_eq_true rfl, Nat.le_of_ble_eq_true rfl⟩) (hP.sub (ws' := []) [] rfl) (hK.sub (tys' := []) [] rfl) rfl hl.1 rfl (Nat.le_of_ble_eq_true rfl) dX3_ifWritten_1 ⟨Nat.le_of_ble_eq_true rfl, Nat.le_of_ble_eq_true rfl⟩ ?_
  refine lv_iload_n hx hb dX3_ifWritten_4 rfl (lv_at hl 2 rfl) ?_
  rw [← hQ]
  exact z_tS (As := [.int y]) (rest := []) ⟨hx, hb, hml, hown, hts⟩ (x_X3_needNumber l hl0 n0 dC dI y h) (va_cwS 1 hts gX3_ifWritten_X3_needNumber rfl rfl rfl (by decide +kernel) ⟨Nat.le_of_ble_eq_true rfl, Nat.le_of_ble_eq_true rfl⟩) (hP.sub (ws' := []) [] rfl) (hK.sub (tys' := []) [] rfl) hE rfl hl.1 rfl (Nat.le_of_ble_eq_true rfl) dX3_ifWritten_5 ⟨Nat.le_of_ble_eq_true rfl, Nat.le_of_ble_eq_true rfl⟩ ht hlocks

abbrev tX3_costliest_O : Room := { frames := 8, cells := 1, slots := 6, locals := 102 }
set_option maxHeartbeats 4000000 in
set_option maxRecDepth 100000 in
theorem x_X3_costliest_O (l : Launch) (hl0 : l.stackTraces = false) (n0 : Nat) (dC : Nat → ClassId) (dI : Nat → Nat → Nat) (c0 : Nat) (ad ae ah ax : Nat → Nat) (ar : Nat → Nat → Nat) (cI cS : ClassId) (σ τ : zS) (o n : Nat) (ho : o < 6) (hn : n ≤ 6) (hs : Nat → zS) (ω : zT) (hok : zok σ) (x : Int32) (h : x < 0 ∨ ¬ x ≤ 15) : zTh l yX3_costliest wsX3_costliest tX3_costliest_O n0 (dC, dI) [.ref c0, .int x] (zCW c0 ad ae ah ax ar cI cS σ τ o n hs ω) [(cI, .int), (cS, .object RX1)] XO := by
  refine zTh_of (cc := cX3_costliest) (maxL := 2) (by decide) rfl (Nat.le_of_ble_eq_true rfl) ?_
  intro p e s m args below meth cd ls hat hP hK hE ht hlocks
  obtain ⟨hx, hb, hml, hown, hts, hl⟩ := hat
  replace hown : s.vm.findClass RX3 = some m.cls := hown
  replace hl : lv_has ls 2 [(0, .ref c0), (1, .int x)] := hl
  replace hP : va_P (dC, dI) vwCl (zCo c0 ad ae ah ax ++ (zW ad cI σ ++ (zW ae cI τ ++ (zHW ah ar cI cS o n hs ++ zTW ax cI ω)))) s.heap := hP
  generalize hQ : vx_MQ below zQF (zTX XO) args s 1 6 (fun _ => False) = Q
  refine lv_iload_n hx hb dX3_costliest_0 rfl (lv_at hl 1 rfl) ?_
  rw [← hQ]
  exact z_tS (As := [.int x]) (rest := []) ⟨hx, hb, hml, hown, hts⟩ (x_X3_needWord l hl0 n0 dC dI x h) (va_cwS 1 hts gX3_costliest_X3_needWord rfl rfl rfl (by decide +kernel) ⟨Nat.le_of_ble_eq_true rfl, Nat.le_of_ble_eq_true rfl⟩) (hP.sub (ws' := []) [] rfl) (hK.sub (tys' := []) [] rfl) hE rfl hl.1 rfl (Nat.le_of_ble_eq_true rfl) dX3_costliest_1 ⟨Nat.le_of_ble_eq_true rfl, Nat.le_of_ble_eq_true rfl⟩ ht hlocks

abbrev tX3_life_O : Room := { frames := 8, cells := 1, slots := 6, locals := 102 }
set_option maxHeartbeats 4000000 in
set_option maxRecDepth 100000 in
theorem x_X3_life_O (l : Launch) (hl0 : l.stackTraces = false) (n0 : Nat) (dC : Nat → ClassId) (dI : Nat → Nat → Nat) (c0 : Nat) (ad ae ah ax : Nat → Nat) (ar : Nat → Nat → Nat) (cI cS : ClassId) (σ τ : zS) (o n : Nat) (ho : o < 6) (hn : n ≤ 6) (hs : Nat → zS) (ω : zT) (hok : zok σ) (x y : Int32) (h : x < 0 ∨ ¬ x ≤ 15) : zTh l yX3_life wsX3_life tX3_life_O n0 (dC, dI) [.ref c0, .int x, .int y] (zCW c0 ad ae ah ax ar cI cS σ τ o n hs ω) [(cI, .int), (cS, .object RX1)] XO := by
  refine zTh_of (cc := cX3_life) (maxL := 3) (by decide) rfl (Nat.le_of_ble_eq_true rfl) ?_
  intro p e s m args below meth cd ls hat hP hK hE ht hlocks
  obtain ⟨hx, hb, hml, hown, hts, hl⟩ := hat
  replace hown : s.vm.findClass RX3 = some m.cls := hown
  replace hl : lv_has ls 3 [(0, .ref c0), (1, .int x), (2, .int y)] := hl
  replace hP : va_P (dC, dI) vwCl (zCo c0 ad ae ah ax ++ (zW ad cI σ ++ (zW ae cI τ ++ (zHW ah ar cI cS o n hs ++ zTW ax cI ω)))) s.heap := hP
  generalize hQ : vx_MQ below zQF (zTX XO) args s 1 6 (fun _ => False) = Q
  refine lv_iload_n hx hb dX3_life_0 rfl (lv_at hl 1 rfl) ?_
  rw [← hQ]
  exact z_tS (As := [.int x]) (rest := []) ⟨hx, hb, hml, hown, hts⟩ (x_X3_needWord l hl0 n0 dC dI x h) (va_cwS 1 hts gX3_life_X3_needWord rfl rfl rfl (by decide +kernel) ⟨Nat.le_of_ble_eq_true rfl, Nat.le_of_ble_eq_true rfl⟩) (hP.sub (ws' := []) [] rfl) (hK.sub (tys' := []) [] rfl) hE rfl hl.1 rfl (Nat.le_of_ble_eq_true rfl) dX3_life_1 ⟨Nat.le_of_ble_eq_true rfl, Nat.le_of_ble_eq_true rfl⟩ ht hlocks

abbrev tX3_life_A : Room := { frames := 8, cells := 1, slots := 6, locals := 102 }
set_option maxHeartbeats 4000000 in
set_option maxRecDepth 100000 in
theorem x_X3_life_A (l : Launch) (hl0 : l.stackTraces = false) (n0 : Nat) (dC : Nat → ClassId) (dI : Nat → Nat → Nat) (c0 : Nat) (ad ae ah ax : Nat → Nat) (ar : Nat → Nat → Nat) (cI cS : ClassId) (σ τ : zS) (o n : Nat) (ho : o < 6) (hn : n ≤ 6) (hs : Nat → zS) (ω : zT) (hok : zok σ) (j : Nat) (hj : j < 16) (y : Int32) (h : y < 0 ∨ ¬ y ≤ 4095) : zTh l yX3_life wsX3_life tX3_life_A n0 (dC, dI) [.ref c0, .int (nI j), .int y] (zCW c0 ad ae ah ax ar cI cS σ τ o n hs ω) [(cI, .int), (cS, .object RX1)] XA := by
  refine zTh_of (cc := cX3_life) (maxL := 3) (by decide) rfl (Nat.le_of_ble_eq_true rfl) ?_
  intro p e s m args below meth cd ls hat hP hK hE ht hlocks
  obtain ⟨hx, hb, hml, hown, hts, hl⟩ := hat
  replace hown : s.vm.findClass RX3 = some m.cls := hown
  replace hl : lv_has ls 3 [(0, .ref c0), (1, .int (nI j)), (2, .int y)] := hl
  replace hP : va_P (dC, dI) vwCl (zCo c0 ad ae ah ax ++ (zW ad cI σ ++ (zW ae cI τ ++ (zHW ah ar cI cS o n hs ++ zTW ax cI ω)))) s.heap := hP
  generalize hQ : vx_MQ below zQF (zTX XA) args s 1 6 (fun _ => False) = Q
  refine lv_iload_n hx hb dX3_life_0 rfl (lv_at hl 1 rfl) ?_
  refine z_cSv (As := [.int (nI j)]) (rest := []) ⟨hx, hb, hml, hown, hts⟩ (k_X3_needWord l dC dI (nI j) (nI_io (b := 15) (by omega) (by decide))) (va_cwS 1 hts gX3_life_X3_needWord rfl rfl rfl (by decide +kernel) ⟨Nat.le_of_ble_eq_true rfl, Nat.le_of_ble_eq_true rfl⟩) (hP.sub (ws' := []) [] rfl) (hK.sub (tys' := []) [] rfl) rfl hl.1 rfl (Nat.le_of_ble_eq_true rfl) dX3_life_1 ⟨Nat.le_of_ble_eq_true rfl, Nat.le_of_ble_eq_true rfl⟩ ?_
  refine lv_iload_n hx hb dX3_life_4 rfl (lv_at hl 2 rfl) ?_
  rw [← hQ]
  exact z_tS (As := [.int y]) (rest := []) ⟨hx, hb, hml, hown, hts⟩ (x_X3_needNumber l hl0 n0 dC dI y h) (va_cwS 1 hts gX3_life_X3_needNumber rfl rfl rfl (by decide +kernel) ⟨Nat.le_of_ble_eq_true rfl, Nat.le_of_ble_eq_true rfl⟩) (hP.sub (ws' := []) [] rfl) (hK.sub (tys' := []) [] rfl) hE rfl hl.1 rfl (Nat.le_of_ble_eq_true rfl) dX3_life_5 ⟨Nat.le_of_ble_eq_true rfl, Nat.le_of_ble_eq_true rfl⟩ ht hlocks
