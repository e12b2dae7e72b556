abbrev rX3_write : Room := { frames := 4, cells := 0, slots := 0, locals := 102 }
set_option maxHeartbeats 4000000 in
set_option maxRecDepth 100000 in
theorem k_X3_write (l : Launch) (dC : Nat → ClassId) (dI : Nat → Nat → Nat) (c0 : Nat) (ad ae ah ax : Nat → Nat) (ar : Nat → Nat → Nat) (cI cS : ClassId) (σ τ : zS) (o n : Nat) (ho : o < 6) (hn : n ≤ 6) (hs : Nat → zS) (ω : zT) (hok : zok σ) (j : Nat) (hj : j < 16) (v : Nat) (hv : v < 4096) (t : Nat) (hE : ptg σ j (nI v) = some t) (sz : Nat) : zWi (S := Unit) l yX3_write wsX3_write rX3_write (dC, dI) [.ref c0, .int (nI j), .int (nI v)] (zCW c0 ad ae ah ax ar cI cS σ τ o n hs ω) [(cI, .int), (cS, .object RX1)] sz (fun r (_ : Unit) => r = pBC (pch σ t (nI v))) (fun _ => zCW c0 ad ae ah ax ar cI cS (pPlace σ j (nI v) t) τ (hKeepO o n) (hKeepN n) (hKeepH o n hs σ) ω) 0 0 := by
  refine zWi_of (cc := cX3_write) (maxL := 4) (ty := .int) (by decide) rfl (Nat.le_of_ble_eq_true rfl) (fun _ _ _ => rfl) ?_
  intro p e s m args below meth cd Q ls A hat hP hK hD hA hend
  obtain ⟨hx, hb, hml, hown, hts, hl⟩ := hat
  replace hown : s.vm.findClass RX3 = some m.cls := hown
  replace hl : lv_has ls 4 [(0, .ref c0), (1, .int (nI j)), (2, .int (nI v))] := hl
  replace hP : va_P (dC, dI) vwCl (zCo c0 ad ae ah ax ++ (zW ad cI σ ++ (zW ae cI τ ++ (zHW ah ar cI cS o n hs ++ zTW ax cI ω)))) s.heap := hP
  replace hD : va_D A (zCo c0 ad ae ah ax ++ (zW ad cI σ ++ (zW ae cI τ ++ (zHW ah ar cI cS o n hs ++ zTW ax cI ω)))) := hD
  have hS : va_S A s.heap s.heap [] := va_S.rf
  have hf10 := hts (.fieldLink RX3 10 "InsideOutWords" "now" "LInsideOutWords$State;") (by decide +kernel)
  have hnX3 : ∀ w ∈ u_ws RX3 TX3 4, w ∈ wsX3_write := by decide +kernel
  have hf22 := hts (.fieldLink RX3 22 "InsideOutWords" "history" "LInsideOutWords$History;") (by decide +kernel)
  refine lv_iload_n hx hb dX3_write_0 rfl (lv_at hl 1 rfl) ?_
  refine z_cSv (As := [.int (nI j)]) (rest := []) ⟨hx, hb, hml, hown, hts⟩ (k_X3_needWord l dC dI (nI j) (nI_io (b := 15) (by omega) (by decide))) (va_cwS 1 hts gX3_write_X3_needWord rfl rfl rfl (by decide +kernel) ⟨Nat.le_of_ble_eq_true rfl, Nat.le_of_ble_eq_true rfl⟩) (hP.sub (ws' := []) [] rfl) (hK.sub (tys' := []) [] rfl) rfl hl.1 rfl (Nat.le_of_ble_eq_true rfl) dX3_write_1 ⟨Nat.le_of_ble_eq_true rfl, Nat.le_of_ble_eq_true rfl⟩ ?_
  refine lv_iload_n hx hb dX3_write_4 rfl (lv_at hl 2 rfl) ?_
  refine z_cSv (As := [.int (nI v)]) (rest := []) ⟨hx, hb, hml, hown, hts⟩ (k_X3_needNumber l dC dI (nI v) (nI_io (b := 4095) (by omega) (by decide))) (va_cwS 1 hts gX3_write_X3_needNumber rfl rfl rfl (by decide +kernel) ⟨Nat.le_of_ble_eq_true rfl, Nat.le_of_ble_eq_true rfl⟩) (hP.sub (ws' := []) [] rfl) (hK.sub (tys' := []) [] rfl) rfl hl.1 rfl (Nat.le_of_ble_eq_true rfl) dX3_write_5 ⟨Nat.le_of_ble_eq_true rfl, Nat.le_of_ble_eq_true rfl⟩ ?_
  refine lv_aload_n hx hb dX3_write_8 rfl (lv_at hl 0 rfl) ?_
  refine va_get (D := (dC, dI)) (ci := 3) (v := .ref (ad 0)) (C := RX3) (T := TX3) (N := 4) hx hb hts hnX3 hown hK hP 0 rfl rfl 0 (by decide) hf10 (fun _ h9 => h9) rfl dX3_write_9 ?_
  refine lv_iload_n hx hb dX3_write_12 rfl (lv_at hl 1 rfl) ?_
  refine lv_iload_n hx hb dX3_write_13 rfl (lv_at hl 2 rfl) ?_
  refine z_cVi (As := [.int (nI j), .int (nI v)]) (rest := []) ⟨hx, hb, hml, hown, hts⟩ (k_X1_targetOf l dC dI ad cI σ hok j (by omega) (nI v)) (cwV 2 hts gX3_write_X1_targetOf rfl rfl rfl (by decide +kernel) ⟨Nat.le_of_ble_eq_true rfl, Nat.le_of_ble_eq_true rfl⟩) (va_recv hK hP (ci := 1) (q0 := 1) rfl rfl) (hP.sub (ws' := zW ad cI σ) [1, 2, 3, 4, 5, 6, 7, 8, 9] rfl) (hK.sub (tys' := [(cI, .int)]) [0] rfl) rfl hl.1 rfl (Nat.le_of_ble_eq_true rfl) dX3_write_14 ⟨Nat.le_of_ble_eq_true rfl, Nat.le_of_ble_eq_true rfl⟩ (fun r_1 hr_1 => ?_)
  obtain ⟨o_2, eo_2⟩ : ∃ zz : Option Nat, zz = ptg σ j (nI v) := ⟨_, rfl⟩
  rw [← eo_2] at hr_1
  subst hr_1
  have hbo_2 : ∀ i, o_2 = some i → i < 18 := by rw [eo_2]; exact ptg_lt (hok _ (by omega))
  refine lv_istore_n (lv' := [(3, .int (zo o_2)), (0, .ref c0), (1, .int (nI j)), (2, .int (nI v))]) hx hb dX3_write_17 rfl hl (by decide) rfl (fun ls hl => ?_)
  refine lv_iload_n hx hb dX3_write_18 rfl (lv_at hl 0 rfl) ?_
  refine lv_iconst (v := (-1)) hx hb dX3_write_19 (by decide) ?_
  refine z_neO hx hb o_2 (fun i hi => Nat.lt_of_lt_of_le (hbo_2 i hi) (by decide)) (tgt := 33) dX3_write_20 (by decide) (fun k_3 ho_3 => ?_) (fun ho_3 => ?_)
  · skip
    have hE_3 := eo_2.symm.trans ho_3
    have hkb_3 := hbo_2 _ ho_3
    try rw [ho_3] at hl
    try rw [ho_3]
    replace hl : lv_has ls 4 [(3, .int (nI k_3)), (0, .ref c0), (1, .int (nI j)), (2, .int (nI v))] := hl
    refine lv_aload_n hx hb dX3_write_33 rfl (lv_at hl 1 rfl) ?_
    refine va_get (D := (dC, dI)) (ci := 3) (v := .ref (ah 0)) (C := RX3) (T := TX3) (N := 4) hx hb hts hnX3 hown hK hP 0 rfl rfl 2 (by decide) hf22 (fun _ h9 => h9) rfl dX3_write_34 ?_
    refine lv_aload_n hx hb dX3_write_37 rfl (lv_at hl 1 rfl) ?_
    refine va_get (D := (dC, dI)) (ci := 3) (v := .ref (ad 0)) (C := RX3) (T := TX3) (N := 4) hx hb hts hnX3 hown hK hP 0 rfl rfl 0 (by decide) hf10 (fun _ h9 => h9) rfl dX3_write_38 ?_
    replace hP := z_reord (ws' := ((zCo c0 ad ae ah ax ++ (zW ae cI τ ++ zTW ax cI ω)) ++ (zHW ah ar cI cS o n hs ++ zW ad cI σ))) (fun q h => (List.mem_append.mp h).elim (fun h => (List.mem_append.mp h).elim (fun h => List.mem_append_left _ h) (fun h => (List.mem_append.mp h).elim (fun h => List.mem_append_right _ (List.mem_append_right _ (List.mem_append_left _ h))) (fun h => List.mem_append_right _ (List.mem_append_right _ (List.mem_append_right _ (List.mem_append_right _ h)))))) (fun h => (List.mem_append.mp h).elim (fun h => List.mem_append_right _ (List.mem_append_right _ (List.mem_append_right _ (List.mem_append_left _ h)))) (fun h => List.mem_append_right _ (List.mem_append_left _ h)))) (fun a => by simp only [List.map_append, List.count_append, List.map_nil, List.count_nil]; omega) hP hD
    obtain ⟨hP, hD⟩ := hP
    refine z_xWv (wr := (zCo c0 ad ae ah ax ++ (zW ae cI τ ++ zTW ax cI ω))) (As := [.ref (ad 0)]) (rest := []) ⟨hx, hb, hml, hown, hts⟩ (k_X0_keep l dC dI ah ar cI cS o n (by omega) (by omega) hs ad σ (s.heap).size) (cwV 1 hts gX3_write_X0_keep rfl rfl rfl (by decide +kernel) ⟨Nat.le_of_ble_eq_true rfl, Nat.le_of_ble_eq_true rfl⟩) (va_recv hK hP (ci := 0) (q0 := 14) rfl rfl) hP hD hS hA (hK.sub (tys' := [(cI, .int), (cS, .object RX1)]) [0, 1] rfl) rfl hl.1 rfl (Nat.le_of_ble_eq_true rfl) dX3_write_41 ⟨Nat.le_of_ble_eq_true rfl, Nat.le_of_ble_eq_true rfl⟩ (fun _ H locs hr_4 (hP : va_P (dC, dI) vwCl ((zCo c0 ad ae ah ax ++ (zW ae cI τ ++ zTW ax cI ω)) ++ (zHW ah ar cI cS (hKeepO o n) (hKeepN n) (hKeepH o n hs σ) ++ zW ad cI σ)) H) (hD : va_D A ((zCo c0 ad ae ah ax ++ (zW ae cI τ ++ zTW ax cI ω)) ++ (zHW ah ar cI cS (hKeepO o n) (hKeepN n) (hKeepH o n hs σ) ++ zW ad cI σ))) hS => ?_)
    refine lv_aload_n hx hb dX3_write_44 rfl (lv_at hl 1 rfl) ?_
    refine va_get (D := (dC, dI)) (ci := 3) (v := .ref (ad 0)) (C := RX3) (T := TX3) (N := 4) hx hb hts hnX3 hown hK hP 0 rfl rfl 0 (by decide) hf10 (fun _ h9 => h9) rfl dX3_write_45 ?_
    refine lv_iload_n hx hb dX3_write_48 rfl (lv_at hl 2 rfl) ?_
    refine lv_iload_n hx hb dX3_write_49 rfl (lv_at hl 3 rfl) ?_
    refine lv_iload_n hx hb dX3_write_50 rfl (lv_at hl 0 rfl) ?_
    replace hP := z_reord (ws' := ((zCo c0 ad ae ah ax ++ (zW ae cI τ ++ (zTW ax cI ω ++ zHW ah ar cI cS (hKeepO o n) (hKeepN n) (hKeepH o n hs σ)))) ++ zW ad cI σ)) (fun q h => (List.mem_append.mp h).elim (fun h => (List.mem_append.mp h).elim (fun h => List.mem_append_left _ (List.mem_append_left _ h)) (fun h => (List.mem_append.mp h).elim (fun h => List.mem_append_left _ (List.mem_append_right _ (List.mem_append_left _ h))) (fun h => (List.mem_append.mp h).elim (fun h => List.mem_append_left _ (List.mem_append_right _ (List.mem_append_right _ h))) (fun h => List.mem_append_right _ (List.mem_append_left _ h))))) (fun h => List.mem_append_right _ (List.mem_append_right _ h))) (fun a => by simp only [List.map_append, List.count_append, List.map_nil, List.count_nil]; omega) hP hD
    obtain ⟨hP, hD⟩ := hP
    refine z_xWi (wr := (zCo c0 ad ae ah ax ++ (zW ae cI τ ++ (zTW ax cI ω ++ zHW ah ar cI cS (hKeepO o n) (hKeepN n) (hKeepH o n hs σ))))) (As := [.int (nI j), .int (nI v), .int (nI k_3)]) (rest := []) ⟨hx, hb, hml, hown, hts⟩ (k_X1_place l dC dI ad cI σ hok j (by omega) (nI v) k_3 (by omega) H.size) (cwV 3 hts gX3_write_X1_place rfl rfl rfl (by decide +kernel) ⟨Nat.le_of_ble_eq_true rfl, Nat.le_of_ble_eq_true rfl⟩) (va_recv hK hP (ci := 1) (q0 := 70) rfl rfl) hP hD hS hA (hK.sub (tys' := [(cI, .int)]) [0] rfl) rfl hl.1 rfl (Nat.le_of_ble_eq_true rfl) dX3_write_51 ⟨Nat.le_of_ble_eq_true rfl, Nat.le_of_ble_eq_true rfl⟩ (fun r_5 _ H locs hr_5 (hP : va_P (dC, dI) vwCl ((zCo c0 ad ae ah ax ++ (zW ae cI τ ++ (zTW ax cI ω ++ zHW ah ar cI cS (hKeepO o n) (hKeepN n) (hKeepH o n hs σ)))) ++ zW ad cI (pPlace σ j (nI v) k_3)) H) (hD : va_D A ((zCo c0 ad ae ah ax ++ (zW ae cI τ ++ (zTW ax cI ω ++ zHW ah ar cI cS (hKeepO o n) (hKeepN n) (hKeepH o n hs σ)))) ++ zW ad cI (pPlace σ j (nI v) k_3))) hS => ?_)
    have hok_5 : zok (pPlace σ j (nI v) k_3) := pPlace_ok hok (by omega)
    subst hr_5
    replace hP := z_reord (ws' := (zCo c0 ad ae ah ax ++ (zW ad cI (pPlace σ j (nI v) k_3) ++ (zW ae cI τ ++ (zHW ah ar cI cS (hKeepO o n) (hKeepN n) (hKeepH o n hs σ) ++ zTW ax cI ω))))) (fun q h => (List.mem_append.mp h).elim (fun h => List.mem_append_left _ (List.mem_append_left _ h)) (fun h => (List.mem_append.mp h).elim (fun h => List.mem_append_right _ h) (fun h => (List.mem_append.mp h).elim (fun h => List.mem_append_left _ (List.mem_append_right _ (List.mem_append_left _ h))) (fun h => (List.mem_append.mp h).elim (fun h => List.mem_append_left _ (List.mem_append_right _ (List.mem_append_right _ (List.mem_append_right _ h)))) (fun h => List.mem_append_left _ (List.mem_append_right _ (List.mem_append_right _ (List.mem_append_left _ h)))))))) (fun a => by simp only [List.map_append, List.count_append, List.map_nil, List.count_nil]; omega) hP hD
    obtain ⟨hP, hD⟩ := hP
    have e9s : pPlace σ j (nI v) t = pPlace σ j (nI v) k_3 := by rw [show t = k_3 from Option.some.inj (hE.symm.trans hE_3)]
    replace hP : va_P (dC, dI) vwCl (zCW c0 ad ae ah ax ar cI cS (pPlace σ j (nI v) t) τ (hKeepO o n) (hKeepN n) (hKeepH o n hs σ) ω) H := by rw [e9s]; exact hP
    replace hD : va_D A (zCW c0 ad ae ah ax ar cI cS (pPlace σ j (nI v) t) τ (hKeepO o n) (hKeepN n) (hKeepH o n hs σ) ω) := by rw [e9s]; exact hD
    exact hend _ () _ _ _ _ (by rw [show t = k_3 from Option.some.inj (hE.symm.trans hE_3)]) hP hD hS dX3_write_54
  · skip
    have hE_3 := eo_2.symm.trans ho_3
    try rw [ho_3] at hl
    try rw [ho_3]
    replace hl : lv_has ls 4 [(3, .int (-1)), (0, .ref c0), (1, .int (nI j)), (2, .int (nI v))] := hl
    exact absurd (hE.symm.trans hE_3) (fun z => by cases z)

abbrev rX3_hammer : Room := { frames := 5, cells := 0, slots := 0, locals := 127 }
set_option maxHeartbeats 4000000 in
set_option maxRecDepth 100000 in
theorem k_X3_hammer (l : Launch) (dC : Nat → ClassId) (dI : Nat → Nat → Nat) (c0 : Nat) (ad ae ah ax : Nat → Nat) (ar : Nat → Nat → Nat) (cI cS : ClassId) (σ τ : zS) (o n : Nat) (ho : o < 6) (hn : n ≤ 6) (hs : Nat → zS) (ω : zT) (hok : zok σ) (j : Nat) (hj : j < 16) (v : Nat) (hv : v < 4096) (b : Nat) (hb1 : 1 ≤ b) (hb2 : b ≤ 500) (sz : Nat) : zWi (S := Unit) l yX3_hammer wsX3_hammer rX3_hammer (dC, dI) [.ref c0, .int (nI j), .int (nI v), .int (nI b)] (zCW c0 ad ae ah ax ar cI cS σ τ o n hs ω) [(cI, .int), (cS, .object RX1)] sz (fun r (_ : Unit) => r = nI ((pTurns j b σ (nI v)).2)) (fun _ => zCW c0 ad ae ah ax ar cI cS ((pTurns j b σ (nI v)).1) τ (hKeepO o n) (hKeepN n) (hKeepH o n hs σ) ω) 0 0 := by
  refine zWi_of (cc := cX3_hammer) (maxL := 4) (ty := .int) (by decide) rfl (Nat.le_of_ble_eq_true rfl) (fun _ _ _ => rfl) ?_
  intro p e s m args below meth cd Q ls A hat hP hK hD hA hend
  obtain ⟨hx, hb, hml, hown, hts, hl⟩ := hat
  replace hown : s.vm.findClass RX3 = some m.cls := hown
  replace hl : lv_has ls 4 [(0, .ref c0), (1, .int (nI j)), (2, .int (nI v)), (3, .int (nI b))] := hl
  replace hP : va_P (dC, dI) vwCl (zCo c0 ad ae ah ax ++ (zW ad cI σ ++ (zW ae cI τ ++ (zHW ah ar cI cS o n hs ++ zTW ax cI ω)))) s.heap := hP
  replace hD : va_D A (zCo c0 ad ae ah ax ++ (zW ad cI σ ++ (zW ae cI τ ++ (zHW ah ar cI cS o n hs ++ zTW ax cI ω)))) := hD
  have hS : va_S A s.heap s.heap [] := va_S.rf
  have hf22 := hts (.fieldLink RX3 22 "InsideOutWords" "history" "LInsideOutWords$History;") (by decide +kernel)
  have hnX3 : ∀ w ∈ u_ws RX3 TX3 4, w ∈ wsX3_hammer := by decide +kernel
  have hf10 := hts (.fieldLink RX3 10 "InsideOutWords" "now" "LInsideOutWords$State;") (by decide +kernel)
  refine lv_iload_n hx hb dX3_hammer_0 rfl (lv_at hl 1 rfl) ?_
  refine z_cSv (As := [.int (nI j)]) (rest := []) ⟨hx, hb, hml, hown, hts⟩ (k_X3_needWord l dC dI (nI j) (nI_io (b := 15) (by omega) (by decide))) (va_cwS 1 hts gX3_hammer_X3_needWord rfl rfl rfl (by decide +kernel) ⟨Nat.le_of_ble_eq_true rfl, Nat.le_of_ble_eq_true rfl⟩) (hP.sub (ws' := []) [] rfl) (hK.sub (tys' := []) [] rfl) rfl hl.1 rfl (Nat.le_of_ble_eq_true rfl) dX3_hammer_1 ⟨Nat.le_of_ble_eq_true rfl, Nat.le_of_ble_eq_true rfl⟩ ?_
  refine lv_iload_n hx hb dX3_hammer_4 rfl (lv_at hl 2 rfl) ?_
  refine z_cSv (As := [.int (nI v)]) (rest := []) ⟨hx, hb, hml, hown, hts⟩ (k_X3_needNumber l dC dI (nI v) (nI_io (b := 4095) (by omega) (by decide))) (va_cwS 1 hts gX3_hammer_X3_needNumber rfl rfl rfl (by decide +kernel) ⟨Nat.le_of_ble_eq_true rfl, Nat.le_of_ble_eq_true rfl⟩) (hP.sub (ws' := []) [] rfl) (hK.sub (tys' := []) [] rfl) rfl hl.1 rfl (Nat.le_of_ble_eq_true rfl) dX3_hammer_5 ⟨Nat.le_of_ble_eq_true rfl, Nat.le_of_ble_eq_true rfl⟩ ?_
  refine lv_iload_n hx hb dX3_hammer_8 rfl (lv_at hl 3 rfl) ?_
  refine lv_iconst (v := 1) hx hb dX3_hammer_9 (by decide) ?_
  refine lv_sipush (v := 500) hx hb dX3_hammer_10 (by decide) ?_
  refine z_cSi (As := [.int (nI b), .int 1, .int 500]) (rest := []) ⟨hx, hb, hml, hown, hts⟩ (k_X3_isOutside l dC dI (nI b) (1 : Int32) (500 : Int32)) (va_cwS 3 hts gX3_hammer_X3_isOutside rfl rfl rfl (by decide +kernel) ⟨Nat.le_of_ble_eq_true rfl, Nat.le_of_ble_eq_true rfl⟩) (hP.sub (ws' := []) [] rfl) (hK.sub (tys' := []) [] rfl) rfl hl.1 rfl (Nat.le_of_ble_eq_true rfl) dX3_hammer_13 ⟨Nat.le_of_ble_eq_true rfl, Nat.le_of_ble_eq_true rfl⟩ (fun r_1 hr_1 => ?_)
  refine z_ifeqB hx hb hr_1 (tgt := 29) dX3_hammer_16 (by decide) (fun c_2 => ?_) (fun c_2 => ?_)
  · skip
    refine lv_aload_n hx hb dX3_hammer_29 rfl (lv_at hl 0 rfl) ?_
    refine va_get (D := (dC, dI)) (ci := 3) (v := .ref (ah 0)) (C := RX3) (T := TX3) (N := 4) hx hb hts hnX3 hown hK hP 0 rfl rfl 2 (by decide) hf22 (fun _ h9 => h9) rfl dX3_hammer_30 ?_
    refine lv_aload_n hx hb dX3_hammer_33 rfl (lv_at hl 0 rfl) ?_
    refine va_get (D := (dC, dI)) (ci := 3) (v := .ref (ad 0)) (C := RX3) (T := TX3) (N := 4) hx hb hts hnX3 hown hK hP 0 rfl rfl 0 (by decide) hf10 (fun _ h9 => h9) rfl dX3_hammer_34 ?_
    replace hP := z_reord (ws' := ((zCo c0 ad ae ah ax ++ (zW ae cI τ ++ zTW ax cI ω)) ++ (zHW ah ar cI cS o n hs ++ zW ad cI σ))) (fun q h => (List.mem_append.mp h).elim (fun h => (List.mem_append.mp h).elim (fun h => List.mem_append_left _ h) (fun h => (List.mem_append.mp h).elim (fun h => List.mem_append_right _ (List.mem_append_right _ (List.mem_append_left _ h))) (fun h => List.mem_append_right _ (List.mem_append_right _ (List.mem_append_right _ (List.mem_append_right _ h)))))) (fun h => (List.mem_append.mp h).elim (fun h => List.mem_append_right _ (List.mem_append_right _ (List.mem_append_right _ (List.mem_append_left _ h)))) (fun h => List.mem_append_right _ (List.mem_append_left _ h)))) (fun a => by simp only [List.map_append, List.count_append, List.map_nil, List.count_nil]; omega) hP hD
    obtain ⟨hP, hD⟩ := hP
    refine z_xWv (wr := (zCo c0 ad ae ah ax ++ (zW ae cI τ ++ zTW ax cI ω))) (As := [.ref (ad 0)]) (rest := []) ⟨hx, hb, hml, hown, hts⟩ (k_X0_keep l dC dI ah ar cI cS o n (by omega) (by omega) hs ad σ (s.heap).size) (cwV 1 hts gX3_hammer_X0_keep rfl rfl rfl (by decide +kernel) ⟨Nat.le_of_ble_eq_true rfl, Nat.le_of_ble_eq_true rfl⟩) (va_recv hK hP (ci := 0) (q0 := 14) rfl rfl) hP hD hS hA (hK.sub (tys' := [(cI, .int), (cS, .object RX1)]) [0, 1] rfl) rfl hl.1 rfl (Nat.le_of_ble_eq_true rfl) dX3_hammer_37 ⟨Nat.le_of_ble_eq_true rfl, Nat.le_of_ble_eq_true rfl⟩ (fun _ H locs hr_3 (hP : va_P (dC, dI) vwCl ((zCo c0 ad ae ah ax ++ (zW ae cI τ ++ zTW ax cI ω)) ++ (zHW ah ar cI cS (hKeepO o n) (hKeepN n) (hKeepH o n hs σ) ++ zW ad cI σ)) H) (hD : va_D A ((zCo c0 ad ae ah ax ++ (zW ae cI τ ++ zTW ax cI ω)) ++ (zHW ah ar cI cS (hKeepO o n) (hKeepN n) (hKeepH o n hs σ) ++ zW ad cI σ))) hS => ?_)
    refine lv_aload_n hx hb dX3_hammer_40 rfl (lv_at hl 0 rfl) ?_
    refine va_get (D := (dC, dI)) (ci := 3) (v := .ref (ad 0)) (C := RX3) (T := TX3) (N := 4) hx hb hts hnX3 hown hK hP 0 rfl rfl 0 (by decide) hf10 (fun _ h9 => h9) rfl dX3_hammer_41 ?_
    refine lv_iload_n hx hb dX3_hammer_44 rfl (lv_at hl 1 rfl) ?_
    refine lv_iload_n hx hb dX3_hammer_45 rfl (lv_at hl 2 rfl) ?_
    refine lv_iload_n hx hb dX3_hammer_46 rfl (lv_at hl 3 rfl) ?_
    replace hP := z_reord (ws' := ((zCo c0 ad ae ah ax ++ (zW ae cI τ ++ (zTW ax cI ω ++ zHW ah ar cI cS (hKeepO o n) (hKeepN n) (hKeepH o n hs σ)))) ++ zW ad cI σ)) (fun q h => (List.mem_append.mp h).elim (fun h => (List.mem_append.mp h).elim (fun h => List.mem_append_left _ (List.mem_append_left _ h)) (fun h => (List.mem_append.mp h).elim (fun h => List.mem_append_left _ (List.mem_append_right _ (List.mem_append_left _ h))) (fun h => (List.mem_append.mp h).elim (fun h => List.mem_append_left _ (List.mem_append_right _ (List.mem_append_right _ h))) (fun h => List.mem_append_right _ (List.mem_append_left _ h))))) (fun h => List.mem_append_right _ (List.mem_append_right _ h))) (fun a => by simp only [List.map_append, List.count_append, List.map_nil, List.count_nil]; omega) hP hD
    obtain ⟨hP, hD⟩ := hP
    refine z_xWi (wr := (zCo c0 ad ae ah ax ++ (zW ae cI τ ++ (zTW ax cI ω ++ zHW ah ar cI cS (hKeepO o n) (hKeepN n) (hKeepH o n hs σ))))) (As := [.int (nI j), .int (nI v), .int (nI b)]) (rest := []) ⟨hx, hb, hml, hown, hts⟩ (k_X1_placeInTurns l dC dI ad cI σ hok j (by omega) (nI v) b (by omega) H.size) (cwV 3 hts gX3_hammer_X1_placeInTurns rfl rfl rfl (by decide +kernel) ⟨Nat.le_of_ble_eq_true rfl, Nat.le_of_ble_eq_true rfl⟩) (va_recv hK hP (ci := 1) (q0 := 70) rfl rfl) hP hD hS hA (hK.sub (tys' := [(cI, .int)]) [0] rfl) rfl hl.1 rfl (Nat.le_of_ble_eq_true rfl) dX3_hammer_47 ⟨Nat.le_of_ble_eq_true rfl, Nat.le_of_ble_eq_true rfl⟩ (fun r_4 _ H locs hr_4 (hP : va_P (dC, dI) vwCl ((zCo c0 ad ae ah ax ++ (zW ae cI τ ++ (zTW ax cI ω ++ zHW ah ar cI cS (hKeepO o n) (hKeepN n) (hKeepH o n hs σ)))) ++ zW ad cI ((pTurns j b σ (nI v)).1)) H) (hD : va_D A ((zCo c0 ad ae ah ax ++ (zW ae cI τ ++ (zTW ax cI ω ++ zHW ah ar cI cS (hKeepO o n) (hKeepN n) (hKeepH o n hs σ)))) ++ zW ad cI ((pTurns j b σ (nI v)).1))) hS => ?_)
    have hok_4 : zok ((pTurns j b σ (nI v)).1) := pTurns_ok (by omega) hok
    subst hr_4
    replace hP := z_reord (ws' := (zCo c0 ad ae ah ax ++ (zW ad cI ((pTurns j b σ (nI v)).1) ++ (zW ae cI τ ++ (zHW ah ar cI cS (hKeepO o n) (hKeepN n) (hKeepH o n hs σ) ++ zTW ax cI ω))))) (fun q h => (List.mem_append.mp h).elim (fun h => List.mem_append_left _ (List.mem_append_left _ h)) (fun h => (List.mem_append.mp h).elim (fun h => List.mem_append_right _ h) (fun h => (List.mem_append.mp h).elim (fun h => List.mem_append_left _ (List.mem_append_right _ (List.mem_append_left _ h))) (fun h => (List.mem_append.mp h).elim (fun h => List.mem_append_left _ (List.mem_append_right _ (List.mem_append_right _ (List.mem_append_right _ h)))) (fun h => List.mem_append_left _ (List.mem_append_right _ (List.mem_append_right _ (List.mem_append_left _ h)))))))) (fun a => by simp only [List.map_append, List.count_append, List.map_nil, List.count_nil]; omega) hP hD
    obtain ⟨hP, hD⟩ := hP
    replace hP : va_P (dC, dI) vwCl (zCW c0 ad ae ah ax ar cI cS ((pTurns j b σ (nI v)).1) τ (hKeepO o n) (hKeepN n) (hKeepH o n hs σ) ω) H := hP
    replace hD : va_D A (zCW c0 ad ae ah ax ar cI cS ((pTurns j b σ (nI v)).1) τ (hKeepO o n) (hKeepN n) (hKeepH o n hs σ) ω) := hD
    exact hend _ () _ _ _ _ rfl hP hD hS dX3_hammer_50
  · skip
    exact absurd c_2 (nI_ro (a := 1) (b := 500) (by omega) (by omega) (by decide))

abbrev rX3_exchange : Room := { frames := 3, cells := 0, slots := 0, locals := 102 }
set_option maxHeartbeats 4000000 in
set_option maxRecDepth 100000 in
theorem k_X3_exchange (l : Launch) (dC : Nat → ClassId) (dI : Nat → Nat → Nat) (c0 : Nat) (ad ae ah ax : Nat → Nat) (ar : Nat → Nat → Nat) (cI cS : ClassId) (σ τ : zS) (o n : Nat) (ho : o < 6) (hn : n ≤ 6) (hs : Nat → zS) (ω : zT) (hok : zok σ) (j : Nat) (hj : j < 16) (i : Nat) (hi : i < 16) (sz : Nat) : zWi (S := Unit) l yX3_exchange wsX3_exchange rX3_exchange (dC, dI) [.ref c0, .int (nI j), .int (nI i)] (zCW c0 ad ae ah ax ar cI cS σ τ o n hs ω) [(cI, .int), (cS, .object RX1)] sz (fun r (_ : Unit) => r = nI (zpl (pSwap σ j i) j)) (fun _ => zCW c0 ad ae ah ax ar cI cS (pSwap σ j i) τ (hKeepO o n) (hKeepN n) (hKeepH o n hs σ) ω) 0 0 := by
  refine zWi_of (cc := cX3_exchange) (maxL := 3) (ty := .int) (by decide) rfl (Nat.le_of_ble_eq_true rfl) (fun _ _ _ => rfl) ?_
  intro p e s m args below meth cd Q ls A hat hP hK hD hA hend
  obtain ⟨hx, hb, hml, hown, hts, hl⟩ := hat
  replace hown : s.vm.findClass RX3 = some m.cls := hown
  replace hl : lv_has ls 3 [(0, .ref c0), (1, .int (nI j)), (2, .int (nI i))] := hl
  replace hP : va_P (dC, dI) vwCl (zCo c0 ad ae ah ax ++ (zW ad cI σ ++ (zW ae cI τ ++ (zHW ah ar cI cS o n hs ++ zTW ax cI ω)))) s.heap := hP
  replace hD : va_D A (zCo c0 ad ae ah ax ++ (zW ad cI σ ++ (zW ae cI τ ++ (zHW ah ar cI cS o n hs ++ zTW ax cI ω)))) := hD
  have hS : va_S A s.heap s.heap [] := va_S.rf
  have hf22 := hts (.fieldLink RX3 22 "InsideOutWords" "history" "LInsideOutWords$History;") (by decide +kernel)
  have hnX3 : ∀ w ∈ u_ws RX3 TX3 4, w ∈ wsX3_exchange := by decide +kernel
  have hf10 := hts (.fieldLink RX3 10 "InsideOutWords" "now" "LInsideOutWords$State;") (by decide +kernel)
  have hf75 := hts (.fieldLink RX3 75 "InsideOutWords$State" "slotOf" "[I") (by decide +kernel)
  have hnX1 : ∀ w ∈ u_ws RX1 TX1 13, w ∈ wsX3_exchange := by decide +kernel
  refine lv_iload_n hx hb dX3_exchange_0 rfl (lv_at hl 1 rfl) ?_
  refine z_cSv (As := [.int (nI j)]) (rest := []) ⟨hx, hb, hml, hown, hts⟩ (k_X3_needWord l dC dI (nI j) (nI_io (b := 15) (by omega) (by decide))) (va_cwS 1 hts gX3_exchange_X3_needWord rfl rfl rfl (by decide +kernel) ⟨Nat.le_of_ble_eq_true rfl, Nat.le_of_ble_eq_true rfl⟩) (hP.sub (ws' := []) [] rfl) (hK.sub (tys' := []) [] rfl) rfl hl.1 rfl (Nat.le_of_ble_eq_true rfl) dX3_exchange_1 ⟨Nat.le_of_ble_eq_true rfl, Nat.le_of_ble_eq_true rfl⟩ ?_
  refine lv_iload_n hx hb dX3_exchange_4 rfl (lv_at hl 2 rfl) ?_
  refine z_cSv (As := [.int (nI i)]) (rest := []) ⟨hx, hb, hml, hown, hts⟩ (k_X3_needWord l dC dI (nI i) (nI_io (b := 15) (by omega) (by decide))) (va_cwS 1 hts gX3_exchange_X3_needWord rfl rfl rfl (by decide +kernel) ⟨Nat.le_of_ble_eq_true rfl, Nat.le_of_ble_eq_true rfl⟩) (hP.sub (ws' := []) [] rfl) (hK.sub (tys' := []) [] rfl) rfl hl.1 rfl (Nat.le_of_ble_eq_true rfl) dX3_exchange_5 ⟨Nat.le_of_ble_eq_true rfl, Nat.le_of_ble_eq_true rfl⟩ ?_
  refine lv_aload_n hx hb dX3_exchange_8 rfl (lv_at hl 0 rfl) ?_
  refine va_get (D := (dC, dI)) (ci := 3) (v := .ref (ah 0)) (C := RX3) (T := TX3) (N := 4) hx hb hts hnX3 hown hK hP 0 rfl rfl 2 (by decide) hf22 (fun _ h9 => h9) rfl dX3_exchange_9 ?_
  refine lv_aload_n hx hb dX3_exchange_12 rfl (lv_at hl 0 rfl) ?_
  refine va_get (D := (dC, dI)) (ci := 3) (v := .ref (ad 0)) (C := RX3) (T := TX3) (N := 4) hx hb hts hnX3 hown hK hP 0 rfl rfl 0 (by decide) hf10 (fun _ h9 => h9) rfl dX3_exchange_13 ?_
  replace hP := z_reord (ws' := ((zCo c0 ad ae ah ax ++ (zW ae cI τ ++ zTW ax cI ω)) ++ (zHW ah ar cI cS o n hs ++ zW ad cI σ))) (fun q h => (List.mem_append.mp h).elim (fun h => (List.mem_append.mp h).elim (fun h => List.mem_append_left _ h) (fun h => (List.mem_append.mp h).elim (fun h => List.mem_append_right _ (List.mem_append_right _ (List.mem_append_left _ h))) (fun h => List.mem_append_right _ (List.mem_append_right _ (List.mem_append_right _ (List.mem_append_right _ h)))))) (fun h => (List.mem_append.mp h).elim (fun h => List.mem_append_right _ (List.mem_append_right _ (List.mem_append_right _ (List.mem_append_left _ h)))) (fun h => List.mem_append_right _ (List.mem_append_left _ h)))) (fun a => by simp only [List.map_append, List.count_append, List.map_nil, List.count_nil]; omega) hP hD
  obtain ⟨hP, hD⟩ := hP
  refine z_xWv (wr := (zCo c0 ad ae ah ax ++ (zW ae cI τ ++ zTW ax cI ω))) (As := [.ref (ad 0)]) (rest := []) ⟨hx, hb, hml, hown, hts⟩ (k_X0_keep l dC dI ah ar cI cS o n (by omega) (by omega) hs ad σ (s.heap).size) (cwV 1 hts gX3_exchange_X0_keep rfl rfl rfl (by decide +kernel) ⟨Nat.le_of_ble_eq_true rfl, Nat.le_of_ble_eq_true rfl⟩) (va_recv hK hP (ci := 0) (q0 := 14) rfl rfl) hP hD hS hA (hK.sub (tys' := [(cI, .int), (cS, .object RX1)]) [0, 1] rfl) rfl hl.1 rfl (Nat.le_of_ble_eq_true rfl) dX3_exchange_16 ⟨Nat.le_of_ble_eq_true rfl, Nat.le_of_ble_eq_true rfl⟩ (fun _ H locs hr_1 (hP : va_P (dC, dI) vwCl ((zCo c0 ad ae ah ax ++ (zW ae cI τ ++ zTW ax cI ω)) ++ (zHW ah ar cI cS (hKeepO o n) (hKeepN n) (hKeepH o n hs σ) ++ zW ad cI σ)) H) (hD : va_D A ((zCo c0 ad ae ah ax ++ (zW ae cI τ ++ zTW ax cI ω)) ++ (zHW ah ar cI cS (hKeepO o n) (hKeepN n) (hKeepH o n hs σ) ++ zW ad cI σ))) hS => ?_)
  refine lv_aload_n hx hb dX3_exchange_19 rfl (lv_at hl 0 rfl) ?_
  refine va_get (D := (dC, dI)) (ci := 3) (v := .ref (ad 0)) (C := RX3) (T := TX3) (N := 4) hx hb hts hnX3 hown hK hP 0 rfl rfl 0 (by decide) hf10 (fun _ h9 => h9) rfl dX3_exchange_20 ?_
  refine lv_iload_n hx hb dX3_exchange_23 rfl (lv_at hl 1 rfl) ?_
  refine lv_iload_n hx hb dX3_exchange_24 rfl (lv_at hl 2 rfl) ?_
  replace hP := z_reord (ws' := ((zCo c0 ad ae ah ax ++ (zW ae cI τ ++ (zTW ax cI ω ++ zHW ah ar cI cS (hKeepO o n) (hKeepN n) (hKeepH o n hs σ)))) ++ zW ad cI σ)) (fun q h => (List.mem_append.mp h).elim (fun h => (List.mem_append.mp h).elim (fun h => List.mem_append_left _ (List.mem_append_left _ h)) (fun h => (List.mem_append.mp h).elim (fun h => List.mem_append_left _ (List.mem_append_right _ (List.mem_append_left _ h))) (fun h => (List.mem_append.mp h).elim (fun h => List.mem_append_left _ (List.mem_append_right _ (List.mem_append_right _ h))) (fun h => List.mem_append_right _ (List.mem_append_left _ h))))) (fun h => List.mem_append_right _ (List.mem_append_right _ h))) (fun a => by simp only [List.map_append, List.count_append, List.map_nil, List.count_nil]; omega) hP hD
  obtain ⟨hP, hD⟩ := hP
  refine z_xWv (wr := (zCo c0 ad ae ah ax ++ (zW ae cI τ ++ (zTW ax cI ω ++ zHW ah ar cI cS (hKeepO o n) (hKeepN n) (hKeepH o n hs σ))))) (As := [.int (nI j), .int (nI i)]) (rest := []) ⟨hx, hb, hml, hown, hts⟩ (k_X1_swapSlots l dC dI ad cI σ hok j (by omega) i (by omega) H.size) (cwV 2 hts gX3_exchange_X1_swapSlots rfl rfl rfl (by decide +kernel) ⟨Nat.le_of_ble_eq_true rfl, Nat.le_of_ble_eq_true rfl⟩) (va_recv hK hP (ci := 1) (q0 := 70) rfl rfl) hP hD hS hA (hK.sub (tys' := [(cI, .int)]) [0] rfl) rfl hl.1 rfl (Nat.le_of_ble_eq_true rfl) dX3_exchange_25 ⟨Nat.le_of_ble_eq_true rfl, Nat.le_of_ble_eq_true rfl⟩ (fun _ H locs hr_2 (hP : va_P (dC, dI) vwCl ((zCo c0 ad ae ah ax ++ (zW ae cI τ ++ (zTW ax cI ω ++ zHW ah ar cI cS (hKeepO o n) (hKeepN n) (hKeepH o n hs σ)))) ++ zW ad cI (pSwap σ j i)) H) (hD : va_D A ((zCo c0 ad ae ah ax ++ (zW ae cI τ ++ (zTW ax cI ω ++ zHW ah ar cI cS (hKeepO o n) (hKeepN n) (hKeepH o n hs σ)))) ++ zW ad cI (pSwap σ j i))) hS => ?_)
  have hok_2 : zok (pSwap σ j i) := (va_up_lt (va_up_lt hok (hok _ (by omega))) (hok _ (by omega)))
  refine lv_aload_n hx hb dX3_exchange_28 rfl (lv_at hl 0 rfl) ?_
  refine va_get (D := (dC, dI)) (ci := 3) (v := .ref (ad 0)) (C := RX3) (T := TX3) (N := 4) hx hb hts hnX3 hown hK hP 0 rfl rfl 0 (by decide) hf10 (fun _ h9 => h9) rfl dX3_exchange_29 ?_
  refine va_get (D := (dC, dI)) (ci := 1) (v := .ref (ad 4)) (C := RX1) (T := TX1) (N := 13) hx hb hts hnX1 hown hK hP 70 rfl rfl 3 (by decide) hf75 (fun _ h9 => h9) rfl dX3_exchange_32 ?_
  refine lv_iload_n hx hb dX3_exchange_35 rfl (lv_at hl 1 rfl) ?_
  refine z_ald hx hb hK hP 74 0 j (f := (fun w => nI (zpl (pSwap σ j i) w))) rfl rfl (by first | omega | decide) (by first | decide | omega) dX3_exchange_36 ?_
  have hq_3 : zpl (pSwap σ j i) j < 18 := hok_2 _ (by omega)
  replace hP := z_reord (ws' := (zCo c0 ad ae ah ax ++ (zW ad cI (pSwap σ j i) ++ (zW ae cI τ ++ (zHW ah ar cI cS (hKeepO o n) (hKeepN n) (hKeepH o n hs σ) ++ zTW ax cI ω))))) (fun q h => (List.mem_append.mp h).elim (fun h => List.mem_append_left _ (List.mem_append_left _ h)) (fun h => (List.mem_append.mp h).elim (fun h => List.mem_append_right _ h) (fun h => (List.mem_append.mp h).elim (fun h => List.mem_append_left _ (List.mem_append_right _ (List.mem_append_left _ h))) (fun h => (List.mem_append.mp h).elim (fun h => List.mem_append_left _ (List.mem_append_right _ (List.mem_append_right _ (List.mem_append_right _ h)))) (fun h => List.mem_append_left _ (List.mem_append_right _ (List.mem_append_right _ (List.mem_append_left _ h)))))))) (fun a => by simp only [List.map_append, List.count_append, List.map_nil, List.count_nil]; omega) hP hD
  obtain ⟨hP, hD⟩ := hP
  replace hP : va_P (dC, dI) vwCl (zCW c0 ad ae ah ax ar cI cS (pSwap σ j i) τ (hKeepO o n) (hKeepN n) (hKeepH o n hs σ) ω) H := hP
  replace hD : va_D A (zCW c0 ad ae ah ax ar cI cS (pSwap σ j i) τ (hKeepO o n) (hKeepN n) (hKeepH o n hs σ) ω) := hD
  exact hend _ () _ _ _ _ rfl hP hD hS dX3_exchange_37

abbrev rX3_wear : Room := { frames := 3, cells := 0, slots := 0, locals := 102 }
set_option maxHeartbeats 4000000 in
set_option maxRecDepth 100000 in
theorem k_X3_wear (l : Launch) (dC : Nat → ClassId) (dI : Nat → Nat → Nat) (c0 : Nat) (ad ae ah ax : Nat → Nat) (ar : Nat → Nat → Nat) (cI cS : ClassId) (σ τ : zS) (o n : Nat) (ho : o < 6) (hn : n ≤ 6) (hs : Nat → zS) (ω : zT) (hok : zok σ) (j : Nat) (hj : j < 18) (i : Nat) (hi : i < 13) (b : Nat) (hb1 : 1 ≤ b) (hb2 : b ≤ 999) (hE : zwn σ (j * 13 + i) + nI b ≤ 99999) (sz : Nat) : zWi (S := Unit) l yX3_wear wsX3_wear rX3_wear (dC, dI) [.ref c0, .int (nI j), .int (nI i), .int (nI b)] (zCW c0 ad ae ah ax ar cI cS σ τ o n hs ω) [(cI, .int), (cS, .object RX1)] sz (fun r (_ : Unit) => r = zwn σ (j * 13 + i) + nI b) (fun _ => zCW c0 ad ae ah ax ar cI cS (zhd σ, upd (zwn σ) (j * 13 + i) (zwn σ (j * 13 + i) + nI b), zwi σ, zpl σ, zwh σ, zwo σ, zmo σ, zst σ, zc0 σ, zc1 σ, zc2 σ, zc3 σ, zc4 σ) τ (hKeepO o n) (hKeepN n) (hKeepH o n hs σ) ω) 0 0 := by
  refine zWi_of (cc := cX3_wear) (maxL := 5) (ty := .int) (by decide) rfl (Nat.le_of_ble_eq_true rfl) (fun _ _ _ => rfl) ?_
  intro p e s m args below meth cd Q ls A hat hP hK hD hA hend
  obtain ⟨hx, hb, hml, hown, hts, hl⟩ := hat
  replace hown : s.vm.findClass RX3 = some m.cls := hown
  replace hl : lv_has ls 5 [(0, .ref c0), (1, .int (nI j)), (2, .int (nI i)), (3, .int (nI b))] := hl
  replace hP : va_P (dC, dI) vwCl (zCo c0 ad ae ah ax ++ (zW ad cI σ ++ (zW ae cI τ ++ (zHW ah ar cI cS o n hs ++ zTW ax cI ω)))) s.heap := hP
  replace hD : va_D A (zCo c0 ad ae ah ax ++ (zW ad cI σ ++ (zW ae cI τ ++ (zHW ah ar cI cS o n hs ++ zTW ax cI ω)))) := hD
  have hS : va_S A s.heap s.heap [] := va_S.rf
  have hf10 := hts (.fieldLink RX3 10 "InsideOutWords" "now" "LInsideOutWords$State;") (by decide +kernel)
  have hnX3 : ∀ w ∈ u_ws RX3 TX3 4, w ∈ wsX3_wear := by decide +kernel
  have hc90 := hts (.constant RX3 90 (99999)) (by decide +kernel)
  have hf22 := hts (.fieldLink RX3 22 "InsideOutWords" "history" "LInsideOutWords$History;") (by decide +kernel)
  have hf93 := hts (.fieldLink RX3 93 "InsideOutWords$State" "worn" "[I") (by decide +kernel)
  have hnX1 : ∀ w ∈ u_ws RX1 TX1 13, w ∈ wsX3_wear := by decide +kernel
  refine lv_iload_n hx hb dX3_wear_0 rfl (lv_at hl 1 rfl) ?_
  refine z_cSv (As := [.int (nI j)]) (rest := []) ⟨hx, hb, hml, hown, hts⟩ (k_X3_needSlot l dC dI (nI j) (nI_io (b := 17) (by omega) (by decide))) (va_cwS 1 hts gX3_wear_X3_needSlot rfl rfl rfl (by decide +kernel) ⟨Nat.le_of_ble_eq_true rfl, Nat.le_of_ble_eq_true rfl⟩) (hP.sub (ws' := []) [] rfl) (hK.sub (tys' := []) [] rfl) rfl hl.1 rfl (Nat.le_of_ble_eq_true rfl) dX3_wear_1 ⟨Nat.le_of_ble_eq_true rfl, Nat.le_of_ble_eq_true rfl⟩ ?_
  refine lv_iload_n hx hb dX3_wear_4 rfl (lv_at hl 2 rfl) ?_
  refine z_cSv (As := [.int (nI i)]) (rest := []) ⟨hx, hb, hml, hown, hts⟩ (k_X3_needCell l dC dI (nI i) (nI_io (b := 12) (by omega) (by decide))) (va_cwS 1 hts gX3_wear_X3_needCell rfl rfl rfl (by decide +kernel) ⟨Nat.le_of_ble_eq_true rfl, Nat.le_of_ble_eq_true rfl⟩) (hP.sub (ws' := []) [] rfl) (hK.sub (tys' := []) [] rfl) rfl hl.1 rfl (Nat.le_of_ble_eq_true rfl) dX3_wear_5 ⟨Nat.le_of_ble_eq_true rfl, Nat.le_of_ble_eq_true rfl⟩ ?_
  refine lv_iload_n hx hb dX3_wear_8 rfl (lv_at hl 3 rfl) ?_
  refine lv_iconst (v := 1) hx hb dX3_wear_9 (by decide) ?_
  refine lv_sipush (v := 999) hx hb dX3_wear_10 (by decide) ?_
  refine z_cSi (As := [.int (nI b), .int 1, .int 999]) (rest := []) ⟨hx, hb, hml, hown, hts⟩ (k_X3_isOutside l dC dI (nI b) (1 : Int32) (999 : Int32)) (va_cwS 3 hts gX3_wear_X3_isOutside rfl rfl rfl (by decide +kernel) ⟨Nat.le_of_ble_eq_true rfl, Nat.le_of_ble_eq_true rfl⟩) (hP.sub (ws' := []) [] rfl) (hK.sub (tys' := []) [] rfl) rfl hl.1 rfl (Nat.le_of_ble_eq_true rfl) dX3_wear_13 ⟨Nat.le_of_ble_eq_true rfl, Nat.le_of_ble_eq_true rfl⟩ (fun r_1 hr_1 => ?_)
  refine z_ifeqB hx hb hr_1 (tgt := 29) dX3_wear_16 (by decide) (fun c_2 => ?_) (fun c_2 => ?_)
  · skip
    refine lv_aload_n hx hb dX3_wear_29 rfl (lv_at hl 0 rfl) ?_
    refine va_get (D := (dC, dI)) (ci := 3) (v := .ref (ad 0)) (C := RX3) (T := TX3) (N := 4) hx hb hts hnX3 hown hK hP 0 rfl rfl 0 (by decide) hf10 (fun _ h9 => h9) rfl dX3_wear_30 ?_
    refine lv_iload_n hx hb dX3_wear_33 rfl (lv_at hl 1 rfl) ?_
    refine lv_iload_n hx hb dX3_wear_34 rfl (lv_at hl 2 rfl) ?_
    refine z_cVi (As := [.int (nI j), .int (nI i)]) (rest := []) ⟨hx, hb, hml, hown, hts⟩ (k_X1_wornAt l dC dI ad cI σ hok j (by omega) i (by omega)) (cwV 2 hts gX3_wear_X1_wornAt rfl rfl rfl (by decide +kernel) ⟨Nat.le_of_ble_eq_true rfl, Nat.le_of_ble_eq_true rfl⟩) (va_recv hK hP (ci := 1) (q0 := 1) rfl rfl) (hP.sub (ws' := zW ad cI σ) [1, 2, 3, 4, 5, 6, 7, 8, 9] rfl) (hK.sub (tys' := [(cI, .int)]) [0] rfl) rfl hl.1 rfl (Nat.le_of_ble_eq_true rfl) dX3_wear_35 ⟨Nat.le_of_ble_eq_true rfl, Nat.le_of_ble_eq_true rfl⟩ (fun r_3 hr_3 => ?_)
    subst hr_3
    refine lv_iload_n hx hb dX3_wear_38 rfl (lv_at hl 3 rfl) ?_
    refine lv_iadd hx hb dX3_wear_39 ?_
    refine lv_istore (lv' := [(4, .int ((zwn σ (j * 13 + i)) + (nI b))), (0, .ref c0), (1, .int (nI j)), (2, .int (nI i)), (3, .int (nI b))]) hx hb dX3_wear_40 hl (by decide) rfl (fun ls hl => ?_)
    refine lv_iload hx hb dX3_wear_42 (lv_at hl 0 rfl) ?_
    refine lv_ldc hx hb hown hc90 dX3_wear_44 ?_
    refine lv_icmp_le (tgt := 59) hx hb dX3_wear_46 (by decide) (fun c_4 => ?_) (fun c_4 => ?_)
    · skip
      refine lv_aload_n hx hb dX3_wear_59 rfl (lv_at hl 1 rfl) ?_
      refine va_get (D := (dC, dI)) (ci := 3) (v := .ref (ah 0)) (C := RX3) (T := TX3) (N := 4) hx hb hts hnX3 hown hK hP 0 rfl rfl 2 (by decide) hf22 (fun _ h9 => h9) rfl dX3_wear_60 ?_
      refine lv_aload_n hx hb dX3_wear_63 rfl (lv_at hl 1 rfl) ?_
      refine va_get (D := (dC, dI)) (ci := 3) (v := .ref (ad 0)) (C := RX3) (T := TX3) (N := 4) hx hb hts hnX3 hown hK hP 0 rfl rfl 0 (by decide) hf10 (fun _ h9 => h9) rfl dX3_wear_64 ?_
      replace hP := z_reord (ws' := ((zCo c0 ad ae ah ax ++ (zW ae cI τ ++ zTW ax cI ω)) ++ (zHW ah ar cI cS o n hs ++ zW ad cI σ))) (fun q h => (List.mem_append.mp h).elim (fun h => (List.mem_append.mp h).elim (fun h => List.mem_append_left _ h) (fun h => (List.mem_append.mp h).elim (fun h => List.mem_append_right _ (List.mem_append_right _ (List.mem_append_left _ h))) (fun h => List.mem_append_right _ (List.mem_append_right _ (List.mem_append_right _ (List.mem_append_right _ h)))))) (fun h => (List.mem_append.mp h).elim (fun h => List.mem_append_right _ (List.mem_append_right _ (List.mem_append_right _ (List.mem_append_left _ h)))) (fun h => List.mem_append_right _ (List.mem_append_left _ h)))) (fun a => by simp only [List.map_append, List.count_append, List.map_nil, List.count_nil]; omega) hP hD
      obtain ⟨hP, hD⟩ := hP
      refine z_xWv (wr := (zCo c0 ad ae ah ax ++ (zW ae cI τ ++ zTW ax cI ω))) (As := [.ref (ad 0)]) (rest := []) ⟨hx, hb, hml, hown, hts⟩ (k_X0_keep l dC dI ah ar cI cS o n (by omega) (by omega) hs ad σ (s.heap).size) (cwV 1 hts gX3_wear_X0_keep rfl rfl rfl (by decide +kernel) ⟨Nat.le_of_ble_eq_true rfl, Nat.le_of_ble_eq_true rfl⟩) (va_recv hK hP (ci := 0) (q0 := 14) rfl rfl) hP hD hS hA (hK.sub (tys' := [(cI, .int), (cS, .object RX1)]) [0, 1] rfl) rfl hl.1 rfl (Nat.le_of_ble_eq_true rfl) dX3_wear_67 ⟨Nat.le_of_ble_eq_true rfl, Nat.le_of_ble_eq_true rfl⟩ (fun _ H locs hr_5 (hP : va_P (dC, dI) vwCl ((zCo c0 ad ae ah ax ++ (zW ae cI τ ++ zTW ax cI ω)) ++ (zHW ah ar cI cS (hKeepO o n) (hKeepN n) (hKeepH o n hs σ) ++ zW ad cI σ)) H) (hD : va_D A ((zCo c0 ad ae ah ax ++ (zW ae cI τ ++ zTW ax cI ω)) ++ (zHW ah ar cI cS (hKeepO o n) (hKeepN n) (hKeepH o n hs σ) ++ zW ad cI σ))) hS => ?_)
      refine lv_aload_n hx hb dX3_wear_70 rfl (lv_at hl 1 rfl) ?_
      refine va_get (D := (dC, dI)) (ci := 3) (v := .ref (ad 0)) (C := RX3) (T := TX3) (N := 4) hx hb hts hnX3 hown hK hP 0 rfl rfl 0 (by decide) hf10 (fun _ h9 => h9) rfl dX3_wear_71 ?_
      refine va_get (D := (dC, dI)) (ci := 1) (v := .ref (ad 2)) (C := RX1) (T := TX1) (N := 13) hx hb hts hnX1 hown hK hP 70 rfl rfl 1 (by decide) hf93 (fun _ h9 => h9) rfl dX3_wear_74 ?_
      refine lv_iload_n hx hb dX3_wear_77 rfl (lv_at hl 2 rfl) ?_
      refine lv_bipush (v := 13) hx hb dX3_wear_78 (by decide) ?_
      refine z_imul hx hb j 13 dX3_wear_80 ?_
      refine lv_iload_n hx hb dX3_wear_81 rfl (lv_at hl 3 rfl) ?_
      refine z_iadd hx hb (j * 13) i dX3_wear_82 ?_
      refine lv_iload hx hb dX3_wear_83 (lv_at hl 0 rfl) ?_
      refine z_ast hx hb hK hP hD hS 72 0 ((j * 13) + i) (f := (zwn σ)) rfl rfl (by first | omega | decide) (by first | decide | omega) dX3_wear_85 (fun H locs (hP : va_P (dC, dI) vwCl ((zCo c0 ad ae ah ax ++ (zW ae cI τ ++ zTW ax cI ω)) ++ (zHW ah ar cI cS (hKeepO o n) (hKeepN n) (hKeepH o n hs σ) ++ zW ad cI ((zhd σ), (upd (zwn σ) ((j * 13) + i) ((zwn σ (j * 13 + i)) + (nI b))), (zwi σ), zpl σ, (zwh σ), (zwo σ), (zmo σ), (zst σ), zc0 σ, zc1 σ, zc2 σ, zc3 σ, zc4 σ))) H) (hD : va_D A ((zCo c0 ad ae ah ax ++ (zW ae cI τ ++ zTW ax cI ω)) ++ (zHW ah ar cI cS (hKeepO o n) (hKeepN n) (hKeepH o n hs σ) ++ zW ad cI ((zhd σ), (upd (zwn σ) ((j * 13) + i) ((zwn σ (j * 13 + i)) + (nI b))), (zwi σ), zpl σ, (zwh σ), (zwo σ), (zmo σ), (zst σ), zc0 σ, zc1 σ, zc2 σ, zc3 σ, zc4 σ)))) hS => ?_)
      refine lv_iload hx hb dX3_wear_86 (lv_at hl 0 rfl) ?_
      replace hP := z_reord (ws' := (zCo c0 ad ae ah ax ++ (zW ad cI ((zhd σ), (upd (zwn σ) ((j * 13) + i) ((zwn σ (j * 13 + i)) + (nI b))), (zwi σ), zpl σ, (zwh σ), (zwo σ), (zmo σ), (zst σ), zc0 σ, zc1 σ, zc2 σ, zc3 σ, zc4 σ) ++ (zW ae cI τ ++ (zHW ah ar cI cS (hKeepO o n) (hKeepN n) (hKeepH o n hs σ) ++ zTW ax cI ω))))) (fun q h => (List.mem_append.mp h).elim (fun h => List.mem_append_left _ (List.mem_append_left _ h)) (fun h => (List.mem_append.mp h).elim (fun h => List.mem_append_right _ (List.mem_append_right _ h)) (fun h => (List.mem_append.mp h).elim (fun h => List.mem_append_left _ (List.mem_append_right _ (List.mem_append_left _ h))) (fun h => (List.mem_append.mp h).elim (fun h => List.mem_append_right _ (List.mem_append_left _ h)) (fun h => List.mem_append_left _ (List.mem_append_right _ (List.mem_append_right _ h))))))) (fun a => by simp only [List.map_append, List.count_append, List.map_nil, List.count_nil]; omega) hP hD
      obtain ⟨hP, hD⟩ := hP
      have e9s : (zhd σ, upd (zwn σ) (j * 13 + i) (zwn σ (j * 13 + i) + nI b), zwi σ, zpl σ, zwh σ, zwo σ, zmo σ, zst σ, zc0 σ, zc1 σ, zc2 σ, zc3 σ, zc4 σ) = ((zhd σ), (upd (zwn σ) ((j * 13) + i) ((zwn σ (j * 13 + i)) + (nI b))), (zwi σ), zpl σ, (zwh σ), (zwo σ), (zmo σ), (zst σ), zc0 σ, zc1 σ, zc2 σ, zc3 σ, zc4 σ) := rfl
      replace hP : va_P (dC, dI) vwCl (zCW c0 ad ae ah ax ar cI cS (zhd σ, upd (zwn σ) (j * 13 + i) (zwn σ (j * 13 + i) + nI b), zwi σ, zpl σ, zwh σ, zwo σ, zmo σ, zst σ, zc0 σ, zc1 σ, zc2 σ, zc3 σ, zc4 σ) τ (hKeepO o n) (hKeepN n) (hKeepH o n hs σ) ω) H := by rw [e9s]; exact hP
      replace hD : va_D A (zCW c0 ad ae ah ax ar cI cS (zhd σ, upd (zwn σ) (j * 13 + i) (zwn σ (j * 13 + i) + nI b), zwi σ, zpl σ, zwh σ, zwo σ, zmo σ, zst σ, zc0 σ, zc1 σ, zc2 σ, zc3 σ, zc4 σ) τ (hKeepO o n) (hKeepN n) (hKeepH o n hs σ) ω) := by rw [e9s]; exact hD
      exact hend _ () _ _ _ _ rfl hP hD hS dX3_wear_88
    · skip
      exact absurd hE c_4
  · skip
    exact absurd c_2 (nI_ro (a := 1) (b := 999) (by omega) (by omega) (by decide))

abbrev rX3_set : Room := { frames := 3, cells := 0, slots := 0, locals := 102 }
set_option maxHeartbeats 4000000 in
set_option maxRecDepth 100000 in
theorem k_X3_set (l : Launch) (dC : Nat → ClassId) (dI : Nat → Nat → Nat) (c0 : Nat) (ad ae ah ax : Nat → Nat) (ar : Nat → Nat → Nat) (cI cS : ClassId) (σ τ : zS) (o n : Nat) (ho : o < 6) (hn : n ≤ 6) (hs : Nat → zS) (ω : zT) (hok : zok σ) (q : Nat) (hq : q < 2) (x : Int32) (hE : ¬ (if q = 0 then (x < 1 ∨ ¬ x ≤ 999) else (x < 0 ∨ ¬ x ≤ 99))) (sz : Nat) : zWi (S := Unit) l yX3_set wsX3_set rX3_set (dC, dI) [.ref c0, .int (nI q), .int x] (zCW c0 ad ae ah ax ar cI cS σ τ o n hs ω) [(cI, .int), (cS, .object RX1)] sz (fun r (_ : Unit) => r = zst σ q) (fun _ => zCW c0 ad ae ah ax ar cI cS (zhd σ, zwn σ, zwi σ, zpl σ, zwh σ, zwo σ, zmo σ, upd (zst σ) q x, zc0 σ, zc1 σ, zc2 σ, zc3 σ, zc4 σ) τ (hKeepO o n) (hKeepN n) (hKeepH o n hs σ) ω) 0 0 := by
  refine zWi_of (cc := cX3_set) (maxL := 5) (ty := .int) (by decide) rfl (Nat.le_of_ble_eq_true rfl) (fun _ _ _ => rfl) ?_
  intro p e s m args below meth cd Q ls A hat hP hK hD hA hend
  obtain ⟨hx, hb, hml, hown, hts, hl⟩ := hat
  replace hown : s.vm.findClass RX3 = some m.cls := hown
  replace hl : lv_has ls 5 [(0, .ref c0), (1, .int (nI q)), (2, .int x)] := hl
  replace hP : va_P (dC, dI) vwCl (zCo c0 ad ae ah ax ++ (zW ad cI σ ++ (zW ae cI τ ++ (zHW ah ar cI cS o n hs ++ zTW ax cI ω)))) s.heap := hP
  replace hD : va_D A (zCo c0 ad ae ah ax ++ (zW ad cI σ ++ (zW ae cI τ ++ (zHW ah ar cI cS o n hs ++ zTW ax cI ω)))) := hD
  have hS : va_S A s.heap s.heap [] := va_S.rf
  have hf22 := hts (.fieldLink RX3 22 "InsideOutWords" "history" "LInsideOutWords$History;") (by decide +kernel)
  have hnX3 : ∀ w ∈ u_ws RX3 TX3 4, w ∈ wsX3_set := by decide +kernel
  have hf10 := hts (.fieldLink RX3 10 "InsideOutWords" "now" "LInsideOutWords$State;") (by decide +kernel)
  have hf101 := hts (.fieldLink RX3 101 "InsideOutWords$State" "settings" "[I") (by decide +kernel)
  have hnX1 : ∀ w ∈ u_ws RX1 TX1 13, w ∈ wsX3_set := by decide +kernel
  refine lv_iload_n hx hb dX3_set_0 rfl (lv_at hl 1 rfl) ?_
  refine z_cSv (As := [.int (nI q)]) (rest := []) ⟨hx, hb, hml, hown, hts⟩ (k_X3_needSetting l dC dI (nI q) (nI_io (b := 1) (by omega) (by decide))) (va_cwS 1 hts gX3_set_X3_needSetting rfl rfl rfl (by decide +kernel) ⟨Nat.le_of_ble_eq_true rfl, Nat.le_of_ble_eq_true rfl⟩) (hP.sub (ws' := []) [] rfl) (hK.sub (tys' := []) [] rfl) rfl hl.1 rfl (Nat.le_of_ble_eq_true rfl) dX3_set_1 ⟨Nat.le_of_ble_eq_true rfl, Nat.le_of_ble_eq_true rfl⟩ ?_
  refine lv_iload_n hx hb dX3_set_4 rfl (lv_at hl 1 rfl) ?_
  refine z_ifne hx hb q (by omega) (tgt := 19) dX3_set_5 (by decide) (fun c_1 => ?_) (fun c_1 => ?_)
  · skip
    refine lv_iload_n hx hb dX3_set_19 rfl (lv_at hl 2 rfl) ?_
    refine lv_iconst (v := 0) hx hb dX3_set_20 (by decide) ?_
    refine lv_bipush (v := 99) hx hb dX3_set_21 (by decide) ?_
    refine z_cSi (As := [.int x, .int 0, .int 99]) (rest := []) ⟨hx, hb, hml, hown, hts⟩ (k_X3_isOutside l dC dI x (0 : Int32) (99 : Int32)) (va_cwS 3 hts gX3_set_X3_isOutside rfl rfl rfl (by decide +kernel) ⟨Nat.le_of_ble_eq_true rfl, Nat.le_of_ble_eq_true rfl⟩) (hP.sub (ws' := []) [] rfl) (hK.sub (tys' := []) [] rfl) rfl hl.1 rfl (Nat.le_of_ble_eq_true rfl) dX3_set_23 ⟨Nat.le_of_ble_eq_true rfl, Nat.le_of_ble_eq_true rfl⟩ (fun r_2 hr_2 => ?_)
    refine lv_istore_n (lv' := [(3, .int r_2), (0, .ref c0), (1, .int (nI q)), (2, .int x)]) hx hb dX3_set_26 rfl hl (by decide) rfl (fun ls hl => ?_)
    refine lv_iload_n hx hb dX3_set_27 rfl (lv_at hl 0 rfl) ?_
    refine z_ifeqB hx hb hr_2 (tgt := 41) dX3_set_28 (by decide) (fun c_3 => ?_) (fun c_3 => ?_)
    · skip
      refine lv_aload_n hx hb dX3_set_41 rfl (lv_at hl 1 rfl) ?_
      refine va_get (D := (dC, dI)) (ci := 3) (v := .ref (ah 0)) (C := RX3) (T := TX3) (N := 4) hx hb hts hnX3 hown hK hP 0 rfl rfl 2 (by decide) hf22 (fun _ h9 => h9) rfl dX3_set_42 ?_
      refine lv_aload_n hx hb dX3_set_45 rfl (lv_at hl 1 rfl) ?_
      refine va_get (D := (dC, dI)) (ci := 3) (v := .ref (ad 0)) (C := RX3) (T := TX3) (N := 4) hx hb hts hnX3 hown hK hP 0 rfl rfl 0 (by decide) hf10 (fun _ h9 => h9) rfl dX3_set_46 ?_
      replace hP := z_reord (ws' := ((zCo c0 ad ae ah ax ++ (zW ae cI τ ++ zTW ax cI ω)) ++ (zHW ah ar cI cS o n hs ++ zW ad cI σ))) (fun q h => (List.mem_append.mp h).elim (fun h => (List.mem_append.mp h).elim (fun h => List.mem_append_left _ h) (fun h => (List.mem_append.mp h).elim (fun h => List.mem_append_right _ (List.mem_append_right _ (List.mem_append_left _ h))) (fun h => List.mem_append_right _ (List.mem_append_right _ (List.mem_append_right _ (List.mem_append_right _ h)))))) (fun h => (List.mem_append.mp h).elim (fun h => List.mem_append_right _ (List.mem_append_right _ (List.mem_append_right _ (List.mem_append_left _ h)))) (fun h => List.mem_append_right _ (List.mem_append_left _ h)))) (fun a => by simp only [List.map_append, List.count_append, List.map_nil, List.count_nil]; omega) hP hD
      obtain ⟨hP, hD⟩ := hP
      refine z_xWv (wr := (zCo c0 ad ae ah ax ++ (zW ae cI τ ++ zTW ax cI ω))) (As := [.ref (ad 0)]) (rest := []) ⟨hx, hb, hml, hown, hts⟩ (k_X0_keep l dC dI ah ar cI cS o n (by omega) (by omega) hs ad σ (s.heap).size) (cwV 1 hts gX3_set_X0_keep rfl rfl rfl (by decide +kernel) ⟨Nat.le_of_ble_eq_true rfl, Nat.le_of_ble_eq_true rfl⟩) (va_recv hK hP (ci := 0) (q0 := 14) rfl rfl) hP hD hS hA (hK.sub (tys' := [(cI, .int), (cS, .object RX1)]) [0, 1] rfl) rfl hl.1 rfl (Nat.le_of_ble_eq_true rfl) dX3_set_49 ⟨Nat.le_of_ble_eq_true rfl, Nat.le_of_ble_eq_true rfl⟩ (fun _ H locs hr_4 (hP : va_P (dC, dI) vwCl ((zCo c0 ad ae ah ax ++ (zW ae cI τ ++ zTW ax cI ω)) ++ (zHW ah ar cI cS (hKeepO o n) (hKeepN n) (hKeepH o n hs σ) ++ zW ad cI σ)) H) (hD : va_D A ((zCo c0 ad ae ah ax ++ (zW ae cI τ ++ zTW ax cI ω)) ++ (zHW ah ar cI cS (hKeepO o n) (hKeepN n) (hKeepH o n hs σ) ++ zW ad cI σ))) hS => ?_)
      refine lv_aload_n hx hb dX3_set_52 rfl (lv_at hl 1 rfl) ?_
      refine va_get (D := (dC, dI)) (ci := 3) (v := .ref (ad 0)) (C := RX3) (T := TX3) (N := 4) hx hb hts hnX3 hown hK hP 0 rfl rfl 0 (by decide) hf10 (fun _ h9 => h9) rfl dX3_set_53 ?_
      refine va_get (D := (dC, dI)) (ci := 1) (v := .ref (ad 8)) (C := RX1) (T := TX1) (N := 13) hx hb hts hnX1 hown hK hP 70 rfl rfl 7 (by decide) hf101 (fun _ h9 => h9) rfl dX3_set_56 ?_
      refine lv_iload_n hx hb dX3_set_59 rfl (lv_at hl 2 rfl) ?_
      refine z_ald hx hb hK hP 78 0 q (f := (zst σ)) rfl rfl (by first | omega | decide) (by first | decide | omega) dX3_set_60 ?_
      refine lv_istore (lv' := [(4, .int ((zst σ) q)), (3, .int r_2), (0, .ref c0), (1, .int (nI q)), (2, .int x)]) hx hb dX3_set_61 hl (by decide) rfl (fun ls hl => ?_)
      refine lv_aload_n hx hb dX3_set_63 rfl (lv_at hl 2 rfl) ?_
      refine va_get (D := (dC, dI)) (ci := 3) (v := .ref (ad 0)) (C := RX3) (T := TX3) (N := 4) hx hb hts hnX3 hown hK hP 0 rfl rfl 0 (by decide) hf10 (fun _ h9 => h9) rfl dX3_set_64 ?_
      refine va_get (D := (dC, dI)) (ci := 1) (v := .ref (ad 8)) (C := RX1) (T := TX1) (N := 13) hx hb hts hnX1 hown hK hP 70 rfl rfl 7 (by decide) hf101 (fun _ h9 => h9) rfl dX3_set_67 ?_
      refine lv_iload_n hx hb dX3_set_70 rfl (lv_at hl 3 rfl) ?_
      refine lv_iload_n hx hb dX3_set_71 rfl (lv_at hl 4 rfl) ?_
      refine z_ast hx hb hK hP hD hS 78 0 q (f := (zst σ)) rfl rfl (by first | omega | decide) (by first | decide | omega) dX3_set_72 (fun H locs (hP : va_P (dC, dI) vwCl ((zCo c0 ad ae ah ax ++ (zW ae cI τ ++ zTW ax cI ω)) ++ (zHW ah ar cI cS (hKeepO o n) (hKeepN n) (hKeepH o n hs σ) ++ zW ad cI ((zhd σ), (zwn σ), (zwi σ), zpl σ, (zwh σ), (zwo σ), (zmo σ), (upd (zst σ) q x), zc0 σ, zc1 σ, zc2 σ, zc3 σ, zc4 σ))) H) (hD : va_D A ((zCo c0 ad ae ah ax ++ (zW ae cI τ ++ zTW ax cI ω)) ++ (zHW ah ar cI cS (hKeepO o n) (hKeepN n) (hKeepH o n hs σ) ++ zW ad cI ((zhd σ), (zwn σ), (zwi σ), zpl σ, (zwh σ), (zwo σ), (zmo σ), (upd (zst σ) q x), zc0 σ, zc1 σ, zc2 σ, zc3 σ, zc4 σ)))) hS => ?_)
      refine lv_iload hx hb dX3_set_73 (lv_at hl 0 rfl) ?_
      replace hP := z_reord (ws' := (zCo c0 ad ae ah ax ++ (zW ad cI ((zhd σ), (zwn σ), (zwi σ), zpl σ, (zwh σ), (zwo σ), (zmo σ), (upd (zst σ) q x), zc0 σ, zc1 σ, zc2 σ, zc3 σ, zc4 σ) ++ (zW ae cI τ ++ (zHW ah ar cI cS (hKeepO o n) (hKeepN n) (hKeepH o n hs σ) ++ zTW ax cI ω))))) (fun q h => (List.mem_append.mp h).elim (fun h => List.mem_append_left _ (List.mem_append_left _ h)) (fun h => (List.mem_append.mp h).elim (fun h => List.mem_append_right _ (List.mem_append_right _ h)) (fun h => (List.mem_append.mp h).elim (fun h => List.mem_append_left _ (List.mem_append_right _ (List.mem_append_left _ h))) (fun h => (List.mem_append.mp h).elim (fun h => List.mem_append_right _ (List.mem_append_left _ h)) (fun h => List.mem_append_left _ (List.mem_append_right _ (List.mem_append_right _ h))))))) (fun a => by simp only [List.map_append, List.count_append, List.map_nil, List.count_nil]; omega) hP hD
      obtain ⟨hP, hD⟩ := hP
      have e9s : (zhd σ, zwn σ, zwi σ, zpl σ, zwh σ, zwo σ, zmo σ, upd (zst σ) q x, zc0 σ, zc1 σ, zc2 σ, zc3 σ, zc4 σ) = ((zhd σ), (zwn σ), (zwi σ), zpl σ, (zwh σ), (zwo σ), (zmo σ), (upd (zst σ) q x), zc0 σ, zc1 σ, zc2 σ, zc3 σ, zc4 σ) := rfl
      replace hP : va_P (dC, dI) vwCl (zCW c0 ad ae ah ax ar cI cS (zhd σ, zwn σ, zwi σ, zpl σ, zwh σ, zwo σ, zmo σ, upd (zst σ) q x, zc0 σ, zc1 σ, zc2 σ, zc3 σ, zc4 σ) τ (hKeepO o n) (hKeepN n) (hKeepH o n hs σ) ω) H := by rw [e9s]; exact hP
      replace hD : va_D A (zCW c0 ad ae ah ax ar cI cS (zhd σ, zwn σ, zwi σ, zpl σ, zwh σ, zwo σ, zmo σ, upd (zst σ) q x, zc0 σ, zc1 σ, zc2 σ, zc3 σ, zc4 σ) τ (hKeepO o n) (hKeepN n) (hKeepH o n hs σ) ω) := by rw [e9s]; exact hD
      exact hend _ () _ _ _ _ rfl hP hD hS dX3_set_75
    · skip
      exact absurd (show (if q = 0 then (x < 1 ∨ ¬ x ≤ 999) else (x < 0 ∨ ¬ x ≤ 99)) by first | (rw [if_pos c_1]; exact c_3) | (rw [if_neg c_1]; exact c_3)) hE
  · skip
    refine lv_iload_n hx hb dX3_set_8 rfl (lv_at hl 2 rfl) ?_
    refine lv_iconst (v := 1) hx hb dX3_set_9 (by decide) ?_
    refine lv_sipush (v := 999) hx hb dX3_set_10 (by decide) ?_
    refine z_cSi (As := [.int x, .int 1, .int 999]) (rest := []) ⟨hx, hb, hml, hown, hts⟩ (k_X3_isOutside l dC dI x (1 : Int32) (999 : Int32)) (va_cwS 3 hts gX3_set_X3_isOutside rfl rfl rfl (by decide +kernel) ⟨Nat.le_of_ble_eq_true rfl, Nat.le_of_ble_eq_true rfl⟩) (hP.sub (ws' := []) [] rfl) (hK.sub (tys' := []) [] rfl) rfl hl.1 rfl (Nat.le_of_ble_eq_true rfl) dX3_set_13 ⟨Nat.le_of_ble_eq_true rfl, Nat.le_of_ble_eq_true rfl⟩ (fun r_5 hr_5 => ?_)
    refine lv_goto (tgt := 26) hx hb dX3_set_16 (by decide) ?_
    refine lv_istore_n (lv' := [(3, .int r_5), (0, .ref c0), (1, .int (nI q)), (2, .int x)]) hx hb dX3_set_26 rfl hl (by decide) rfl (fun ls hl => ?_)
    refine lv_iload_n hx hb dX3_set_27 rfl (lv_at hl 0 rfl) ?_
    refine z_ifeqB hx hb hr_5 (tgt := 41) dX3_set_28 (by decide) (fun c_6 => ?_) (fun c_6 => ?_)
    · skip
      refine lv_aload_n hx hb dX3_set_41 rfl (lv_at hl 1 rfl) ?_
      refine va_get (D := (dC, dI)) (ci := 3) (v := .ref (ah 0)) (C := RX3) (T := TX3) (N := 4) hx hb hts hnX3 hown hK hP 0 rfl rfl 2 (by decide) hf22 (fun _ h9 => h9) rfl dX3_set_42 ?_
      refine lv_aload_n hx hb dX3_set_45 rfl (lv_at hl 1 rfl) ?_
      refine va_get (D := (dC, dI)) (ci := 3) (v := .ref (ad 0)) (C := RX3) (T := TX3) (N := 4) hx hb hts hnX3 hown hK hP 0 rfl rfl 0 (by decide) hf10 (fun _ h9 => h9) rfl dX3_set_46 ?_
      replace hP := z_reord (ws' := ((zCo c0 ad ae ah ax ++ (zW ae cI τ ++ zTW ax cI ω)) ++ (zHW ah ar cI cS o n hs ++ zW ad cI σ))) (fun q h => (List.mem_append.mp h).elim (fun h => (List.mem_append.mp h).elim (fun h => List.mem_append_left _ h) (fun h => (List.mem_append.mp h).elim (fun h => List.mem_append_right _ (List.mem_append_right _ (List.mem_append_left _ h))) (fun h => List.mem_append_right _ (List.mem_append_right _ (List.mem_append_right _ (List.mem_append_right _ h)))))) (fun h => (List.mem_append.mp h).elim (fun h => List.mem_append_right _ (List.mem_append_right _ (List.mem_append_right _ (List.mem_append_left _ h)))) (fun h => List.mem_append_right _ (List.mem_append_left _ h)))) (fun a => by simp only [List.map_append, List.count_append, List.map_nil, List.count_nil]; omega) hP hD
      obtain ⟨hP, hD⟩ := hP
      refine z_xWv (wr := (zCo c0 ad ae ah ax ++ (zW ae cI τ ++ zTW ax cI ω))) (As := [.ref (ad 0)]) (rest := []) ⟨hx, hb, hml, hown, hts⟩ (k_X0_keep l dC dI ah ar cI cS o n (by omega) (by omega) hs ad σ (s.heap).size) (cwV 1 hts gX3_set_X0_keep rfl rfl rfl (by decide +kernel) ⟨Nat.le_of_ble_eq_true rfl, Nat.le_of_ble_eq_true rfl⟩) (va_recv hK hP (ci := 0) (q0 := 14) rfl rfl) hP hD hS hA (hK.sub (tys' := [(cI, .int), (cS, .object RX1)]) [0, 1] rfl) rfl hl.1 rfl (Nat.le_of_ble_eq_true rfl) dX3_set_49 ⟨Nat.le_of_ble_eq_true rfl, Nat.le_of_ble_eq_true rfl⟩ (fun _ H locs hr_7 (hP : va_P (dC, dI) vwCl ((zCo c0 ad ae ah ax ++ (zW ae cI τ ++ zTW ax cI ω)) ++ (zHW ah ar cI cS (hKeepO o n) (hKeepN n) (hKeepH o n hs σ) ++ zW ad cI σ)) H) (hD : va_D A ((zCo c0 ad ae ah ax ++ (zW ae cI τ ++ zTW ax cI ω)) ++ (zHW ah ar cI cS (hKeepO o n) (hKeepN n) (hKeepH o n hs σ) ++ zW ad cI σ))) hS => ?_)
      refine lv_aload_n hx hb dX3_set_52 rfl (lv_at hl 1 rfl) ?_
      refine va_get (D := (dC, dI)) (ci := 3) (v := .ref (ad 0)) (C := RX3) (T := TX3) (N := 4) hx hb hts hnX3 hown hK hP 0 rfl rfl 0 (by decide) hf10 (fun _ h9 => h9) rfl dX3_set_53 ?_
      refine va_get (D := (dC, dI)) (ci := 1) (v := .ref (ad 8)) (C := RX1) (T := TX1) (N := 13) hx hb hts hnX1 hown hK hP 70 rfl rfl 7 (by decide) hf101 (fun _ h9 => h9) rfl dX3_set_56 ?_
      refine lv_iload_n hx hb dX3_set_59 rfl (lv_at hl 2 rfl) ?_
      refine z_ald hx hb hK hP 78 0 q (f := (zst σ)) rfl rfl (by first | omega | decide) (by first | decide | omega) dX3_set_60 ?_
      refine lv_istore (lv' := [(4, .int ((zst σ) q)), (3, .int r_5), (0, .ref c0), (1, .int (nI q)), (2, .int x)]) hx hb dX3_set_61 hl (by decide) rfl (fun ls hl => ?_)
      refine lv_aload_n hx hb dX3_set_63 rfl (lv_at hl 2 rfl) ?_
      refine va_get (D := (dC, dI)) (ci := 3) (v := .ref (ad 0)) (C := RX3) (T := TX3) (N := 4) hx hb hts hnX3 hown hK hP 0 rfl rfl 0 (by decide) hf10 (fun _ h9 => h9) rfl dX3_set_64 ?_
      refine va_get (D := (dC, dI)) (ci := 1) (v := .ref (ad 8)) (C := RX1) (T := TX1) (N := 13) hx hb hts hnX1 hown hK hP 70 rfl rfl 7 (by decide) hf101 (fun _ h9 => h9) rfl dX3_set_67 ?_
      refine lv_iload_n hx hb dX3_set_70 rfl (lv_at hl 3 rfl) ?_
      refine lv_iload_n hx hb dX3_set_71 rfl (lv_at hl 4 rfl) ?_
      refine z_ast hx hb hK hP hD hS 78 0 q (f := (zst σ)) rfl rfl (by first | omega | decide) (by first | decide | omega) dX3_set_72 (fun H locs (hP : va_P (dC, dI) vwCl ((zCo c0 ad ae ah ax ++ (zW ae cI τ ++ zTW ax cI ω)) ++ (zHW ah ar cI cS (hKeepO o n) (hKeepN n) (hKeepH o n hs σ) ++ zW ad cI ((zhd σ), (zwn σ), (zwi σ), zpl σ, (zwh σ), (zwo σ), (zmo σ), (upd (zst σ) q x), zc0 σ, zc1 σ, zc2 σ, zc3 σ, zc4 σ))) H) (hD : va_D A ((zCo c0 ad ae ah ax ++ (zW ae cI τ ++ zTW ax cI ω)) ++ (zHW ah ar cI cS (hKeepO o n) (hKeepN n) (hKeepH o n hs σ) ++ zW ad cI ((zhd σ), (zwn σ), (zwi σ), zpl σ, (zwh σ), (zwo σ), (zmo σ), (upd (zst σ) q x), zc0 σ, zc1 σ, zc2 σ, zc3 σ, zc4 σ)))) hS => ?_)
      refine lv_iload hx hb dX3_set_73 (lv_at hl 0 rfl) ?_
      replace hP := z_reord (ws' := (zCo c0 ad ae ah ax ++ (zW ad cI ((zhd σ), (zwn σ), (zwi σ), zpl σ, (zwh σ), (zwo σ), (zmo σ), (upd (zst σ) q x), zc0 σ, zc1 σ, zc2 σ, zc3 σ, zc4 σ) ++ (zW ae cI τ ++ (zHW ah ar cI cS (hKeepO o n) (hKeepN n) (hKeepH o n hs σ) ++ zTW ax cI ω))))) (fun q h => (List.mem_append.mp h).elim (fun h => List.mem_append_left _ (List.mem_append_left _ h)) (fun h => (List.mem_append.mp h).elim (fun h => List.mem_append_right _ (List.mem_append_right _ h)) (fun h => (List.mem_append.mp h).elim (fun h => List.mem_append_left _ (List.mem_append_right _ (List.mem_append_left _ h))) (fun h => (List.mem_append.mp h).elim (fun h => List.mem_append_right _ (List.mem_append_left _ h)) (fun h => List.mem_append_left _ (List.mem_append_right _ (List.mem_append_right _ h))))))) (fun a => by simp only [List.map_append, List.count_append, List.map_nil, List.count_nil]; omega) hP hD
      obtain ⟨hP, hD⟩ := hP
      have e9s : (zhd σ, zwn σ, zwi σ, zpl σ, zwh σ, zwo σ, zmo σ, upd (zst σ) q x, zc0 σ, zc1 σ, zc2 σ, zc3 σ, zc4 σ) = ((zhd σ), (zwn σ), (zwi σ), zpl σ, (zwh σ), (zwo σ), (zmo σ), (upd (zst σ) q x), zc0 σ, zc1 σ, zc2 σ, zc3 σ, zc4 σ) := rfl
      replace hP : va_P (dC, dI) vwCl (zCW c0 ad ae ah ax ar cI cS (zhd σ, zwn σ, zwi σ, zpl σ, zwh σ, zwo σ, zmo σ, upd (zst σ) q x, zc0 σ, zc1 σ, zc2 σ, zc3 σ, zc4 σ) τ (hKeepO o n) (hKeepN n) (hKeepH o n hs σ) ω) H := by rw [e9s]; exact hP
      replace hD : va_D A (zCW c0 ad ae ah ax ar cI cS (zhd σ, zwn σ, zwi σ, zpl σ, zwh σ, zwo σ, zmo σ, upd (zst σ) q x, zc0 σ, zc1 σ, zc2 σ, zc3 σ, zc4 σ) τ (hKeepO o n) (hKeepN n) (hKeepH o n hs σ) ω) := by rw [e9s]; exact hD
      exact hend _ () _ _ _ _ rfl hP hD hS dX3_set_75
    · skip
      exact absurd (show (if q = 0 then (x < 1 ∨ ¬ x ≤ 999) else (x < 0 ∨ ¬ x ≤ 99)) by first | (rw [if_pos c_1]; exact c_6) | (rw [if_neg c_1]; exact c_6)) hE

abbrev rX3_undo : Room := { frames := 3, cells := 0, slots := 0, locals := 102 }
set_option maxHeartbeats 4000000 in
set_option maxRecDepth 100000 in
theorem k_X3_undo (l : Launch) (dC : Nat → ClassId) (dI : Nat → Nat → Nat) (c0 : Nat) (ad ae ah ax : Nat → Nat) (ar : Nat → Nat → Nat) (cI cS : ClassId) (σ τ : zS) (o n : Nat) (ho : o < 6) (hn : n ≤ 6) (hs : Nat → zS) (ω : zT) (hok : zok σ) (hn1 : 0 < n) (sz : Nat) : zWi (S := Unit) l yX3_undo wsX3_undo rX3_undo (dC, dI) [.ref c0] (zCW c0 ad ae ah ax ar cI cS σ τ o n hs ω) [(cI, .int), (cS, .object RX1)] sz (fun r (_ : Unit) => r = nI (n - 1)) (fun _ => zCW c0 ad ae ah ax ar cI cS (hs ((o + n - 1) % 6)) τ o (n - 1) hs ω) 0 0 := by
  refine zWi_of (cc := cX3_undo) (maxL := 1) (ty := .int) (by decide) rfl (Nat.le_of_ble_eq_true rfl) (fun _ _ _ => rfl) ?_
  intro p e s m args below meth cd Q ls A hat hP hK hD hA hend
  obtain ⟨hx, hb, hml, hown, hts, hl⟩ := hat
  replace hown : s.vm.findClass RX3 = some m.cls := hown
  replace hl : lv_has ls 1 [(0, .ref c0)] := hl
  replace hP : va_P (dC, dI) vwCl (zCo c0 ad ae ah ax ++ (zW ad cI σ ++ (zW ae cI τ ++ (zHW ah ar cI cS o n hs ++ zTW ax cI ω)))) s.heap := hP
  replace hD : va_D A (zCo c0 ad ae ah ax ++ (zW ad cI σ ++ (zW ae cI τ ++ (zHW ah ar cI cS o n hs ++ zTW ax cI ω)))) := hD
  have hS : va_S A s.heap s.heap [] := va_S.rf
  have hf22 := hts (.fieldLink RX3 22 "InsideOutWords" "history" "LInsideOutWords$History;") (by decide +kernel)
  have hnX3 : ∀ w ∈ u_ws RX3 TX3 4, w ∈ wsX3_undo := by decide +kernel
  have hf128 := hts (.fieldLink RX3 128 "InsideOutWords$History" "size" "I") (by decide +kernel)
  have hnX0 : ∀ w ∈ u_ws RX0 TX0 3, w ∈ wsX3_undo := by decide +kernel
  have hf10 := hts (.fieldLink RX3 10 "InsideOutWords" "now" "LInsideOutWords$State;") (by decide +kernel)
  refine lv_aload_n hx hb dX3_undo_0 rfl (lv_at hl 0 rfl) ?_
  refine va_get (D := (dC, dI)) (ci := 3) (v := .ref (ah 0)) (C := RX3) (T := TX3) (N := 4) hx hb hts hnX3 hown hK hP 0 rfl rfl 2 (by decide) hf22 (fun _ h9 => h9) rfl dX3_undo_1 ?_
  refine va_get (D := (dC, dI)) (ci := 0) (v := .int (nI n)) (C := RX0) (T := TX0) (N := 3) hx hb hts hnX0 hown hK hP 19 rfl rfl 2 (by decide) hf128 (fun _ h9 => h9) rfl dX3_undo_4 ?_
  refine z_ifne hx hb n (by omega) (tgt := 20) dX3_undo_7 (by decide) (fun c_1 => ?_) (fun c_1 => ?_)
  · skip
    refine lv_aload_n hx hb dX3_undo_20 rfl (lv_at hl 0 rfl) ?_
    refine va_get (D := (dC, dI)) (ci := 3) (v := .ref (ah 0)) (C := RX3) (T := TX3) (N := 4) hx hb hts hnX3 hown hK hP 0 rfl rfl 2 (by decide) hf22 (fun _ h9 => h9) rfl dX3_undo_21 ?_
    refine lv_aload_n hx hb dX3_undo_24 rfl (lv_at hl 0 rfl) ?_
    refine va_get (D := (dC, dI)) (ci := 3) (v := .ref (ad 0)) (C := RX3) (T := TX3) (N := 4) hx hb hts hnX3 hown hK hP 0 rfl rfl 0 (by decide) hf10 (fun _ h9 => h9) rfl dX3_undo_25 ?_
    replace hP := z_reord (ws' := ((zCo c0 ad ae ah ax ++ (zW ae cI τ ++ zTW ax cI ω)) ++ (zHW ah ar cI cS o n hs ++ zW ad cI σ))) (fun q h => (List.mem_append.mp h).elim (fun h => (List.mem_append.mp h).elim (fun h => List.mem_append_left _ h) (fun h => (List.mem_append.mp h).elim (fun h => List.mem_append_right _ (List.mem_append_right _ (List.mem_append_left _ h))) (fun h => List.mem_append_right _ (List.mem_append_right _ (List.mem_append_right _ (List.mem_append_right _ h)))))) (fun h => (List.mem_append.mp h).elim (fun h => List.mem_append_right _ (List.mem_append_right _ (List.mem_append_right _ (List.mem_append_left _ h)))) (fun h => List.mem_append_right _ (List.mem_append_left _ h)))) (fun a => by simp only [List.map_append, List.count_append, List.map_nil, List.count_nil]; omega) hP hD
    obtain ⟨hP, hD⟩ := hP
    refine z_xWv (wr := (zCo c0 ad ae ah ax ++ (zW ae cI τ ++ zTW ax cI ω))) (As := [.ref (ad 0)]) (rest := []) ⟨hx, hb, hml, hown, hts⟩ (k_X0_giveBack l dC dI ah ar cI cS o n (by omega) (by omega) hs ad σ (by omega) (s.heap).size) (cwV 1 hts gX3_undo_X0_giveBack rfl rfl rfl (by decide +kernel) ⟨Nat.le_of_ble_eq_true rfl, Nat.le_of_ble_eq_true rfl⟩) (va_recv hK hP (ci := 0) (q0 := 14) rfl rfl) hP hD hS hA (hK.sub (tys' := [(cI, .int), (cS, .object RX1)]) [0, 1] rfl) rfl hl.1 rfl (Nat.le_of_ble_eq_true rfl) dX3_undo_28 ⟨Nat.le_of_ble_eq_true rfl, Nat.le_of_ble_eq_true rfl⟩ (fun _ H locs hr_2 (hP : va_P (dC, dI) vwCl ((zCo c0 ad ae ah ax ++ (zW ae cI τ ++ zTW ax cI ω)) ++ (zHW ah ar cI cS o (n - 1) hs ++ zW ad cI (hs ((o + n - 1) % 6)))) H) (hD : va_D A ((zCo c0 ad ae ah ax ++ (zW ae cI τ ++ zTW ax cI ω)) ++ (zHW ah ar cI cS o (n - 1) hs ++ zW ad cI (hs ((o + n - 1) % 6))))) hS => ?_)
    refine lv_aload_n hx hb dX3_undo_31 rfl (lv_at hl 0 rfl) ?_
    refine va_get (D := (dC, dI)) (ci := 3) (v := .ref (ah 0)) (C := RX3) (T := TX3) (N := 4) hx hb hts hnX3 hown hK hP 0 rfl rfl 2 (by decide) hf22 (fun _ h9 => h9) rfl dX3_undo_32 ?_
    refine va_get (D := (dC, dI)) (ci := 0) (v := .int (nI (n - 1))) (C := RX0) (T := TX0) (N := 3) hx hb hts hnX0 hown hK hP 14 rfl rfl 2 (by decide) hf128 (fun _ h9 => h9) rfl dX3_undo_35 ?_
    replace hP := z_reord (ws' := (zCo c0 ad ae ah ax ++ (zW ad cI (hs ((o + n - 1) % 6)) ++ (zW ae cI τ ++ (zHW ah ar cI cS o (n - 1) hs ++ zTW ax cI ω))))) (fun q h => (List.mem_append.mp h).elim (fun h => List.mem_append_left _ (List.mem_append_left _ h)) (fun h => (List.mem_append.mp h).elim (fun h => List.mem_append_right _ (List.mem_append_right _ h)) (fun h => (List.mem_append.mp h).elim (fun h => List.mem_append_left _ (List.mem_append_right _ (List.mem_append_left _ h))) (fun h => (List.mem_append.mp h).elim (fun h => List.mem_append_right _ (List.mem_append_left _ h)) (fun h => List.mem_append_left _ (List.mem_append_right _ (List.mem_append_right _ h))))))) (fun a => by simp only [List.map_append, List.count_append, List.map_nil, List.count_nil]; omega) hP hD
    obtain ⟨hP, hD⟩ := hP
    replace hP : va_P (dC, dI) vwCl (zCW c0 ad ae ah ax ar cI cS (hs ((o + n - 1) % 6)) τ o (n - 1) hs ω) H := hP
    replace hD : va_D A (zCW c0 ad ae ah ax ar cI cS (hs ((o + n - 1) % 6)) τ o (n - 1) hs ω) := hD
    exact hend _ () _ _ _ _ rfl hP hD hS dX3_undo_38
  · skip
    exact absurd c_1 (by omega)

abbrev rX3_append : Room := { frames := 1, cells := 0, slots := 0, locals := 22 }
set_option maxHeartbeats 4000000 in
set_option maxRecDepth 100000 in
theorem k_X3_append (l : Launch) (dC : Nat → ClassId) (dI : Nat → Nat → Nat) (c0 : Nat) (ad ae ah ax : Nat → Nat) (ar : Nat → Nat → Nat) (cI cS : ClassId) (σ τ : zS) (o n : Nat) (ho : o < 6) (hn : n ≤ 6) (hs : Nat → zS) (ω : zT) (hok : zok σ) (b : Nat) (hb1 : 33 ≤ b) (hb2 : b ≤ 126) (hE : tl ω < 60) (sz : Nat) : zWi (S := Unit) l yX3_append wsX3_append rX3_append (dC, dI) [.ref c0, .int (nI b)] (zCW c0 ad ae ah ax ar cI cS σ τ o n hs ω) [(cI, .int), (cS, .object RX1)] sz (fun r (_ : Unit) => r = nI (tl ω + 1)) (fun _ => zCW c0 ad ae ah ax ar cI cS σ τ o n hs (va_up (tx ω) (tl ω) b, tl ω + 1, tw ω, tn ω, tc ω, ts ω, td ω)) 0 0 := by
  refine zWi_of (cc := cX3_append) (maxL := 2) (ty := .int) (by decide) rfl (Nat.le_of_ble_eq_true rfl) (fun _ _ _ => rfl) ?_
  intro p e s m args below meth cd Q ls A hat hP hK hD hA hend
  obtain ⟨hx, hb, hml, hown, hts, hl⟩ := hat
  replace hown : s.vm.findClass RX3 = some m.cls := hown
  replace hl : lv_has ls 2 [(0, .ref c0), (1, .int (nI b))] := hl
  replace hP : va_P (dC, dI) vwCl (zCo c0 ad ae ah ax ++ (zW ad cI σ ++ (zW ae cI τ ++ (zHW ah ar cI cS o n hs ++ zTW ax cI ω)))) s.heap := hP
  replace hD : va_D A (zCo c0 ad ae ah ax ++ (zW ad cI σ ++ (zW ae cI τ ++ (zHW ah ar cI cS o n hs ++ zTW ax cI ω)))) := hD
  have hS : va_S A s.heap s.heap [] := va_S.rf
  have hf29 := hts (.fieldLink RX3 29 "InsideOutWords" "text" "LInsideOutWords$Text;") (by decide +kernel)
  have hnX3 : ∀ w ∈ u_ws RX3 TX3 4, w ∈ wsX3_append := by decide +kernel
  have hf106 := hts (.fieldLink RX3 106 "InsideOutWords$Text" "length" "I") (by decide +kernel)
  have hnX2 : ∀ w ∈ u_ws RX2 TX2 7, w ∈ wsX3_append := by decide +kernel
  refine lv_iload_n hx hb dX3_append_0 rfl (lv_at hl 1 rfl) ?_
  refine lv_bipush (v := 33) hx hb dX3_append_1 (by decide) ?_
  refine lv_bipush (v := 126) hx hb dX3_append_3 (by decide) ?_
  refine z_cSi (As := [.int (nI b), .int 33, .int 126]) (rest := []) ⟨hx, hb, hml, hown, hts⟩ (k_X3_isOutside l dC dI (nI b) (33 : Int32) (126 : Int32)) (va_cwS 3 hts gX3_append_X3_isOutside rfl rfl rfl (by decide +kernel) ⟨Nat.le_of_ble_eq_true rfl, Nat.le_of_ble_eq_true rfl⟩) (hP.sub (ws' := []) [] rfl) (hK.sub (tys' := []) [] rfl) rfl hl.1 rfl (Nat.le_of_ble_eq_true rfl) dX3_append_5 ⟨Nat.le_of_ble_eq_true rfl, Nat.le_of_ble_eq_true rfl⟩ (fun r_1 hr_1 => ?_)
  refine z_ifeqB hx hb hr_1 (tgt := 21) dX3_append_8 (by decide) (fun c_2 => ?_) (fun c_2 => ?_)
  · skip
    refine lv_aload_n hx hb dX3_append_21 rfl (lv_at hl 0 rfl) ?_
    refine va_get (D := (dC, dI)) (ci := 3) (v := .ref (ax 0)) (C := RX3) (T := TX3) (N := 4) hx hb hts hnX3 hown hK hP 0 rfl rfl 3 (by decide) hf29 (fun _ h9 => h9) rfl dX3_append_22 ?_
    refine va_get (D := (dC, dI)) (ci := 2) (v := .int (nI (tl ω))) (C := RX2) (T := TX2) (N := 7) hx hb hts hnX2 hown hK hP 75 rfl rfl 1 (by decide) hf106 (fun _ h9 => h9) rfl dX3_append_25 ?_
    refine lv_bipush (v := 60) hx hb dX3_append_28 (by decide) ?_
    refine z_lt hx hb (tl ω) 60 (by omega) (by omega) (tgt := 43) dX3_append_30 (by decide) (fun c_3 => ?_) (fun c_3 => ?_)
    · skip
      refine lv_aload_n hx hb dX3_append_43 rfl (lv_at hl 0 rfl) ?_
      refine va_get (D := (dC, dI)) (ci := 3) (v := .ref (ax 0)) (C := RX3) (T := TX3) (N := 4) hx hb hts hnX3 hown hK hP 0 rfl rfl 3 (by decide) hf29 (fun _ h9 => h9) rfl dX3_append_44 ?_
      refine lv_iload_n hx hb dX3_append_47 rfl (lv_at hl 1 rfl) ?_
      replace hP := z_reord (ws' := ((zCo c0 ad ae ah ax ++ (zW ad cI σ ++ (zW ae cI τ ++ zHW ah ar cI cS o n hs))) ++ zTW ax cI ω)) (fun q h => (List.mem_append.mp h).elim (fun h => (List.mem_append.mp h).elim (fun h => List.mem_append_left _ h) (fun h => (List.mem_append.mp h).elim (fun h => List.mem_append_right _ (List.mem_append_left _ h)) (fun h => (List.mem_append.mp h).elim (fun h => List.mem_append_right _ (List.mem_append_right _ (List.mem_append_left _ h))) (fun h => List.mem_append_right _ (List.mem_append_right _ (List.mem_append_right _ (List.mem_append_left _ h))))))) (fun h => List.mem_append_right _ (List.mem_append_right _ (List.mem_append_right _ (List.mem_append_right _ h))))) (fun a => by simp only [List.map_append, List.count_append, List.map_nil, List.count_nil]; omega) hP hD
      obtain ⟨hP, hD⟩ := hP
      refine z_xWv (wr := (zCo c0 ad ae ah ax ++ (zW ad cI σ ++ (zW ae cI τ ++ zHW ah ar cI cS o n hs)))) (As := [.int (nI b)]) (rest := []) ⟨hx, hb, hml, hown, hts⟩ (k_X2_add l dC dI ax cI ω b (by omega) (s.heap).size) (cwV 1 hts gX3_append_X2_add rfl rfl rfl (by decide +kernel) ⟨Nat.le_of_ble_eq_true rfl, Nat.le_of_ble_eq_true rfl⟩) (va_recv hK hP (ci := 2) (q0 := 75) rfl rfl) hP hD hS hA (hK.sub (tys' := [(cI, .int)]) [0] rfl) rfl hl.1 rfl (Nat.le_of_ble_eq_true rfl) dX3_append_48 ⟨Nat.le_of_ble_eq_true rfl, Nat.le_of_ble_eq_true rfl⟩ (fun _ H locs hr_4 (hP : va_P (dC, dI) vwCl ((zCo c0 ad ae ah ax ++ (zW ad cI σ ++ (zW ae cI τ ++ zHW ah ar cI cS o n hs))) ++ zTW ax cI (va_up (tx ω) (tl ω) b, tl ω + 1, tw ω, tn ω, tc ω, ts ω, td ω)) H) (hD : va_D A ((zCo c0 ad ae ah ax ++ (zW ad cI σ ++ (zW ae cI τ ++ zHW ah ar cI cS o n hs))) ++ zTW ax cI (va_up (tx ω) (tl ω) b, tl ω + 1, tw ω, tn ω, tc ω, ts ω, td ω))) hS => ?_)
      refine lv_aload_n hx hb dX3_append_51 rfl (lv_at hl 0 rfl) ?_
      refine va_get (D := (dC, dI)) (ci := 3) (v := .ref (ax 0)) (C := RX3) (T := TX3) (N := 4) hx hb hts hnX3 hown hK hP 0 rfl rfl 3 (by decide) hf29 (fun _ h9 => h9) rfl dX3_append_52 ?_
      refine va_get (D := (dC, dI)) (ci := 2) (v := .int (nI (tl (va_up (tx ω) (tl ω) b, tl ω + 1, tw ω, tn ω, tc ω, ts ω, td ω)))) (C := RX2) (T := TX2) (N := 7) hx hb hts hnX2 hown hK hP 75 rfl rfl 1 (by decide) hf106 (fun _ h9 => h9) rfl dX3_append_55 ?_
      replace hP := z_reord (ws' := (zCo c0 ad ae ah ax ++ (zW ad cI σ ++ (zW ae cI τ ++ (zHW ah ar cI cS o n hs ++ zTW ax cI (va_up (tx ω) (tl ω) b, tl ω + 1, tw ω, tn ω, tc ω, ts ω, td ω)))))) (fun q h => (List.mem_append.mp h).elim (fun h => List.mem_append_left _ (List.mem_append_left _ h)) (fun h => (List.mem_append.mp h).elim (fun h => List.mem_append_left _ (List.mem_append_right _ (List.mem_append_left _ h))) (fun h => (List.mem_append.mp h).elim (fun h => List.mem_append_left _ (List.mem_append_right _ (List.mem_append_right _ (List.mem_append_left _ h)))) (fun h => (List.mem_append.mp h).elim (fun h => List.mem_append_left _ (List.mem_append_right _ (List.mem_append_right _ (List.mem_append_right _ h)))) (fun h => List.mem_append_right _ h))))) (fun a => by simp only [List.map_append, List.count_append, List.map_nil, List.count_nil]; omega) hP hD
      obtain ⟨hP, hD⟩ := hP
      replace hP : va_P (dC, dI) vwCl (zCW c0 ad ae ah ax ar cI cS σ τ o n hs (va_up (tx ω) (tl ω) b, tl ω + 1, tw ω, tn ω, tc ω, ts ω, td ω)) H := hP
      replace hD : va_D A (zCW c0 ad ae ah ax ar cI cS σ τ o n hs (va_up (tx ω) (tl ω) b, tl ω + 1, tw ω, tn ω, tc ω, ts ω, td ω)) := hD
      exact hend _ () _ _ _ _ rfl hP hD hS dX3_append_58
    · skip
      exact absurd c_3 (by omega)
  · skip
    exact absurd c_2 (nI_ro (a := 33) (b := 126) (by omega) (by omega) (by decide))

abbrev rX3_clearBuffer : Room := { frames := 0, cells := 0, slots := 0, locals := 0 }
set_option maxHeartbeats 4000000 in
set_option maxRecDepth 100000 in
theorem k_X3_clearBuffer (l : Launch) (dC : Nat → ClassId) (dI : Nat → Nat → Nat) (c0 : Nat) (ad ae ah ax : Nat → Nat) (ar : Nat → Nat → Nat) (cI cS : ClassId) (σ τ : zS) (o n : Nat) (ho : o < 6) (hn : n ≤ 6) (hs : Nat → zS) (ω : zT) (hok : zok σ) (sz : Nat) : zWi (S := Unit) l yX3_clearBuffer wsX3_clearBuffer rX3_clearBuffer (dC, dI) [.ref c0] (zCW c0 ad ae ah ax ar cI cS σ τ o n hs ω) [(cI, .int), (cS, .object RX1)] sz (fun r (_ : Unit) => r = nI (tl ω)) (fun _ => zCW c0 ad ae ah ax ar cI cS σ τ o n hs (tx ω, 0, tw ω, tn ω, tc ω, ts ω, td ω)) 0 0 := by
  refine zWi_of (cc := cX3_clearBuffer) (maxL := 2) (ty := .int) (by decide) rfl (Nat.le_of_ble_eq_true rfl) (fun _ _ _ => rfl) ?_
  intro p e s m args below meth cd Q ls A hat hP hK hD hA hend
  obtain ⟨hx, hb, hml, hown, hts, hl⟩ := hat
  replace hown : s.vm.findClass RX3 = some m.cls := hown
  replace hl : lv_has ls 2 [(0, .ref c0)] := hl
  replace hP : va_P (dC, dI) vwCl (zCo c0 ad ae ah ax ++ (zW ad cI σ ++ (zW ae cI τ ++ (zHW ah ar cI cS o n hs ++ zTW ax cI ω)))) s.heap := hP
  replace hD : va_D A (zCo c0 ad ae ah ax ++ (zW ad cI σ ++ (zW ae cI τ ++ (zHW ah ar cI cS o n hs ++ zTW ax cI ω)))) := hD
  have hS : va_S A s.heap s.heap [] := va_S.rf
  have hf29 := hts (.fieldLink RX3 29 "InsideOutWords" "text" "LInsideOutWords$Text;") (by decide +kernel)
  have hnX3 : ∀ w ∈ u_ws RX3 TX3 4, w ∈ wsX3_clearBuffer := by decide +kernel
  have hf106 := hts (.fieldLink RX3 106 "InsideOutWords$Text" "length" "I") (by decide +kernel)
  have hnX2 : ∀ w ∈ u_ws RX2 TX2 7, w ∈ wsX3_clearBuffer := by decide +kernel
  refine lv_aload_n hx hb dX3_clearBuffer_0 rfl (lv_at hl 0 rfl) ?_
  refine va_get (D := (dC, dI)) (ci := 3) (v := .ref (ax 0)) (C := RX3) (T := TX3) (N := 4) hx hb hts hnX3 hown hK hP 0 rfl rfl 3 (by decide) hf29 (fun _ h9 => h9) rfl dX3_clearBuffer_1 ?_
  refine va_get (D := (dC, dI)) (ci := 2) (v := .int (nI (tl ω))) (C := RX2) (T := TX2) (N := 7) hx hb hts hnX2 hown hK hP 75 rfl rfl 1 (by decide) hf106 (fun _ h9 => h9) rfl dX3_clearBuffer_4 ?_
  refine lv_istore_n (lv' := [(1, .int (nI (tl ω))), (0, .ref c0)]) hx hb dX3_clearBuffer_7 rfl hl (by decide) rfl (fun ls hl => ?_)
  refine lv_aload_n hx hb dX3_clearBuffer_8 rfl (lv_at hl 1 rfl) ?_
  refine va_get (D := (dC, dI)) (ci := 3) (v := .ref (ax 0)) (C := RX3) (T := TX3) (N := 4) hx hb hts hnX3 hown hK hP 0 rfl rfl 3 (by decide) hf29 (fun _ h9 => h9) rfl dX3_clearBuffer_9 ?_
  refine lv_iconst (v := 0) hx hb dX3_clearBuffer_12 (by decide) ?_
  refine va_put (D := (dC, dI)) (ci := 2) (v := .int 0) (ty := .int) (C := RX2) (T := TX2) (N := 7) hx hb hts hnX2 tyX2 tyX2_ok nmX2 hown hK hP hD hS 75 rfl rfl 1 (by decide) hf106 (fun _ h9 => h9) rfl (by decide +kernel) rfl rfl (Nat.le_of_ble_eq_true rfl) dX3_clearBuffer_13 (fun H locs (hP : va_P (dC, dI) vwCl (zCo c0 ad ae ah ax ++ (zW ad cI σ ++ (zW ae cI τ ++ (zHW ah ar cI cS o n hs ++ zTW ax cI (tx ω, 0, tw ω, tn ω, tc ω, ts ω, td ω))))) H) (hD : va_D A (zCo c0 ad ae ah ax ++ (zW ad cI σ ++ (zW ae cI τ ++ (zHW ah ar cI cS o n hs ++ zTW ax cI (tx ω, 0, tw ω, tn ω, tc ω, ts ω, td ω)))))) hS => ?_)
  refine lv_iload_n hx hb dX3_clearBuffer_16 rfl (lv_at hl 0 rfl) ?_
  replace hP : va_P (dC, dI) vwCl (zCW c0 ad ae ah ax ar cI cS σ τ o n hs (tx ω, 0, tw ω, tn ω, tc ω, ts ω, td ω)) H := hP
  replace hD : va_D A (zCW c0 ad ae ah ax ar cI cS σ τ o n hs (tx ω, 0, tw ω, tn ω, tc ω, ts ω, td ω)) := hD
  exact hend _ () _ _ _ _ rfl hP hD hS dX3_clearBuffer_17

abbrev rX3_firstError : Room := { frames := 4, cells := 0, slots := 0, locals := 89 }
set_option maxHeartbeats 4000000 in
set_option maxRecDepth 100000 in
theorem k_X3_firstError (l : Launch) (dC : Nat → ClassId) (dI : Nat → Nat → Nat) (c0 : Nat) (ad ae ah ax : Nat → Nat) (ar : Nat → Nat → Nat) (cI cS : ClassId) (σ τ : zS) (o n : Nat) (ho : o < 6) (hn : n ≤ 6) (hs : Nat → zS) (ω : zT) (hok : zok σ) (ht : tl ω ≤ 60) (hf : ∀ i, i < tl ω → tx ω i < 128) (sz : Nat) : zWiN (S := Unit) l yX3_firstError wsX3_firstError rX3_firstError (dC, dI) [.ref c0] (zCW c0 ad ae ah ax ar cI cS σ τ o n hs ω) [(cI, .int), (cS, .object RX1)] sz (fun r (_ : Unit) => r = nI ((pParse ω).1)) (fun _ => zCW c0 ad ae ah ax ar cI cS σ τ o n hs ((pParse ω).2)) 0 0 := by
  refine zWiN_of (cc := cX3_firstError) (maxL := 1) (ty := .int) (by decide) rfl (Nat.le_of_ble_eq_true rfl) (fun _ _ _ => rfl) ?_
  intro p e s m args below meth cd Q ls A hat hP hK hN hD hA hend
  obtain ⟨hx, hb, hml, hown, hts, hl⟩ := hat
  replace hown : s.vm.findClass RX3 = some m.cls := hown
  replace hl : lv_has ls 1 [(0, .ref c0)] := hl
  replace hP : va_P (dC, dI) vwCl (zCo c0 ad ae ah ax ++ (zW ad cI σ ++ (zW ae cI τ ++ (zHW ah ar cI cS o n hs ++ zTW ax cI ω)))) s.heap := hP
  replace hD : va_D A (zCo c0 ad ae ah ax ++ (zW ad cI σ ++ (zW ae cI τ ++ (zHW ah ar cI cS o n hs ++ zTW ax cI ω)))) := hD
  have hS : va_S A s.heap s.heap [] := va_S.rf
  have hf29 := hts (.fieldLink RX3 29 "InsideOutWords" "text" "LInsideOutWords$Text;") (by decide +kernel)
  have hnX3 : ∀ w ∈ u_ws RX3 TX3 4, w ∈ wsX3_firstError := by decide +kernel
  refine lv_aload_n hx hb dX3_firstError_0 rfl (lv_at hl 0 rfl) ?_
  refine va_get (D := (dC, dI)) (ci := 3) (v := .ref (ax 0)) (C := RX3) (T := TX3) (N := 4) hx hb hts hnX3 hown hK hP 0 rfl rfl 3 (by decide) hf29 (fun _ h9 => h9) rfl dX3_firstError_1 ?_
  replace hP := z_reord (ws' := ((zCo c0 ad ae ah ax ++ (zW ad cI σ ++ (zW ae cI τ ++ zHW ah ar cI cS o n hs))) ++ zTW ax cI ω)) (fun q h => (List.mem_append.mp h).elim (fun h => (List.mem_append.mp h).elim (fun h => List.mem_append_left _ h) (fun h => (List.mem_append.mp h).elim (fun h => List.mem_append_right _ (List.mem_append_left _ h)) (fun h => (List.mem_append.mp h).elim (fun h => List.mem_append_right _ (List.mem_append_right _ (List.mem_append_left _ h))) (fun h => List.mem_append_right _ (List.mem_append_right _ (List.mem_append_right _ (List.mem_append_left _ h))))))) (fun h => List.mem_append_right _ (List.mem_append_right _ (List.mem_append_right _ (List.mem_append_right _ h))))) (fun a => by simp only [List.map_append, List.count_append, List.map_nil, List.count_nil]; omega) hP hD
  obtain ⟨hP, hD⟩ := hP
  refine z_xWiN (wr := (zCo c0 ad ae ah ax ++ (zW ad cI σ ++ (zW ae cI τ ++ zHW ah ar cI cS o n hs)))) (As := []) (rest := []) ⟨hx, hb, hml, hown, hts⟩ (k_X2_parse l dC dI ax cI ω ht hf (s.heap).size) (cwV 0 hts gX3_firstError_X2_parse rfl rfl rfl (by decide +kernel) ⟨Nat.le_of_ble_eq_true rfl, Nat.le_of_ble_eq_true rfl⟩) (va_recv hK hP (ci := 2) (q0 := 75) rfl rfl) hP hD hS hA (hK.sub (tys' := [(cI, .int)]) [0] rfl) hN rfl hl.1 rfl (Nat.le_of_ble_eq_true rfl) dX3_firstError_4 ⟨Nat.le_of_ble_eq_true rfl, Nat.le_of_ble_eq_true rfl⟩ (fun r_1 _ H locs hr_1 (hP : va_P (dC, dI) vwCl ((zCo c0 ad ae ah ax ++ (zW ad cI σ ++ (zW ae cI τ ++ zHW ah ar cI cS o n hs))) ++ zTW ax cI ((pParse ω).2)) H) (hD : va_D A ((zCo c0 ad ae ah ax ++ (zW ad cI σ ++ (zW ae cI τ ++ zHW ah ar cI cS o n hs))) ++ zTW ax cI ((pParse ω).2))) hS => ?_)
  have hpf := pParse_f (τ := ω) hf
  have hpf1 := hpf.1
  have hpf2 := hpf.2.2.1
  have hpf3 := hpf.2.2.2.1
  subst hr_1
  replace hP := z_reord (ws' := (zCo c0 ad ae ah ax ++ (zW ad cI σ ++ (zW ae cI τ ++ (zHW ah ar cI cS o n hs ++ zTW ax cI ((pParse ω).2)))))) (fun q h => (List.mem_append.mp h).elim (fun h => List.mem_append_left _ (List.mem_append_left _ h)) (fun h => (List.mem_append.mp h).elim (fun h => List.mem_append_left _ (List.mem_append_right _ (List.mem_append_left _ h))) (fun h => (List.mem_append.mp h).elim (fun h => List.mem_append_left _ (List.mem_append_right _ (List.mem_append_right _ (List.mem_append_left _ h)))) (fun h => (List.mem_append.mp h).elim (fun h => List.mem_append_left _ (List.mem_append_right _ (List.mem_append_right _ (List.mem_append_right _ h)))) (fun h => List.mem_append_right _ h))))) (fun a => by simp only [List.map_append, List.count_append, List.map_nil, List.count_nil]; omega) hP hD
  obtain ⟨hP, hD⟩ := hP
  replace hP : va_P (dC, dI) vwCl (zCW c0 ad ae ah ax ar cI cS σ τ o n hs ((pParse ω).2)) H := hP
  replace hD : va_D A (zCW c0 ad ae ah ax ar cI cS σ τ o n hs ((pParse ω).2)) := hD
  exact hend _ () _ _ _ _ rfl hP hD hS dX3_firstError_7

abbrev rX3_life : Room := { frames := 5, cells := 0, slots := 0, locals := 127 }
set_option maxHeartbeats 4000000 in
set_option maxRecDepth 100000 in
theorem k_X3_life (l : Launch) (dC : Nat → ClassId) (dI : Nat → Nat → Nat) (c0 : Nat) (ad ae ah ax : Nat → Nat) (ar : Nat → Nat → Nat) (cI cS : ClassId) (σ τ : zS) (o n : Nat) (ho : o < 6) (hn : n ≤ 6) (hs : Nat → zS) (ω : zT) (hok : zok σ) (j : Nat) (hj : j < 16) (v : Nat) (hv : v < 4096) (sz : Nat) : zWi (S := Unit) l yX3_life wsX3_life rX3_life (dC, dI) [.ref c0, .int (nI j), .int (nI v)] (zCW c0 ad ae ah ax ar cI cS σ τ o n hs ω) [(cI, .int), (cS, .object RX1)] sz (fun r (_ : Unit) => r = nI ((pTurns j 500 σ (nI v)).2)) (fun _ => zCW c0 ad ae ah ax ar cI cS σ ((pTurns j 500 σ (nI v)).1) o n hs ω) 0 0 := by
  refine zWi_of (cc := cX3_life) (maxL := 3) (ty := .int) (by decide) rfl (Nat.le_of_ble_eq_true rfl) (fun _ _ _ => rfl) ?_
  intro p e s m args below meth cd Q ls A hat hP hK hD hA hend
  obtain ⟨hx, hb, hml, hown, hts, hl⟩ := hat
  replace hown : s.vm.findClass RX3 = some m.cls := hown
  replace hl : lv_has ls 3 [(0, .ref c0), (1, .int (nI j)), (2, .int (nI v))] := hl
  replace hP : va_P (dC, dI) vwCl (zCo c0 ad ae ah ax ++ (zW ad cI σ ++ (zW ae cI τ ++ (zHW ah ar cI cS o n hs ++ zTW ax cI ω)))) s.heap := hP
  replace hD : va_D A (zCo c0 ad ae ah ax ++ (zW ad cI σ ++ (zW ae cI τ ++ (zHW ah ar cI cS o n hs ++ zTW ax cI ω)))) := hD
  have hS : va_S A s.heap s.heap [] := va_S.rf
  have hf16 := hts (.fieldLink RX3 16 "InsideOutWords" "trial" "LInsideOutWords$State;") (by decide +kernel)
  have hnX3 : ∀ w ∈ u_ws RX3 TX3 4, w ∈ wsX3_life := by decide +kernel
  have hf10 := hts (.fieldLink RX3 10 "InsideOutWords" "now" "LInsideOutWords$State;") (by decide +kernel)
  refine lv_iload_n hx hb dX3_life_0 rfl (lv_at hl 1 rfl) ?_
  refine z_cSv (As := [.int (nI j)]) (rest := []) ⟨hx, hb, hml, hown, hts⟩ (k_X3_needWord l dC dI (nI j) (nI_io (b := 15) (by omega) (by decide))) (va_cwS 1 hts gX3_life_X3_needWord rfl rfl rfl (by decide +kernel) ⟨Nat.le_of_ble_eq_true rfl, Nat.le_of_ble_eq_true rfl⟩) (hP.sub (ws' := []) [] rfl) (hK.sub (tys' := []) [] rfl) rfl hl.1 rfl (Nat.le_of_ble_eq_true rfl) dX3_life_1 ⟨Nat.le_of_ble_eq_true rfl, Nat.le_of_ble_eq_true rfl⟩ ?_
  refine lv_iload_n hx hb dX3_life_4 rfl (lv_at hl 2 rfl) ?_
  refine z_cSv (As := [.int (nI v)]) (rest := []) ⟨hx, hb, hml, hown, hts⟩ (k_X3_needNumber l dC dI (nI v) (nI_io (b := 4095) (by omega) (by decide))) (va_cwS 1 hts gX3_life_X3_needNumber rfl rfl rfl (by decide +kernel) ⟨Nat.le_of_ble_eq_true rfl, Nat.le_of_ble_eq_true rfl⟩) (hP.sub (ws' := []) [] rfl) (hK.sub (tys' := []) [] rfl) rfl hl.1 rfl (Nat.le_of_ble_eq_true rfl) dX3_life_5 ⟨Nat.le_of_ble_eq_true rfl, Nat.le_of_ble_eq_true rfl⟩ ?_
  refine lv_aload_n hx hb dX3_life_8 rfl (lv_at hl 0 rfl) ?_
  refine va_get (D := (dC, dI)) (ci := 3) (v := .ref (ae 0)) (C := RX3) (T := TX3) (N := 4) hx hb hts hnX3 hown hK hP 0 rfl rfl 1 (by decide) hf16 (fun _ h9 => h9) rfl dX3_life_9 ?_
  refine lv_aload_n hx hb dX3_life_12 rfl (lv_at hl 0 rfl) ?_
  refine va_get (D := (dC, dI)) (ci := 3) (v := .ref (ad 0)) (C := RX3) (T := TX3) (N := 4) hx hb hts hnX3 hown hK hP 0 rfl rfl 0 (by decide) hf10 (fun _ h9 => h9) rfl dX3_life_13 ?_
  replace hP := z_reord (ws' := ((zCo c0 ad ae ah ax ++ (zHW ah ar cI cS o n hs ++ zTW ax cI ω)) ++ (zW ae cI τ ++ zW ad cI σ))) (fun q h => (List.mem_append.mp h).elim (fun h => (List.mem_append.mp h).elim (fun h => List.mem_append_left _ h) (fun h => (List.mem_append.mp h).elim (fun h => List.mem_append_right _ (List.mem_append_right _ (List.mem_append_right _ (List.mem_append_left _ h)))) (fun h => List.mem_append_right _ (List.mem_append_right _ (List.mem_append_right _ (List.mem_append_right _ h)))))) (fun h => (List.mem_append.mp h).elim (fun h => List.mem_append_right _ (List.mem_append_right _ (List.mem_append_left _ h))) (fun h => List.mem_append_right _ (List.mem_append_left _ h)))) (fun a => by simp only [List.map_append, List.count_append, List.map_nil, List.count_nil]; omega) hP hD
  obtain ⟨hP, hD⟩ := hP
  refine z_xWv (wr := (zCo c0 ad ae ah ax ++ (zHW ah ar cI cS o n hs ++ zTW ax cI ω))) (As := [.ref (ad 0)]) (rest := []) ⟨hx, hb, hml, hown, hts⟩ (k_X1_copyFrom l dC dI ae ad cI τ σ (s.heap).size) (cwV 1 hts gX3_life_X1_copyFrom rfl rfl rfl (by decide +kernel) ⟨Nat.le_of_ble_eq_true rfl, Nat.le_of_ble_eq_true rfl⟩) (va_recv hK hP (ci := 1) (q0 := 61) rfl rfl) hP hD hS hA (hK.sub (tys' := [(cI, .int)]) [0] rfl) rfl hl.1 rfl (Nat.le_of_ble_eq_true rfl) dX3_life_16 ⟨Nat.le_of_ble_eq_true rfl, Nat.le_of_ble_eq_true rfl⟩ (fun _ H locs hr_1 (hP : va_P (dC, dI) vwCl ((zCo c0 ad ae ah ax ++ (zHW ah ar cI cS o n hs ++ zTW ax cI ω)) ++ (zW ae cI σ ++ zW ad cI σ)) H) (hD : va_D A ((zCo c0 ad ae ah ax ++ (zHW ah ar cI cS o n hs ++ zTW ax cI ω)) ++ (zW ae cI σ ++ zW ad cI σ))) hS => ?_)
  refine lv_aload_n hx hb dX3_life_19 rfl (lv_at hl 0 rfl) ?_
  refine va_get (D := (dC, dI)) (ci := 3) (v := .ref (ae 0)) (C := RX3) (T := TX3) (N := 4) hx hb hts hnX3 hown hK hP 0 rfl rfl 1 (by decide) hf16 (fun _ h9 => h9) rfl dX3_life_20 ?_
  refine lv_iload_n hx hb dX3_life_23 rfl (lv_at hl 1 rfl) ?_
  refine lv_iload_n hx hb dX3_life_24 rfl (lv_at hl 2 rfl) ?_
  refine lv_sipush (v := 500) hx hb dX3_life_25 (by decide) ?_
  replace hP := z_reord (ws' := ((zCo c0 ad ae ah ax ++ (zHW ah ar cI cS o n hs ++ (zTW ax cI ω ++ zW ad cI σ))) ++ zW ae cI σ)) (fun q h => (List.mem_append.mp h).elim (fun h => (List.mem_append.mp h).elim (fun h => List.mem_append_left _ (List.mem_append_left _ h)) (fun h => (List.mem_append.mp h).elim (fun h => List.mem_append_left _ (List.mem_append_right _ (List.mem_append_left _ h))) (fun h => (List.mem_append.mp h).elim (fun h => List.mem_append_left _ (List.mem_append_right _ (List.mem_append_right _ h))) (fun h => List.mem_append_right _ (List.mem_append_right _ h))))) (fun h => List.mem_append_right _ (List.mem_append_left _ h))) (fun a => by simp only [List.map_append, List.count_append, List.map_nil, List.count_nil]; omega) hP hD
  obtain ⟨hP, hD⟩ := hP
  refine z_xWi (wr := (zCo c0 ad ae ah ax ++ (zHW ah ar cI cS o n hs ++ (zTW ax cI ω ++ zW ad cI σ)))) (As := [.int (nI j), .int (nI v), .int 500]) (rest := []) ⟨hx, hb, hml, hown, hts⟩ (k_X1_placeInTurns l dC dI ae cI σ hok j (by omega) (nI v) 500 (by omega) H.size) (cwV 3 hts gX3_life_X1_placeInTurns rfl rfl rfl (by decide +kernel) ⟨Nat.le_of_ble_eq_true rfl, Nat.le_of_ble_eq_true rfl⟩) (va_recv hK hP (ci := 1) (q0 := 70) rfl rfl) hP hD hS hA (hK.sub (tys' := [(cI, .int)]) [0] rfl) rfl hl.1 rfl (Nat.le_of_ble_eq_true rfl) dX3_life_28 ⟨Nat.le_of_ble_eq_true rfl, Nat.le_of_ble_eq_true rfl⟩ (fun r_2 _ H locs hr_2 (hP : va_P (dC, dI) vwCl ((zCo c0 ad ae ah ax ++ (zHW ah ar cI cS o n hs ++ (zTW ax cI ω ++ zW ad cI σ))) ++ zW ae cI ((pTurns j 500 σ (nI v)).1)) H) (hD : va_D A ((zCo c0 ad ae ah ax ++ (zHW ah ar cI cS o n hs ++ (zTW ax cI ω ++ zW ad cI σ))) ++ zW ae cI ((pTurns j 500 σ (nI v)).1))) hS => ?_)
  have hok_2 : zok ((pTurns j 500 σ (nI v)).1) := pTurns_ok (by omega) hok
  subst hr_2
  replace hP := z_reord (ws' := (zCo c0 ad ae ah ax ++ (zW ad cI σ ++ (zW ae cI ((pTurns j 500 σ (nI v)).1) ++ (zHW ah ar cI cS o n hs ++ zTW ax cI ω))))) (fun q h => (List.mem_append.mp h).elim (fun h => List.mem_append_left _ (List.mem_append_left _ h)) (fun h => (List.mem_append.mp h).elim (fun h => List.mem_append_left _ (List.mem_append_right _ (List.mem_append_right _ (List.mem_append_right _ h)))) (fun h => (List.mem_append.mp h).elim (fun h => List.mem_append_right _ h) (fun h => (List.mem_append.mp h).elim (fun h => List.mem_append_left _ (List.mem_append_right _ (List.mem_append_left _ h))) (fun h => List.mem_append_left _ (List.mem_append_right _ (List.mem_append_right _ (List.mem_append_left _ h)))))))) (fun a => by simp only [List.map_append, List.count_append, List.map_nil, List.count_nil]; omega) hP hD
  obtain ⟨hP, hD⟩ := hP
  replace hP : va_P (dC, dI) vwCl (zCW c0 ad ae ah ax ar cI cS σ ((pTurns j 500 σ (nI v)).1) o n hs ω) H := hP
  replace hD : va_D A (zCW c0 ad ae ah ax ar cI cS σ ((pTurns j 500 σ (nI v)).1) o n hs ω) := hD
  exact hend _ () _ _ _ _ rfl hP hD hS dX3_life_31

abbrev rX3_placeParsed : Room := { frames := 4, cells := 0, slots := 0, locals := 101 }
set_option maxHeartbeats 4000000 in
set_option maxRecDepth 100000 in
theorem k_X3_placeParsed (l : Launch) (dC : Nat → ClassId) (dI : Nat → Nat → Nat) (c0 : Nat) (ad ae ah ax : Nat → Nat) (ar : Nat → Nat → Nat) (cI cS : ClassId) (σ τ : zS) (o n : Nat) (ho : o < 6) (hn : n ≤ 6) (hs : Nat → zS) (ω : zT) (hok : zok σ) (hc : tc ω ≤ 60) (hw : ∀ i, i < tc ω → tw ω i < 16) (sz : Nat) : zWi (S := Unit) l yX3_placeParsed wsX3_placeParsed rX3_placeParsed (dC, dI) [.ref c0] (zCW c0 ad ae ah ax ar cI cS σ τ o n hs ω) [(cI, .int), (cS, .object RX1)] sz (fun r (_ : Unit) => r = nI ((pPP ω (tc ω) 0 σ).1)) (fun _ => zCW c0 ad ae ah ax ar cI cS ((pPP ω (tc ω) 0 σ).2) τ o n hs ω) 0 0 := by
  refine zWi_of (cc := cX3_placeParsed) (maxL := 5) (ty := .int) (by decide) rfl (Nat.le_of_ble_eq_true rfl) (fun _ _ _ => rfl) ?_
  intro p e s m args below meth cd Q ls A hat hP hK hD hA hend
  obtain ⟨hx, hb, hml, hown, hts, hl⟩ := hat
  replace hown : s.vm.findClass RX3 = some m.cls := hown
  replace hl : lv_has ls 5 [(0, .ref c0)] := hl
  replace hP : va_P (dC, dI) vwCl (zCo c0 ad ae ah ax ++ (zW ad cI σ ++ (zW ae cI τ ++ (zHW ah ar cI cS o n hs ++ zTW ax cI ω)))) s.heap := hP
  replace hD : va_D A (zCo c0 ad ae ah ax ++ (zW ad cI σ ++ (zW ae cI τ ++ (zHW ah ar cI cS o n hs ++ zTW ax cI ω)))) := hD
  have hS : va_S A s.heap s.heap [] := va_S.rf
  have hf29 := hts (.fieldLink RX3 29 "InsideOutWords" "text" "LInsideOutWords$Text;") (by decide +kernel)
  have hnX3 : ∀ w ∈ u_ws RX3 TX3 4, w ∈ wsX3_placeParsed := by decide +kernel
  have hf265 := hts (.fieldLink RX3 265 "InsideOutWords$Text" "parsed" "I") (by decide +kernel)
  have hnX2 : ∀ w ∈ u_ws RX2 TX2 7, w ∈ wsX3_placeParsed := by decide +kernel
  have hf268 := hts (.fieldLink RX3 268 "InsideOutWords$Text" "parsedWord" "[I") (by decide +kernel)
  have hf271 := hts (.fieldLink RX3 271 "InsideOutWords$Text" "parsedNumber" "[I") (by decide +kernel)
  have hf10 := hts (.fieldLink RX3 10 "InsideOutWords" "now" "LInsideOutWords$State;") (by decide +kernel)
  refine lv_iconst (v := 0) hx hb dX3_placeParsed_0 (by decide) ?_
  refine lv_istore_n (lv' := [(1, .int 0), (0, .ref c0)]) hx hb dX3_placeParsed_1 rfl hl (by decide) rfl (fun ls hl => ?_)
  have hC_2 : ∀ (nf : Nat) (υ : zS) (i : Nat) (ls : Array Slot) (H : Heap) (locs : List Loc), tc ω - i < nf → lv_has ls 5 [(0, .ref c0), (1, .int (nI i))] → (zok υ) → (i ≤ tc ω) → (pPP ω (tc ω - i) i υ = pPP ω (tc ω) 0 σ) → va_P (dC, dI) vwCl (zCo c0 ad ae ah ax ++ (zW ad cI υ ++ (zW ae cI τ ++ (zHW ah ar cI cS o n hs ++ zTW ax cI ω)))) H → va_D A (zCo c0 ad ae ah ax ++ (zW ad cI υ ++ (zW ae cI τ ++ (zHW ah ar cI cS o n hs ++ zTW ax cI ω)))) → va_S A s.heap H locs → W p l e rX3_placeParsed s m args below meth cd H locs 0 0 Q (F0 m 2 ls []) := by
    intro nf
    induction nf with
    | zero => intro υ i ls H locs hm_2 hl hok1 hi1 hp1 hP hD hS; exact absurd hm_2 (Nat.not_lt_zero _)
    | succ nf ih_2 =>
      intro υ i ls H locs hm_2 hl hok1 hi1 hp1 hP hD hS
      refine lv_iload_n hx hb dX3_placeParsed_2 rfl (lv_at hl 1 rfl) ?_
      refine lv_aload_n hx hb dX3_placeParsed_3 rfl (lv_at hl 0 rfl) ?_
      refine va_get (D := (dC, dI)) (ci := 3) (v := .ref (ax 0)) (C := RX3) (T := TX3) (N := 4) hx hb hts hnX3 hown hK hP 0 rfl rfl 3 (by decide) hf29 (fun _ h9 => h9) rfl dX3_placeParsed_4 ?_
      refine va_get (D := (dC, dI)) (ci := 2) (v := .int (nI (tc ω))) (C := RX2) (T := TX2) (N := 7) hx hb hts hnX2 hown hK hP 75 rfl rfl 4 (by decide) hf265 (fun _ h9 => h9) rfl dX3_placeParsed_7 ?_
      refine z_ge hx hb i (tc ω) (by omega) (by omega) (tgt := 70) dX3_placeParsed_10 (by decide) (fun c_1 => ?_) (fun c_1 => ?_)
      · skip
        refine lv_aload_n hx hb dX3_placeParsed_70 rfl (lv_at hl 0 rfl) ?_
        refine va_get (D := (dC, dI)) (ci := 3) (v := .ref (ax 0)) (C := RX3) (T := TX3) (N := 4) hx hb hts hnX3 hown hK hP 0 rfl rfl 3 (by decide) hf29 (fun _ h9 => h9) rfl dX3_placeParsed_71 ?_
        refine va_get (D := (dC, dI)) (ci := 2) (v := .int (nI (tc ω))) (C := RX2) (T := TX2) (N := 7) hx hb hts hnX2 hown hK hP 75 rfl rfl 4 (by decide) hf265 (fun _ h9 => h9) rfl dX3_placeParsed_74 ?_
        have e9s : (pPP ω (tc ω) 0 σ).2 = υ := by rw [← hp1, show tc ω - i = 0 by omega]; rfl
        replace hP : va_P (dC, dI) vwCl (zCW c0 ad ae ah ax ar cI cS ((pPP ω (tc ω) 0 σ).2) τ o n hs ω) H := by rw [e9s]; exact hP
        replace hD : va_D A (zCW c0 ad ae ah ax ar cI cS ((pPP ω (tc ω) 0 σ).2) τ o n hs ω) := by rw [e9s]; exact hD
        exact hend _ () _ _ _ _ (by rw [← hp1, show tc ω - i = 0 by omega]; exact congrArg nI (show tc ω = i by omega)) hP hD hS dX3_placeParsed_77
      · skip
        refine lv_aload_n hx hb dX3_placeParsed_13 rfl (lv_at hl 0 rfl) ?_
        refine va_get (D := (dC, dI)) (ci := 3) (v := .ref (ax 0)) (C := RX3) (T := TX3) (N := 4) hx hb hts hnX3 hown hK hP 0 rfl rfl 3 (by decide) hf29 (fun _ h9 => h9) rfl dX3_placeParsed_14 ?_
        refine va_get (D := (dC, dI)) (ci := 2) (v := .ref (ax 2)) (C := RX2) (T := TX2) (N := 7) hx hb hts hnX2 hown hK hP 75 rfl rfl 2 (by decide) hf268 (fun _ h9 => h9) rfl dX3_placeParsed_17 ?_
        refine lv_iload_n hx hb dX3_placeParsed_20 rfl (lv_at hl 1 rfl) ?_
        refine z_ald hx hb hK hP 77 0 i (f := (fun w => nI (tw ω w))) rfl rfl (by first | omega | decide) (by first | decide | omega) dX3_placeParsed_21 ?_
        refine lv_istore_n (lv' := [(2, .int (nI (tw ω i))), (0, .ref c0), (1, .int (nI i))]) hx hb dX3_placeParsed_22 rfl hl (by decide) rfl (fun ls hl => ?_)
        refine lv_aload_n hx hb dX3_placeParsed_23 rfl (lv_at hl 1 rfl) ?_
        refine va_get (D := (dC, dI)) (ci := 3) (v := .ref (ax 0)) (C := RX3) (T := TX3) (N := 4) hx hb hts hnX3 hown hK hP 0 rfl rfl 3 (by decide) hf29 (fun _ h9 => h9) rfl dX3_placeParsed_24 ?_
        refine va_get (D := (dC, dI)) (ci := 2) (v := .ref (ax 3)) (C := RX2) (T := TX2) (N := 7) hx hb hts hnX2 hown hK hP 75 rfl rfl 3 (by decide) hf271 (fun _ h9 => h9) rfl dX3_placeParsed_27 ?_
        refine lv_iload_n hx hb dX3_placeParsed_30 rfl (lv_at hl 2 rfl) ?_
        refine z_ald hx hb hK hP 78 0 i (f := (fun w => nI (tn ω w))) rfl rfl (by first | omega | decide) (by first | decide | omega) dX3_placeParsed_31 ?_
        refine lv_istore_n (lv' := [(3, .int (nI (tn ω i))), (2, .int (nI (tw ω i))), (0, .ref c0), (1, .int (nI i))]) hx hb dX3_placeParsed_32 rfl hl (by decide) rfl (fun ls hl => ?_)
        have hww := hw i (by omega)
        refine lv_aload_n hx hb dX3_placeParsed_33 rfl (lv_at hl 2 rfl) ?_
        refine va_get (D := (dC, dI)) (ci := 3) (v := .ref (ad 0)) (C := RX3) (T := TX3) (N := 4) hx hb hts hnX3 hown hK hP 0 rfl rfl 0 (by decide) hf10 (fun _ h9 => h9) rfl dX3_placeParsed_34 ?_
        refine lv_iload_n hx hb dX3_placeParsed_37 rfl (lv_at hl 1 rfl) ?_
        refine lv_iload_n hx hb dX3_placeParsed_38 rfl (lv_at hl 0 rfl) ?_
        refine z_cVi (As := [.int (nI (tw ω i)), .int (nI (tn ω i))]) (rest := []) ⟨hx, hb, hml, hown, hts⟩ (k_X1_targetOf l dC dI ad cI υ hok1 (tw ω i) (by omega) (nI (tn ω i))) (cwV 2 hts gX3_placeParsed_X1_targetOf rfl rfl rfl (by decide +kernel) ⟨Nat.le_of_ble_eq_true rfl, Nat.le_of_ble_eq_true rfl⟩) (va_recv hK hP (ci := 1) (q0 := 1) rfl rfl) (hP.sub (ws' := zW ad cI υ) [1, 2, 3, 4, 5, 6, 7, 8, 9] rfl) (hK.sub (tys' := [(cI, .int)]) [0] rfl) rfl hl.1 rfl (Nat.le_of_ble_eq_true rfl) dX3_placeParsed_39 ⟨Nat.le_of_ble_eq_true rfl, Nat.le_of_ble_eq_true rfl⟩ (fun r_2 hr_2 => ?_)
        obtain ⟨o_3, eo_3⟩ : ∃ zz : Option Nat, zz = ptg υ (tw ω i) (nI (tn ω i)) := ⟨_, rfl⟩
        rw [← eo_3] at hr_2
        subst hr_2
        have hbo_3 : ∀ i, o_3 = some i → i < 18 := by rw [eo_3]; exact ptg_lt (hok1 _ (by omega))
        refine lv_istore (lv' := [(4, .int (zo o_3)), (3, .int (nI (tn ω i))), (2, .int (nI (tw ω i))), (0, .ref c0), (1, .int (nI i))]) hx hb dX3_placeParsed_42 hl (by decide) rfl (fun ls hl => ?_)
        refine lv_iload hx hb dX3_placeParsed_44 (lv_at hl 0 rfl) ?_
        refine lv_iconst (v := (-1)) hx hb dX3_placeParsed_46 (by decide) ?_
        refine z_neO hx hb o_3 (fun i hi => Nat.lt_of_lt_of_le (hbo_3 i hi) (by decide)) (tgt := 52) dX3_placeParsed_47 (by decide) (fun k_4 ho_4 => ?_) (fun ho_4 => ?_)
        · skip
          have hE_4 := eo_3.symm.trans ho_4
          have hkb_4 := hbo_3 _ ho_4
          try rw [ho_4] at hl
          try rw [ho_4]
          replace hl : lv_has ls 5 [(4, .int (nI k_4)), (3, .int (nI (tn ω i))), (2, .int (nI (tw ω i))), (0, .ref c0), (1, .int (nI i))] := hl
          refine lv_aload_n hx hb dX3_placeParsed_52 rfl (lv_at hl 3 rfl) ?_
          refine va_get (D := (dC, dI)) (ci := 3) (v := .ref (ad 0)) (C := RX3) (T := TX3) (N := 4) hx hb hts hnX3 hown hK hP 0 rfl rfl 0 (by decide) hf10 (fun _ h9 => h9) rfl dX3_placeParsed_53 ?_
          refine lv_iload_n hx hb dX3_placeParsed_56 rfl (lv_at hl 2 rfl) ?_
          refine lv_iload_n hx hb dX3_placeParsed_57 rfl (lv_at hl 1 rfl) ?_
          refine lv_iload hx hb dX3_placeParsed_58 (lv_at hl 0 rfl) ?_
          replace hP := z_reord (ws' := ((zCo c0 ad ae ah ax ++ (zW ae cI τ ++ (zHW ah ar cI cS o n hs ++ zTW ax cI ω))) ++ zW ad cI υ)) (fun q h => (List.mem_append.mp h).elim (fun h => (List.mem_append.mp h).elim (fun h => List.mem_append_left _ h) (fun h => (List.mem_append.mp h).elim (fun h => List.mem_append_right _ (List.mem_append_right _ (List.mem_append_left _ h))) (fun h => (List.mem_append.mp h).elim (fun h => List.mem_append_right _ (List.mem_append_right _ (List.mem_append_right _ (List.mem_append_left _ h)))) (fun h => List.mem_append_right _ (List.mem_append_right _ (List.mem_append_right _ (List.mem_append_right _ h))))))) (fun h => List.mem_append_right _ (List.mem_append_left _ h))) (fun a => by simp only [List.map_append, List.count_append, List.map_nil, List.count_nil]; omega) hP hD
          obtain ⟨hP, hD⟩ := hP
          refine z_xWi (wr := (zCo c0 ad ae ah ax ++ (zW ae cI τ ++ (zHW ah ar cI cS o n hs ++ zTW ax cI ω)))) (As := [.int (nI (tw ω i)), .int (nI (tn ω i)), .int (nI k_4)]) (rest := []) ⟨hx, hb, hml, hown, hts⟩ (k_X1_place l dC dI ad cI υ hok1 (tw ω i) (by omega) (nI (tn ω i)) k_4 (by omega) H.size) (cwV 3 hts gX3_placeParsed_X1_place rfl rfl rfl (by decide +kernel) ⟨Nat.le_of_ble_eq_true rfl, Nat.le_of_ble_eq_true rfl⟩) (va_recv hK hP (ci := 1) (q0 := 70) rfl rfl) hP hD hS hA (hK.sub (tys' := [(cI, .int)]) [0] rfl) rfl hl.1 rfl (Nat.le_of_ble_eq_true rfl) dX3_placeParsed_60 ⟨Nat.le_of_ble_eq_true rfl, Nat.le_of_ble_eq_true rfl⟩ (fun r_5 _ H locs hr_5 (hP : va_P (dC, dI) vwCl ((zCo c0 ad ae ah ax ++ (zW ae cI τ ++ (zHW ah ar cI cS o n hs ++ zTW ax cI ω))) ++ zW ad cI (pPlace υ (tw ω i) (nI (tn ω i)) k_4)) H) (hD : va_D A ((zCo c0 ad ae ah ax ++ (zW ae cI τ ++ (zHW ah ar cI cS o n hs ++ zTW ax cI ω))) ++ zW ad cI (pPlace υ (tw ω i) (nI (tn ω i)) k_4))) hS => ?_)
          have hok_5 : zok (pPlace υ (tw ω i) (nI (tn ω i)) k_4) := pPlace_ok hok1 (by omega)
          subst hr_5
          refine lv_pop hx hb dX3_placeParsed_63 rfl ?_
          refine lv_iinc (v := nI (i + 1)) (lv' := [(1, .int (nI (i + 1))), (4, .int (nI k_4)), (3, .int (nI (tn ω i))), (2, .int (nI (tw ω i))), (0, .ref c0)]) hx hb dX3_placeParsed_64 hl (k := 4) rfl (z_inc1 _) (by decide) rfl (fun ls hl => ?_)
          refine lv_goto (tgt := 2) hx hb dX3_placeParsed_67 (by decide) ?_
          replace hP := z_reord (ws' := (zCo c0 ad ae ah ax ++ (zW ad cI (pPlace υ (tw ω i) (nI (tn ω i)) k_4) ++ (zW ae cI τ ++ (zHW ah ar cI cS o n hs ++ zTW ax cI ω))))) (fun q h => (List.mem_append.mp h).elim (fun h => List.mem_append_left _ (List.mem_append_left _ h)) (fun h => (List.mem_append.mp h).elim (fun h => List.mem_append_right _ h) (fun h => (List.mem_append.mp h).elim (fun h => List.mem_append_left _ (List.mem_append_right _ (List.mem_append_left _ h))) (fun h => (List.mem_append.mp h).elim (fun h => List.mem_append_left _ (List.mem_append_right _ (List.mem_append_right _ (List.mem_append_left _ h)))) (fun h => List.mem_append_left _ (List.mem_append_right _ (List.mem_append_right _ (List.mem_append_right _ h)))))))) (fun a => by simp only [List.map_append, List.count_append, List.map_nil, List.count_nil]; omega) hP hD
          obtain ⟨hP, hD⟩ := hP
          exact ih_2 (pPlace υ (tw ω i) (nI (tn ω i)) k_4) (i + 1) _ _ _ (by omega) (lv_sub hl [4, 0] rfl) (hok_5) (by omega) (by rw [← hp1, show tc ω - i = (tc ω - (i + 1)) + 1 by omega, pPP_go hE_4]) hP hD hS
        · skip
          have hE_4 := eo_3.symm.trans ho_4
          try rw [ho_4] at hl
          try rw [ho_4]
          replace hl : lv_has ls 5 [(4, .int (-1)), (3, .int (nI (tn ω i))), (2, .int (nI (tw ω i))), (0, .ref c0), (1, .int (nI i))] := hl
          refine lv_iload_n hx hb dX3_placeParsed_50 rfl (lv_at hl 4 rfl) ?_
          have e9s : (pPP ω (tc ω) 0 σ).2 = υ := by rw [← hp1, show tc ω - i = (tc ω - (i + 1)) + 1 by omega, pPP_end hE_4]
          replace hP : va_P (dC, dI) vwCl (zCW c0 ad ae ah ax ar cI cS ((pPP ω (tc ω) 0 σ).2) τ o n hs ω) H := by rw [e9s]; exact hP
          replace hD : va_D A (zCW c0 ad ae ah ax ar cI cS ((pPP ω (tc ω) 0 σ).2) τ o n hs ω) := by rw [e9s]; exact hD
          exact hend _ () _ _ _ _ (by rw [← hp1, show tc ω - i = (tc ω - (i + 1)) + 1 by omega, pPP_end hE_4]) hP hD hS dX3_placeParsed_51
  exact hC_2 _ σ 0 _ _ _ (Nat.lt_succ_self _) (lv_sub hl [1, 0] rfl) (hok) (by omega) (rfl) hP hD hS
