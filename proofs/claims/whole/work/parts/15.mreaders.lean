abbrev rX4_ofWord : Room := { frames := 1, cells := 0, slots := 0, locals := 21 }
set_option maxHeartbeats 4000000 in
set_option maxRecDepth 100000 in
theorem k_X4_ofWord (l : Launch) (dC : Nat → ClassId) (dI : Nat → Nat → Nat) (ad : Nat → Nat) (cI : ClassId) (μ : zM) (hMok : zMok μ) (j : Nat) (hj : j < 16) (q : Nat) (hq : q < 5) : zRi l yX4_ofWord wsX4_ofWord rX4_ofWord (dC, dI) [.ref (ad 0), .int (nI j), .int (nI q)] (zMW ad cI μ) [(cI, .int)] (fun r => r = vWord (gS (mg μ)) j q) := by
  refine zRi_of (cc := cX4_ofWord) (maxL := 3) (ty := .int) (by decide) rfl (Nat.le_of_ble_eq_true rfl) (fun _ _ => rfl) ?_
  intro p e s m args below meth cd Q ls hat hP hK hend
  obtain ⟨hx, hb, hml, hown, hts, hl⟩ := hat
  replace hown : s.vm.findClass RX4 = some m.cls := hown
  replace hl : lv_has ls 3 [(0, .ref (ad 0)), (1, .int (nI j)), (2, .int (nI q))] := hl
  replace hP : va_P (dC, dI) vwCl [((ad 0), .inr (4, [.ref (ad 1), .ref (ad 2), .ref (ad 3), .int (nI (mk μ)), .ref (ad 4), .int (nI (my μ)), .int (mth μ), .int (nI (mat μ)), .int (mfl μ), .int (nI (mva μ)), .ref (ad 5), .int (nI (mtn μ))])), ((ad 1), .inl (cI, 323, .inl (mg μ))), ((ad 2), .inl (cI, 323, .inl (mh μ))), ((ad 3), .inl (cI, 1938, .inl (mp μ))), ((ad 4), .inl (cI, 60, .inl (fun w => nI ((mx μ) w)))), ((ad 5), .inl (cI, 62, .inl (fun w => nI ((mt μ) w))))] s.heap := hP
  have hf7 := hts (.fieldLink RX4 7 "InsideOutWordsModel" "now" "[I") (by decide +kernel)
  have hnX4 : ∀ w ∈ u_ws RX4 TX4 12, w ∈ wsX4_ofWord := by decide +kernel
  refine lv_iload_n hx hb dX4_ofWord_0 rfl (lv_at hl 2 rfl) ?_
  refine lv_iconst (v := 4) hx hb dX4_ofWord_1 (by decide) ?_
  refine z_ge hx hb q 4 (by omega) (by omega) (tgt := 23) dX4_ofWord_2 (by decide) (fun c_1 => ?_) (fun c_1 => ?_)
  · skip
    refine lv_aload_n hx hb dX4_ofWord_23 rfl (lv_at hl 0 rfl) ?_
    refine va_get (D := (dC, dI)) (ci := 4) (v := .ref (ad 1)) (C := RX4) (T := TX4) (N := 12) hx hb hts hnX4 hown hK hP 0 rfl rfl 0 (by decide) hf7 (fun _ h9 => h9) rfl dX4_ofWord_24 ?_
    refine lv_iload_n hx hb dX4_ofWord_27 rfl (lv_at hl 1 rfl) ?_
    refine z_cSi (As := [.ref (ad 1), .int (nI j)]) (rest := []) ⟨hx, hb, hml, hown, hts⟩ (k_X4_isHot l dC dI (ad 1) cI (mg μ) hMok.1 hMok.2.1 j (by omega)) (va_cwS 2 hts gX4_ofWord_X4_isHot rfl rfl rfl (by decide +kernel) ⟨Nat.le_of_ble_eq_true rfl, Nat.le_of_ble_eq_true rfl⟩) (hP.sub (ws' := [((ad 1), .inl (cI, 323, .inl (mg μ)))]) [1] rfl) (hK.sub (tys' := [(cI, .int)]) [0] rfl) rfl hl.1 rfl (Nat.le_of_ble_eq_true rfl) dX4_ofWord_28 ⟨Nat.le_of_ble_eq_true rfl, Nat.le_of_ble_eq_true rfl⟩ (fun r_2 hr_2 => ?_)
    have hJ_3 : ∀ b_3 : Int32, b_3 = (if pht (gS (mg μ)) j then 1 else 0) → W p l e rX4_ofWord s m args below meth cd s.heap [] 0 0 Q (F0 m 39 ls (.int b_3 :: [])) := by
      intro b_3 eb_3
      exact hend _ _ _ (by rw [show q = 4 by omega, vWord_4]; assumption) dX4_ofWord_39
    refine z_ifeqB hx hb hr_2 (tgt := 38) dX4_ofWord_31 (by decide) (fun c_3 => ?_) (fun c_3 => ?_)
    · refine lv_iconst (v := 0) hx hb dX4_ofWord_38 (by decide) ?_
      exact hJ_3 _ (if_neg c_3).symm
    · refine lv_iconst (v := 1) hx hb dX4_ofWord_34 (by decide) ?_
      refine lv_goto (tgt := 39) hx hb dX4_ofWord_35 (by decide) ?_
      exact hJ_3 _ (if_pos c_3).symm
  · skip
    refine lv_aload_n hx hb dX4_ofWord_5 rfl (lv_at hl 0 rfl) ?_
    refine va_get (D := (dC, dI)) (ci := 4) (v := .ref (ad 1)) (C := RX4) (T := TX4) (N := 12) hx hb hts hnX4 hown hK hP 0 rfl rfl 0 (by decide) hf7 (fun _ h9 => h9) rfl dX4_ofWord_6 ?_
    refine lv_sipush (v := 259) hx hb dX4_ofWord_9 (by decide) ?_
    refine lv_bipush (v := 16) hx hb dX4_ofWord_12 (by decide) ?_
    refine lv_iload_n hx hb dX4_ofWord_14 rfl (lv_at hl 2 rfl) ?_
    refine z_imul hx hb 16 q dX4_ofWord_15 ?_
    refine z_iadd hx hb 259 (16 * q) dX4_ofWord_16 ?_
    refine lv_iload_n hx hb dX4_ofWord_17 rfl (lv_at hl 1 rfl) ?_
    refine z_iadd hx hb (259 + (16 * q)) j dX4_ofWord_18 ?_
    refine z_top (congrArg nI (show (259 + (16 * q)) + j = 259 + 16 * q + j by omega)) ?_
    refine z_ald hx hb hK hP 1 0 (259 + 16 * q + j) (f := (mg μ)) rfl rfl (by first | omega | decide) (by first | decide | omega) dX4_ofWord_19 ?_
    refine lv_goto (tgt := 39) hx hb dX4_ofWord_20 (by decide) ?_
    exact hend _ _ _ (vWord_R hMok.1 (by omega) (by omega)) dX4_ofWord_39

abbrev rX4_mostWorn : Room := { frames := 1, cells := 0, slots := 0, locals := 22 }
set_option maxHeartbeats 4000000 in
set_option maxRecDepth 100000 in
theorem k_X4_mostWorn (l : Launch) (dC : Nat → ClassId) (dI : Nat → Nat → Nat) (ad : Nat → Nat) (cI : ClassId) (μ : zM) (hMok : zMok μ) (j : Nat) (hj : j < 18) : zRi l yX4_mostWorn wsX4_mostWorn rX4_mostWorn (dC, dI) [.ref (ad 0), .int (nI j)] (zMW ad cI μ) [(cI, .int)] (fun r => r = pMost (fun c => mg μ (25 + (j * 13 + c))) 13) := by
  refine zRi_of (cc := cX4_mostWorn) (maxL := 4) (ty := .int) (by decide) rfl (Nat.le_of_ble_eq_true rfl) (fun _ _ => rfl) ?_
  intro p e s m args below meth cd Q ls hat hP hK hend
  obtain ⟨hx, hb, hml, hown, hts, hl⟩ := hat
  replace hown : s.vm.findClass RX4 = some m.cls := hown
  replace hl : lv_has ls 4 [(0, .ref (ad 0)), (1, .int (nI j))] := hl
  replace hP : va_P (dC, dI) vwCl [((ad 0), .inr (4, [.ref (ad 1), .ref (ad 2), .ref (ad 3), .int (nI (mk μ)), .ref (ad 4), .int (nI (my μ)), .int (mth μ), .int (nI (mat μ)), .int (mfl μ), .int (nI (mva μ)), .ref (ad 5), .int (nI (mtn μ))])), ((ad 1), .inl (cI, 323, .inl (mg μ))), ((ad 2), .inl (cI, 323, .inl (mh μ))), ((ad 3), .inl (cI, 1938, .inl (mp μ))), ((ad 4), .inl (cI, 60, .inl (fun w => nI ((mx μ) w)))), ((ad 5), .inl (cI, 62, .inl (fun w => nI ((mt μ) w))))] s.heap := hP
  have hf7 := hts (.fieldLink RX4 7 "InsideOutWordsModel" "now" "[I") (by decide +kernel)
  have hnX4 : ∀ w ∈ u_ws RX4 TX4 12, w ∈ wsX4_mostWorn := by decide +kernel
  refine lv_iconst (v := 0) hx hb dX4_mostWorn_0 (by decide) ?_
  refine lv_istore_n (lv' := [(2, .int 0), (0, .ref (ad 0)), (1, .int (nI j))]) hx hb dX4_mostWorn_1 rfl hl (by decide) rfl (fun ls hl => ?_)
  refine lv_iconst (v := 0) hx hb dX4_mostWorn_2 (by decide) ?_
  refine lv_istore_n (lv' := [(3, .int 0), (2, .int 0), (0, .ref (ad 0)), (1, .int (nI j))]) hx hb dX4_mostWorn_3 rfl hl (by decide) rfl (fun ls hl => ?_)
  have hC_4 : ∀ (nf : Nat) (x : Int32) (c : Nat) (ls : Array Slot), 13 - c < nf → lv_has ls 4 [(0, .ref (ad 0)), (1, .int (nI j)), (2, .int x), (3, .int (nI c))] → (c ≤ 13) → (x = pMost (fun c => mg μ (25 + (j * 13 + c))) c) → W p l e rX4_mostWorn s m args below meth cd s.heap [] 0 0 Q (F0 m 4 ls []) := by
    intro nf
    induction nf with
    | zero => intro x c ls hm_4 hl hc ex; exact absurd hm_4 (Nat.not_lt_zero _)
    | succ nf ih_4 =>
      intro x c ls hm_4 hl hc ex
      refine lv_iload_n hx hb dX4_mostWorn_4 rfl (lv_at hl 3 rfl) ?_
      refine lv_bipush (v := 13) hx hb dX4_mostWorn_5 (by decide) ?_
      refine z_ge hx hb c 13 (by omega) (by omega) (tgt := 43) dX4_mostWorn_7 (by decide) (fun c_1 => ?_) (fun c_1 => ?_)
      · skip
        refine lv_iload_n hx hb dX4_mostWorn_43 rfl (lv_at hl 2 rfl) ?_
        exact hend _ _ _ (by rw [ex, show c = 13 by omega]) dX4_mostWorn_44
      · skip
        refine lv_aload_n hx hb dX4_mostWorn_10 rfl (lv_at hl 0 rfl) ?_
        refine va_get (D := (dC, dI)) (ci := 4) (v := .ref (ad 1)) (C := RX4) (T := TX4) (N := 12) hx hb hts hnX4 hown hK hP 0 rfl rfl 0 (by decide) hf7 (fun _ h9 => h9) rfl dX4_mostWorn_11 ?_
        refine lv_iload_n hx hb dX4_mostWorn_14 rfl (lv_at hl 1 rfl) ?_
        refine lv_iload_n hx hb dX4_mostWorn_15 rfl (lv_at hl 3 rfl) ?_
        refine z_cSi (As := [.ref (ad 1), .int (nI j), .int (nI c)]) (rest := []) ⟨hx, hb, hml, hown, hts⟩ (k_X4_worn l dC dI (ad 1) cI (mg μ) hMok.1 hMok.2.1 j (by omega) c (by omega)) (va_cwS 3 hts gX4_mostWorn_X4_worn rfl rfl rfl (by decide +kernel) ⟨Nat.le_of_ble_eq_true rfl, Nat.le_of_ble_eq_true rfl⟩) (hP.sub (ws' := [((ad 1), .inl (cI, 323, .inl (mg μ)))]) [1] rfl) (hK.sub (tys' := [(cI, .int)]) [0] rfl) rfl hl.1 rfl (Nat.le_of_ble_eq_true rfl) dX4_mostWorn_16 ⟨Nat.le_of_ble_eq_true rfl, Nat.le_of_ble_eq_true rfl⟩ (fun r_2 hr_2 => ?_)
        subst hr_2
        refine lv_iload_n hx hb dX4_mostWorn_19 rfl (lv_at hl 2 rfl) ?_
        refine lv_icmp_le (tgt := 35) hx hb dX4_mostWorn_20 (by decide) (fun c_3 => ?_) (fun c_3 => ?_)
        · skip
          refine lv_iload_n hx hb dX4_mostWorn_35 rfl (lv_at hl 2 rfl) ?_
          refine lv_istore_n (lv' := [(2, .int x), (0, .ref (ad 0)), (1, .int (nI j)), (3, .int (nI c))]) hx hb dX4_mostWorn_36 rfl hl (by decide) rfl (fun ls hl => ?_)
          refine lv_iinc (v := nI (c + 1)) (lv' := [(3, .int (nI (c + 1))), (2, .int x), (0, .ref (ad 0)), (1, .int (nI j))]) hx hb dX4_mostWorn_37 hl (k := 3) rfl (z_inc1 _) (by decide) rfl (fun ls hl => ?_)
          refine lv_goto (tgt := 4) hx hb dX4_mostWorn_40 (by decide) ?_
          exact ih_4 x (c + 1) _ (by omega) (lv_sub hl [2, 3, 1, 0] rfl) (by omega) (by rw [pMost, ← ex]; first | (rw [if_neg (Int32.not_lt.mpr c_3)]; done) | rw [if_pos (Int32.not_le.mp c_3)])
        · skip
          refine lv_aload_n hx hb dX4_mostWorn_23 rfl (lv_at hl 0 rfl) ?_
          refine va_get (D := (dC, dI)) (ci := 4) (v := .ref (ad 1)) (C := RX4) (T := TX4) (N := 12) hx hb hts hnX4 hown hK hP 0 rfl rfl 0 (by decide) hf7 (fun _ h9 => h9) rfl dX4_mostWorn_24 ?_
          refine lv_iload_n hx hb dX4_mostWorn_27 rfl (lv_at hl 1 rfl) ?_
          refine lv_iload_n hx hb dX4_mostWorn_28 rfl (lv_at hl 3 rfl) ?_
          refine z_cSi (As := [.ref (ad 1), .int (nI j), .int (nI c)]) (rest := []) ⟨hx, hb, hml, hown, hts⟩ (k_X4_worn l dC dI (ad 1) cI (mg μ) hMok.1 hMok.2.1 j (by omega) c (by omega)) (va_cwS 3 hts gX4_mostWorn_X4_worn rfl rfl rfl (by decide +kernel) ⟨Nat.le_of_ble_eq_true rfl, Nat.le_of_ble_eq_true rfl⟩) (hP.sub (ws' := [((ad 1), .inl (cI, 323, .inl (mg μ)))]) [1] rfl) (hK.sub (tys' := [(cI, .int)]) [0] rfl) rfl hl.1 rfl (Nat.le_of_ble_eq_true rfl) dX4_mostWorn_29 ⟨Nat.le_of_ble_eq_true rfl, Nat.le_of_ble_eq_true rfl⟩ (fun r_4 hr_4 => ?_)
          subst hr_4
          refine lv_goto (tgt := 36) hx hb dX4_mostWorn_32 (by decide) ?_
          refine lv_istore_n (lv' := [(2, .int ((mg μ) (25 + (j * 13 + c)))), (0, .ref (ad 0)), (1, .int (nI j)), (3, .int (nI c))]) hx hb dX4_mostWorn_36 rfl hl (by decide) rfl (fun ls hl => ?_)
          refine lv_iinc (v := nI (c + 1)) (lv' := [(3, .int (nI (c + 1))), (2, .int ((mg μ) (25 + (j * 13 + c)))), (0, .ref (ad 0)), (1, .int (nI j))]) hx hb dX4_mostWorn_37 hl (k := 3) rfl (z_inc1 _) (by decide) rfl (fun ls hl => ?_)
          refine lv_goto (tgt := 4) hx hb dX4_mostWorn_40 (by decide) ?_
          exact ih_4 ((mg μ) (25 + (j * 13 + c))) (c + 1) _ (by omega) (lv_sub hl [2, 3, 1, 0] rfl) (by omega) (by rw [pMost, ← ex]; first | (rw [if_neg (Int32.not_lt.mpr c_3)]; done) | rw [if_pos (Int32.not_le.mp c_3)])
  exact hC_4 _ 0 0 _ (Nat.lt_succ_self _) (lv_sub hl [2, 3, 1, 0] rfl) (by omega) (rfl)

abbrev rX4_ofSlot : Room := { frames := 2, cells := 0, slots := 0, locals := 45 }
set_option maxHeartbeats 4000000 in
set_option maxRecDepth 100000 in
theorem k_X4_ofSlot (l : Launch) (dC : Nat → ClassId) (dI : Nat → Nat → Nat) (ad : Nat → Nat) (cI : ClassId) (μ : zM) (hMok : zMok μ) (j : Nat) (hj : j < 18) (q : Nat) (hq : q < 6) : zRi l yX4_ofSlot wsX4_ofSlot rX4_ofSlot (dC, dI) [.ref (ad 0), .int (nI j), .int (nI q)] (zMW ad cI μ) [(cI, .int)] (fun r => r = vSlot (gS (mg μ)) j q) := by
  refine zRi_of (cc := cX4_ofSlot) (maxL := 3) (ty := .int) (by decide) rfl (Nat.le_of_ble_eq_true rfl) (fun _ _ => rfl) ?_
  intro p e s m args below meth cd Q ls hat hP hK hend
  obtain ⟨hx, hb, hml, hown, hts, hl⟩ := hat
  replace hown : s.vm.findClass RX4 = some m.cls := hown
  replace hl : lv_has ls 3 [(0, .ref (ad 0)), (1, .int (nI j)), (2, .int (nI q))] := hl
  replace hP : va_P (dC, dI) vwCl [((ad 0), .inr (4, [.ref (ad 1), .ref (ad 2), .ref (ad 3), .int (nI (mk μ)), .ref (ad 4), .int (nI (my μ)), .int (mth μ), .int (nI (mat μ)), .int (mfl μ), .int (nI (mva μ)), .ref (ad 5), .int (nI (mtn μ))])), ((ad 1), .inl (cI, 323, .inl (mg μ))), ((ad 2), .inl (cI, 323, .inl (mh μ))), ((ad 3), .inl (cI, 1938, .inl (mp μ))), ((ad 4), .inl (cI, 60, .inl (fun w => nI ((mx μ) w)))), ((ad 5), .inl (cI, 62, .inl (fun w => nI ((mt μ) w))))] s.heap := hP
  have hf7 := hts (.fieldLink RX4 7 "InsideOutWordsModel" "now" "[I") (by decide +kernel)
  have hnX4 : ∀ w ∈ u_ws RX4 TX4 12, w ∈ wsX4_ofSlot := by decide +kernel
  refine lv_iload_n hx hb dX4_ofSlot_0 rfl (lv_at hl 2 rfl) ?_
  rcases (show q = 0 ∨ q = 1 ∨ q = 2 ∨ q = 3 ∨ q = 4 ∨ q = 5 by omega) with rfl | rfl | rfl | rfl | rfl | rfl
  · skip
    refine lv_tableIn (x := nI 0) (off := 35) (tgt := 36) hx hb dX4_ofSlot_1 (by decide) (by decide) rfl (by decide) ?_
    refine lv_aload_n hx hb dX4_ofSlot_36 rfl (lv_at hl 0 rfl) ?_
    refine va_get (D := (dC, dI)) (ci := 4) (v := .ref (ad 1)) (C := RX4) (T := TX4) (N := 12) hx hb hts hnX4 hown hK hP 0 rfl rfl 0 (by decide) hf7 (fun _ h9 => h9) rfl dX4_ofSlot_37 ?_
    refine lv_iload_n hx hb dX4_ofSlot_40 rfl (lv_at hl 1 rfl) ?_
    refine z_cSi (As := [.ref (ad 1), .int (nI j)]) (rest := []) ⟨hx, hb, hml, hown, hts⟩ (k_X4_wordOf l dC dI (ad 1) cI (mg μ) hMok.1 hMok.2.1 j (by omega)) (va_cwS 2 hts gX4_ofSlot_X4_wordOf rfl rfl rfl (by decide +kernel) ⟨Nat.le_of_ble_eq_true rfl, Nat.le_of_ble_eq_true rfl⟩) (hP.sub (ws' := [((ad 1), .inl (cI, 323, .inl (mg μ)))]) [1] rfl) (hK.sub (tys' := [(cI, .int)]) [0] rfl) rfl hl.1 rfl (Nat.le_of_ble_eq_true rfl) dX4_ofSlot_41 ⟨Nat.le_of_ble_eq_true rfl, Nat.le_of_ble_eq_true rfl⟩ (fun r_1 hr_1 => ?_)
    subst hr_1
    exact hend _ _ _ rfl dX4_ofSlot_44
  · skip
    refine lv_tableIn (x := nI 1) (off := 44) (tgt := 45) hx hb dX4_ofSlot_1 (by decide) (by decide) rfl (by decide) ?_
    refine lv_aload_n hx hb dX4_ofSlot_45 rfl (lv_at hl 0 rfl) ?_
    refine va_get (D := (dC, dI)) (ci := 4) (v := .ref (ad 1)) (C := RX4) (T := TX4) (N := 12) hx hb hts hnX4 hown hK hP 0 rfl rfl 0 (by decide) hf7 (fun _ h9 => h9) rfl dX4_ofSlot_46 ?_
    refine lv_bipush (v := 7) hx hb dX4_ofSlot_49 (by decide) ?_
    refine lv_iload_n hx hb dX4_ofSlot_51 rfl (lv_at hl 1 rfl) ?_
    refine z_iadd hx hb 7 j dX4_ofSlot_52 ?_
    refine z_ald hx hb hK hP 1 0 (7 + j) (f := (mg μ)) rfl rfl (by first | omega | decide) (by first | decide | omega) dX4_ofSlot_53 ?_
    refine lv_sipush (v := 4095) hx hb dX4_ofSlot_54 (by decide) ?_
    refine lv_iand hx hb dX4_ofSlot_57 ?_
    exact hend _ _ _ rfl dX4_ofSlot_58
  · skip
    refine lv_tableIn (x := nI 2) (off := 58) (tgt := 59) hx hb dX4_ofSlot_1 (by decide) (by decide) rfl (by decide) ?_
    refine lv_aload_n hx hb dX4_ofSlot_59 rfl (lv_at hl 0 rfl) ?_
    refine va_get (D := (dC, dI)) (ci := 4) (v := .ref (ad 1)) (C := RX4) (T := TX4) (N := 12) hx hb hts hnX4 hown hK hP 0 rfl rfl 0 (by decide) hf7 (fun _ h9 => h9) rfl dX4_ofSlot_60 ?_
    refine lv_bipush (v := 7) hx hb dX4_ofSlot_63 (by decide) ?_
    refine lv_iload_n hx hb dX4_ofSlot_65 rfl (lv_at hl 1 rfl) ?_
    refine z_iadd hx hb 7 j dX4_ofSlot_66 ?_
    refine z_ald hx hb hK hP 1 0 (7 + j) (f := (mg μ)) rfl rfl (by first | omega | decide) (by first | decide | omega) dX4_ofSlot_67 ?_
    refine lv_sipush (v := 4096) hx hb dX4_ofSlot_68 (by decide) ?_
    refine lv_idiv hx hb dX4_ofSlot_71 (by decide) ?_
    exact hend _ _ _ (z13_div (hMok.2.1 j (by omega))) dX4_ofSlot_72
  · skip
    refine lv_tableIn (x := nI 3) (off := 72) (tgt := 73) hx hb dX4_ofSlot_1 (by decide) (by decide) rfl (by decide) ?_
    refine lv_aload_n hx hb dX4_ofSlot_73 rfl (lv_at hl 0 rfl) ?_
    refine va_get (D := (dC, dI)) (ci := 4) (v := .ref (ad 1)) (C := RX4) (T := TX4) (N := 12) hx hb hts hnX4 hown hK hP 0 rfl rfl 0 (by decide) hf7 (fun _ h9 => h9) rfl dX4_ofSlot_74 ?_
    refine lv_iload_n hx hb dX4_ofSlot_77 rfl (lv_at hl 1 rfl) ?_
    refine z_cSi (As := [.ref (ad 1), .int (nI j)]) (rest := []) ⟨hx, hb, hml, hown, hts⟩ (k_X4_allWear l dC dI (ad 1) cI (mg μ) hMok.1 hMok.2.1 j (by omega)) (va_cwS 2 hts gX4_ofSlot_X4_allWear rfl rfl rfl (by decide +kernel) ⟨Nat.le_of_ble_eq_true rfl, Nat.le_of_ble_eq_true rfl⟩) (hP.sub (ws' := [((ad 1), .inl (cI, 323, .inl (mg μ)))]) [1] rfl) (hK.sub (tys' := [(cI, .int)]) [0] rfl) rfl hl.1 rfl (Nat.le_of_ble_eq_true rfl) dX4_ofSlot_78 ⟨Nat.le_of_ble_eq_true rfl, Nat.le_of_ble_eq_true rfl⟩ (fun r_2 hr_2 => ?_)
    subst hr_2
    exact hend _ _ _ rfl dX4_ofSlot_81
  · skip
    refine lv_tableIn (x := nI 4) (off := 81) (tgt := 82) hx hb dX4_ofSlot_1 (by decide) (by decide) rfl (by decide) ?_
    refine lv_aload_n hx hb dX4_ofSlot_82 rfl (lv_at hl 0 rfl) ?_
    refine va_get (D := (dC, dI)) (ci := 4) (v := .ref (ad 1)) (C := RX4) (T := TX4) (N := 12) hx hb hts hnX4 hown hK hP 0 rfl rfl 0 (by decide) hf7 (fun _ h9 => h9) rfl dX4_ofSlot_83 ?_
    refine lv_iload_n hx hb dX4_ofSlot_86 rfl (lv_at hl 1 rfl) ?_
    refine z_cSi (As := [.ref (ad 1), .int (nI j)]) (rest := []) ⟨hx, hb, hml, hown, hts⟩ (k_X4_stuck l dC dI (ad 1) cI (mg μ) hMok.1 hMok.2.1 j (by omega)) (va_cwS 2 hts gX4_ofSlot_X4_stuck rfl rfl rfl (by decide +kernel) ⟨Nat.le_of_ble_eq_true rfl, Nat.le_of_ble_eq_true rfl⟩) (hP.sub (ws' := [((ad 1), .inl (cI, 323, .inl (mg μ)))]) [1] rfl) (hK.sub (tys' := [(cI, .int)]) [0] rfl) rfl hl.1 rfl (Nat.le_of_ble_eq_true rfl) dX4_ofSlot_87 ⟨Nat.le_of_ble_eq_true rfl, Nat.le_of_ble_eq_true rfl⟩ (fun r_3 hr_3 => ?_)
    subst hr_3
    exact hend _ _ _ rfl dX4_ofSlot_90
  · skip
    refine lv_tableOut (x := nI 5) (tgt := 91) hx hb dX4_ofSlot_1 (by decide) (by decide) ?_
    refine lv_aload_n hx hb dX4_ofSlot_91 rfl (lv_at hl 0 rfl) ?_
    refine lv_iload_n hx hb dX4_ofSlot_92 rfl (lv_at hl 1 rfl) ?_
    refine z_cVi (As := [.int (nI j)]) (rest := []) ⟨hx, hb, hml, hown, hts⟩ (k_X4_mostWorn l dC dI ad cI μ hMok j (by omega)) (cwV 1 hts gX4_ofSlot_X4_mostWorn rfl rfl rfl (by decide +kernel) ⟨Nat.le_of_ble_eq_true rfl, Nat.le_of_ble_eq_true rfl⟩) (va_recv hK hP (ci := 4) (q0 := 0) rfl rfl) (hP.sub (ws' := zMW ad cI μ) [0, 1, 2, 3, 4, 5] rfl) (hK.sub (tys' := [(cI, .int)]) [0] rfl) rfl hl.1 rfl (Nat.le_of_ble_eq_true rfl) dX4_ofSlot_93 ⟨Nat.le_of_ble_eq_true rfl, Nat.le_of_ble_eq_true rfl⟩ (fun r_4 hr_4 => ?_)
    subst hr_4
    exact hend _ _ _ rfl dX4_ofSlot_96

abbrev rX4_stuckCells : Room := { frames := 2, cells := 0, slots := 0, locals := 45 }
set_option maxHeartbeats 4000000 in
set_option maxRecDepth 100000 in
theorem k_X4_stuckCells (l : Launch) (dC : Nat → ClassId) (dI : Nat → Nat → Nat) (ad : Nat → Nat) (cI : ClassId) (μ : zM) (hMok : zMok μ) : zRi l yX4_stuckCells wsX4_stuckCells rX4_stuckCells (dC, dI) [.ref (ad 0)] (zMW ad cI μ) [(cI, .int)] (fun r => r = pSum (fun k => pBC (pst (gS (mg μ)) k)) 18) := by
  refine zRi_of (cc := cX4_stuckCells) (maxL := 3) (ty := .int) (by decide) rfl (Nat.le_of_ble_eq_true rfl) (fun _ _ => rfl) ?_
  intro p e s m args below meth cd Q ls hat hP hK hend
  obtain ⟨hx, hb, hml, hown, hts, hl⟩ := hat
  replace hown : s.vm.findClass RX4 = some m.cls := hown
  replace hl : lv_has ls 3 [(0, .ref (ad 0))] := hl
  replace hP : va_P (dC, dI) vwCl [((ad 0), .inr (4, [.ref (ad 1), .ref (ad 2), .ref (ad 3), .int (nI (mk μ)), .ref (ad 4), .int (nI (my μ)), .int (mth μ), .int (nI (mat μ)), .int (mfl μ), .int (nI (mva μ)), .ref (ad 5), .int (nI (mtn μ))])), ((ad 1), .inl (cI, 323, .inl (mg μ))), ((ad 2), .inl (cI, 323, .inl (mh μ))), ((ad 3), .inl (cI, 1938, .inl (mp μ))), ((ad 4), .inl (cI, 60, .inl (fun w => nI ((mx μ) w)))), ((ad 5), .inl (cI, 62, .inl (fun w => nI ((mt μ) w))))] s.heap := hP
  have hf7 := hts (.fieldLink RX4 7 "InsideOutWordsModel" "now" "[I") (by decide +kernel)
  have hnX4 : ∀ w ∈ u_ws RX4 TX4 12, w ∈ wsX4_stuckCells := by decide +kernel
  refine lv_iconst (v := 0) hx hb dX4_stuckCells_0 (by decide) ?_
  refine lv_istore_n (lv' := [(1, .int 0), (0, .ref (ad 0))]) hx hb dX4_stuckCells_1 rfl hl (by decide) rfl (fun ls hl => ?_)
  refine lv_iconst (v := 0) hx hb dX4_stuckCells_2 (by decide) ?_
  refine lv_istore_n (lv' := [(2, .int 0), (1, .int 0), (0, .ref (ad 0))]) hx hb dX4_stuckCells_3 rfl hl (by decide) rfl (fun ls hl => ?_)
  have hC_4 : ∀ (nf : Nat) (x : Int32) (c : Nat) (ls : Array Slot), 18 - c < nf → lv_has ls 3 [(0, .ref (ad 0)), (1, .int x), (2, .int (nI c))] → (c ≤ 18) → (x = pSum (fun k => pBC (pst (gS (mg μ)) k)) c) → W p l e rX4_stuckCells s m args below meth cd s.heap [] 0 0 Q (F0 m 4 ls []) := by
    intro nf
    induction nf with
    | zero => intro x c ls hm_4 hl hc ex; exact absurd hm_4 (Nat.not_lt_zero _)
    | succ nf ih_4 =>
      intro x c ls hm_4 hl hc ex
      refine lv_iload_n hx hb dX4_stuckCells_4 rfl (lv_at hl 2 rfl) ?_
      refine lv_bipush (v := 18) hx hb dX4_stuckCells_5 (by decide) ?_
      refine z_ge hx hb c 18 (by omega) (by omega) (tgt := 30) dX4_stuckCells_7 (by decide) (fun c_1 => ?_) (fun c_1 => ?_)
      · skip
        refine lv_iload_n hx hb dX4_stuckCells_30 rfl (lv_at hl 1 rfl) ?_
        exact hend _ _ _ (by rw [ex, show c = 18 by omega]) dX4_stuckCells_31
      · skip
        refine lv_iload_n hx hb dX4_stuckCells_10 rfl (lv_at hl 1 rfl) ?_
        refine lv_aload_n hx hb dX4_stuckCells_11 rfl (lv_at hl 0 rfl) ?_
        refine va_get (D := (dC, dI)) (ci := 4) (v := .ref (ad 1)) (C := RX4) (T := TX4) (N := 12) hx hb hts hnX4 hown hK hP 0 rfl rfl 0 (by decide) hf7 (fun _ h9 => h9) rfl dX4_stuckCells_12 ?_
        refine lv_iload_n hx hb dX4_stuckCells_15 rfl (lv_at hl 2 rfl) ?_
        refine z_cSi (As := [.ref (ad 1), .int (nI c)]) (rest := [.int x]) ⟨hx, hb, hml, hown, hts⟩ (k_X4_stuck l dC dI (ad 1) cI (mg μ) hMok.1 hMok.2.1 c (by omega)) (va_cwS 2 hts gX4_stuckCells_X4_stuck rfl rfl rfl (by decide +kernel) ⟨Nat.le_of_ble_eq_true rfl, Nat.le_of_ble_eq_true rfl⟩) (hP.sub (ws' := [((ad 1), .inl (cI, 323, .inl (mg μ)))]) [1] rfl) (hK.sub (tys' := [(cI, .int)]) [0] rfl) rfl hl.1 rfl (Nat.le_of_ble_eq_true rfl) dX4_stuckCells_16 ⟨Nat.le_of_ble_eq_true rfl, Nat.le_of_ble_eq_true rfl⟩ (fun r_2 hr_2 => ?_)
        subst hr_2
        refine z_cSi (As := [.int (pst (gS (mg μ)) c)]) (rest := [.int x]) ⟨hx, hb, hml, hown, hts⟩ (k_X4_ones l dC dI (pst (gS (mg μ)) c) (pStuck_13)) (va_cwS 1 hts gX4_stuckCells_X4_ones rfl rfl rfl (by decide +kernel) ⟨Nat.le_of_ble_eq_true rfl, Nat.le_of_ble_eq_true rfl⟩) (hP.sub (ws' := []) [] rfl) (hK.sub (tys' := []) [] rfl) rfl hl.1 rfl (Nat.le_of_ble_eq_true rfl) dX4_stuckCells_19 ⟨Nat.le_of_ble_eq_true rfl, Nat.le_of_ble_eq_true rfl⟩ (fun r_3 hr_3 => ?_)
        subst hr_3
        refine lv_iadd hx hb dX4_stuckCells_22 ?_
        refine lv_istore_n (lv' := [(1, .int (x + (pBC (pst (gS (mg μ)) c)))), (0, .ref (ad 0)), (2, .int (nI c))]) hx hb dX4_stuckCells_23 rfl hl (by decide) rfl (fun ls hl => ?_)
        refine lv_iinc (v := nI (c + 1)) (lv' := [(2, .int (nI (c + 1))), (1, .int (x + (pBC (pst (gS (mg μ)) c)))), (0, .ref (ad 0))]) hx hb dX4_stuckCells_24 hl (k := 2) rfl (z_inc1 _) (by decide) rfl (fun ls hl => ?_)
        refine lv_goto (tgt := 4) hx hb dX4_stuckCells_27 (by decide) ?_
        exact ih_4 (x + (pBC (pst (gS (mg μ)) c))) (c + 1) _ (by omega) (lv_sub hl [2, 1, 0] rfl) (by omega) (by rw [ex]; rfl)
  exact hC_4 _ 0 0 _ (Nat.lt_succ_self _) (lv_sub hl [2, 1, 0] rfl) (by omega) (rfl)

abbrev rX4_overWords : Room := { frames := 2, cells := 0, slots := 0, locals := 43 }
set_option maxHeartbeats 4000000 in
set_option maxRecDepth 100000 in
theorem k_X4_overWords_h (l : Launch) (dC : Nat → ClassId) (dI : Nat → Nat → Nat) (ad : Nat → Nat) (cI : ClassId) (μ : zM) (hMok : zMok μ) : zRi l yX4_overWords wsX4_overWords rX4_overWords (dC, dI) [.ref (ad 0), .int 1] (zMW ad cI μ) [(cI, .int)] (fun r => r = pSum (fun w => if pht (gS (mg μ)) w then 1 else 0) 16) := by
  refine zRi_of (cc := cX4_overWords) (maxL := 4) (ty := .int) (by decide) rfl (Nat.le_of_ble_eq_true rfl) (fun _ _ => rfl) ?_
  intro p e s m args below meth cd Q ls hat hP hK hend
  obtain ⟨hx, hb, hml, hown, hts, hl⟩ := hat
  replace hown : s.vm.findClass RX4 = some m.cls := hown
  replace hl : lv_has ls 4 [(0, .ref (ad 0)), (1, .int 1)] := hl
  replace hP : va_P (dC, dI) vwCl [((ad 0), .inr (4, [.ref (ad 1), .ref (ad 2), .ref (ad 3), .int (nI (mk μ)), .ref (ad 4), .int (nI (my μ)), .int (mth μ), .int (nI (mat μ)), .int (mfl μ), .int (nI (mva μ)), .ref (ad 5), .int (nI (mtn μ))])), ((ad 1), .inl (cI, 323, .inl (mg μ))), ((ad 2), .inl (cI, 323, .inl (mh μ))), ((ad 3), .inl (cI, 1938, .inl (mp μ))), ((ad 4), .inl (cI, 60, .inl (fun w => nI ((mx μ) w)))), ((ad 5), .inl (cI, 62, .inl (fun w => nI ((mt μ) w))))] s.heap := hP
  refine lv_iconst (v := 0) hx hb dX4_overWords_0 (by decide) ?_
  refine lv_istore_n (lv' := [(2, .int 0), (0, .ref (ad 0)), (1, .int 1)]) hx hb dX4_overWords_1 rfl hl (by decide) rfl (fun ls hl => ?_)
  refine lv_iconst (v := 0) hx hb dX4_overWords_2 (by decide) ?_
  refine lv_istore_n (lv' := [(3, .int 0), (2, .int 0), (0, .ref (ad 0)), (1, .int 1)]) hx hb dX4_overWords_3 rfl hl (by decide) rfl (fun ls hl => ?_)
  have hC_4 : ∀ (nf : Nat) (x : Int32) (c : Nat) (ls : Array Slot), 16 - c < nf → lv_has ls 4 [(0, .ref (ad 0)), (1, .int 1), (2, .int x), (3, .int (nI c))] → (c ≤ 16) → (x = pSum (fun w => if pht (gS (mg μ)) w then 1 else 0) c) → W p l e rX4_overWords s m args below meth cd s.heap [] 0 0 Q (F0 m 4 ls []) := by
    intro nf
    induction nf with
    | zero => intro x c ls hm_4 hl hc ex; exact absurd hm_4 (Nat.not_lt_zero _)
    | succ nf ih_4 =>
      intro x c ls hm_4 hl hc ex
      refine lv_iload_n hx hb dX4_overWords_4 rfl (lv_at hl 3 rfl) ?_
      refine lv_bipush (v := 16) hx hb dX4_overWords_5 (by decide) ?_
      refine z_ge hx hb c 16 (by omega) (by omega) (tgt := 40) dX4_overWords_7 (by decide) (fun c_1 => ?_) (fun c_1 => ?_)
      · skip
        refine lv_iload_n hx hb dX4_overWords_40 rfl (lv_at hl 2 rfl) ?_
        exact hend _ _ _ (by rw [ex, show c = 16 by omega]) dX4_overWords_41
      · skip
        refine lv_iload_n hx hb dX4_overWords_10 rfl (lv_at hl 2 rfl) ?_
        refine lv_iload_n hx hb dX4_overWords_11 rfl (lv_at hl 1 rfl) ?_
        refine lv_if_eq (tgt := 24) hx hb dX4_overWords_12 (by decide) (fun z => absurd z (by decide)) (fun _ => ?_)
        refine lv_aload_n hx hb dX4_overWords_15 rfl (lv_at hl 0 rfl) ?_
        refine lv_iload_n hx hb dX4_overWords_16 rfl (lv_at hl 3 rfl) ?_
        refine lv_iconst (v := 4) hx hb dX4_overWords_17 (by decide) ?_
        refine z_cVi (As := [.int (nI c), .int 4]) (rest := [.int x]) ⟨hx, hb, hml, hown, hts⟩ (k_X4_ofWord l dC dI ad cI μ hMok c (by omega) 4 (by omega)) (cwV 2 hts gX4_overWords_X4_ofWord rfl rfl rfl (by decide +kernel) ⟨Nat.le_of_ble_eq_true rfl, Nat.le_of_ble_eq_true rfl⟩) (va_recv hK hP (ci := 4) (q0 := 0) rfl rfl) (hP.sub (ws' := zMW ad cI μ) [0, 1, 2, 3, 4, 5] rfl) (hK.sub (tys' := [(cI, .int)]) [0] rfl) rfl hl.1 rfl (Nat.le_of_ble_eq_true rfl) dX4_overWords_18 ⟨Nat.le_of_ble_eq_true rfl, Nat.le_of_ble_eq_true rfl⟩ (fun r_3 hr_3 => ?_)
        subst hr_3
        refine lv_goto (tgt := 32) hx hb dX4_overWords_21 (by decide) ?_
        refine lv_iadd hx hb dX4_overWords_32 ?_
        refine lv_istore_n (lv' := [(2, .int (x + (vWord (gS (mg μ)) c 4))), (0, .ref (ad 0)), (1, .int 1), (3, .int (nI c))]) hx hb dX4_overWords_33 rfl hl (by decide) rfl (fun ls hl => ?_)
        refine lv_iinc (v := nI (c + 1)) (lv' := [(3, .int (nI (c + 1))), (2, .int (x + (vWord (gS (mg μ)) c 4))), (0, .ref (ad 0)), (1, .int 1)]) hx hb dX4_overWords_34 hl (k := 3) rfl (z_inc1 _) (by decide) rfl (fun ls hl => ?_)
        refine lv_goto (tgt := 4) hx hb dX4_overWords_37 (by decide) ?_
        exact ih_4 (x + (vWord (gS (mg μ)) c 4)) (c + 1) _ (by omega) (lv_sub hl [2, 3, 1, 0] rfl) (by omega) (by rw [ex]; rfl)
  exact hC_4 _ 0 0 _ (Nat.lt_succ_self _) (lv_sub hl [2, 3, 1, 0] rfl) (by omega) (rfl)

set_option maxHeartbeats 4000000 in
set_option maxRecDepth 100000 in
theorem k_X4_overWords_s (l : Launch) (dC : Nat → ClassId) (dI : Nat → Nat → Nat) (ad : Nat → Nat) (cI : ClassId) (μ : zM) (hMok : zMok μ) : zRi l yX4_overWords wsX4_overWords rX4_overWords (dC, dI) [.ref (ad 0), .int 0] (zMW ad cI μ) [(cI, .int)] (fun r => r = pSum (pnm (gS (mg μ))) 16) := by
  refine zRi_of (cc := cX4_overWords) (maxL := 4) (ty := .int) (by decide) rfl (Nat.le_of_ble_eq_true rfl) (fun _ _ => rfl) ?_
  intro p e s m args below meth cd Q ls hat hP hK hend
  obtain ⟨hx, hb, hml, hown, hts, hl⟩ := hat
  replace hown : s.vm.findClass RX4 = some m.cls := hown
  replace hl : lv_has ls 4 [(0, .ref (ad 0)), (1, .int 0)] := hl
  replace hP : va_P (dC, dI) vwCl [((ad 0), .inr (4, [.ref (ad 1), .ref (ad 2), .ref (ad 3), .int (nI (mk μ)), .ref (ad 4), .int (nI (my μ)), .int (mth μ), .int (nI (mat μ)), .int (mfl μ), .int (nI (mva μ)), .ref (ad 5), .int (nI (mtn μ))])), ((ad 1), .inl (cI, 323, .inl (mg μ))), ((ad 2), .inl (cI, 323, .inl (mh μ))), ((ad 3), .inl (cI, 1938, .inl (mp μ))), ((ad 4), .inl (cI, 60, .inl (fun w => nI ((mx μ) w)))), ((ad 5), .inl (cI, 62, .inl (fun w => nI ((mt μ) w))))] s.heap := hP
  have hf7 := hts (.fieldLink RX4 7 "InsideOutWordsModel" "now" "[I") (by decide +kernel)
  have hnX4 : ∀ w ∈ u_ws RX4 TX4 12, w ∈ wsX4_overWords := by decide +kernel
  refine lv_iconst (v := 0) hx hb dX4_overWords_0 (by decide) ?_
  refine lv_istore_n (lv' := [(2, .int 0), (0, .ref (ad 0)), (1, .int 0)]) hx hb dX4_overWords_1 rfl hl (by decide) rfl (fun ls hl => ?_)
  refine lv_iconst (v := 0) hx hb dX4_overWords_2 (by decide) ?_
  refine lv_istore_n (lv' := [(3, .int 0), (2, .int 0), (0, .ref (ad 0)), (1, .int 0)]) hx hb dX4_overWords_3 rfl hl (by decide) rfl (fun ls hl => ?_)
  have hC_4 : ∀ (nf : Nat) (x : Int32) (c : Nat) (ls : Array Slot), 16 - c < nf → lv_has ls 4 [(0, .ref (ad 0)), (1, .int 0), (2, .int x), (3, .int (nI c))] → (c ≤ 16) → (x = pSum (pnm (gS (mg μ))) c) → W p l e rX4_overWords s m args below meth cd s.heap [] 0 0 Q (F0 m 4 ls []) := by
    intro nf
    induction nf with
    | zero => intro x c ls hm_4 hl hc ex; exact absurd hm_4 (Nat.not_lt_zero _)
    | succ nf ih_4 =>
      intro x c ls hm_4 hl hc ex
      refine lv_iload_n hx hb dX4_overWords_4 rfl (lv_at hl 3 rfl) ?_
      refine lv_bipush (v := 16) hx hb dX4_overWords_5 (by decide) ?_
      refine z_ge hx hb c 16 (by omega) (by omega) (tgt := 40) dX4_overWords_7 (by decide) (fun c_1 => ?_) (fun c_1 => ?_)
      · skip
        refine lv_iload_n hx hb dX4_overWords_40 rfl (lv_at hl 2 rfl) ?_
        exact hend _ _ _ (by rw [ex, show c = 16 by omega]) dX4_overWords_41
      · skip
        refine lv_iload_n hx hb dX4_overWords_10 rfl (lv_at hl 2 rfl) ?_
        refine lv_iload_n hx hb dX4_overWords_11 rfl (lv_at hl 1 rfl) ?_
        refine lv_if_eq (tgt := 24) hx hb dX4_overWords_12 (by decide) (fun _ => ?_) (fun z => absurd z (by decide))
        refine lv_aload_n hx hb dX4_overWords_24 rfl (lv_at hl 0 rfl) ?_
        refine va_get (D := (dC, dI)) (ci := 4) (v := .ref (ad 1)) (C := RX4) (T := TX4) (N := 12) hx hb hts hnX4 hown hK hP 0 rfl rfl 0 (by decide) hf7 (fun _ h9 => h9) rfl dX4_overWords_25 ?_
        refine lv_iload_n hx hb dX4_overWords_28 rfl (lv_at hl 3 rfl) ?_
        refine z_cSi (As := [.ref (ad 1), .int (nI c)]) (rest := [.int x]) ⟨hx, hb, hml, hown, hts⟩ (k_X4_reads l dC dI (ad 1) cI (mg μ) hMok.1 hMok.2.1 c (by omega)) (va_cwS 2 hts gX4_overWords_X4_reads rfl rfl rfl (by decide +kernel) ⟨Nat.le_of_ble_eq_true rfl, Nat.le_of_ble_eq_true rfl⟩) (hP.sub (ws' := [((ad 1), .inl (cI, 323, .inl (mg μ)))]) [1] rfl) (hK.sub (tys' := [(cI, .int)]) [0] rfl) rfl hl.1 rfl (Nat.le_of_ble_eq_true rfl) dX4_overWords_29 ⟨Nat.le_of_ble_eq_true rfl, Nat.le_of_ble_eq_true rfl⟩ (fun r_3 hr_3 => ?_)
        subst hr_3
        refine lv_iadd hx hb dX4_overWords_32 ?_
        refine lv_istore_n (lv' := [(2, .int (x + (pnm (gS (mg μ)) c))), (0, .ref (ad 0)), (1, .int 0), (3, .int (nI c))]) hx hb dX4_overWords_33 rfl hl (by decide) rfl (fun ls hl => ?_)
        refine lv_iinc (v := nI (c + 1)) (lv' := [(3, .int (nI (c + 1))), (2, .int (x + (pnm (gS (mg μ)) c))), (0, .ref (ad 0)), (1, .int 0)]) hx hb dX4_overWords_34 hl (k := 3) rfl (z_inc1 _) (by decide) rfl (fun ls hl => ?_)
        refine lv_goto (tgt := 4) hx hb dX4_overWords_37 (by decide) ?_
        exact ih_4 (x + (pnm (gS (mg μ)) c)) (c + 1) _ (by omega) (lv_sub hl [2, 3, 1, 0] rfl) (by omega) (by rw [ex]; rfl)
  exact hC_4 _ 0 0 _ (Nat.lt_succ_self _) (lv_sub hl [2, 3, 1, 0] rfl) (by omega) (rfl)

abbrev rX4_counted : Room := { frames := 4, cells := 0, slots := 0, locals := 97 }
set_option maxHeartbeats 4000000 in
set_option maxRecDepth 100000 in
theorem k_X4_counted (l : Launch) (dC : Nat → ClassId) (dI : Nat → Nat → Nat) (ad : Nat → Nat) (cI : ClassId) (μ : zM) (hMok : zMok μ) (q : Nat) (hq : q < 10) : zRi l yX4_counted wsX4_counted rX4_counted (dC, dI) [.ref (ad 0), .int (nI q)] (zMW ad cI μ) [(cI, .int)] (fun r => r = vCount (gS (mg μ)) (mk μ) q) := by
  refine zRi_of (cc := cX4_counted) (maxL := 2) (ty := .int) (by decide) rfl (Nat.le_of_ble_eq_true rfl) (fun _ _ => rfl) ?_
  intro p e s m args below meth cd Q ls hat hP hK hend
  obtain ⟨hx, hb, hml, hown, hts, hl⟩ := hat
  replace hown : s.vm.findClass RX4 = some m.cls := hown
  replace hl : lv_has ls 2 [(0, .ref (ad 0)), (1, .int (nI q))] := hl
  replace hP : va_P (dC, dI) vwCl [((ad 0), .inr (4, [.ref (ad 1), .ref (ad 2), .ref (ad 3), .int (nI (mk μ)), .ref (ad 4), .int (nI (my μ)), .int (mth μ), .int (nI (mat μ)), .int (mfl μ), .int (nI (mva μ)), .ref (ad 5), .int (nI (mtn μ))])), ((ad 1), .inl (cI, 323, .inl (mg μ))), ((ad 2), .inl (cI, 323, .inl (mh μ))), ((ad 3), .inl (cI, 1938, .inl (mp μ))), ((ad 4), .inl (cI, 60, .inl (fun w => nI ((mx μ) w)))), ((ad 5), .inl (cI, 62, .inl (fun w => nI ((mt μ) w))))] s.heap := hP
  have hf33 := hts (.fieldLink RX4 33 "InsideOutWordsModel" "kept" "I") (by decide +kernel)
  have hnX4 : ∀ w ∈ u_ws RX4 TX4 12, w ∈ wsX4_counted := by decide +kernel
  have hf7 := hts (.fieldLink RX4 7 "InsideOutWordsModel" "now" "[I") (by decide +kernel)
  refine lv_iload_n hx hb dX4_counted_0 rfl (lv_at hl 1 rfl) ?_
  refine lv_iconst (v := 5) hx hb dX4_counted_1 (by decide) ?_
  refine z_ge hx hb q 5 (by omega) (by omega) (tgt := 14) dX4_counted_2 (by decide) (fun c_1 => ?_) (fun c_1 => ?_)
  · skip
    refine lv_iload_n hx hb dX4_counted_14 rfl (lv_at hl 1 rfl) ?_
    refine lv_iconst (v := 5) hx hb dX4_counted_15 (by decide) ?_
    refine z_ne hx hb q 5 (by omega) (by omega) (tgt := 26) dX4_counted_16 (by decide) (fun c_2 => ?_) (fun c_2 => ?_)
    · skip
      refine lv_iload_n hx hb dX4_counted_26 rfl (lv_at hl 1 rfl) ?_
      refine lv_bipush (v := 6) hx hb dX4_counted_27 (by decide) ?_
      refine z_ne hx hb q 6 (by omega) (by omega) (tgt := 43) dX4_counted_29 (by decide) (fun c_3 => ?_) (fun c_3 => ?_)
      · skip
        refine lv_iload_n hx hb dX4_counted_43 rfl (lv_at hl 1 rfl) ?_
        refine lv_bipush (v := 9) hx hb dX4_counted_44 (by decide) ?_
        refine z_ne hx hb q 9 (by omega) (by omega) (tgt := 56) dX4_counted_46 (by decide) (fun c_4 => ?_) (fun c_4 => ?_)
        · skip
          refine lv_aload_n hx hb dX4_counted_56 rfl (lv_at hl 0 rfl) ?_
          refine lv_iload_n hx hb dX4_counted_57 rfl (lv_at hl 1 rfl) ?_
          refine lv_bipush (v := 7) hx hb dX4_counted_58 (by decide) ?_
          refine z_ne hx hb q 7 (by omega) (by omega) (tgt := 67) dX4_counted_60 (by decide) (fun c_5 => ?_) (fun c_5 => ?_)
          · skip
            refine lv_iconst (v := 0) hx hb dX4_counted_67 (by decide) ?_
            refine z_cVi (As := [.int 0]) (rest := []) ⟨hx, hb, hml, hown, hts⟩ (k_X4_overWords_s l dC dI ad cI μ hMok) (cwV 1 hts gX4_counted_X4_overWords rfl rfl rfl (by decide +kernel) ⟨Nat.le_of_ble_eq_true rfl, Nat.le_of_ble_eq_true rfl⟩) (va_recv hK hP (ci := 4) (q0 := 0) rfl rfl) (hP.sub (ws' := zMW ad cI μ) [0, 1, 2, 3, 4, 5] rfl) (hK.sub (tys' := [(cI, .int)]) [0] rfl) rfl hl.1 rfl (Nat.le_of_ble_eq_true rfl) dX4_counted_68 ⟨Nat.le_of_ble_eq_true rfl, Nat.le_of_ble_eq_true rfl⟩ (fun r_6 hr_6 => ?_)
            subst hr_6
            exact hend _ _ _ (by rw [show q = 8 by omega]; rfl) dX4_counted_71
          · skip
            refine lv_iconst (v := 1) hx hb dX4_counted_63 (by decide) ?_
            refine lv_goto (tgt := 68) hx hb dX4_counted_64 (by decide) ?_
            refine z_cVi (As := [.int 1]) (rest := []) ⟨hx, hb, hml, hown, hts⟩ (k_X4_overWords_h l dC dI ad cI μ hMok) (cwV 1 hts gX4_counted_X4_overWords rfl rfl rfl (by decide +kernel) ⟨Nat.le_of_ble_eq_true rfl, Nat.le_of_ble_eq_true rfl⟩) (va_recv hK hP (ci := 4) (q0 := 0) rfl rfl) (hP.sub (ws' := zMW ad cI μ) [0, 1, 2, 3, 4, 5] rfl) (hK.sub (tys' := [(cI, .int)]) [0] rfl) rfl hl.1 rfl (Nat.le_of_ble_eq_true rfl) dX4_counted_68 ⟨Nat.le_of_ble_eq_true rfl, Nat.le_of_ble_eq_true rfl⟩ (fun r_7 hr_7 => ?_)
            subst hr_7
            exact hend _ _ _ (by rw [show q = 7 by omega]; rfl) dX4_counted_71
        · skip
          refine lv_aload_n hx hb dX4_counted_49 rfl (lv_at hl 0 rfl) ?_
          refine va_get (D := (dC, dI)) (ci := 4) (v := .int (nI (mk μ))) (C := RX4) (T := TX4) (N := 12) hx hb hts hnX4 hown hK hP 0 rfl rfl 3 (by decide) hf33 (fun _ h9 => h9) rfl dX4_counted_50 ?_
          refine lv_goto (tgt := 71) hx hb dX4_counted_53 (by decide) ?_
          exact hend _ _ _ (by rw [show q = 9 by omega]; rfl) dX4_counted_71
      · skip
        refine lv_aload_n hx hb dX4_counted_32 rfl (lv_at hl 0 rfl) ?_
        refine va_get (D := (dC, dI)) (ci := 4) (v := .ref (ad 1)) (C := RX4) (T := TX4) (N := 12) hx hb hts hnX4 hown hK hP 0 rfl rfl 0 (by decide) hf7 (fun _ h9 => h9) rfl dX4_counted_33 ?_
        refine lv_iconst (v := (-1)) hx hb dX4_counted_36 (by decide) ?_
        refine z_cSi (As := [.ref (ad 1), .int (-1)]) (rest := []) ⟨hx, hb, hml, hown, hts⟩ (k_X4_free_n l dC dI (ad 1) cI (mg μ) hMok.1 hMok.2.1) (va_cwS 2 hts gX4_counted_X4_free rfl rfl rfl (by decide +kernel) ⟨Nat.le_of_ble_eq_true rfl, Nat.le_of_ble_eq_true rfl⟩) (hP.sub (ws' := [((ad 1), .inl (cI, 323, .inl (mg μ)))]) [1] rfl) (hK.sub (tys' := [(cI, .int)]) [0] rfl) rfl hl.1 rfl (Nat.le_of_ble_eq_true rfl) dX4_counted_37 ⟨Nat.le_of_ble_eq_true rfl, Nat.le_of_ble_eq_true rfl⟩ (fun r_8 hr_8 => ?_)
        obtain ⟨o_9, eo_9⟩ : ∃ zz : Option Nat, zz = pfr (gS (mg μ)) := ⟨_, rfl⟩
        rw [← eo_9] at hr_8
        subst hr_8
        have hbo_9 : ∀ i, o_9 = some i → i < 18 := by rw [eo_9]; exact pfr_lt
        refine lv_goto (tgt := 71) hx hb dX4_counted_40 (by decide) ?_
        exact hend _ _ _ (by rw [eo_9]; rw [show q = 6 by omega]; rfl) dX4_counted_71
    · skip
      refine lv_aload_n hx hb dX4_counted_19 rfl (lv_at hl 0 rfl) ?_
      refine z_cVi (As := []) (rest := []) ⟨hx, hb, hml, hown, hts⟩ (k_X4_stuckCells l dC dI ad cI μ hMok) (cwV 0 hts gX4_counted_X4_stuckCells rfl rfl rfl (by decide +kernel) ⟨Nat.le_of_ble_eq_true rfl, Nat.le_of_ble_eq_true rfl⟩) (va_recv hK hP (ci := 4) (q0 := 0) rfl rfl) (hP.sub (ws' := zMW ad cI μ) [0, 1, 2, 3, 4, 5] rfl) (hK.sub (tys' := [(cI, .int)]) [0] rfl) rfl hl.1 rfl (Nat.le_of_ble_eq_true rfl) dX4_counted_20 ⟨Nat.le_of_ble_eq_true rfl, Nat.le_of_ble_eq_true rfl⟩ (fun r_10 hr_10 => ?_)
      subst hr_10
      refine lv_goto (tgt := 71) hx hb dX4_counted_23 (by decide) ?_
      exact hend _ _ _ (by rw [show q = 5 by omega]; rfl) dX4_counted_71
  · skip
    refine lv_aload_n hx hb dX4_counted_5 rfl (lv_at hl 0 rfl) ?_
    refine va_get (D := (dC, dI)) (ci := 4) (v := .ref (ad 1)) (C := RX4) (T := TX4) (N := 12) hx hb hts hnX4 hown hK hP 0 rfl rfl 0 (by decide) hf7 (fun _ h9 => h9) rfl dX4_counted_6 ?_
    refine lv_iconst (v := 2) hx hb dX4_counted_9 (by decide) ?_
    refine lv_iload_n hx hb dX4_counted_10 rfl (lv_at hl 1 rfl) ?_
    refine z_iadd hx hb 2 q dX4_counted_11 ?_
    refine z_ald hx hb hK hP 1 0 (2 + q) (f := (mg μ)) rfl rfl (by first | omega | decide) (by first | decide | omega) dX4_counted_12 ?_
    exact hend _ _ _ (vCount_lo (by omega)) dX4_counted_13

abbrev rX4_dearest : Room := { frames := 3, cells := 0, slots := 0, locals := 75 }
set_option maxHeartbeats 4000000 in
set_option maxRecDepth 100000 in
theorem k_X4_dearest (l : Launch) (dC : Nat → ClassId) (dI : Nat → Nat → Nat) (ad : Nat → Nat) (cI : ClassId) (μ : zM) (hMok : zMok μ) (j : Nat) (hj : j < 16) : zRi l yX4_dearest wsX4_dearest rX4_dearest (dC, dI) [.ref (ad 0), .int (nI j)] (zMW ad cI μ) [(cI, .int)] (fun r => r = zo ((pDr (fun v => pCost (mg μ (7 + gpl (mg μ) j)) (nI v) (pst (gS (mg μ)) (gpl (mg μ) j))) 4096).1)) := by
  refine zRi_of (cc := cX4_dearest) (maxL := 8) (ty := .int) (by decide) rfl (Nat.le_of_ble_eq_true rfl) (fun _ _ => rfl) ?_
  intro p e s m args below meth cd Q ls hat hP hK hend
  obtain ⟨hx, hb, hml, hown, hts, hl⟩ := hat
  replace hown : s.vm.findClass RX4 = some m.cls := hown
  replace hl : lv_has ls 8 [(0, .ref (ad 0)), (1, .int (nI j))] := hl
  replace hP : va_P (dC, dI) vwCl [((ad 0), .inr (4, [.ref (ad 1), .ref (ad 2), .ref (ad 3), .int (nI (mk μ)), .ref (ad 4), .int (nI (my μ)), .int (mth μ), .int (nI (mat μ)), .int (mfl μ), .int (nI (mva μ)), .ref (ad 5), .int (nI (mtn μ))])), ((ad 1), .inl (cI, 323, .inl (mg μ))), ((ad 2), .inl (cI, 323, .inl (mh μ))), ((ad 3), .inl (cI, 1938, .inl (mp μ))), ((ad 4), .inl (cI, 60, .inl (fun w => nI ((mx μ) w)))), ((ad 5), .inl (cI, 62, .inl (fun w => nI ((mt μ) w))))] s.heap := hP
  have hf7 := hts (.fieldLink RX4 7 "InsideOutWordsModel" "now" "[I") (by decide +kernel)
  have hnX4 : ∀ w ∈ u_ws RX4 TX4 12, w ∈ wsX4_dearest := by decide +kernel
  refine lv_aload_n hx hb dX4_dearest_0 rfl (lv_at hl 0 rfl) ?_
  refine va_get (D := (dC, dI)) (ci := 4) (v := .ref (ad 1)) (C := RX4) (T := TX4) (N := 12) hx hb hts hnX4 hown hK hP 0 rfl rfl 0 (by decide) hf7 (fun _ h9 => h9) rfl dX4_dearest_1 ?_
  refine lv_sipush (v := 259) hx hb dX4_dearest_4 (by decide) ?_
  refine lv_iload_n hx hb dX4_dearest_7 rfl (lv_at hl 1 rfl) ?_
  refine z_iadd hx hb 259 j dX4_dearest_8 ?_
  refine z_ald hx hb hK hP 1 0 (259 + j) (f := (mg μ)) rfl rfl (by first | omega | decide) (by first | decide | omega) dX4_dearest_9 ?_
  refine z_top (hMok.1 j (by omega)).2 ?_
  have hq_1 := (hMok.1 j (by omega)).1
  refine lv_istore_n (lv' := [(2, .int (nI (gpl (mg μ) j))), (0, .ref (ad 0)), (1, .int (nI j))]) hx hb dX4_dearest_10 rfl hl (by decide) rfl (fun ls hl => ?_)
  refine lv_aload_n hx hb dX4_dearest_11 rfl (lv_at hl 1 rfl) ?_
  refine va_get (D := (dC, dI)) (ci := 4) (v := .ref (ad 1)) (C := RX4) (T := TX4) (N := 12) hx hb hts hnX4 hown hK hP 0 rfl rfl 0 (by decide) hf7 (fun _ h9 => h9) rfl dX4_dearest_12 ?_
  refine lv_iload_n hx hb dX4_dearest_15 rfl (lv_at hl 0 rfl) ?_
  refine z_cSi (As := [.ref (ad 1), .int (nI (gpl (mg μ) j))]) (rest := []) ⟨hx, hb, hml, hown, hts⟩ (k_X4_stuck l dC dI (ad 1) cI (mg μ) hMok.1 hMok.2.1 (gpl (mg μ) j) (by omega)) (va_cwS 2 hts gX4_dearest_X4_stuck rfl rfl rfl (by decide +kernel) ⟨Nat.le_of_ble_eq_true rfl, Nat.le_of_ble_eq_true rfl⟩) (hP.sub (ws' := [((ad 1), .inl (cI, 323, .inl (mg μ)))]) [1] rfl) (hK.sub (tys' := [(cI, .int)]) [0] rfl) rfl hl.1 rfl (Nat.le_of_ble_eq_true rfl) dX4_dearest_16 ⟨Nat.le_of_ble_eq_true rfl, Nat.le_of_ble_eq_true rfl⟩ (fun r_2 hr_2 => ?_)
  subst hr_2
  refine lv_istore_n (lv' := [(3, .int (pst (gS (mg μ)) (gpl (mg μ) j))), (2, .int (nI (gpl (mg μ) j))), (0, .ref (ad 0)), (1, .int (nI j))]) hx hb dX4_dearest_19 rfl hl (by decide) rfl (fun ls hl => ?_)
  refine lv_iconst (v := (-1)) hx hb dX4_dearest_20 (by decide) ?_
  refine lv_istore (lv' := [(4, .int (-1)), (3, .int (pst (gS (mg μ)) (gpl (mg μ) j))), (2, .int (nI (gpl (mg μ) j))), (0, .ref (ad 0)), (1, .int (nI j))]) hx hb dX4_dearest_21 hl (by decide) rfl (fun ls hl => ?_)
  refine lv_iconst (v := (-1)) hx hb dX4_dearest_23 (by decide) ?_
  refine lv_istore (lv' := [(5, .int (-1)), (4, .int (-1)), (3, .int (pst (gS (mg μ)) (gpl (mg μ) j))), (2, .int (nI (gpl (mg μ) j))), (0, .ref (ad 0)), (1, .int (nI j))]) hx hb dX4_dearest_24 hl (by decide) rfl (fun ls hl => ?_)
  refine lv_iconst (v := 0) hx hb dX4_dearest_26 (by decide) ?_
  refine lv_istore (lv' := [(6, .int 0), (5, .int (-1)), (4, .int (-1)), (3, .int (pst (gS (mg μ)) (gpl (mg μ) j))), (2, .int (nI (gpl (mg μ) j))), (0, .ref (ad 0)), (1, .int (nI j))]) hx hb dX4_dearest_27 hl (by decide) rfl (fun ls hl => ?_)
  have hC_29 : ∀ (nf : Nat) (o : Option Nat) (x : Int32) (c : Nat) (ls : Array Slot), 4096 - c < nf → lv_has ls 8 [(0, .ref (ad 0)), (1, .int (nI j)), (2, .int (nI (gpl (mg μ) j))), (3, .int (pst (gS (mg μ)) (gpl (mg μ) j))), (4, .int (zo o)), (5, .int x), (6, .int (nI c))] → (c ≤ 4096) → (o = (pDr (fun v => pCost (mg μ (7 + gpl (mg μ) j)) (nI v) (pst (gS (mg μ)) (gpl (mg μ) j))) c).1) → (x = (pDr (fun v => pCost (mg μ (7 + gpl (mg μ) j)) (nI v) (pst (gS (mg μ)) (gpl (mg μ) j))) c).2) → (∀ k, o = some k → k < 4096) → W p l e rX4_dearest s m args below meth cd s.heap [] 0 0 Q (F0 m 29 ls []) := by
    intro nf
    induction nf with
    | zero => intro o x c ls hm_29 hl hc eo ex hbo; exact absurd hm_29 (Nat.not_lt_zero _)
    | succ nf ih_29 =>
      intro o x c ls hm_29 hl hc eo ex hbo
      refine lv_iload hx hb dX4_dearest_29 (lv_at hl 6 rfl) ?_
      refine lv_sipush (v := 4095) hx hb dX4_dearest_31 (by decide) ?_
      refine z_gt hx hb c 4095 (by omega) (by omega) (tgt := 88) dX4_dearest_34 (by decide) (fun c_3 => ?_) (fun c_3 => ?_)
      · skip
        refine lv_iload hx hb dX4_dearest_88 (lv_at hl 4 rfl) ?_
        exact hend _ _ _ (by rw [eo, show c = 4096 by omega]) dX4_dearest_90
      · skip
        refine lv_aload_n hx hb dX4_dearest_37 rfl (lv_at hl 0 rfl) ?_
        refine va_get (D := (dC, dI)) (ci := 4) (v := .ref (ad 1)) (C := RX4) (T := TX4) (N := 12) hx hb hts hnX4 hown hK hP 0 rfl rfl 0 (by decide) hf7 (fun _ h9 => h9) rfl dX4_dearest_38 ?_
        refine lv_iload_n hx hb dX4_dearest_41 rfl (lv_at hl 2 rfl) ?_
        refine lv_iload hx hb dX4_dearest_42 (lv_at hl 6 rfl) ?_
        refine lv_iload_n hx hb dX4_dearest_44 rfl (lv_at hl 3 rfl) ?_
        refine z_cSi (As := [.ref (ad 1), .int (nI (gpl (mg μ) j)), .int (nI c), .int (pst (gS (mg μ)) (gpl (mg μ) j))]) (rest := []) ⟨hx, hb, hml, hown, hts⟩ (k_X4_costs l dC dI (ad 1) cI (mg μ) hMok.1 hMok.2.1 (gpl (mg μ) j) (by omega) c (by omega) (pst (gS (mg μ)) (gpl (mg μ) j))) (va_cwS 4 hts gX4_dearest_X4_costs rfl rfl rfl (by decide +kernel) ⟨Nat.le_of_ble_eq_true rfl, Nat.le_of_ble_eq_true rfl⟩) (hP.sub (ws' := [((ad 1), .inl (cI, 323, .inl (mg μ)))]) [1] rfl) (hK.sub (tys' := [(cI, .int)]) [0] rfl) rfl hl.1 rfl (Nat.le_of_ble_eq_true rfl) dX4_dearest_45 ⟨Nat.le_of_ble_eq_true rfl, Nat.le_of_ble_eq_true rfl⟩ (fun r_4 hr_4 => ?_)
        subst hr_4
        refine lv_istore (lv' := [(7, .int (pCost ((mg μ) (7 + (gpl (mg μ) j))) (nI c) (pst (gS (mg μ)) (gpl (mg μ) j)))), (0, .ref (ad 0)), (1, .int (nI j)), (2, .int (nI (gpl (mg μ) j))), (3, .int (pst (gS (mg μ)) (gpl (mg μ) j))), (4, .int (zo o)), (5, .int x), (6, .int (nI c))]) hx hb dX4_dearest_48 hl (by decide) rfl (fun ls hl => ?_)
        refine lv_iload hx hb dX4_dearest_50 (lv_at hl 0 rfl) ?_
        refine lv_iload hx hb dX4_dearest_52 (lv_at hl 6 rfl) ?_
        have hC_64 : ∀ (o2 : Option Nat) (ls : Array Slot), lv_has ls 8 [(0, .ref (ad 0)), (1, .int (nI j)), (2, .int (nI (gpl (mg μ) j))), (3, .int (pst (gS (mg μ)) (gpl (mg μ) j))), (5, .int x), (6, .int (nI c)), (7, .int (pCost ((mg μ) (7 + (gpl (mg μ) j))) (nI c) (pst (gS (mg μ)) (gpl (mg μ) j))))] → (o2 = if (pCost ((mg μ) (7 + (gpl (mg μ) j))) (nI c) (pst (gS (mg μ)) (gpl (mg μ) j))) ≤ x then o else some c) → (∀ k, o2 = some k → k < 4096) → W p l e rX4_dearest s m args below meth cd s.heap [] 0 0 Q (F0 m 64 ls [.int (zo o2)]) := by
          intro o2 ls hl e64 h64
          refine lv_istore (lv' := [(4, .int (zo o2)), (0, .ref (ad 0)), (1, .int (nI j)), (2, .int (nI (gpl (mg μ) j))), (3, .int (pst (gS (mg μ)) (gpl (mg μ) j))), (5, .int x), (6, .int (nI c)), (7, .int (pCost ((mg μ) (7 + (gpl (mg μ) j))) (nI c) (pst (gS (mg μ)) (gpl (mg μ) j))))]) hx hb dX4_dearest_64 hl (by decide) rfl (fun ls hl => ?_)
          refine lv_iload hx hb dX4_dearest_66 (lv_at hl 7 rfl) ?_
          refine lv_iload hx hb dX4_dearest_68 (lv_at hl 5 rfl) ?_
          have hC_80 : ∀ (x2 : Int32) (ls : Array Slot), lv_has ls 8 [(0, .ref (ad 0)), (1, .int (nI j)), (2, .int (nI (gpl (mg μ) j))), (3, .int (pst (gS (mg μ)) (gpl (mg μ) j))), (4, .int (zo o2)), (6, .int (nI c)), (7, .int (pCost ((mg μ) (7 + (gpl (mg μ) j))) (nI c) (pst (gS (mg μ)) (gpl (mg μ) j))))] → (x2 = if (pCost ((mg μ) (7 + (gpl (mg μ) j))) (nI c) (pst (gS (mg μ)) (gpl (mg μ) j))) ≤ x then x else (pCost ((mg μ) (7 + (gpl (mg μ) j))) (nI c) (pst (gS (mg μ)) (gpl (mg μ) j)))) → W p l e rX4_dearest s m args below meth cd s.heap [] 0 0 Q (F0 m 80 ls [.int x2]) := by
            intro x2 ls hl e80
            refine lv_istore (lv' := [(5, .int x2), (0, .ref (ad 0)), (1, .int (nI j)), (2, .int (nI (gpl (mg μ) j))), (3, .int (pst (gS (mg μ)) (gpl (mg μ) j))), (4, .int (zo o2)), (6, .int (nI c)), (7, .int (pCost ((mg μ) (7 + (gpl (mg μ) j))) (nI c) (pst (gS (mg μ)) (gpl (mg μ) j))))]) hx hb dX4_dearest_80 hl (by decide) rfl (fun ls hl => ?_)
            refine lv_iinc (v := nI (c + 1)) (lv' := [(6, .int (nI (c + 1))), (5, .int x2), (0, .ref (ad 0)), (1, .int (nI j)), (2, .int (nI (gpl (mg μ) j))), (3, .int (pst (gS (mg μ)) (gpl (mg μ) j))), (4, .int (zo o2)), (7, .int (pCost ((mg μ) (7 + (gpl (mg μ) j))) (nI c) (pst (gS (mg μ)) (gpl (mg μ) j))))]) hx hb dX4_dearest_82 hl (k := 6) rfl (z_inc1 _) (by decide) rfl (fun ls hl => ?_)
            refine lv_goto (tgt := 29) hx hb dX4_dearest_85 (by decide) ?_
            exact ih_29 o2 x2 (c + 1) _ (by omega) (lv_sub hl [2, 3, 4, 5, 6, 1, 0] rfl) (by omega) (by rw [e64]; unfold pDr; rw [← ex]; split <;> simp_all) (by rw [e80]; unfold pDr; rw [← ex]; split <;> simp_all) (fun i hi => h64 i hi)
          refine lv_icmp_le (tgt := 78) hx hb dX4_dearest_70 (by decide) (fun c_5 => ?_) (fun c_5 => ?_)
          · skip
            refine lv_iload hx hb dX4_dearest_78 (lv_at hl 5 rfl) ?_
            exact hC_80 x _ (lv_sub hl [1, 2, 3, 4, 0, 6, 7] rfl) (by first | rw [if_pos c_5] | rw [if_neg c_5])
          · skip
            refine lv_iload hx hb dX4_dearest_73 (lv_at hl 7 rfl) ?_
            refine lv_goto (tgt := 80) hx hb dX4_dearest_75 (by decide) ?_
            exact hC_80 (pCost ((mg μ) (7 + (gpl (mg μ) j))) (nI c) (pst (gS (mg μ)) (gpl (mg μ) j))) _ (lv_sub hl [1, 2, 3, 4, 0, 6, 7] rfl) (by first | rw [if_pos c_5] | rw [if_neg c_5])
        refine lv_icmp_le (tgt := 62) hx hb dX4_dearest_54 (by decide) (fun c_6 => ?_) (fun c_6 => ?_)
        · skip
          refine lv_iload hx hb dX4_dearest_62 (lv_at hl 5 rfl) ?_
          exact hC_64 o _ (lv_sub hl [1, 2, 3, 4, 6, 7, 0] rfl) (by first | rw [if_pos c_6] | rw [if_neg c_6]) (fun i hi => hbo i hi)
        · skip
          refine lv_iload hx hb dX4_dearest_57 (lv_at hl 7 rfl) ?_
          refine lv_goto (tgt := 64) hx hb dX4_dearest_59 (by decide) ?_
          exact hC_64 (some c) _ (lv_sub hl [1, 2, 3, 4, 6, 7, 0] rfl) (by first | rw [if_pos c_6] | rw [if_neg c_6]) (by intro i hi; cases hi; omega)
  exact hC_29 _ none (-1) 0 _ (Nat.lt_succ_self _) (lv_sub hl [5, 6, 4, 3, 2, 1, 0] rfl) (by omega) (rfl) (rfl) (by intro _ h; cases h)
