abbrev rX4_thrown : Room := { frames := 0, cells := 0, slots := 0, locals := 0 }
set_option maxHeartbeats 4000000 in
set_option maxRecDepth 100000 in
theorem k_X4_thrown (l : Launch) (dC : Nat → ClassId) (dI : Nat → Nat → Nat) (ad : Nat → Nat) (cI : ClassId) (μ : zM) (hMok : zMok μ) : zRi l yX4_thrown wsX4_thrown rX4_thrown (dC, dI) [.ref (ad 0)] (zMW ad cI μ) [(cI, .int)] (fun r => r = mth μ) := by
  refine zRi_of (cc := cX4_thrown) (maxL := 1) (ty := .int) (by decide) rfl (Nat.le_of_ble_eq_true rfl) (fun _ _ => rfl) ?_
  intro p e s m args below meth cd Q ls hat hP hK hend
  obtain ⟨hx, hb, hml, hown, hts, hl⟩ := hat
  replace hown : s.vm.findClass RX4 = some m.cls := hown
  replace hl : lv_has ls 1 [(0, .ref (ad 0))] := hl
  replace hP : va_P (dC, dI) vwCl [((ad 0), .inr (4, [.ref (ad 1), .ref (ad 2), .ref (ad 3), .int (nI (mk μ)), .ref (ad 4), .int (nI (my μ)), .int (mth μ), .int (nI (mat μ)), .int (mfl μ), .int (nI (mva μ)), .ref (ad 5), .int (nI (mtn μ))])), ((ad 1), .inl (cI, 323, .inl (mg μ))), ((ad 2), .inl (cI, 323, .inl (mh μ))), ((ad 3), .inl (cI, 1938, .inl (mp μ))), ((ad 4), .inl (cI, 60, .inl (fun w => nI ((mx μ) w)))), ((ad 5), .inl (cI, 62, .inl (fun w => nI ((mt μ) w))))] s.heap := hP
  have hf25 := hts (.fieldLink RX4 25 "InsideOutWordsModel" "thrown" "I") (by decide +kernel)
  have hnX4 : ∀ w ∈ u_ws RX4 TX4 12, w ∈ wsX4_thrown := by decide +kernel
  refine lv_aload_n hx hb dX4_thrown_0 rfl (lv_at hl 0 rfl) ?_
  refine va_get (D := (dC, dI)) (ci := 4) (v := .int (mth μ)) (C := RX4) (T := TX4) (N := 12) hx hb hts hnX4 hown hK hP 0 rfl rfl 6 (by decide) hf25 (fun _ h9 => h9) rfl dX4_thrown_1 ?_
  exact hend _ _ _ rfl dX4_thrown_4

abbrev rX4_fails : Room := { frames := 0, cells := 0, slots := 0, locals := 0 }
set_option maxHeartbeats 4000000 in
set_option maxRecDepth 100000 in
theorem k_X4_fails (l : Launch) (dC : Nat → ClassId) (dI : Nat → Nat → Nat) (ad : Nat → Nat) (cI : ClassId) (μ : zM) (hMok : zMok μ) (x : Int32) (sz : Nat) : zWi (S := Unit) l yX4_fails wsX4_fails rX4_fails (dC, dI) [.ref (ad 0), .int x] (zMW ad cI μ) [(cI, .int)] sz (fun r (_ : Unit) => r = 0) (fun _ => zMW ad cI (mset_th μ x)) 0 0 := by
  refine zWi_of (cc := cX4_fails) (maxL := 2) (ty := .int) (by decide) rfl (Nat.le_of_ble_eq_true rfl) (fun _ _ _ => rfl) ?_
  intro p e s m args below meth cd Q ls A hat hP hK hD hA hend
  obtain ⟨hx, hb, hml, hown, hts, hl⟩ := hat
  replace hown : s.vm.findClass RX4 = some m.cls := hown
  replace hl : lv_has ls 2 [(0, .ref (ad 0)), (1, .int x)] := hl
  replace hP : va_P (dC, dI) vwCl [((ad 0), .inr (4, [.ref (ad 1), .ref (ad 2), .ref (ad 3), .int (nI (mk μ)), .ref (ad 4), .int (nI (my μ)), .int (mth μ), .int (nI (mat μ)), .int (mfl μ), .int (nI (mva μ)), .ref (ad 5), .int (nI (mtn μ))])), ((ad 1), .inl (cI, 323, .inl (mg μ))), ((ad 2), .inl (cI, 323, .inl (mh μ))), ((ad 3), .inl (cI, 1938, .inl (mp μ))), ((ad 4), .inl (cI, 60, .inl (fun w => nI ((mx μ) w)))), ((ad 5), .inl (cI, 62, .inl (fun w => nI ((mt μ) w))))] s.heap := hP
  replace hD : va_D A [((ad 0), .inr (4, [.ref (ad 1), .ref (ad 2), .ref (ad 3), .int (nI (mk μ)), .ref (ad 4), .int (nI (my μ)), .int (mth μ), .int (nI (mat μ)), .int (mfl μ), .int (nI (mva μ)), .ref (ad 5), .int (nI (mtn μ))])), ((ad 1), .inl (cI, 323, .inl (mg μ))), ((ad 2), .inl (cI, 323, .inl (mh μ))), ((ad 3), .inl (cI, 1938, .inl (mp μ))), ((ad 4), .inl (cI, 60, .inl (fun w => nI ((mx μ) w)))), ((ad 5), .inl (cI, 62, .inl (fun w => nI ((mt μ) w))))] := hD
  have hS : va_S A s.heap s.heap [] := va_S.rf
  have hf25 := hts (.fieldLink RX4 25 "InsideOutWordsModel" "thrown" "I") (by decide +kernel)
  have hnX4 : ∀ w ∈ u_ws RX4 TX4 12, w ∈ wsX4_fails := by decide +kernel
  refine lv_aload_n hx hb dX4_fails_0 rfl (lv_at hl 0 rfl) ?_
  refine lv_iload_n hx hb dX4_fails_1 rfl (lv_at hl 1 rfl) ?_
  refine va_put (D := (dC, dI)) (ci := 4) (v := .int x) (ty := .int) (C := RX4) (T := TX4) (N := 12) hx hb hts hnX4 tyX4 tyX4_ok nmX4 hown hK hP hD hS 0 rfl rfl 6 (by decide) hf25 (fun _ h9 => h9) rfl (by decide +kernel) rfl rfl (Nat.le_of_ble_eq_true rfl) dX4_fails_2 (fun H locs (hP : va_P (dC, dI) vwCl [((ad 0), .inr (4, [.ref (ad 1), .ref (ad 2), .ref (ad 3), .int (nI (mk μ)), .ref (ad 4), .int (nI (my μ)), .int x, .int (nI (mat μ)), .int (mfl μ), .int (nI (mva μ)), .ref (ad 5), .int (nI (mtn μ))])), ((ad 1), .inl (cI, 323, .inl (mg μ))), ((ad 2), .inl (cI, 323, .inl (mh μ))), ((ad 3), .inl (cI, 1938, .inl (mp μ))), ((ad 4), .inl (cI, 60, .inl (fun w => nI ((mx μ) w)))), ((ad 5), .inl (cI, 62, .inl (fun w => nI ((mt μ) w))))] H) (hD : va_D A [((ad 0), .inr (4, [.ref (ad 1), .ref (ad 2), .ref (ad 3), .int (nI (mk μ)), .ref (ad 4), .int (nI (my μ)), .int x, .int (nI (mat μ)), .int (mfl μ), .int (nI (mva μ)), .ref (ad 5), .int (nI (mtn μ))])), ((ad 1), .inl (cI, 323, .inl (mg μ))), ((ad 2), .inl (cI, 323, .inl (mh μ))), ((ad 3), .inl (cI, 1938, .inl (mp μ))), ((ad 4), .inl (cI, 60, .inl (fun w => nI ((mx μ) w)))), ((ad 5), .inl (cI, 62, .inl (fun w => nI ((mt μ) w))))]) hS => ?_)
  refine lv_iconst (v := 0) hx hb dX4_fails_5 (by decide) ?_
  replace hP : va_P (dC, dI) vwCl (zMW ad cI ((mg μ), (mh μ), (mp μ), (mx μ), (mt μ), (mk μ), (my μ), x, (mat μ), (mfl μ), (mva μ), (mtn μ))) H := hP.sub (ws' := zMW ad cI ((mg μ), (mh μ), (mp μ), (mx μ), (mt μ), (mk μ), (my μ), x, (mat μ), (mfl μ), (mva μ), (mtn μ))) [0, 1, 2, 3, 4, 5] rfl
  replace hD : va_D A (zMW ad cI ((mg μ), (mh μ), (mp μ), (mx μ), (mt μ), (mk μ), (my μ), x, (mat μ), (mfl μ), (mva μ), (mtn μ))) := hD.sub (ws' := zMW ad cI ((mg μ), (mh μ), (mp μ), (mx μ), (mt μ), (mk μ), (my μ), x, (mat μ), (mfl μ), (mva μ), (mtn μ))) [0, 1, 2, 3, 4, 5] (by decide) rfl
  have e9 : mset_th μ x = ((mg μ), (mh μ), (mp μ), (mx μ), (mt μ), (mk μ), (my μ), x, (mat μ), (mfl μ), (mva μ), (mtn μ)) := rfl
  replace hP : va_P (dC, dI) vwCl (zMW ad cI (mset_th μ x)) H := by rw [e9]; exact hP
  replace hD : va_D A (zMW ad cI (mset_th μ x)) := by rw [e9]; exact hD
  exact hend _ () _ _ _ _ rfl hP hD hS dX4_fails_6

abbrev rX4_saves : Room := { frames := 1, cells := 0, slots := 0, locals := 24 }
set_option maxHeartbeats 4000000 in
set_option maxRecDepth 100000 in
theorem k_X4_saves (l : Launch) (dC : Nat → ClassId) (dI : Nat → Nat → Nat) (ad : Nat → Nat) (cI : ClassId) (μ : zM) (hMok : zMok μ) (sz : Nat) : zWv (S := Unit) l yX4_saves wsX4_saves rX4_saves (dC, dI) [.ref (ad 0)] (zMW ad cI μ) [(cI, .int)] sz (fun _ : Unit => True) (fun _ => zMW ad cI (pSv μ)) 0 0 := by
  refine zWv_of (cc := cX4_saves) (maxL := 2) (by decide) rfl (Nat.le_of_ble_eq_true rfl) ?_
  intro p e s m args below meth cd Q ls A hat hname hP hK hD hA hend
  obtain ⟨hx, hb, hml, hown, hts, hl⟩ := hat
  replace hown : s.vm.findClass RX4 = some m.cls := hown
  replace hl : lv_has ls 2 [(0, .ref (ad 0))] := hl
  replace hP : va_P (dC, dI) vwCl [((ad 0), .inr (4, [.ref (ad 1), .ref (ad 2), .ref (ad 3), .int (nI (mk μ)), .ref (ad 4), .int (nI (my μ)), .int (mth μ), .int (nI (mat μ)), .int (mfl μ), .int (nI (mva μ)), .ref (ad 5), .int (nI (mtn μ))])), ((ad 1), .inl (cI, 323, .inl (mg μ))), ((ad 2), .inl (cI, 323, .inl (mh μ))), ((ad 3), .inl (cI, 1938, .inl (mp μ))), ((ad 4), .inl (cI, 60, .inl (fun w => nI ((mx μ) w)))), ((ad 5), .inl (cI, 62, .inl (fun w => nI ((mt μ) w))))] s.heap := hP
  replace hD : va_D A [((ad 0), .inr (4, [.ref (ad 1), .ref (ad 2), .ref (ad 3), .int (nI (mk μ)), .ref (ad 4), .int (nI (my μ)), .int (mth μ), .int (nI (mat μ)), .int (mfl μ), .int (nI (mva μ)), .ref (ad 5), .int (nI (mtn μ))])), ((ad 1), .inl (cI, 323, .inl (mg μ))), ((ad 2), .inl (cI, 323, .inl (mh μ))), ((ad 3), .inl (cI, 1938, .inl (mp μ))), ((ad 4), .inl (cI, 60, .inl (fun w => nI ((mx μ) w)))), ((ad 5), .inl (cI, 62, .inl (fun w => nI ((mt μ) w))))] := hD
  have hS : va_S A s.heap s.heap [] := va_S.rf
  have hf33 := hts (.fieldLink RX4 33 "InsideOutWordsModel" "kept" "I") (by decide +kernel)
  have hnX4 : ∀ w ∈ u_ws RX4 TX4 12, w ∈ wsX4_saves := by decide +kernel
  have hf7 := hts (.fieldLink RX4 7 "InsideOutWordsModel" "now" "[I") (by decide +kernel)
  have hf16 := hts (.fieldLink RX4 16 "InsideOutWordsModel" "past" "[I") (by decide +kernel)
  refine lv_aload_n hx hb dX4_saves_0 rfl (lv_at hl 0 rfl) ?_
  refine va_get (D := (dC, dI)) (ci := 4) (v := .int (nI (mk μ))) (C := RX4) (T := TX4) (N := 12) hx hb hts hnX4 hown hK hP 0 rfl rfl 3 (by decide) hf33 (fun _ h9 => h9) rfl dX4_saves_1 ?_
  refine lv_bipush (v := 6) hx hb dX4_saves_4 (by decide) ?_
  have hC_50 : ∀ (ks : Nat) (ps : Nat → Int32) (ls : Array Slot) (H : Heap) (locs : List Loc), lv_has ls 2 [(0, .ref (ad 0))] → (ks ≤ 5) → (ks + 1 = pSvk (mk μ)) → (va_cpy (mg μ) ps 0 (323 * ks) 323 = pSvp (mg μ) (mp μ) (mk μ)) → va_P (dC, dI) vwCl [((ad 0), .inr (4, [.ref (ad 1), .ref (ad 2), .ref (ad 3), .int (nI ks), .ref (ad 4), .int (nI (my μ)), .int (mth μ), .int (nI (mat μ)), .int (mfl μ), .int (nI (mva μ)), .ref (ad 5), .int (nI (mtn μ))])), ((ad 1), .inl (cI, 323, .inl (mg μ))), ((ad 2), .inl (cI, 323, .inl (mh μ))), ((ad 3), .inl (cI, 1938, .inl ps)), ((ad 4), .inl (cI, 60, .inl (fun w => nI ((mx μ) w)))), ((ad 5), .inl (cI, 62, .inl (fun w => nI ((mt μ) w))))] H → va_D A [((ad 0), .inr (4, [.ref (ad 1), .ref (ad 2), .ref (ad 3), .int (nI ks), .ref (ad 4), .int (nI (my μ)), .int (mth μ), .int (nI (mat μ)), .int (mfl μ), .int (nI (mva μ)), .ref (ad 5), .int (nI (mtn μ))])), ((ad 1), .inl (cI, 323, .inl (mg μ))), ((ad 2), .inl (cI, 323, .inl (mh μ))), ((ad 3), .inl (cI, 1938, .inl ps)), ((ad 4), .inl (cI, 60, .inl (fun w => nI ((mx μ) w)))), ((ad 5), .inl (cI, 62, .inl (fun w => nI ((mt μ) w))))] → va_S A s.heap H locs → W p l e rX4_saves s m args below meth cd H locs 0 0 Q (F0 m 50 ls []) := by
    intro ks ps ls H locs hl hk5 hks hps hP hD hS
    refine lv_aload_n hx hb dX4_saves_50 rfl (lv_at hl 0 rfl) ?_
    refine va_get (D := (dC, dI)) (ci := 4) (v := .ref (ad 1)) (C := RX4) (T := TX4) (N := 12) hx hb hts hnX4 hown hK hP 0 rfl rfl 0 (by decide) hf7 (fun _ h9 => h9) rfl dX4_saves_51 ?_
    refine lv_iconst (v := 0) hx hb dX4_saves_54 (by decide) ?_
    refine lv_aload_n hx hb dX4_saves_55 rfl (lv_at hl 0 rfl) ?_
    refine va_get (D := (dC, dI)) (ci := 4) (v := .ref (ad 3)) (C := RX4) (T := TX4) (N := 12) hx hb hts hnX4 hown hK hP 0 rfl rfl 2 (by decide) hf16 (fun _ h9 => h9) rfl dX4_saves_56 ?_
    refine lv_sipush (v := 323) hx hb dX4_saves_59 (by decide) ?_
    refine lv_aload_n hx hb dX4_saves_62 rfl (lv_at hl 0 rfl) ?_
    refine va_get (D := (dC, dI)) (ci := 4) (v := .int (nI ks)) (C := RX4) (T := TX4) (N := 12) hx hb hts hnX4 hown hK hP 0 rfl rfl 3 (by decide) hf33 (fun _ h9 => h9) rfl dX4_saves_63 ?_
    refine z_imul hx hb 323 ks dX4_saves_66 ?_
    try clear hPq hDq
    refine z_cWSv (wr := [((ad 0), .inr (4, [.ref (ad 1), .ref (ad 2), .ref (ad 3), .int (nI ks), .ref (ad 4), .int (nI (my μ)), .int (mth μ), .int (nI (mat μ)), .int (mfl μ), .int (nI (mva μ)), .ref (ad 5), .int (nI (mtn μ))])), ((ad 2), .inl (cI, 323, .inl (mh μ))), ((ad 4), .inl (cI, 60, .inl (fun w => nI ((mx μ) w)))), ((ad 5), .inl (cI, 62, .inl (fun w => nI ((mt μ) w))))]) (As := [.ref (ad 1), .int 0, .ref (ad 3), .int (nI (323 * ks))]) (rest := []) ⟨hx, hb, hml, hown, hts⟩ (k_X4_copies l dC dI (ad 1) (ad 3) cI 323 1938 (mg μ) ps (by decide) (by decide) 0 (323 * ks) (by omega) (by omega) H.size) (va_cwS 4 hts gX4_saves_X4_copies rfl rfl rfl (by decide +kernel) ⟨Nat.le_of_ble_eq_true rfl, Nat.le_of_ble_eq_true rfl⟩) hP hD hS hA (hP.sub (ws' := [((ad 1), .inl (cI, 323, .inl (mg μ))), ((ad 3), .inl (cI, 1938, .inl ps))]) [1, 3] rfl) (hD.sub (ws' := [((ad 1), .inl (cI, 323, .inl (mg μ))), ((ad 3), .inl (cI, 1938, .inl ps))]) [1, 3] (by decide) rfl) (hK.sub (tys' := [(cI, .int)]) [0] rfl) [1, 3] [0, 2, 4, 5] rfl rfl (by decide) (by decide) rfl hl.1 rfl (Nat.le_of_ble_eq_true rfl) dX4_saves_67 ⟨Nat.le_of_ble_eq_true rfl, Nat.le_of_ble_eq_true rfl⟩ (fun _ H locs hr_1 (hP : va_P (dC, dI) vwCl [((ad 0), .inr (4, [.ref (ad 1), .ref (ad 2), .ref (ad 3), .int (nI ks), .ref (ad 4), .int (nI (my μ)), .int (mth μ), .int (nI (mat μ)), .int (mfl μ), .int (nI (mva μ)), .ref (ad 5), .int (nI (mtn μ))])), ((ad 2), .inl (cI, 323, .inl (mh μ))), ((ad 4), .inl (cI, 60, .inl (fun w => nI ((mx μ) w)))), ((ad 5), .inl (cI, 62, .inl (fun w => nI ((mt μ) w)))), ((ad 1), .inl (cI, 323, .inl (mg μ))), ((ad 3), .inl (cI, 1938, .inl (va_cpy (mg μ) ps 0 (323 * ks) 323)))] H) (hD : va_D A [((ad 0), .inr (4, [.ref (ad 1), .ref (ad 2), .ref (ad 3), .int (nI ks), .ref (ad 4), .int (nI (my μ)), .int (mth μ), .int (nI (mat μ)), .int (mfl μ), .int (nI (mva μ)), .ref (ad 5), .int (nI (mtn μ))])), ((ad 2), .inl (cI, 323, .inl (mh μ))), ((ad 4), .inl (cI, 60, .inl (fun w => nI ((mx μ) w)))), ((ad 5), .inl (cI, 62, .inl (fun w => nI ((mt μ) w)))), ((ad 1), .inl (cI, 323, .inl (mg μ))), ((ad 3), .inl (cI, 1938, .inl (va_cpy (mg μ) ps 0 (323 * ks) 323)))]) hS => ?_)
    refine lv_aload_n hx hb dX4_saves_70 rfl (lv_at hl 0 rfl) ?_
    refine lv_dup hx hb dX4_saves_71 rfl ?_
    refine va_get (D := (dC, dI)) (ci := 4) (v := .int (nI ks)) (C := RX4) (T := TX4) (N := 12) hx hb hts hnX4 hown hK hP 0 rfl rfl 3 (by decide) hf33 (fun _ h9 => h9) rfl dX4_saves_72 ?_
    refine lv_iconst (v := 1) hx hb dX4_saves_75 (by decide) ?_
    refine z_iadd hx hb ks 1 dX4_saves_76 ?_
    refine va_put (D := (dC, dI)) (ci := 4) (v := .int (nI (ks + 1))) (ty := .int) (C := RX4) (T := TX4) (N := 12) hx hb hts hnX4 tyX4 tyX4_ok nmX4 hown hK hP hD hS 0 rfl rfl 3 (by decide) hf33 (fun _ h9 => h9) rfl (by decide +kernel) rfl rfl (Nat.le_of_ble_eq_true rfl) dX4_saves_77 (fun H locs (hP : va_P (dC, dI) vwCl [((ad 0), .inr (4, [.ref (ad 1), .ref (ad 2), .ref (ad 3), .int (nI (ks + 1)), .ref (ad 4), .int (nI (my μ)), .int (mth μ), .int (nI (mat μ)), .int (mfl μ), .int (nI (mva μ)), .ref (ad 5), .int (nI (mtn μ))])), ((ad 2), .inl (cI, 323, .inl (mh μ))), ((ad 4), .inl (cI, 60, .inl (fun w => nI ((mx μ) w)))), ((ad 5), .inl (cI, 62, .inl (fun w => nI ((mt μ) w)))), ((ad 1), .inl (cI, 323, .inl (mg μ))), ((ad 3), .inl (cI, 1938, .inl (va_cpy (mg μ) ps 0 (323 * ks) 323)))] H) (hD : va_D A [((ad 0), .inr (4, [.ref (ad 1), .ref (ad 2), .ref (ad 3), .int (nI (ks + 1)), .ref (ad 4), .int (nI (my μ)), .int (mth μ), .int (nI (mat μ)), .int (mfl μ), .int (nI (mva μ)), .ref (ad 5), .int (nI (mtn μ))])), ((ad 2), .inl (cI, 323, .inl (mh μ))), ((ad 4), .inl (cI, 60, .inl (fun w => nI ((mx μ) w)))), ((ad 5), .inl (cI, 62, .inl (fun w => nI ((mt μ) w)))), ((ad 1), .inl (cI, 323, .inl (mg μ))), ((ad 3), .inl (cI, 1938, .inl (va_cpy (mg μ) ps 0 (323 * ks) 323)))]) hS => ?_)
    replace hP : va_P (dC, dI) vwCl (zMW ad cI ((mg μ), (mh μ), (va_cpy (mg μ) ps 0 (323 * ks) 323), (mx μ), (mt μ), ks + 1, (my μ), (mth μ), (mat μ), (mfl μ), (mva μ), (mtn μ))) H := hP.sub (ws' := zMW ad cI ((mg μ), (mh μ), (va_cpy (mg μ) ps 0 (323 * ks) 323), (mx μ), (mt μ), ks + 1, (my μ), (mth μ), (mat μ), (mfl μ), (mva μ), (mtn μ))) [0, 4, 1, 5, 2, 3] rfl
    replace hD : va_D A (zMW ad cI ((mg μ), (mh μ), (va_cpy (mg μ) ps 0 (323 * ks) 323), (mx μ), (mt μ), ks + 1, (my μ), (mth μ), (mat μ), (mfl μ), (mva μ), (mtn μ))) := hD.sub (ws' := zMW ad cI ((mg μ), (mh μ), (va_cpy (mg μ) ps 0 (323 * ks) 323), (mx μ), (mt μ), ks + 1, (my μ), (mth μ), (mat μ), (mfl μ), (mva μ), (mtn μ))) [0, 4, 1, 5, 2, 3] (by decide) rfl
    have e9 : pSv μ = ((mg μ), (mh μ), (va_cpy (mg μ) ps 0 (323 * ks) 323), (mx μ), (mt μ), ks + 1, (my μ), (mth μ), (mat μ), (mfl μ), (mva μ), (mtn μ)) := by rw [hks, hps]
    replace hP : va_P (dC, dI) vwCl (zMW ad cI (pSv μ)) H := by rw [e9]; exact hP
    replace hD : va_D A (zMW ad cI (pSv μ)) := by rw [e9]; exact hD
    exact hend () _ _ _ _ trivial hP hD hS dX4_saves_80
  refine z_ne hx hb (mk μ) 6 (by omega) (by omega) (tgt := 50) dX4_saves_6 (by decide) (fun c_2 => ?_) (fun c_2 => ?_)
  · skip
    exact hC_50 (mk μ) (mp μ) _ _ _ (lv_sub hl [0] rfl) (by have := hMok.2.2.1; omega) (by unfold pSvk; split <;> omega) (by unfold pSvp; first | (rw [if_pos (by omega), eps, show c = 1615 by omega, show mk μ - 1 = 5 by omega]) | (rw [if_neg (by omega)])) hP hD hS
  · skip
    refine lv_iconst (v := 0) hx hb dX4_saves_9 (by decide) ?_
    refine lv_istore_n (lv' := [(1, .int 0), (0, .ref (ad 0))]) hx hb dX4_saves_10 rfl hl (by decide) rfl (fun ls hl => ?_)
    have hC_11 : ∀ (nf : Nat) (ps : Nat → Int32) (c : Nat) (ls : Array Slot) (H : Heap) (locs : List Loc), 1615 - c < nf → lv_has ls 2 [(0, .ref (ad 0)), (1, .int (nI c))] → (c ≤ 1615) → (ps = pSh (mp μ) c) → va_P (dC, dI) vwCl [((ad 0), .inr (4, [.ref (ad 1), .ref (ad 2), .ref (ad 3), .int (nI (mk μ)), .ref (ad 4), .int (nI (my μ)), .int (mth μ), .int (nI (mat μ)), .int (mfl μ), .int (nI (mva μ)), .ref (ad 5), .int (nI (mtn μ))])), ((ad 1), .inl (cI, 323, .inl (mg μ))), ((ad 2), .inl (cI, 323, .inl (mh μ))), ((ad 3), .inl (cI, 1938, .inl ps)), ((ad 4), .inl (cI, 60, .inl (fun w => nI ((mx μ) w)))), ((ad 5), .inl (cI, 62, .inl (fun w => nI ((mt μ) w))))] H → va_D A [((ad 0), .inr (4, [.ref (ad 1), .ref (ad 2), .ref (ad 3), .int (nI (mk μ)), .ref (ad 4), .int (nI (my μ)), .int (mth μ), .int (nI (mat μ)), .int (mfl μ), .int (nI (mva μ)), .ref (ad 5), .int (nI (mtn μ))])), ((ad 1), .inl (cI, 323, .inl (mg μ))), ((ad 2), .inl (cI, 323, .inl (mh μ))), ((ad 3), .inl (cI, 1938, .inl ps)), ((ad 4), .inl (cI, 60, .inl (fun w => nI ((mx μ) w)))), ((ad 5), .inl (cI, 62, .inl (fun w => nI ((mt μ) w))))] → va_S A s.heap H locs → W p l e rX4_saves s m args below meth cd H locs 0 0 Q (F0 m 11 ls []) := by
      intro nf
      induction nf with
      | zero => intro ps c ls H locs hm_11 hl hc eps hP hD hS; exact absurd hm_11 (Nat.not_lt_zero _)
      | succ nf ih_11 =>
        intro ps c ls H locs hm_11 hl hc eps hP hD hS
        refine lv_iload_n hx hb dX4_saves_11 rfl (lv_at hl 1 rfl) ?_
        refine lv_sipush (v := 1615) hx hb dX4_saves_12 (by decide) ?_
        refine z_ge hx hb c 1615 (by omega) (by omega) (tgt := 40) dX4_saves_15 (by decide) (fun c_3 => ?_) (fun c_3 => ?_)
        · skip
          refine lv_aload_n hx hb dX4_saves_40 rfl (lv_at hl 0 rfl) ?_
          refine lv_dup hx hb dX4_saves_41 rfl ?_
          refine va_get (D := (dC, dI)) (ci := 4) (v := .int (nI (mk μ))) (C := RX4) (T := TX4) (N := 12) hx hb hts hnX4 hown hK hP 0 rfl rfl 3 (by decide) hf33 (fun _ h9 => h9) rfl dX4_saves_42 ?_
          refine lv_iconst (v := 1) hx hb dX4_saves_45 (by decide) ?_
          refine z_isub hx hb (mk μ) 1 (by omega) dX4_saves_46 ?_
          refine va_put (D := (dC, dI)) (ci := 4) (v := .int (nI ((mk μ) - 1))) (ty := .int) (C := RX4) (T := TX4) (N := 12) hx hb hts hnX4 tyX4 tyX4_ok nmX4 hown hK hP hD hS 0 rfl rfl 3 (by decide) hf33 (fun _ h9 => h9) rfl (by decide +kernel) rfl rfl (Nat.le_of_ble_eq_true rfl) dX4_saves_47 (fun H locs (hP : va_P (dC, dI) vwCl [((ad 0), .inr (4, [.ref (ad 1), .ref (ad 2), .ref (ad 3), .int (nI ((mk μ) - 1)), .ref (ad 4), .int (nI (my μ)), .int (mth μ), .int (nI (mat μ)), .int (mfl μ), .int (nI (mva μ)), .ref (ad 5), .int (nI (mtn μ))])), ((ad 1), .inl (cI, 323, .inl (mg μ))), ((ad 2), .inl (cI, 323, .inl (mh μ))), ((ad 3), .inl (cI, 1938, .inl ps)), ((ad 4), .inl (cI, 60, .inl (fun w => nI ((mx μ) w)))), ((ad 5), .inl (cI, 62, .inl (fun w => nI ((mt μ) w))))] H) (hD : va_D A [((ad 0), .inr (4, [.ref (ad 1), .ref (ad 2), .ref (ad 3), .int (nI ((mk μ) - 1)), .ref (ad 4), .int (nI (my μ)), .int (mth μ), .int (nI (mat μ)), .int (mfl μ), .int (nI (mva μ)), .ref (ad 5), .int (nI (mtn μ))])), ((ad 1), .inl (cI, 323, .inl (mg μ))), ((ad 2), .inl (cI, 323, .inl (mh μ))), ((ad 3), .inl (cI, 1938, .inl ps)), ((ad 4), .inl (cI, 60, .inl (fun w => nI ((mx μ) w)))), ((ad 5), .inl (cI, 62, .inl (fun w => nI ((mt μ) w))))]) hS => ?_)
          exact hC_50 ((mk μ) - 1) ps _ _ _ (lv_sub hl [0] rfl) (by have := hMok.2.2.1; omega) (by unfold pSvk; split <;> omega) (by unfold pSvp; first | (rw [if_pos (by omega), eps, show c = 1615 by omega, show mk μ - 1 = 5 by omega]) | (rw [if_neg (by omega)])) hP hD hS
        · skip
          refine lv_aload_n hx hb dX4_saves_18 rfl (lv_at hl 0 rfl) ?_
          refine va_get (D := (dC, dI)) (ci := 4) (v := .ref (ad 3)) (C := RX4) (T := TX4) (N := 12) hx hb hts hnX4 hown hK hP 0 rfl rfl 2 (by decide) hf16 (fun _ h9 => h9) rfl dX4_saves_19 ?_
          refine lv_iload_n hx hb dX4_saves_22 rfl (lv_at hl 1 rfl) ?_
          refine lv_aload_n hx hb dX4_saves_23 rfl (lv_at hl 0 rfl) ?_
          refine va_get (D := (dC, dI)) (ci := 4) (v := .ref (ad 3)) (C := RX4) (T := TX4) (N := 12) hx hb hts hnX4 hown hK hP 0 rfl rfl 2 (by decide) hf16 (fun _ h9 => h9) rfl dX4_saves_24 ?_
          refine lv_iload_n hx hb dX4_saves_27 rfl (lv_at hl 1 rfl) ?_
          refine lv_sipush (v := 323) hx hb dX4_saves_28 (by decide) ?_
          refine z_iadd hx hb c 323 dX4_saves_31 ?_
          refine z_ald hx hb hK hP 3 0 (c + 323) (f := ps) rfl rfl (by first | omega | decide) (by first | decide | omega) dX4_saves_32 ?_
          refine z_ast hx hb hK hP hD hS 3 0 c (f := ps) rfl rfl (by first | omega | decide) (by first | decide | omega) dX4_saves_33 (fun H locs (hP : va_P (dC, dI) vwCl [((ad 0), .inr (4, [.ref (ad 1), .ref (ad 2), .ref (ad 3), .int (nI (mk μ)), .ref (ad 4), .int (nI (my μ)), .int (mth μ), .int (nI (mat μ)), .int (mfl μ), .int (nI (mva μ)), .ref (ad 5), .int (nI (mtn μ))])), ((ad 1), .inl (cI, 323, .inl (mg μ))), ((ad 2), .inl (cI, 323, .inl (mh μ))), ((ad 3), .inl (cI, 1938, .inl (upd ps c (ps (c + 323))))), ((ad 4), .inl (cI, 60, .inl (fun w => nI ((mx μ) w)))), ((ad 5), .inl (cI, 62, .inl (fun w => nI ((mt μ) w))))] H) (hD : va_D A [((ad 0), .inr (4, [.ref (ad 1), .ref (ad 2), .ref (ad 3), .int (nI (mk μ)), .ref (ad 4), .int (nI (my μ)), .int (mth μ), .int (nI (mat μ)), .int (mfl μ), .int (nI (mva μ)), .ref (ad 5), .int (nI (mtn μ))])), ((ad 1), .inl (cI, 323, .inl (mg μ))), ((ad 2), .inl (cI, 323, .inl (mh μ))), ((ad 3), .inl (cI, 1938, .inl (upd ps c (ps (c + 323))))), ((ad 4), .inl (cI, 60, .inl (fun w => nI ((mx μ) w)))), ((ad 5), .inl (cI, 62, .inl (fun w => nI ((mt μ) w))))]) hS => ?_)
          refine lv_iinc (v := nI (c + 1)) (lv' := [(1, .int (nI (c + 1))), (0, .ref (ad 0))]) hx hb dX4_saves_34 hl (k := 1) rfl (z_inc1 _) (by decide) rfl (fun ls hl => ?_)
          refine lv_goto (tgt := 11) hx hb dX4_saves_37 (by decide) ?_
          exact ih_11 (upd ps c (ps (c + 323))) (c + 1) _ _ _ (by omega) (lv_sub hl [1, 0] rfl) (by omega) (by rw [eps, pSh_s]) hP hD hS
    exact hC_11 _ (mp μ) 0 _ _ _ (Nat.lt_succ_self _) (lv_sub hl [1, 0] rfl) (by omega) (by rw [pSh_0]) hP hD hS
