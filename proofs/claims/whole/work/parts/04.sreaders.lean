abbrev rX1_wornAt : Room := { frames := 0, cells := 0, slots := 0, locals := 0 }
set_option maxHeartbeats 4000000 in
set_option maxRecDepth 100000 in
theorem k_X1_wornAt (l : Launch) (dC : Nat → ClassId) (dI : Nat → Nat → Nat) (ad : Nat → Nat) (cI : ClassId) (σ : zS) (hok : zok σ) (j : Nat) (hj : j < 18) (i : Nat) (hi : i < 13) : zRi l yX1_wornAt wsX1_wornAt rX1_wornAt (dC, dI) [.ref (ad 0), .int (nI j), .int (nI i)] (zW ad cI σ) [(cI, .int)] (fun r => r = zwn σ (j * 13 + i)) := by
  refine zRi_of (cc := cX1_wornAt) (maxL := 3) (ty := .int) (by decide) rfl (Nat.le_of_ble_eq_true rfl) (fun _ _ => rfl) ?_
  intro p e s m args below meth cd Q ls hat hP hK hend
  obtain ⟨hx, hb, hml, hown, hts, hl⟩ := hat
  replace hown : s.vm.findClass RX1 = some m.cls := hown
  replace hl : lv_has ls 3 [(0, .ref (ad 0)), (1, .int (nI j)), (2, .int (nI i))] := hl
  replace hP : va_P (dC, dI) vwCl [((ad 0), .inr (1, [.ref (ad 1), .ref (ad 2), .ref (ad 3), .ref (ad 4), .ref (ad 5), .ref (ad 6), .ref (ad 7), .ref (ad 8), .int (zc0 σ), .int (zc1 σ), .int (zc2 σ), .int (zc3 σ), .int (zc4 σ)])), ((ad 1), .inl (cI, 18, .inl (zhd σ))), ((ad 2), .inl (cI, 234, .inl (zwn σ))), ((ad 3), .inl (cI, 18, .inl (zwi σ))), ((ad 4), .inl (cI, 16, .inl (fun w => nI (zpl σ w)))), ((ad 5), .inl (cI, 16, .inl (zwh σ))), ((ad 6), .inl (cI, 16, .inl (zwo σ))), ((ad 7), .inl (cI, 16, .inl (zmo σ))), ((ad 8), .inl (cI, 2, .inl (zst σ)))] s.heap := hP
  have hf15 := hts (.fieldLink RX1 15 "InsideOutWords$State" "worn" "[I") (by decide +kernel)
  have hnX1 : ∀ w ∈ u_ws RX1 TX1 13, w ∈ wsX1_wornAt := by decide +kernel
  refine lv_aload_n hx hb dX1_wornAt_0 rfl (lv_at hl 0 rfl) ?_
  refine va_get (D := (dC, dI)) (ci := 1) (v := .ref (ad 2)) (C := RX1) (T := TX1) (N := 13) hx hb hts hnX1 hown hK hP 0 rfl rfl 1 (by decide) hf15 (fun _ h9 => h9) rfl dX1_wornAt_1 ?_
  refine lv_iload_n hx hb dX1_wornAt_4 rfl (lv_at hl 1 rfl) ?_
  refine lv_bipush (v := 13) hx hb dX1_wornAt_5 (by decide) ?_
  refine z_imul hx hb j 13 dX1_wornAt_7 ?_
  refine lv_iload_n hx hb dX1_wornAt_8 rfl (lv_at hl 2 rfl) ?_
  refine z_iadd hx hb (j * 13) i dX1_wornAt_9 ?_
  refine z_ald hx hb hK hP 2 0 ((j * 13) + i) (f := (zwn σ)) rfl rfl (by first | omega | decide) (by first | decide | omega) dX1_wornAt_10 ?_
  exact hend _ _ _ rfl dX1_wornAt_11

abbrev rX1_wornTogether : Room := { frames := 0, cells := 0, slots := 0, locals := 0 }
set_option maxHeartbeats 4000000 in
set_option maxRecDepth 100000 in
theorem k_X1_wornTogether (l : Launch) (dC : Nat → ClassId) (dI : Nat → Nat → Nat) (ad : Nat → Nat) (cI : ClassId) (σ : zS) (hok : zok σ) (j : Nat) (hj : j < 18) : zRi l yX1_wornTogether wsX1_wornTogether rX1_wornTogether (dC, dI) [.ref (ad 0), .int (nI j)] (zW ad cI σ) [(cI, .int)] (fun r => r = pwr σ j) := by
  refine zRi_of (cc := cX1_wornTogether) (maxL := 5) (ty := .int) (by decide) rfl (Nat.le_of_ble_eq_true rfl) (fun _ _ => rfl) ?_
  intro p e s m args below meth cd Q ls hat hP hK hend
  obtain ⟨hx, hb, hml, hown, hts, hl⟩ := hat
  replace hown : s.vm.findClass RX1 = some m.cls := hown
  replace hl : lv_has ls 5 [(0, .ref (ad 0)), (1, .int (nI j))] := hl
  replace hP : va_P (dC, dI) vwCl [((ad 0), .inr (1, [.ref (ad 1), .ref (ad 2), .ref (ad 3), .ref (ad 4), .ref (ad 5), .ref (ad 6), .ref (ad 7), .ref (ad 8), .int (zc0 σ), .int (zc1 σ), .int (zc2 σ), .int (zc3 σ), .int (zc4 σ)])), ((ad 1), .inl (cI, 18, .inl (zhd σ))), ((ad 2), .inl (cI, 234, .inl (zwn σ))), ((ad 3), .inl (cI, 18, .inl (zwi σ))), ((ad 4), .inl (cI, 16, .inl (fun w => nI (zpl σ w)))), ((ad 5), .inl (cI, 16, .inl (zwh σ))), ((ad 6), .inl (cI, 16, .inl (zwo σ))), ((ad 7), .inl (cI, 16, .inl (zmo σ))), ((ad 8), .inl (cI, 2, .inl (zst σ)))] s.heap := hP
  have hf15 := hts (.fieldLink RX1 15 "InsideOutWords$State" "worn" "[I") (by decide +kernel)
  have hnX1 : ∀ w ∈ u_ws RX1 TX1 13, w ∈ wsX1_wornTogether := by decide +kernel
  refine lv_iconst (v := 0) hx hb dX1_wornTogether_0 (by decide) ?_
  refine lv_istore_n (lv' := [(2, .int 0), (0, .ref (ad 0)), (1, .int (nI j))]) hx hb dX1_wornTogether_1 rfl hl (by decide) rfl (fun ls hl => ?_)
  refine lv_iload_n hx hb dX1_wornTogether_2 rfl (lv_at hl 2 rfl) ?_
  refine lv_bipush (v := 13) hx hb dX1_wornTogether_3 (by decide) ?_
  refine z_imul hx hb j 13 dX1_wornTogether_5 ?_
  refine lv_istore_n (lv' := [(3, .int (nI (j * 13))), (2, .int 0), (0, .ref (ad 0)), (1, .int (nI j))]) hx hb dX1_wornTogether_6 rfl hl (by decide) rfl (fun ls hl => ?_)
  refine lv_iconst (v := 0) hx hb dX1_wornTogether_7 (by decide) ?_
  refine lv_istore (lv' := [(4, .int 0), (3, .int (nI (j * 13))), (2, .int 0), (0, .ref (ad 0)), (1, .int (nI j))]) hx hb dX1_wornTogether_8 hl (by decide) rfl (fun ls hl => ?_)
  have hC_10 : ∀ (nf : Nat) (x : Int32) (c : Nat) (ls : Array Slot), 13 - c < nf → lv_has ls 5 [(0, .ref (ad 0)), (1, .int (nI j)), (2, .int x), (3, .int (nI (j * 13))), (4, .int (nI c))] → (c ≤ 13) → (x = pSum (fun c => zwn σ (j * 13 + c)) c) → W p l e rX1_wornTogether s m args below meth cd s.heap [] 0 0 Q (F0 m 10 ls []) := by
    intro nf
    induction nf with
    | zero => intro x c ls hm_10 hl hc ex; exact absurd hm_10 (Nat.not_lt_zero _)
    | succ nf ih_10 =>
      intro x c ls hm_10 hl hc ex
      refine lv_iload hx hb dX1_wornTogether_10 (lv_at hl 4 rfl) ?_
      refine lv_bipush (v := 13) hx hb dX1_wornTogether_12 (by decide) ?_
      refine z_ge hx hb c 13 (by omega) (by omega) (tgt := 35) dX1_wornTogether_14 (by decide) (fun c_1 => ?_) (fun c_1 => ?_)
      · skip
        refine lv_iload_n hx hb dX1_wornTogether_35 rfl (lv_at hl 2 rfl) ?_
        exact hend _ _ _ (by rw [ex, show c = 13 by omega]) dX1_wornTogether_36
      · skip
        refine lv_iload_n hx hb dX1_wornTogether_17 rfl (lv_at hl 2 rfl) ?_
        refine lv_aload_n hx hb dX1_wornTogether_18 rfl (lv_at hl 0 rfl) ?_
        refine va_get (D := (dC, dI)) (ci := 1) (v := .ref (ad 2)) (C := RX1) (T := TX1) (N := 13) hx hb hts hnX1 hown hK hP 0 rfl rfl 1 (by decide) hf15 (fun _ h9 => h9) rfl dX1_wornTogether_19 ?_
        refine lv_iload_n hx hb dX1_wornTogether_22 rfl (lv_at hl 3 rfl) ?_
        refine lv_iload hx hb dX1_wornTogether_23 (lv_at hl 4 rfl) ?_
        refine z_iadd hx hb (j * 13) c dX1_wornTogether_25 ?_
        refine z_ald hx hb hK hP 2 0 ((j * 13) + c) (f := (zwn σ)) rfl rfl (by first | omega | decide) (by first | decide | omega) dX1_wornTogether_26 ?_
        refine lv_iadd hx hb dX1_wornTogether_27 ?_
        refine lv_istore_n (lv' := [(2, .int (x + ((zwn σ) ((j * 13) + c)))), (0, .ref (ad 0)), (1, .int (nI j)), (3, .int (nI (j * 13))), (4, .int (nI c))]) hx hb dX1_wornTogether_28 rfl hl (by decide) rfl (fun ls hl => ?_)
        refine lv_iinc (v := nI (c + 1)) (lv' := [(4, .int (nI (c + 1))), (2, .int (x + ((zwn σ) ((j * 13) + c)))), (0, .ref (ad 0)), (1, .int (nI j)), (3, .int (nI (j * 13)))]) hx hb dX1_wornTogether_29 hl (k := 4) rfl (z_inc1 _) (by decide) rfl (fun ls hl => ?_)
        refine lv_goto (tgt := 10) hx hb dX1_wornTogether_32 (by decide) ?_
        exact ih_10 (x + ((zwn σ) ((j * 13) + c))) (c + 1) _ (by omega) (lv_sub hl [2, 3, 1, 4, 0] rfl) (by omega) (by rw [ex]; rfl)
  exact hC_10 _ 0 0 _ (Nat.lt_succ_self _) (lv_sub hl [3, 4, 2, 1, 0] rfl) (by omega) (rfl)

abbrev rX1_mostWorn : Room := { frames := 1, cells := 0, slots := 0, locals := 21 }
set_option maxHeartbeats 4000000 in
set_option maxRecDepth 100000 in
theorem k_X1_mostWorn (l : Launch) (dC : Nat → ClassId) (dI : Nat → Nat → Nat) (ad : Nat → Nat) (cI : ClassId) (σ : zS) (hok : zok σ) (j : Nat) (hj : j < 18) : zRi l yX1_mostWorn wsX1_mostWorn rX1_mostWorn (dC, dI) [.ref (ad 0), .int (nI j)] (zW ad cI σ) [(cI, .int)] (fun r => r = pMost (fun c => zwn σ (j * 13 + c)) 13) := by
  refine zRi_of (cc := cX1_mostWorn) (maxL := 5) (ty := .int) (by decide) rfl (Nat.le_of_ble_eq_true rfl) (fun _ _ => rfl) ?_
  intro p e s m args below meth cd Q ls hat hP hK hend
  obtain ⟨hx, hb, hml, hown, hts, hl⟩ := hat
  replace hown : s.vm.findClass RX1 = some m.cls := hown
  replace hl : lv_has ls 5 [(0, .ref (ad 0)), (1, .int (nI j))] := hl
  replace hP : va_P (dC, dI) vwCl [((ad 0), .inr (1, [.ref (ad 1), .ref (ad 2), .ref (ad 3), .ref (ad 4), .ref (ad 5), .ref (ad 6), .ref (ad 7), .ref (ad 8), .int (zc0 σ), .int (zc1 σ), .int (zc2 σ), .int (zc3 σ), .int (zc4 σ)])), ((ad 1), .inl (cI, 18, .inl (zhd σ))), ((ad 2), .inl (cI, 234, .inl (zwn σ))), ((ad 3), .inl (cI, 18, .inl (zwi σ))), ((ad 4), .inl (cI, 16, .inl (fun w => nI (zpl σ w)))), ((ad 5), .inl (cI, 16, .inl (zwh σ))), ((ad 6), .inl (cI, 16, .inl (zwo σ))), ((ad 7), .inl (cI, 16, .inl (zmo σ))), ((ad 8), .inl (cI, 2, .inl (zst σ)))] s.heap := hP
  have hf15 := hts (.fieldLink RX1 15 "InsideOutWords$State" "worn" "[I") (by decide +kernel)
  have hnX1 : ∀ w ∈ u_ws RX1 TX1 13, w ∈ wsX1_mostWorn := by decide +kernel
  have hmx0 := hts (.methodLink RX1 58 Lib.Math.max.name) (by decide +kernel)
  have hmx1 := hts (.static Lib.Math.max.name) (by decide +kernel)
  have hmx2 := hts (.initialized "java/lang/Math") (by decide +kernel)
  have hmx3 := hts (.code Lib.Math.max.name Lib.Math.max.code 2 (some .int)) (by decide +kernel)
  refine lv_iconst (v := 0) hx hb dX1_mostWorn_0 (by decide) ?_
  refine lv_istore_n (lv' := [(2, .int 0), (0, .ref (ad 0)), (1, .int (nI j))]) hx hb dX1_mostWorn_1 rfl hl (by decide) rfl (fun ls hl => ?_)
  refine lv_iload_n hx hb dX1_mostWorn_2 rfl (lv_at hl 2 rfl) ?_
  refine lv_bipush (v := 13) hx hb dX1_mostWorn_3 (by decide) ?_
  refine z_imul hx hb j 13 dX1_mostWorn_5 ?_
  refine lv_istore_n (lv' := [(3, .int (nI (j * 13))), (2, .int 0), (0, .ref (ad 0)), (1, .int (nI j))]) hx hb dX1_mostWorn_6 rfl hl (by decide) rfl (fun ls hl => ?_)
  refine lv_iconst (v := 0) hx hb dX1_mostWorn_7 (by decide) ?_
  refine lv_istore (lv' := [(4, .int 0), (3, .int (nI (j * 13))), (2, .int 0), (0, .ref (ad 0)), (1, .int (nI j))]) hx hb dX1_mostWorn_8 hl (by decide) rfl (fun ls hl => ?_)
  have hC_10 : ∀ (nf : Nat) (x : Int32) (c : Nat) (ls : Array Slot), 13 - c < nf → lv_has ls 5 [(0, .ref (ad 0)), (1, .int (nI j)), (2, .int x), (3, .int (nI (j * 13))), (4, .int (nI c))] → (c ≤ 13) → (x = pMost (fun c => zwn σ (j * 13 + c)) c) → W p l e rX1_mostWorn s m args below meth cd s.heap [] 0 0 Q (F0 m 10 ls []) := by
    intro nf
    induction nf with
    | zero => intro x c ls hm_10 hl hc ex; exact absurd hm_10 (Nat.not_lt_zero _)
    | succ nf ih_10 =>
      intro x c ls hm_10 hl hc ex
      refine lv_iload hx hb dX1_mostWorn_10 (lv_at hl 4 rfl) ?_
      refine lv_bipush (v := 13) hx hb dX1_mostWorn_12 (by decide) ?_
      refine z_ge hx hb c 13 (by omega) (by omega) (tgt := 37) dX1_mostWorn_14 (by decide) (fun c_1 => ?_) (fun c_1 => ?_)
      · skip
        refine lv_iload_n hx hb dX1_mostWorn_37 rfl (lv_at hl 2 rfl) ?_
        exact hend _ _ _ (by rw [ex, show c = 13 by omega]) dX1_mostWorn_38
      · skip
        refine lv_iload_n hx hb dX1_mostWorn_17 rfl (lv_at hl 2 rfl) ?_
        refine lv_aload_n hx hb dX1_mostWorn_18 rfl (lv_at hl 0 rfl) ?_
        refine va_get (D := (dC, dI)) (ci := 1) (v := .ref (ad 2)) (C := RX1) (T := TX1) (N := 13) hx hb hts hnX1 hown hK hP 0 rfl rfl 1 (by decide) hf15 (fun _ h9 => h9) rfl dX1_mostWorn_19 ?_
        refine lv_iload_n hx hb dX1_mostWorn_22 rfl (lv_at hl 3 rfl) ?_
        refine lv_iload hx hb dX1_mostWorn_23 (lv_at hl 4 rfl) ?_
        refine z_iadd hx hb (j * 13) c dX1_mostWorn_25 ?_
        refine z_ald hx hb hK hP 2 0 ((j * 13) + c) (f := (zwn σ)) rfl rfl (by first | omega | decide) (by first | decide | omega) dX1_mostWorn_26 ?_
        refine va_mmax hx hb (hml.trans hl.1.symm) hown hmx0 hmx1 hmx2 hmx3 (Nat.le_of_ble_eq_true rfl) (Nat.le_of_ble_eq_true rfl) (by decide) (by decide) dX1_mostWorn_27 ?_
        refine lv_istore_n (lv' := [(2, .int (if x < ((zwn σ) ((j * 13) + c)) then ((zwn σ) ((j * 13) + c)) else x)), (0, .ref (ad 0)), (1, .int (nI j)), (3, .int (nI (j * 13))), (4, .int (nI c))]) hx hb dX1_mostWorn_30 rfl hl (by decide) rfl (fun ls hl => ?_)
        refine lv_iinc (v := nI (c + 1)) (lv' := [(4, .int (nI (c + 1))), (2, .int (if x < ((zwn σ) ((j * 13) + c)) then ((zwn σ) ((j * 13) + c)) else x)), (0, .ref (ad 0)), (1, .int (nI j)), (3, .int (nI (j * 13)))]) hx hb dX1_mostWorn_31 hl (k := 4) rfl (z_inc1 _) (by decide) rfl (fun ls hl => ?_)
        refine lv_goto (tgt := 10) hx hb dX1_mostWorn_34 (by decide) ?_
        exact ih_10 (if x < ((zwn σ) ((j * 13) + c)) then ((zwn σ) ((j * 13) + c)) else x) (c + 1) _ (by omega) (lv_sub hl [2, 3, 1, 4, 0] rfl) (by omega) (by rw [ex]; rfl)
  exact hC_10 _ 0 0 _ (Nat.lt_succ_self _) (lv_sub hl [3, 4, 2, 1, 0] rfl) (by omega) (rfl)

abbrev rX1_stuckIn : Room := { frames := 0, cells := 0, slots := 0, locals := 0 }
set_option maxHeartbeats 4000000 in
set_option maxRecDepth 100000 in
theorem k_X1_stuckIn (l : Launch) (dC : Nat → ClassId) (dI : Nat → Nat → Nat) (ad : Nat → Nat) (cI : ClassId) (σ : zS) (hok : zok σ) (j : Nat) (hj : j < 18) : zRi l yX1_stuckIn wsX1_stuckIn rX1_stuckIn (dC, dI) [.ref (ad 0), .int (nI j)] (zW ad cI σ) [(cI, .int)] (fun r => r = pst σ j) := by
  refine zRi_of (cc := cX1_stuckIn) (maxL := 5) (ty := .int) (by decide) rfl (Nat.le_of_ble_eq_true rfl) (fun _ _ => rfl) ?_
  intro p e s m args below meth cd Q ls hat hP hK hend
  obtain ⟨hx, hb, hml, hown, hts, hl⟩ := hat
  replace hown : s.vm.findClass RX1 = some m.cls := hown
  replace hl : lv_has ls 5 [(0, .ref (ad 0)), (1, .int (nI j))] := hl
  replace hP : va_P (dC, dI) vwCl [((ad 0), .inr (1, [.ref (ad 1), .ref (ad 2), .ref (ad 3), .ref (ad 4), .ref (ad 5), .ref (ad 6), .ref (ad 7), .ref (ad 8), .int (zc0 σ), .int (zc1 σ), .int (zc2 σ), .int (zc3 σ), .int (zc4 σ)])), ((ad 1), .inl (cI, 18, .inl (zhd σ))), ((ad 2), .inl (cI, 234, .inl (zwn σ))), ((ad 3), .inl (cI, 18, .inl (zwi σ))), ((ad 4), .inl (cI, 16, .inl (fun w => nI (zpl σ w)))), ((ad 5), .inl (cI, 16, .inl (zwh σ))), ((ad 6), .inl (cI, 16, .inl (zwo σ))), ((ad 7), .inl (cI, 16, .inl (zmo σ))), ((ad 8), .inl (cI, 2, .inl (zst σ)))] s.heap := hP
  have hf15 := hts (.fieldLink RX1 15 "InsideOutWords$State" "worn" "[I") (by decide +kernel)
  have hnX1 : ∀ w ∈ u_ws RX1 TX1 13, w ∈ wsX1_stuckIn := by decide +kernel
  have hf33 := hts (.fieldLink RX1 33 "InsideOutWords$State" "settings" "[I") (by decide +kernel)
  refine lv_iconst (v := 0) hx hb dX1_stuckIn_0 (by decide) ?_
  refine lv_istore_n (lv' := [(2, .int 0), (0, .ref (ad 0)), (1, .int (nI j))]) hx hb dX1_stuckIn_1 rfl hl (by decide) rfl (fun ls hl => ?_)
  refine lv_iload_n hx hb dX1_stuckIn_2 rfl (lv_at hl 2 rfl) ?_
  refine lv_bipush (v := 13) hx hb dX1_stuckIn_3 (by decide) ?_
  refine z_imul hx hb j 13 dX1_stuckIn_5 ?_
  refine lv_istore_n (lv' := [(3, .int (nI (j * 13))), (2, .int 0), (0, .ref (ad 0)), (1, .int (nI j))]) hx hb dX1_stuckIn_6 rfl hl (by decide) rfl (fun ls hl => ?_)
  refine lv_iconst (v := 0) hx hb dX1_stuckIn_7 (by decide) ?_
  refine lv_istore (lv' := [(4, .int 0), (3, .int (nI (j * 13))), (2, .int 0), (0, .ref (ad 0)), (1, .int (nI j))]) hx hb dX1_stuckIn_8 hl (by decide) rfl (fun ls hl => ?_)
  have hC_10 : ∀ (nf : Nat) (x : Int32) (c : Nat) (ls : Array Slot), 13 - c < nf → lv_has ls 5 [(0, .ref (ad 0)), (1, .int (nI j)), (2, .int x), (3, .int (nI (j * 13))), (4, .int (nI c))] → (c ≤ 13) → (x = pStuck (fun c => zwn σ (j * 13 + c)) (zst σ 0) c) → W p l e rX1_stuckIn s m args below meth cd s.heap [] 0 0 Q (F0 m 10 ls []) := by
    intro nf
    induction nf with
    | zero => intro x c ls hm_10 hl hc ex; exact absurd hm_10 (Nat.not_lt_zero _)
    | succ nf ih_10 =>
      intro x c ls hm_10 hl hc ex
      refine lv_iload hx hb dX1_stuckIn_10 (lv_at hl 4 rfl) ?_
      refine lv_bipush (v := 13) hx hb dX1_stuckIn_12 (by decide) ?_
      refine z_ge hx hb c 13 (by omega) (by omega) (tgt := 48) dX1_stuckIn_14 (by decide) (fun c_1 => ?_) (fun c_1 => ?_)
      · skip
        refine lv_iload_n hx hb dX1_stuckIn_48 rfl (lv_at hl 2 rfl) ?_
        exact hend _ _ _ (by rw [ex, show c = 13 by omega]) dX1_stuckIn_49
      · skip
        refine lv_aload_n hx hb dX1_stuckIn_17 rfl (lv_at hl 0 rfl) ?_
        refine va_get (D := (dC, dI)) (ci := 1) (v := .ref (ad 2)) (C := RX1) (T := TX1) (N := 13) hx hb hts hnX1 hown hK hP 0 rfl rfl 1 (by decide) hf15 (fun _ h9 => h9) rfl dX1_stuckIn_18 ?_
        refine lv_iload_n hx hb dX1_stuckIn_21 rfl (lv_at hl 3 rfl) ?_
        refine lv_iload hx hb dX1_stuckIn_22 (lv_at hl 4 rfl) ?_
        refine z_iadd hx hb (j * 13) c dX1_stuckIn_24 ?_
        refine z_ald hx hb hK hP 2 0 ((j * 13) + c) (f := (zwn σ)) rfl rfl (by first | omega | decide) (by first | decide | omega) dX1_stuckIn_25 ?_
        refine lv_aload_n hx hb dX1_stuckIn_26 rfl (lv_at hl 0 rfl) ?_
        refine va_get (D := (dC, dI)) (ci := 1) (v := .ref (ad 8)) (C := RX1) (T := TX1) (N := 13) hx hb hts hnX1 hown hK hP 0 rfl rfl 7 (by decide) hf33 (fun _ h9 => h9) rfl dX1_stuckIn_27 ?_
        refine lv_iconst (v := 0) hx hb dX1_stuckIn_30 (by decide) ?_
        refine z_ald hx hb hK hP 8 0 0 (f := (zst σ)) rfl rfl (by first | omega | decide) (by first | decide | omega) dX1_stuckIn_31 ?_
        refine lv_icmp_lt (tgt := 42) hx hb dX1_stuckIn_32 (by decide) (fun c_2 => ?_) (fun c_2 => ?_)
        · skip
          refine lv_iinc (v := nI (c + 1)) (lv' := [(4, .int (nI (c + 1))), (0, .ref (ad 0)), (1, .int (nI j)), (2, .int x), (3, .int (nI (j * 13)))]) hx hb dX1_stuckIn_42 hl (k := 4) rfl (z_inc1 _) (by decide) rfl (fun ls hl => ?_)
          refine lv_goto (tgt := 10) hx hb dX1_stuckIn_45 (by decide) ?_
          exact ih_10 x (c + 1) _ (by omega) (lv_sub hl [1, 2, 3, 4, 0] rfl) (by omega) (by rw [ex]; simp [pStuck, c_1, c_2])
        · skip
          refine lv_iload_n hx hb dX1_stuckIn_35 rfl (lv_at hl 2 rfl) ?_
          refine lv_iconst (v := 1) hx hb dX1_stuckIn_36 (by decide) ?_
          refine lv_iload hx hb dX1_stuckIn_37 (lv_at hl 4 rfl) ?_
          refine lv_ishl hx hb dX1_stuckIn_39 ?_
          refine lv_ior hx hb dX1_stuckIn_40 ?_
          refine lv_istore_n (lv' := [(2, .int (x ||| (1 <<< ((nI c) &&& 31)))), (0, .ref (ad 0)), (1, .int (nI j)), (3, .int (nI (j * 13))), (4, .int (nI c))]) hx hb dX1_stuckIn_41 rfl hl (by decide) rfl (fun ls hl => ?_)
          refine lv_iinc (v := nI (c + 1)) (lv' := [(4, .int (nI (c + 1))), (2, .int (x ||| (1 <<< ((nI c) &&& 31)))), (0, .ref (ad 0)), (1, .int (nI j)), (3, .int (nI (j * 13)))]) hx hb dX1_stuckIn_42 hl (k := 4) rfl (z_inc1 _) (by decide) rfl (fun ls hl => ?_)
          refine lv_goto (tgt := 10) hx hb dX1_stuckIn_45 (by decide) ?_
          exact ih_10 (x ||| (1 <<< ((nI c) &&& 31))) (c + 1) _ (by omega) (lv_sub hl [2, 3, 1, 4, 0] rfl) (by omega) (by rw [ex]; simp [pStuck, c_1, c_2])
  exact hC_10 _ 0 0 _ (Nat.lt_succ_self _) (lv_sub hl [3, 4, 2, 1, 0] rfl) (by omega) (rfl)

abbrev rJ6_bitCount_0f7a4 : Room := { frames := 0, cells := 0, slots := 0, locals := 0 }
set_option maxHeartbeats 4000000 in
set_option maxRecDepth 100000 in
theorem k_J6_bitCount_0f7a4 (l : Launch) (dC : Nat → ClassId) (dI : Nat → Nat → Nat) (x : Int32) : zRi l yJ6_bitCount_0f7a4 wsJ6_bitCount_0f7a4 rJ6_bitCount_0f7a4 (dC, dI) [.int x] [] [] (fun r => r = pBC x) := by
  refine zRi_of (cc := cJ6_bitCount_0f7a4) (maxL := 1) (ty := .int) (by decide) rfl (Nat.le_of_ble_eq_true rfl) (fun _ _ => rfl) ?_
  intro p e s m args below meth cd Q ls hat hP hK hend
  obtain ⟨hx, hb, hml, hown, hts, hl⟩ := hat
  replace hown : s.vm.findClass RJ6 = some m.cls := hown
  replace hl : lv_has ls 1 [(0, .int x)] := hl
  replace hP : va_P (dC, dI) vwCl [] s.heap := hP
  have hc265 := hts (.constant RJ6 265 (1431655765)) (by decide +kernel)
  have hc266 := hts (.constant RJ6 266 (858993459)) (by decide +kernel)
  have hc267 := hts (.constant RJ6 267 (252645135)) (by decide +kernel)
  refine lv_iload_n hx hb dJ6_bitCount_0f7a4_0 rfl (lv_at hl 0 rfl) ?_
  refine lv_iload_n hx hb dJ6_bitCount_0f7a4_1 rfl (lv_at hl 0 rfl) ?_
  refine lv_iconst (v := 1) hx hb dJ6_bitCount_0f7a4_2 (by decide) ?_
  refine lv_iushr (v := (x.toUInt32 >>> ((1 : Int32).toUInt32 &&& Int32.toUInt32 31)).toInt32) hx hb dJ6_bitCount_0f7a4_3 rfl ?_
  refine lv_ldcw hx hb hown hc265 dJ6_bitCount_0f7a4_4 ?_
  refine lv_iand hx hb dJ6_bitCount_0f7a4_7 ?_
  refine lv_isub hx hb dJ6_bitCount_0f7a4_8 ?_
  refine lv_istore_n (lv' := [(0, .int (x - (((x.toUInt32 >>> ((1 : Int32).toUInt32 &&& Int32.toUInt32 31)).toInt32) &&& 1431655765)))]) hx hb dJ6_bitCount_0f7a4_9 rfl hl (by decide) rfl (fun ls hl => ?_)
  refine lv_iload_n hx hb dJ6_bitCount_0f7a4_10 rfl (lv_at hl 0 rfl) ?_
  refine lv_ldcw hx hb hown hc266 dJ6_bitCount_0f7a4_11 ?_
  refine lv_iand hx hb dJ6_bitCount_0f7a4_14 ?_
  refine lv_iload_n hx hb dJ6_bitCount_0f7a4_15 rfl (lv_at hl 0 rfl) ?_
  refine lv_iconst (v := 2) hx hb dJ6_bitCount_0f7a4_16 (by decide) ?_
  refine lv_iushr (v := ((x - (((x.toUInt32 >>> ((1 : Int32).toUInt32 &&& Int32.toUInt32 31)).toInt32) &&& 1431655765)).toUInt32 >>> ((2 : Int32).toUInt32 &&& Int32.toUInt32 31)).toInt32) hx hb dJ6_bitCount_0f7a4_17 rfl ?_
  refine lv_ldcw hx hb hown hc266 dJ6_bitCount_0f7a4_18 ?_
  refine lv_iand hx hb dJ6_bitCount_0f7a4_21 ?_
  refine lv_iadd hx hb dJ6_bitCount_0f7a4_22 ?_
  refine lv_istore_n (lv' := [(0, .int (((x - (((x.toUInt32 >>> ((1 : Int32).toUInt32 &&& Int32.toUInt32 31)).toInt32) &&& 1431655765)) &&& 858993459) + ((((x - (((x.toUInt32 >>> ((1 : Int32).toUInt32 &&& Int32.toUInt32 31)).toInt32) &&& 1431655765)).toUInt32 >>> ((2 : Int32).toUInt32 &&& Int32.toUInt32 31)).toInt32) &&& 858993459)))]) hx hb dJ6_bitCount_0f7a4_23 rfl hl (by decide) rfl (fun ls hl => ?_)
  refine lv_iload_n hx hb dJ6_bitCount_0f7a4_24 rfl (lv_at hl 0 rfl) ?_
  refine lv_iload_n hx hb dJ6_bitCount_0f7a4_25 rfl (lv_at hl 0 rfl) ?_
  refine lv_iconst (v := 4) hx hb dJ6_bitCount_0f7a4_26 (by decide) ?_
  refine lv_iushr (v := ((((x - (((x.toUInt32 >>> ((1 : Int32).toUInt32 &&& Int32.toUInt32 31)).toInt32) &&& 1431655765)) &&& 858993459) + ((((x - (((x.toUInt32 >>> ((1 : Int32).toUInt32 &&& Int32.toUInt32 31)).toInt32) &&& 1431655765)).toUInt32 >>> ((2 : Int32).toUInt32 &&& Int32.toUInt32 31)).toInt32) &&& 858993459)).toUInt32 >>> ((4 : Int32).toUInt32 &&& Int32.toUInt32 31)).toInt32) hx hb dJ6_bitCount_0f7a4_27 rfl ?_
  refine lv_iadd hx hb dJ6_bitCount_0f7a4_28 ?_
  refine lv_ldcw hx hb hown hc267 dJ6_bitCount_0f7a4_29 ?_
  refine lv_iand hx hb dJ6_bitCount_0f7a4_32 ?_
  refine lv_istore_n (lv' := [(0, .int (((((x - (((x.toUInt32 >>> ((1 : Int32).toUInt32 &&& Int32.toUInt32 31)).toInt32) &&& 1431655765)) &&& 858993459) + ((((x - (((x.toUInt32 >>> ((1 : Int32).toUInt32 &&& Int32.toUInt32 31)).toInt32) &&& 1431655765)).toUInt32 >>> ((2 : Int32).toUInt32 &&& Int32.toUInt32 31)).toInt32) &&& 858993459)) + (((((x - (((x.toUInt32 >>> ((1 : Int32).toUInt32 &&& Int32.toUInt32 31)).toInt32) &&& 1431655765)) &&& 858993459) + ((((x - (((x.toUInt32 >>> ((1 : Int32).toUInt32 &&& Int32.toUInt32 31)).toInt32) &&& 1431655765)).toUInt32 >>> ((2 : Int32).toUInt32 &&& Int32.toUInt32 31)).toInt32) &&& 858993459)).toUInt32 >>> ((4 : Int32).toUInt32 &&& Int32.toUInt32 31)).toInt32)) &&& 252645135))]) hx hb dJ6_bitCount_0f7a4_33 rfl hl (by decide) rfl (fun ls hl => ?_)
  refine lv_iload_n hx hb dJ6_bitCount_0f7a4_34 rfl (lv_at hl 0 rfl) ?_
  refine lv_iload_n hx hb dJ6_bitCount_0f7a4_35 rfl (lv_at hl 0 rfl) ?_
  refine lv_bipush (v := 8) hx hb dJ6_bitCount_0f7a4_36 (by decide) ?_
  refine lv_iushr (v := ((((((x - (((x.toUInt32 >>> ((1 : Int32).toUInt32 &&& Int32.toUInt32 31)).toInt32) &&& 1431655765)) &&& 858993459) + ((((x - (((x.toUInt32 >>> ((1 : Int32).toUInt32 &&& Int32.toUInt32 31)).toInt32) &&& 1431655765)).toUInt32 >>> ((2 : Int32).toUInt32 &&& Int32.toUInt32 31)).toInt32) &&& 858993459)) + (((((x - (((x.toUInt32 >>> ((1 : Int32).toUInt32 &&& Int32.toUInt32 31)).toInt32) &&& 1431655765)) &&& 858993459) + ((((x - (((x.toUInt32 >>> ((1 : Int32).toUInt32 &&& Int32.toUInt32 31)).toInt32) &&& 1431655765)).toUInt32 >>> ((2 : Int32).toUInt32 &&& Int32.toUInt32 31)).toInt32) &&& 858993459)).toUInt32 >>> ((4 : Int32).toUInt32 &&& Int32.toUInt32 31)).toInt32)) &&& 252645135).toUInt32 >>> ((8 : Int32).toUInt32 &&& Int32.toUInt32 31)).toInt32) hx hb dJ6_bitCount_0f7a4_38 rfl ?_
  refine lv_iadd hx hb dJ6_bitCount_0f7a4_39 ?_
  refine lv_istore_n (lv' := [(0, .int ((((((x - (((x.toUInt32 >>> ((1 : Int32).toUInt32 &&& Int32.toUInt32 31)).toInt32) &&& 1431655765)) &&& 858993459) + ((((x - (((x.toUInt32 >>> ((1 : Int32).toUInt32 &&& Int32.toUInt32 31)).toInt32) &&& 1431655765)).toUInt32 >>> ((2 : Int32).toUInt32 &&& Int32.toUInt32 31)).toInt32) &&& 858993459)) + (((((x - (((x.toUInt32 >>> ((1 : Int32).toUInt32 &&& Int32.toUInt32 31)).toInt32) &&& 1431655765)) &&& 858993459) + ((((x - (((x.toUInt32 >>> ((1 : Int32).toUInt32 &&& Int32.toUInt32 31)).toInt32) &&& 1431655765)).toUInt32 >>> ((2 : Int32).toUInt32 &&& Int32.toUInt32 31)).toInt32) &&& 858993459)).toUInt32 >>> ((4 : Int32).toUInt32 &&& Int32.toUInt32 31)).toInt32)) &&& 252645135) + (((((((x - (((x.toUInt32 >>> ((1 : Int32).toUInt32 &&& Int32.toUInt32 31)).toInt32) &&& 1431655765)) &&& 858993459) + ((((x - (((x.toUInt32 >>> ((1 : Int32).toUInt32 &&& Int32.toUInt32 31)).toInt32) &&& 1431655765)).toUInt32 >>> ((2 : Int32).toUInt32 &&& Int32.toUInt32 31)).toInt32) &&& 858993459)) + (((((x - (((x.toUInt32 >>> ((1 : Int32).toUInt32 &&& Int32.toUInt32 31)).toInt32) &&& 1431655765)) &&& 858993459) + ((((x - (((x.toUInt32 >>> ((1 : Int32).toUInt32 &&& Int32.toUInt32 31)).toInt32) &&& 1431655765)).toUInt32 >>> ((2 : Int32).toUInt32 &&& Int32.toUInt32 31)).toInt32) &&& 858993459)).toUInt32 >>> ((4 : Int32).toUInt32 &&& Int32.toUInt32 31)).toInt32)) &&& 252645135).toUInt32 >>> ((8 : Int32).toUInt32 &&& Int32.toUInt32 31)).toInt32)))]) hx hb dJ6_bitCount_0f7a4_40 rfl hl (by decide) rfl (fun ls hl => ?_)
  refine lv_iload_n hx hb dJ6_bitCount_0f7a4_41 rfl (lv_at hl 0 rfl) ?_
  refine lv_iload_n hx hb dJ6_bitCount_0f7a4_42 rfl (lv_at hl 0 rfl) ?_
  refine lv_bipush (v := 16) hx hb dJ6_bitCount_0f7a4_43 (by decide) ?_
  refine lv_iushr (v := (((((((x - (((x.toUInt32 >>> ((1 : Int32).toUInt32 &&& Int32.toUInt32 31)).toInt32) &&& 1431655765)) &&& 858993459) + ((((x - (((x.toUInt32 >>> ((1 : Int32).toUInt32 &&& Int32.toUInt32 31)).toInt32) &&& 1431655765)).toUInt32 >>> ((2 : Int32).toUInt32 &&& Int32.toUInt32 31)).toInt32) &&& 858993459)) + (((((x - (((x.toUInt32 >>> ((1 : Int32).toUInt32 &&& Int32.toUInt32 31)).toInt32) &&& 1431655765)) &&& 858993459) + ((((x - (((x.toUInt32 >>> ((1 : Int32).toUInt32 &&& Int32.toUInt32 31)).toInt32) &&& 1431655765)).toUInt32 >>> ((2 : Int32).toUInt32 &&& Int32.toUInt32 31)).toInt32) &&& 858993459)).toUInt32 >>> ((4 : Int32).toUInt32 &&& Int32.toUInt32 31)).toInt32)) &&& 252645135) + (((((((x - (((x.toUInt32 >>> ((1 : Int32).toUInt32 &&& Int32.toUInt32 31)).toInt32) &&& 1431655765)) &&& 858993459) + ((((x - (((x.toUInt32 >>> ((1 : Int32).toUInt32 &&& Int32.toUInt32 31)).toInt32) &&& 1431655765)).toUInt32 >>> ((2 : Int32).toUInt32 &&& Int32.toUInt32 31)).toInt32) &&& 858993459)) + (((((x - (((x.toUInt32 >>> ((1 : Int32).toUInt32 &&& Int32.toUInt32 31)).toInt32) &&& 1431655765)) &&& 858993459) + ((((x - (((x.toUInt32 >>> ((1 : Int32).toUInt32 &&& Int32.toUInt32 31)).toInt32) &&& 1431655765)).toUInt32 >>> ((2 : Int32).toUInt32 &&& Int32.toUInt32 31)).toInt32) &&& 858993459)).toUInt32 >>> ((4 : Int32).toUInt32 &&& Int32.toUInt32 31)).toInt32)) &&& 252645135).toUInt32 >>> ((8 : Int32).toUInt32 &&& Int32.toUInt32 31)).toInt32)).toUInt32 >>> ((16 : Int32).toUInt32 &&& Int32.toUInt32 31)).toInt32) hx hb dJ6_bitCount_0f7a4_45 rfl ?_
  refine lv_iadd hx hb dJ6_bitCount_0f7a4_46 ?_
  refine lv_istore_n (lv' := [(0, .int (((((((x - (((x.toUInt32 >>> ((1 : Int32).toUInt32 &&& Int32.toUInt32 31)).toInt32) &&& 1431655765)) &&& 858993459) + ((((x - (((x.toUInt32 >>> ((1 : Int32).toUInt32 &&& Int32.toUInt32 31)).toInt32) &&& 1431655765)).toUInt32 >>> ((2 : Int32).toUInt32 &&& Int32.toUInt32 31)).toInt32) &&& 858993459)) + (((((x - (((x.toUInt32 >>> ((1 : Int32).toUInt32 &&& Int32.toUInt32 31)).toInt32) &&& 1431655765)) &&& 858993459) + ((((x - (((x.toUInt32 >>> ((1 : Int32).toUInt32 &&& Int32.toUInt32 31)).toInt32) &&& 1431655765)).toUInt32 >>> ((2 : Int32).toUInt32 &&& Int32.toUInt32 31)).toInt32) &&& 858993459)).toUInt32 >>> ((4 : Int32).toUInt32 &&& Int32.toUInt32 31)).toInt32)) &&& 252645135) + (((((((x - (((x.toUInt32 >>> ((1 : Int32).toUInt32 &&& Int32.toUInt32 31)).toInt32) &&& 1431655765)) &&& 858993459) + ((((x - (((x.toUInt32 >>> ((1 : Int32).toUInt32 &&& Int32.toUInt32 31)).toInt32) &&& 1431655765)).toUInt32 >>> ((2 : Int32).toUInt32 &&& Int32.toUInt32 31)).toInt32) &&& 858993459)) + (((((x - (((x.toUInt32 >>> ((1 : Int32).toUInt32 &&& Int32.toUInt32 31)).toInt32) &&& 1431655765)) &&& 858993459) + ((((x - (((x.toUInt32 >>> ((1 : Int32).toUInt32 &&& Int32.toUInt32 31)).toInt32) &&& 1431655765)).toUInt32 >>> ((2 : Int32).toUInt32 &&& Int32.toUInt32 31)).toInt32) &&& 858993459)).toUInt32 >>> ((4 : Int32).toUInt32 &&& Int32.toUInt32 31)).toInt32)) &&& 252645135).toUInt32 >>> ((8 : Int32).toUInt32 &&& Int32.toUInt32 31)).toInt32)) + ((((((((x - (((x.toUInt32 >>> ((1 : Int32).toUInt32 &&& Int32.toUInt32 31)).toInt32) &&& 1431655765)) &&& 858993459) + ((((x - (((x.toUInt32 >>> ((1 : Int32).toUInt32 &&& Int32.toUInt32 31)).toInt32) &&& 1431655765)).toUInt32 >>> ((2 : Int32).toUInt32 &&& Int32.toUInt32 31)).toInt32) &&& 858993459)) + (((((x - (((x.toUInt32 >>> ((1 : Int32).toUInt32 &&& Int32.toUInt32 31)).toInt32) &&& 1431655765)) &&& 858993459) + ((((x - (((x.toUInt32 >>> ((1 : Int32).toUInt32 &&& Int32.toUInt32 31)).toInt32) &&& 1431655765)).toUInt32 >>> ((2 : Int32).toUInt32 &&& Int32.toUInt32 31)).toInt32) &&& 858993459)).toUInt32 >>> ((4 : Int32).toUInt32 &&& Int32.toUInt32 31)).toInt32)) &&& 252645135) + (((((((x - (((x.toUInt32 >>> ((1 : Int32).toUInt32 &&& Int32.toUInt32 31)).toInt32) &&& 1431655765)) &&& 858993459) + ((((x - (((x.toUInt32 >>> ((1 : Int32).toUInt32 &&& Int32.toUInt32 31)).toInt32) &&& 1431655765)).toUInt32 >>> ((2 : Int32).toUInt32 &&& Int32.toUInt32 31)).toInt32) &&& 858993459)) + (((((x - (((x.toUInt32 >>> ((1 : Int32).toUInt32 &&& Int32.toUInt32 31)).toInt32) &&& 1431655765)) &&& 858993459) + ((((x - (((x.toUInt32 >>> ((1 : Int32).toUInt32 &&& Int32.toUInt32 31)).toInt32) &&& 1431655765)).toUInt32 >>> ((2 : Int32).toUInt32 &&& Int32.toUInt32 31)).toInt32) &&& 858993459)).toUInt32 >>> ((4 : Int32).toUInt32 &&& Int32.toUInt32 31)).toInt32)) &&& 252645135).toUInt32 >>> ((8 : Int32).toUInt32 &&& Int32.toUInt32 31)).toInt32)).toUInt32 >>> ((16 : Int32).toUInt32 &&& Int32.toUInt32 31)).toInt32)))]) hx hb dJ6_bitCount_0f7a4_47 rfl hl (by decide) rfl (fun ls hl => ?_)
  refine lv_iload_n hx hb dJ6_bitCount_0f7a4_48 rfl (lv_at hl 0 rfl) ?_
  refine lv_bipush (v := 63) hx hb dJ6_bitCount_0f7a4_49 (by decide) ?_
  refine lv_iand hx hb dJ6_bitCount_0f7a4_51 ?_
  exact hend _ _ _ rfl dJ6_bitCount_0f7a4_52

abbrev rX1_stuckCells : Room := { frames := 1, cells := 0, slots := 0, locals := 24 }
set_option maxHeartbeats 4000000 in
set_option maxRecDepth 100000 in
theorem k_X1_stuckCells (l : Launch) (dC : Nat → ClassId) (dI : Nat → Nat → Nat) (ad : Nat → Nat) (cI : ClassId) (σ : zS) (hok : zok σ) : zRi l yX1_stuckCells wsX1_stuckCells rX1_stuckCells (dC, dI) [.ref (ad 0)] (zW ad cI σ) [(cI, .int)] (fun r => r = pSum (fun k => pBC (pst σ k)) 18) := by
  refine zRi_of (cc := cX1_stuckCells) (maxL := 3) (ty := .int) (by decide) rfl (Nat.le_of_ble_eq_true rfl) (fun _ _ => rfl) ?_
  intro p e s m args below meth cd Q ls hat hP hK hend
  obtain ⟨hx, hb, hml, hown, hts, hl⟩ := hat
  replace hown : s.vm.findClass RX1 = some m.cls := hown
  replace hl : lv_has ls 3 [(0, .ref (ad 0))] := hl
  replace hP : va_P (dC, dI) vwCl [((ad 0), .inr (1, [.ref (ad 1), .ref (ad 2), .ref (ad 3), .ref (ad 4), .ref (ad 5), .ref (ad 6), .ref (ad 7), .ref (ad 8), .int (zc0 σ), .int (zc1 σ), .int (zc2 σ), .int (zc3 σ), .int (zc4 σ)])), ((ad 1), .inl (cI, 18, .inl (zhd σ))), ((ad 2), .inl (cI, 234, .inl (zwn σ))), ((ad 3), .inl (cI, 18, .inl (zwi σ))), ((ad 4), .inl (cI, 16, .inl (fun w => nI (zpl σ w)))), ((ad 5), .inl (cI, 16, .inl (zwh σ))), ((ad 6), .inl (cI, 16, .inl (zwo σ))), ((ad 7), .inl (cI, 16, .inl (zmo σ))), ((ad 8), .inl (cI, 2, .inl (zst σ)))] s.heap := hP
  refine lv_iconst (v := 0) hx hb dX1_stuckCells_0 (by decide) ?_
  refine lv_istore_n (lv' := [(1, .int 0), (0, .ref (ad 0))]) hx hb dX1_stuckCells_1 rfl hl (by decide) rfl (fun ls hl => ?_)
  refine lv_iconst (v := 0) hx hb dX1_stuckCells_2 (by decide) ?_
  refine lv_istore_n (lv' := [(2, .int 0), (1, .int 0), (0, .ref (ad 0))]) hx hb dX1_stuckCells_3 rfl hl (by decide) rfl (fun ls hl => ?_)
  have hC_4 : ∀ (nf : Nat) (x : Int32) (c : Nat) (ls : Array Slot), 18 - c < nf → lv_has ls 3 [(0, .ref (ad 0)), (1, .int x), (2, .int (nI c))] → (c ≤ 18) → (x = pSum (fun k => pBC (pst σ k)) c) → W p l e rX1_stuckCells s m args below meth cd s.heap [] 0 0 Q (F0 m 4 ls []) := by
    intro nf
    induction nf with
    | zero => intro x c ls hm_4 hl hc ex; exact absurd hm_4 (Nat.not_lt_zero _)
    | succ nf ih_4 =>
      intro x c ls hm_4 hl hc ex
      refine lv_iload_n hx hb dX1_stuckCells_4 rfl (lv_at hl 2 rfl) ?_
      refine lv_bipush (v := 18) hx hb dX1_stuckCells_5 (by decide) ?_
      refine z_ge hx hb c 18 (by omega) (by omega) (tgt := 27) dX1_stuckCells_7 (by decide) (fun c_1 => ?_) (fun c_1 => ?_)
      · skip
        refine lv_iload_n hx hb dX1_stuckCells_27 rfl (lv_at hl 1 rfl) ?_
        exact hend _ _ _ (by rw [ex, show c = 18 by omega]) dX1_stuckCells_28
      · skip
        refine lv_iload_n hx hb dX1_stuckCells_10 rfl (lv_at hl 1 rfl) ?_
        refine lv_aload_n hx hb dX1_stuckCells_11 rfl (lv_at hl 0 rfl) ?_
        refine lv_iload_n hx hb dX1_stuckCells_12 rfl (lv_at hl 2 rfl) ?_
        refine z_cVi (As := [.int (nI c)]) (rest := [.int x]) ⟨hx, hb, hml, hown, hts⟩ (k_X1_stuckIn l dC dI ad cI σ hok c (by omega)) (cwV 1 hts gX1_stuckCells_X1_stuckIn rfl rfl rfl (by decide +kernel) ⟨Nat.le_of_ble_eq_true rfl, Nat.le_of_ble_eq_true rfl⟩) (va_recv hK hP (ci := 1) (q0 := 0) rfl rfl) hP hK rfl hl.1 rfl (Nat.le_of_ble_eq_true rfl) dX1_stuckCells_13 ⟨Nat.le_of_ble_eq_true rfl, Nat.le_of_ble_eq_true rfl⟩ (fun r_2 hr_2 => ?_)
        subst hr_2
        refine z_cSi (As := [.int (pst σ c)]) (rest := [.int x]) ⟨hx, hb, hml, hown, hts⟩ (k_J6_bitCount_0f7a4 l dC dI (pst σ c)) (va_cwS 1 hts gX1_stuckCells_J6_bitCount_0f7a4 rfl rfl rfl (by decide +kernel) ⟨Nat.le_of_ble_eq_true rfl, Nat.le_of_ble_eq_true rfl⟩) (hP.sub (ws' := []) [] rfl) (hK.sub (tys' := []) [] rfl) rfl hl.1 rfl (Nat.le_of_ble_eq_true rfl) dX1_stuckCells_16 ⟨Nat.le_of_ble_eq_true rfl, Nat.le_of_ble_eq_true rfl⟩ (fun r_3 hr_3 => ?_)
        subst hr_3
        refine lv_iadd hx hb dX1_stuckCells_19 ?_
        refine lv_istore_n (lv' := [(1, .int (x + (pBC (pst σ c)))), (0, .ref (ad 0)), (2, .int (nI c))]) hx hb dX1_stuckCells_20 rfl hl (by decide) rfl (fun ls hl => ?_)
        refine lv_iinc (v := nI (c + 1)) (lv' := [(2, .int (nI (c + 1))), (1, .int (x + (pBC (pst σ c)))), (0, .ref (ad 0))]) hx hb dX1_stuckCells_21 hl (k := 2) rfl (z_inc1 _) (by decide) rfl (fun ls hl => ?_)
        refine lv_goto (tgt := 4) hx hb dX1_stuckCells_24 (by decide) ?_
        exact ih_4 (x + (pBC (pst σ c))) (c + 1) _ (by omega) (lv_sub hl [2, 1, 0] rfl) (by omega) (by rw [ex]; rfl)
  exact hC_4 _ 0 0 _ (Nat.lt_succ_self _) (lv_sub hl [2, 1, 0] rfl) (by omega) (rfl)

abbrev rX1_numberIn : Room := { frames := 0, cells := 0, slots := 0, locals := 0 }
set_option maxHeartbeats 4000000 in
set_option maxRecDepth 100000 in
theorem k_X1_numberIn (l : Launch) (dC : Nat → ClassId) (dI : Nat → Nat → Nat) (ad : Nat → Nat) (cI : ClassId) (σ : zS) (hok : zok σ) (j : Nat) (hj : j < 18) : zRi l yX1_numberIn wsX1_numberIn rX1_numberIn (dC, dI) [.ref (ad 0), .int (nI j)] (zW ad cI σ) [(cI, .int)] (fun r => r = pNum (zhd σ j)) := by
  refine zRi_of (cc := cX1_numberIn) (maxL := 3) (ty := .int) (by decide) rfl (Nat.le_of_ble_eq_true rfl) (fun _ _ => rfl) ?_
  intro p e s m args below meth cd Q ls hat hP hK hend
  obtain ⟨hx, hb, hml, hown, hts, hl⟩ := hat
  replace hown : s.vm.findClass RX1 = some m.cls := hown
  replace hl : lv_has ls 3 [(0, .ref (ad 0)), (1, .int (nI j))] := hl
  replace hP : va_P (dC, dI) vwCl [((ad 0), .inr (1, [.ref (ad 1), .ref (ad 2), .ref (ad 3), .ref (ad 4), .ref (ad 5), .ref (ad 6), .ref (ad 7), .ref (ad 8), .int (zc0 σ), .int (zc1 σ), .int (zc2 σ), .int (zc3 σ), .int (zc4 σ)])), ((ad 1), .inl (cI, 18, .inl (zhd σ))), ((ad 2), .inl (cI, 234, .inl (zwn σ))), ((ad 3), .inl (cI, 18, .inl (zwi σ))), ((ad 4), .inl (cI, 16, .inl (fun w => nI (zpl σ w)))), ((ad 5), .inl (cI, 16, .inl (zwh σ))), ((ad 6), .inl (cI, 16, .inl (zwo σ))), ((ad 7), .inl (cI, 16, .inl (zmo σ))), ((ad 8), .inl (cI, 2, .inl (zst σ)))] s.heap := hP
  have hf9 := hts (.fieldLink RX1 9 "InsideOutWords$State" "held" "[I") (by decide +kernel)
  have hnX1 : ∀ w ∈ u_ws RX1 TX1 13, w ∈ wsX1_numberIn := by decide +kernel
  refine lv_aload_n hx hb dX1_numberIn_0 rfl (lv_at hl 0 rfl) ?_
  refine va_get (D := (dC, dI)) (ci := 1) (v := .ref (ad 1)) (C := RX1) (T := TX1) (N := 13) hx hb hts hnX1 hown hK hP 0 rfl rfl 0 (by decide) hf9 (fun _ h9 => h9) rfl dX1_numberIn_1 ?_
  refine lv_iload_n hx hb dX1_numberIn_4 rfl (lv_at hl 1 rfl) ?_
  refine z_ald hx hb hK hP 1 0 j (f := (zhd σ)) rfl rfl (by first | omega | decide) (by first | decide | omega) dX1_numberIn_5 ?_
  refine lv_istore_n (lv' := [(2, .int ((zhd σ) j)), (0, .ref (ad 0)), (1, .int (nI j))]) hx hb dX1_numberIn_6 rfl hl (by decide) rfl (fun ls hl => ?_)
  refine lv_iload_n hx hb dX1_numberIn_7 rfl (lv_at hl 0 rfl) ?_
  refine lv_sipush (v := 4096) hx hb dX1_numberIn_8 (by decide) ?_
  refine lv_iand hx hb dX1_numberIn_11 ?_
  refine lv_if_ne (tgt := 19) hx hb dX1_numberIn_12 (by decide) (fun c_1 => ?_) (fun c_1 => ?_)
  · skip
    refine lv_iload_n hx hb dX1_numberIn_19 rfl (lv_at hl 0 rfl) ?_
    refine lv_iconst (v := (-1)) hx hb dX1_numberIn_20 (by decide) ?_
    refine lv_ixor hx hb dX1_numberIn_21 ?_
    refine lv_sipush (v := 4095) hx hb dX1_numberIn_22 (by decide) ?_
    refine lv_iand hx hb dX1_numberIn_25 ?_
    exact hend _ _ _ (by simp [pNum, c_1]) dX1_numberIn_26
  · skip
    refine lv_iload_n hx hb dX1_numberIn_15 rfl (lv_at hl 0 rfl) ?_
    refine lv_goto (tgt := 26) hx hb dX1_numberIn_16 (by decide) ?_
    exact hend _ _ _ (by simp [pNum, eq_true c_1]) dX1_numberIn_26

abbrev rX1_numberOf : Room := { frames := 1, cells := 0, slots := 0, locals := 22 }
set_option maxHeartbeats 4000000 in
set_option maxRecDepth 100000 in
theorem k_X1_numberOf (l : Launch) (dC : Nat → ClassId) (dI : Nat → Nat → Nat) (ad : Nat → Nat) (cI : ClassId) (σ : zS) (hok : zok σ) (j : Nat) (hj : j < 16) : zRi l yX1_numberOf wsX1_numberOf rX1_numberOf (dC, dI) [.ref (ad 0), .int (nI j)] (zW ad cI σ) [(cI, .int)] (fun r => r = pnm σ j) := by
  refine zRi_of (cc := cX1_numberOf) (maxL := 2) (ty := .int) (by decide) rfl (Nat.le_of_ble_eq_true rfl) (fun _ _ => rfl) ?_
  intro p e s m args below meth cd Q ls hat hP hK hend
  obtain ⟨hx, hb, hml, hown, hts, hl⟩ := hat
  replace hown : s.vm.findClass RX1 = some m.cls := hown
  replace hl : lv_has ls 2 [(0, .ref (ad 0)), (1, .int (nI j))] := hl
  replace hP : va_P (dC, dI) vwCl [((ad 0), .inr (1, [.ref (ad 1), .ref (ad 2), .ref (ad 3), .ref (ad 4), .ref (ad 5), .ref (ad 6), .ref (ad 7), .ref (ad 8), .int (zc0 σ), .int (zc1 σ), .int (zc2 σ), .int (zc3 σ), .int (zc4 σ)])), ((ad 1), .inl (cI, 18, .inl (zhd σ))), ((ad 2), .inl (cI, 234, .inl (zwn σ))), ((ad 3), .inl (cI, 18, .inl (zwi σ))), ((ad 4), .inl (cI, 16, .inl (fun w => nI (zpl σ w)))), ((ad 5), .inl (cI, 16, .inl (zwh σ))), ((ad 6), .inl (cI, 16, .inl (zwo σ))), ((ad 7), .inl (cI, 16, .inl (zmo σ))), ((ad 8), .inl (cI, 2, .inl (zst σ)))] s.heap := hP
  have hf21 := hts (.fieldLink RX1 21 "InsideOutWords$State" "slotOf" "[I") (by decide +kernel)
  have hnX1 : ∀ w ∈ u_ws RX1 TX1 13, w ∈ wsX1_numberOf := by decide +kernel
  refine lv_aload_n hx hb dX1_numberOf_0 rfl (lv_at hl 0 rfl) ?_
  refine lv_aload_n hx hb dX1_numberOf_1 rfl (lv_at hl 0 rfl) ?_
  refine va_get (D := (dC, dI)) (ci := 1) (v := .ref (ad 4)) (C := RX1) (T := TX1) (N := 13) hx hb hts hnX1 hown hK hP 0 rfl rfl 3 (by decide) hf21 (fun _ h9 => h9) rfl dX1_numberOf_2 ?_
  refine lv_iload_n hx hb dX1_numberOf_5 rfl (lv_at hl 1 rfl) ?_
  refine z_ald hx hb hK hP 4 0 j (f := (fun w => nI (zpl σ w))) rfl rfl (by first | omega | decide) (by first | decide | omega) dX1_numberOf_6 ?_
  have hq_1 : zpl σ j < 18 := hok _ (by omega)
  refine z_cVi (As := [.int (nI (zpl σ j))]) (rest := []) ⟨hx, hb, hml, hown, hts⟩ (k_X1_numberIn l dC dI ad cI σ hok (zpl σ j) (by omega)) (cwV 1 hts gX1_numberOf_X1_numberIn rfl rfl rfl (by decide +kernel) ⟨Nat.le_of_ble_eq_true rfl, Nat.le_of_ble_eq_true rfl⟩) (va_recv hK hP (ci := 1) (q0 := 0) rfl rfl) hP hK rfl hl.1 rfl (Nat.le_of_ble_eq_true rfl) dX1_numberOf_7 ⟨Nat.le_of_ble_eq_true rfl, Nat.le_of_ble_eq_true rfl⟩ (fun r_2 hr_2 => ?_)
  subst hr_2
  exact hend _ _ _ rfl dX1_numberOf_10

abbrev rX1_sumOfWords : Room := { frames := 2, cells := 0, slots := 0, locals := 43 }
set_option maxHeartbeats 4000000 in
set_option maxRecDepth 100000 in
theorem k_X1_sumOfWords (l : Launch) (dC : Nat → ClassId) (dI : Nat → Nat → Nat) (ad : Nat → Nat) (cI : ClassId) (σ : zS) (hok : zok σ) : zRi l yX1_sumOfWords wsX1_sumOfWords rX1_sumOfWords (dC, dI) [.ref (ad 0)] (zW ad cI σ) [(cI, .int)] (fun r => r = pSum (pnm σ) 16) := by
  refine zRi_of (cc := cX1_sumOfWords) (maxL := 3) (ty := .int) (by decide) rfl (Nat.le_of_ble_eq_true rfl) (fun _ _ => rfl) ?_
  intro p e s m args below meth cd Q ls hat hP hK hend
  obtain ⟨hx, hb, hml, hown, hts, hl⟩ := hat
  replace hown : s.vm.findClass RX1 = some m.cls := hown
  replace hl : lv_has ls 3 [(0, .ref (ad 0))] := hl
  replace hP : va_P (dC, dI) vwCl [((ad 0), .inr (1, [.ref (ad 1), .ref (ad 2), .ref (ad 3), .ref (ad 4), .ref (ad 5), .ref (ad 6), .ref (ad 7), .ref (ad 8), .int (zc0 σ), .int (zc1 σ), .int (zc2 σ), .int (zc3 σ), .int (zc4 σ)])), ((ad 1), .inl (cI, 18, .inl (zhd σ))), ((ad 2), .inl (cI, 234, .inl (zwn σ))), ((ad 3), .inl (cI, 18, .inl (zwi σ))), ((ad 4), .inl (cI, 16, .inl (fun w => nI (zpl σ w)))), ((ad 5), .inl (cI, 16, .inl (zwh σ))), ((ad 6), .inl (cI, 16, .inl (zwo σ))), ((ad 7), .inl (cI, 16, .inl (zmo σ))), ((ad 8), .inl (cI, 2, .inl (zst σ)))] s.heap := hP
  refine lv_iconst (v := 0) hx hb dX1_sumOfWords_0 (by decide) ?_
  refine lv_istore_n (lv' := [(1, .int 0), (0, .ref (ad 0))]) hx hb dX1_sumOfWords_1 rfl hl (by decide) rfl (fun ls hl => ?_)
  refine lv_iconst (v := 0) hx hb dX1_sumOfWords_2 (by decide) ?_
  refine lv_istore_n (lv' := [(2, .int 0), (1, .int 0), (0, .ref (ad 0))]) hx hb dX1_sumOfWords_3 rfl hl (by decide) rfl (fun ls hl => ?_)
  have hC_4 : ∀ (nf : Nat) (x : Int32) (c : Nat) (ls : Array Slot), 16 - c < nf → lv_has ls 3 [(0, .ref (ad 0)), (1, .int x), (2, .int (nI c))] → (c ≤ 16) → (x = pSum (pnm σ) c) → W p l e rX1_sumOfWords s m args below meth cd s.heap [] 0 0 Q (F0 m 4 ls []) := by
    intro nf
    induction nf with
    | zero => intro x c ls hm_4 hl hc ex; exact absurd hm_4 (Nat.not_lt_zero _)
    | succ nf ih_4 =>
      intro x c ls hm_4 hl hc ex
      refine lv_iload_n hx hb dX1_sumOfWords_4 rfl (lv_at hl 2 rfl) ?_
      refine lv_bipush (v := 16) hx hb dX1_sumOfWords_5 (by decide) ?_
      refine z_ge hx hb c 16 (by omega) (by omega) (tgt := 24) dX1_sumOfWords_7 (by decide) (fun c_1 => ?_) (fun c_1 => ?_)
      · skip
        refine lv_iload_n hx hb dX1_sumOfWords_24 rfl (lv_at hl 1 rfl) ?_
        exact hend _ _ _ (by rw [ex, show c = 16 by omega]) dX1_sumOfWords_25
      · skip
        refine lv_iload_n hx hb dX1_sumOfWords_10 rfl (lv_at hl 1 rfl) ?_
        refine lv_aload_n hx hb dX1_sumOfWords_11 rfl (lv_at hl 0 rfl) ?_
        refine lv_iload_n hx hb dX1_sumOfWords_12 rfl (lv_at hl 2 rfl) ?_
        refine z_cVi (As := [.int (nI c)]) (rest := [.int x]) ⟨hx, hb, hml, hown, hts⟩ (k_X1_numberOf l dC dI ad cI σ hok c (by omega)) (cwV 1 hts gX1_sumOfWords_X1_numberOf rfl rfl rfl (by decide +kernel) ⟨Nat.le_of_ble_eq_true rfl, Nat.le_of_ble_eq_true rfl⟩) (va_recv hK hP (ci := 1) (q0 := 0) rfl rfl) hP hK rfl hl.1 rfl (Nat.le_of_ble_eq_true rfl) dX1_sumOfWords_13 ⟨Nat.le_of_ble_eq_true rfl, Nat.le_of_ble_eq_true rfl⟩ (fun r_2 hr_2 => ?_)
        subst hr_2
        refine lv_iadd hx hb dX1_sumOfWords_16 ?_
        refine lv_istore_n (lv' := [(1, .int (x + (pnm σ c))), (0, .ref (ad 0)), (2, .int (nI c))]) hx hb dX1_sumOfWords_17 rfl hl (by decide) rfl (fun ls hl => ?_)
        refine lv_iinc (v := nI (c + 1)) (lv' := [(2, .int (nI (c + 1))), (1, .int (x + (pnm σ c))), (0, .ref (ad 0))]) hx hb dX1_sumOfWords_18 hl (k := 2) rfl (z_inc1 _) (by decide) rfl (fun ls hl => ?_)
        refine lv_goto (tgt := 4) hx hb dX1_sumOfWords_21 (by decide) ?_
        exact ih_4 (x + (pnm σ c)) (c + 1) _ (by omega) (lv_sub hl [2, 1, 0] rfl) (by omega) (by rw [ex]; rfl)
  exact hC_4 _ 0 0 _ (Nat.lt_succ_self _) (lv_sub hl [2, 1, 0] rfl) (by omega) (rfl)

abbrev rX1_isHot : Room := { frames := 0, cells := 0, slots := 0, locals := 0 }
set_option maxHeartbeats 4000000 in
set_option maxRecDepth 100000 in
theorem k_X1_isHot (l : Launch) (dC : Nat → ClassId) (dI : Nat → Nat → Nat) (ad : Nat → Nat) (cI : ClassId) (σ : zS) (hok : zok σ) (j : Nat) (hj : j < 16) : zRi l yX1_isHot wsX1_isHot rX1_isHot (dC, dI) [.ref (ad 0), .int (nI j)] (zW ad cI σ) [(cI, .int)] (fun r => r = if pht σ j then 1 else 0) := by
  refine zRi_of (cc := cX1_isHot) (maxL := 2) (ty := .boolean) (by decide) rfl (Nat.le_of_ble_eq_true rfl) (fun v h => by subst h; split <;> rfl) ?_
  intro p e s m args below meth cd Q ls hat hP hK hend
  obtain ⟨hx, hb, hml, hown, hts, hl⟩ := hat
  replace hown : s.vm.findClass RX1 = some m.cls := hown
  replace hl : lv_has ls 2 [(0, .ref (ad 0)), (1, .int (nI j))] := hl
  replace hP : va_P (dC, dI) vwCl [((ad 0), .inr (1, [.ref (ad 1), .ref (ad 2), .ref (ad 3), .ref (ad 4), .ref (ad 5), .ref (ad 6), .ref (ad 7), .ref (ad 8), .int (zc0 σ), .int (zc1 σ), .int (zc2 σ), .int (zc3 σ), .int (zc4 σ)])), ((ad 1), .inl (cI, 18, .inl (zhd σ))), ((ad 2), .inl (cI, 234, .inl (zwn σ))), ((ad 3), .inl (cI, 18, .inl (zwi σ))), ((ad 4), .inl (cI, 16, .inl (fun w => nI (zpl σ w)))), ((ad 5), .inl (cI, 16, .inl (zwh σ))), ((ad 6), .inl (cI, 16, .inl (zwo σ))), ((ad 7), .inl (cI, 16, .inl (zmo σ))), ((ad 8), .inl (cI, 2, .inl (zst σ)))] s.heap := hP
  have hf33 := hts (.fieldLink RX1 33 "InsideOutWords$State" "settings" "[I") (by decide +kernel)
  have hnX1 : ∀ w ∈ u_ws RX1 TX1 13, w ∈ wsX1_isHot := by decide +kernel
  have hf24 := hts (.fieldLink RX1 24 "InsideOutWords$State" "writesHere" "[I") (by decide +kernel)
  refine lv_aload_n hx hb dX1_isHot_0 rfl (lv_at hl 0 rfl) ?_
  refine va_get (D := (dC, dI)) (ci := 1) (v := .ref (ad 8)) (C := RX1) (T := TX1) (N := 13) hx hb hts hnX1 hown hK hP 0 rfl rfl 7 (by decide) hf33 (fun _ h9 => h9) rfl dX1_isHot_1 ?_
  refine lv_iconst (v := 1) hx hb dX1_isHot_4 (by decide) ?_
  refine z_ald hx hb hK hP 8 0 1 (f := (zst σ)) rfl rfl (by first | omega | decide) (by first | decide | omega) dX1_isHot_5 ?_
  refine lv_if_le (tgt := 28) hx hb dX1_isHot_6 (by decide) (fun c_1 => ?_) (fun c_1 => ?_)
  · skip
    refine lv_iconst (v := 0) hx hb dX1_isHot_28 (by decide) ?_
    exact hend _ _ _ (by simp [pht, pHot, c_1]) dX1_isHot_29
  · skip
    refine lv_aload_n hx hb dX1_isHot_9 rfl (lv_at hl 0 rfl) ?_
    refine va_get (D := (dC, dI)) (ci := 1) (v := .ref (ad 5)) (C := RX1) (T := TX1) (N := 13) hx hb hts hnX1 hown hK hP 0 rfl rfl 4 (by decide) hf24 (fun _ h9 => h9) rfl dX1_isHot_10 ?_
    refine lv_iload_n hx hb dX1_isHot_13 rfl (lv_at hl 1 rfl) ?_
    refine z_ald hx hb hK hP 5 0 j (f := (zwh σ)) rfl rfl (by first | omega | decide) (by first | decide | omega) dX1_isHot_14 ?_
    refine lv_aload_n hx hb dX1_isHot_15 rfl (lv_at hl 0 rfl) ?_
    refine va_get (D := (dC, dI)) (ci := 1) (v := .ref (ad 8)) (C := RX1) (T := TX1) (N := 13) hx hb hts hnX1 hown hK hP 0 rfl rfl 7 (by decide) hf33 (fun _ h9 => h9) rfl dX1_isHot_16 ?_
    refine lv_iconst (v := 1) hx hb dX1_isHot_19 (by decide) ?_
    refine z_ald hx hb hK hP 8 0 1 (f := (zst σ)) rfl rfl (by first | omega | decide) (by first | decide | omega) dX1_isHot_20 ?_
    have hJ_2 : ∀ b_2 : Int32, b_2 = (if ¬ (((zwh σ) j) < ((zst σ) 1)) then 1 else 0) → W p l e rX1_isHot s m args below meth cd s.heap [] 0 0 Q (F0 m 29 ls (.int b_2 :: [])) := by
      intro b_2 eb_2
      exact hend _ _ _ (by simp [pht, pHot, c_1, eb_2]) dX1_isHot_29
    refine lv_icmp_lt (tgt := 28) hx hb dX1_isHot_21 (by decide) (fun c_2 => ?_) (fun c_2 => ?_)
    · refine lv_iconst (v := 0) hx hb dX1_isHot_28 (by decide) ?_
      exact hJ_2 _ (if_neg (fun z => z c_2)).symm
    · refine lv_iconst (v := 1) hx hb dX1_isHot_24 (by decide) ?_
      refine lv_goto (tgt := 29) hx hb dX1_isHot_25 (by decide) ?_
      exact hJ_2 _ (if_pos c_2).symm

abbrev rX1_hotWords : Room := { frames := 1, cells := 0, slots := 0, locals := 21 }
set_option maxHeartbeats 4000000 in
set_option maxRecDepth 100000 in
theorem k_X1_hotWords (l : Launch) (dC : Nat → ClassId) (dI : Nat → Nat → Nat) (ad : Nat → Nat) (cI : ClassId) (σ : zS) (hok : zok σ) : zRi l yX1_hotWords wsX1_hotWords rX1_hotWords (dC, dI) [.ref (ad 0)] (zW ad cI σ) [(cI, .int)] (fun r => r = pSum (fun w => if pht σ w then 1 else 0) 16) := by
  refine zRi_of (cc := cX1_hotWords) (maxL := 3) (ty := .int) (by decide) rfl (Nat.le_of_ble_eq_true rfl) (fun _ _ => rfl) ?_
  intro p e s m args below meth cd Q ls hat hP hK hend
  obtain ⟨hx, hb, hml, hown, hts, hl⟩ := hat
  replace hown : s.vm.findClass RX1 = some m.cls := hown
  replace hl : lv_has ls 3 [(0, .ref (ad 0))] := hl
  replace hP : va_P (dC, dI) vwCl [((ad 0), .inr (1, [.ref (ad 1), .ref (ad 2), .ref (ad 3), .ref (ad 4), .ref (ad 5), .ref (ad 6), .ref (ad 7), .ref (ad 8), .int (zc0 σ), .int (zc1 σ), .int (zc2 σ), .int (zc3 σ), .int (zc4 σ)])), ((ad 1), .inl (cI, 18, .inl (zhd σ))), ((ad 2), .inl (cI, 234, .inl (zwn σ))), ((ad 3), .inl (cI, 18, .inl (zwi σ))), ((ad 4), .inl (cI, 16, .inl (fun w => nI (zpl σ w)))), ((ad 5), .inl (cI, 16, .inl (zwh σ))), ((ad 6), .inl (cI, 16, .inl (zwo σ))), ((ad 7), .inl (cI, 16, .inl (zmo σ))), ((ad 8), .inl (cI, 2, .inl (zst σ)))] s.heap := hP
  refine lv_iconst (v := 0) hx hb dX1_hotWords_0 (by decide) ?_
  refine lv_istore_n (lv' := [(1, .int 0), (0, .ref (ad 0))]) hx hb dX1_hotWords_1 rfl hl (by decide) rfl (fun ls hl => ?_)
  refine lv_iconst (v := 0) hx hb dX1_hotWords_2 (by decide) ?_
  refine lv_istore_n (lv' := [(2, .int 0), (1, .int 0), (0, .ref (ad 0))]) hx hb dX1_hotWords_3 rfl hl (by decide) rfl (fun ls hl => ?_)
  have hC_4 : ∀ (nf : Nat) (x : Int32) (c : Nat) (ls : Array Slot), 16 - c < nf → lv_has ls 3 [(0, .ref (ad 0)), (1, .int x), (2, .int (nI c))] → (c ≤ 16) → (x = pSum (fun w => if pht σ w then 1 else 0) c) → W p l e rX1_hotWords s m args below meth cd s.heap [] 0 0 Q (F0 m 4 ls []) := by
    intro nf
    induction nf with
    | zero => intro x c ls hm_4 hl hc ex; exact absurd hm_4 (Nat.not_lt_zero _)
    | succ nf ih_4 =>
      intro x c ls hm_4 hl hc ex
      refine lv_iload_n hx hb dX1_hotWords_4 rfl (lv_at hl 2 rfl) ?_
      refine lv_bipush (v := 16) hx hb dX1_hotWords_5 (by decide) ?_
      refine z_ge hx hb c 16 (by omega) (by omega) (tgt := 27) dX1_hotWords_7 (by decide) (fun c_1 => ?_) (fun c_1 => ?_)
      · skip
        refine lv_iload_n hx hb dX1_hotWords_27 rfl (lv_at hl 1 rfl) ?_
        exact hend _ _ _ (by rw [ex, show c = 16 by omega]) dX1_hotWords_28
      · skip
        refine lv_aload_n hx hb dX1_hotWords_10 rfl (lv_at hl 0 rfl) ?_
        refine lv_iload_n hx hb dX1_hotWords_11 rfl (lv_at hl 2 rfl) ?_
        refine z_cVi (As := [.int (nI c)]) (rest := []) ⟨hx, hb, hml, hown, hts⟩ (k_X1_isHot l dC dI ad cI σ hok c (by omega)) (cwV 1 hts gX1_hotWords_X1_isHot rfl rfl rfl (by decide +kernel) ⟨Nat.le_of_ble_eq_true rfl, Nat.le_of_ble_eq_true rfl⟩) (va_recv hK hP (ci := 1) (q0 := 0) rfl rfl) hP hK rfl hl.1 rfl (Nat.le_of_ble_eq_true rfl) dX1_hotWords_12 ⟨Nat.le_of_ble_eq_true rfl, Nat.le_of_ble_eq_true rfl⟩ (fun r_2 hr_2 => ?_)
        refine z_ifeqB hx hb hr_2 (tgt := 21) dX1_hotWords_15 (by decide) (fun c_3 => ?_) (fun c_3 => ?_)
        · skip
          refine lv_iinc (v := nI (c + 1)) (lv' := [(2, .int (nI (c + 1))), (0, .ref (ad 0)), (1, .int x)]) hx hb dX1_hotWords_21 hl (k := 2) rfl (z_inc1 _) (by decide) rfl (fun ls hl => ?_)
          refine lv_goto (tgt := 4) hx hb dX1_hotWords_24 (by decide) ?_
          exact ih_4 x (c + 1) _ (by omega) (lv_sub hl [1, 2, 0] rfl) (by omega) (by rw [ex, pSum]; first | rw [if_pos c_3] | rw [if_neg c_3, Int32.add_zero])
        · skip
          refine lv_iinc (v := x + 1) (lv' := [(1, .int (x + 1)), (0, .ref (ad 0)), (2, .int (nI c))]) hx hb dX1_hotWords_18 hl (k := 1) rfl rfl (by decide) rfl (fun ls hl => ?_)
          refine lv_iinc (v := nI (c + 1)) (lv' := [(2, .int (nI (c + 1))), (1, .int (x + 1)), (0, .ref (ad 0))]) hx hb dX1_hotWords_21 hl (k := 2) rfl (z_inc1 _) (by decide) rfl (fun ls hl => ?_)
          refine lv_goto (tgt := 4) hx hb dX1_hotWords_24 (by decide) ?_
          exact ih_4 (x + 1) (c + 1) _ (by omega) (lv_sub hl [2, 1, 0] rfl) (by omega) (by rw [ex, pSum]; first | rw [if_pos c_3] | rw [if_neg c_3, Int32.add_zero])
  exact hC_4 _ 0 0 _ (Nat.lt_succ_self _) (lv_sub hl [2, 1, 0] rfl) (by omega) (rfl)

abbrev rX1_wayIn : Room := { frames := 1, cells := 0, slots := 0, locals := 24 }
set_option maxHeartbeats 4000000 in
set_option maxRecDepth 100000 in
theorem k_X1_wayIn (l : Launch) (dC : Nat → ClassId) (dI : Nat → Nat → Nat) (ad : Nat → Nat) (cI : ClassId) (σ : zS) (hok : zok σ) (j : Nat) (hj : j < 18) (v : Int32) : zRi l yX1_wayIn wsX1_wayIn rX1_wayIn (dC, dI) [.ref (ad 0), .int (nI j), .int v] (zW ad cI σ) [(cI, .int)] (fun r => r = pwy σ j v) := by
  refine zRi_of (cc := cX1_wayIn) (maxL := 10) (ty := .int) (by decide) rfl (Nat.le_of_ble_eq_true rfl) (fun _ _ => rfl) ?_
  intro p e s m args below meth cd Q ls hat hP hK hend
  obtain ⟨hx, hb, hml, hown, hts, hl⟩ := hat
  replace hown : s.vm.findClass RX1 = some m.cls := hown
  replace hl : lv_has ls 10 [(0, .ref (ad 0)), (1, .int (nI j)), (2, .int v)] := hl
  replace hP : va_P (dC, dI) vwCl [((ad 0), .inr (1, [.ref (ad 1), .ref (ad 2), .ref (ad 3), .ref (ad 4), .ref (ad 5), .ref (ad 6), .ref (ad 7), .ref (ad 8), .int (zc0 σ), .int (zc1 σ), .int (zc2 σ), .int (zc3 σ), .int (zc4 σ)])), ((ad 1), .inl (cI, 18, .inl (zhd σ))), ((ad 2), .inl (cI, 234, .inl (zwn σ))), ((ad 3), .inl (cI, 18, .inl (zwi σ))), ((ad 4), .inl (cI, 16, .inl (fun w => nI (zpl σ w)))), ((ad 5), .inl (cI, 16, .inl (zwh σ))), ((ad 6), .inl (cI, 16, .inl (zwo σ))), ((ad 7), .inl (cI, 16, .inl (zmo σ))), ((ad 8), .inl (cI, 2, .inl (zst σ)))] s.heap := hP
  have hf9 := hts (.fieldLink RX1 9 "InsideOutWords$State" "held" "[I") (by decide +kernel)
  have hnX1 : ∀ w ∈ u_ws RX1 TX1 13, w ∈ wsX1_wayIn := by decide +kernel
  refine lv_iload_n hx hb dX1_wayIn_0 rfl (lv_at hl 2 rfl) ?_
  refine lv_istore_n (lv' := [(3, .int v), (0, .ref (ad 0)), (1, .int (nI j)), (2, .int v)]) hx hb dX1_wayIn_1 rfl hl (by decide) rfl (fun ls hl => ?_)
  refine lv_iload_n hx hb dX1_wayIn_2 rfl (lv_at hl 3 rfl) ?_
  refine lv_iconst (v := (-1)) hx hb dX1_wayIn_3 (by decide) ?_
  refine lv_ixor hx hb dX1_wayIn_4 ?_
  refine lv_sipush (v := 4095) hx hb dX1_wayIn_5 (by decide) ?_
  refine lv_iand hx hb dX1_wayIn_8 ?_
  refine lv_sipush (v := 4096) hx hb dX1_wayIn_9 (by decide) ?_
  refine lv_ior hx hb dX1_wayIn_12 ?_
  refine lv_istore (lv' := [(4, .int (((v ^^^ (-1)) &&& 4095) ||| 4096)), (3, .int v), (0, .ref (ad 0)), (1, .int (nI j)), (2, .int v)]) hx hb dX1_wayIn_13 hl (by decide) rfl (fun ls hl => ?_)
  refine lv_aload_n hx hb dX1_wayIn_15 rfl (lv_at hl 2 rfl) ?_
  refine lv_iload_n hx hb dX1_wayIn_16 rfl (lv_at hl 3 rfl) ?_
  refine z_cVi (As := [.int (nI j)]) (rest := []) ⟨hx, hb, hml, hown, hts⟩ (k_X1_stuckIn l dC dI ad cI σ hok j (by omega)) (cwV 1 hts gX1_wayIn_X1_stuckIn rfl rfl rfl (by decide +kernel) ⟨Nat.le_of_ble_eq_true rfl, Nat.le_of_ble_eq_true rfl⟩) (va_recv hK hP (ci := 1) (q0 := 0) rfl rfl) hP hK rfl hl.1 rfl (Nat.le_of_ble_eq_true rfl) dX1_wayIn_17 ⟨Nat.le_of_ble_eq_true rfl, Nat.le_of_ble_eq_true rfl⟩ (fun r_1 hr_1 => ?_)
  subst hr_1
  refine lv_istore (lv' := [(5, .int (pst σ j)), (4, .int (((v ^^^ (-1)) &&& 4095) ||| 4096)), (3, .int v), (0, .ref (ad 0)), (1, .int (nI j)), (2, .int v)]) hx hb dX1_wayIn_20 hl (by decide) rfl (fun ls hl => ?_)
  refine lv_aload_n hx hb dX1_wayIn_22 rfl (lv_at hl 3 rfl) ?_
  refine va_get (D := (dC, dI)) (ci := 1) (v := .ref (ad 1)) (C := RX1) (T := TX1) (N := 13) hx hb hts hnX1 hown hK hP 0 rfl rfl 0 (by decide) hf9 (fun _ h9 => h9) rfl dX1_wayIn_23 ?_
  refine lv_iload_n hx hb dX1_wayIn_26 rfl (lv_at hl 4 rfl) ?_
  refine z_ald hx hb hK hP 1 0 j (f := (zhd σ)) rfl rfl (by first | omega | decide) (by first | decide | omega) dX1_wayIn_27 ?_
  refine lv_iload_n hx hb dX1_wayIn_28 rfl (lv_at hl 2 rfl) ?_
  refine lv_ixor hx hb dX1_wayIn_29 ?_
  refine lv_istore (lv' := [(6, .int (((zhd σ) j) ^^^ v)), (5, .int (pst σ j)), (4, .int (((v ^^^ (-1)) &&& 4095) ||| 4096)), (3, .int v), (0, .ref (ad 0)), (1, .int (nI j)), (2, .int v)]) hx hb dX1_wayIn_30 hl (by decide) rfl (fun ls hl => ?_)
  refine lv_aload_n hx hb dX1_wayIn_32 rfl (lv_at hl 4 rfl) ?_
  refine va_get (D := (dC, dI)) (ci := 1) (v := .ref (ad 1)) (C := RX1) (T := TX1) (N := 13) hx hb hts hnX1 hown hK hP 0 rfl rfl 0 (by decide) hf9 (fun _ h9 => h9) rfl dX1_wayIn_33 ?_
  refine lv_iload_n hx hb dX1_wayIn_36 rfl (lv_at hl 5 rfl) ?_
  refine z_ald hx hb hK hP 1 0 j (f := (zhd σ)) rfl rfl (by first | omega | decide) (by first | decide | omega) dX1_wayIn_37 ?_
  refine lv_iload hx hb dX1_wayIn_38 (lv_at hl 2 rfl) ?_
  refine lv_ixor hx hb dX1_wayIn_40 ?_
  refine lv_istore (lv' := [(7, .int (((zhd σ) j) ^^^ (((v ^^^ (-1)) &&& 4095) ||| 4096))), (6, .int (((zhd σ) j) ^^^ v)), (5, .int (pst σ j)), (4, .int (((v ^^^ (-1)) &&& 4095) ||| 4096)), (3, .int v), (0, .ref (ad 0)), (1, .int (nI j)), (2, .int v)]) hx hb dX1_wayIn_41 hl (by decide) rfl (fun ls hl => ?_)
  refine lv_iload hx hb dX1_wayIn_43 (lv_at hl 0 rfl) ?_
  refine lv_iload hx hb dX1_wayIn_45 (lv_at hl 2 rfl) ?_
  refine lv_iand hx hb dX1_wayIn_47 ?_
  have hJ_2 : ∀ b_2 : Int32, b_2 = (if ((((zhd σ) j) ^^^ (((v ^^^ (-1)) &&& 4095) ||| 4096)) &&& (pst σ j)) = 0 then 1 else 0) → W p l e rX1_wayIn s m args below meth cd s.heap [] 0 0 Q (F0 m 56 ls (.int b_2 :: [])) := by
    intro b_2 eb_2
    refine lv_istore (lv' := [(8, .int b_2), (7, .int (((zhd σ) j) ^^^ (((v ^^^ (-1)) &&& 4095) ||| 4096))), (6, .int (((zhd σ) j) ^^^ v)), (5, .int (pst σ j)), (4, .int (((v ^^^ (-1)) &&& 4095) ||| 4096)), (3, .int v), (0, .ref (ad 0)), (1, .int (nI j)), (2, .int v)]) hx hb dX1_wayIn_56 hl (by decide) rfl (fun ls hl => ?_)
    refine lv_iload hx hb dX1_wayIn_58 (lv_at hl 2 rfl) ?_
    refine lv_iload hx hb dX1_wayIn_60 (lv_at hl 3 rfl) ?_
    refine lv_iand hx hb dX1_wayIn_62 ?_
    refine lv_if_eq (tgt := 78) hx hb dX1_wayIn_63 (by decide) (fun c_3 => ?_) (fun c_3 => ?_)
    · skip
      refine lv_iload hx hb dX1_wayIn_78 (lv_at hl 1 rfl) ?_
      refine z_cSi (As := [.int (((zhd σ) j) ^^^ (((v ^^^ (-1)) &&& 4095) ||| 4096))]) (rest := []) ⟨hx, hb, hml, hown, hts⟩ (k_J6_bitCount_0f7a4 l dC dI (((zhd σ) j) ^^^ (((v ^^^ (-1)) &&& 4095) ||| 4096))) (va_cwS 1 hts gX1_wayIn_J6_bitCount_0f7a4 rfl rfl rfl (by decide +kernel) ⟨Nat.le_of_ble_eq_true rfl, Nat.le_of_ble_eq_true rfl⟩) (hP.sub (ws' := []) [] rfl) (hK.sub (tys' := []) [] rfl) rfl hl.1 rfl (Nat.le_of_ble_eq_true rfl) dX1_wayIn_80 ⟨Nat.le_of_ble_eq_true rfl, Nat.le_of_ble_eq_true rfl⟩ (fun r_4 hr_4 => ?_)
      subst hr_4
      refine lv_iload hx hb dX1_wayIn_83 (lv_at hl 2 rfl) ?_
      refine z_cSi (As := [.int (((zhd σ) j) ^^^ v)]) (rest := [.int (pBC (((zhd σ) j) ^^^ (((v ^^^ (-1)) &&& 4095) ||| 4096)))]) ⟨hx, hb, hml, hown, hts⟩ (k_J6_bitCount_0f7a4 l dC dI (((zhd σ) j) ^^^ v)) (va_cwS 1 hts gX1_wayIn_J6_bitCount_0f7a4 rfl rfl rfl (by decide +kernel) ⟨Nat.le_of_ble_eq_true rfl, Nat.le_of_ble_eq_true rfl⟩) (hP.sub (ws' := []) [] rfl) (hK.sub (tys' := []) [] rfl) rfl hl.1 rfl (Nat.le_of_ble_eq_true rfl) dX1_wayIn_85 ⟨Nat.le_of_ble_eq_true rfl, Nat.le_of_ble_eq_true rfl⟩ (fun r_5 hr_5 => ?_)
      subst hr_5
      have hJ_6 : ∀ b_6 : Int32, b_6 = (if ¬ ((pBC (((zhd σ) j) ^^^ v)) ≤ (pBC (((zhd σ) j) ^^^ (((v ^^^ (-1)) &&& 4095) ||| 4096)))) then 1 else 0) → W p l e rX1_wayIn s m args below meth cd s.heap [] 0 0 Q (F0 m 96 ls (.int b_6 :: [])) := by
        intro b_6 eb_6
        refine lv_istore (lv' := [(9, .int b_6), (8, .int b_2), (7, .int (((zhd σ) j) ^^^ (((v ^^^ (-1)) &&& 4095) ||| 4096))), (6, .int (((zhd σ) j) ^^^ v)), (5, .int (pst σ j)), (4, .int (((v ^^^ (-1)) &&& 4095) ||| 4096)), (3, .int v), (0, .ref (ad 0)), (1, .int (nI j)), (2, .int v)]) hx hb dX1_wayIn_96 hl (by decide) rfl (fun ls hl => ?_)
        refine lv_iload hx hb dX1_wayIn_98 (lv_at hl 1 rfl) ?_
        refine z_ifeqB hx hb eb_2 (tgt := 113) dX1_wayIn_100 (by decide) (fun c_7 => ?_) (fun c_7 => ?_)
        · skip
          refine lv_iload_n hx hb dX1_wayIn_113 rfl (lv_at hl 6 rfl) ?_
          exact hend _ _ _ (by simp only [pwy, pWay, pTurn, eq_true c_3, c_7, if_true, if_false]) dX1_wayIn_114
        · skip
          refine lv_iload hx hb dX1_wayIn_103 (lv_at hl 0 rfl) ?_
          refine z_ifeqB hx hb eb_6 (tgt := 113) dX1_wayIn_105 (by decide) (fun c_8 => ?_) (fun c_8 => ?_)
          · skip
            replace c_8 := Classical.not_not.mp c_8
            refine lv_iload_n hx hb dX1_wayIn_113 rfl (lv_at hl 6 rfl) ?_
            exact hend _ _ _ (by simp only [pwy, pWay, pTurn, eq_true c_3, c_7, c_8, if_true, if_false]) dX1_wayIn_114
          · skip
            refine lv_iload hx hb dX1_wayIn_108 (lv_at hl 5 rfl) ?_
            refine lv_goto (tgt := 114) hx hb dX1_wayIn_110 (by decide) ?_
            exact hend _ _ _ (by simp only [pwy, pWay, pTurn, eq_true c_3, c_7, c_8, if_true, if_false]) dX1_wayIn_114
      refine lv_icmp_ge (tgt := 95) hx hb dX1_wayIn_88 (by decide) (fun c_6 => ?_) (fun c_6 => ?_)
      · refine lv_iconst (v := 0) hx hb dX1_wayIn_95 (by decide) ?_
        exact hJ_6 _ (if_neg (fun z => z c_6)).symm
      · refine lv_iconst (v := 1) hx hb dX1_wayIn_91 (by decide) ?_
        refine lv_goto (tgt := 96) hx hb dX1_wayIn_92 (by decide) ?_
        exact hJ_6 _ (if_pos c_6).symm
    · skip
      refine lv_iload hx hb dX1_wayIn_66 (lv_at hl 0 rfl) ?_
      refine z_ifeqB hx hb eb_2 (tgt := 76) dX1_wayIn_68 (by decide) (fun c_9 => ?_) (fun c_9 => ?_)
      · skip
        refine lv_iconst (v := (-1)) hx hb dX1_wayIn_76 (by decide) ?_
        exact hend _ _ _ (by simp only [pwy, pWay, pTurn, c_3, c_9, if_true, if_false]) dX1_wayIn_77
      · skip
        refine lv_iload hx hb dX1_wayIn_71 (lv_at hl 4 rfl) ?_
        refine lv_goto (tgt := 77) hx hb dX1_wayIn_73 (by decide) ?_
        exact hend _ _ _ (by simp only [pwy, pWay, pTurn, c_3, c_9, if_true, if_false]) dX1_wayIn_77
  refine lv_if_ne (tgt := 55) hx hb dX1_wayIn_48 (by decide) (fun c_2 => ?_) (fun c_2 => ?_)
  · refine lv_iconst (v := 0) hx hb dX1_wayIn_55 (by decide) ?_
    exact hJ_2 _ (if_neg c_2).symm
  · refine lv_iconst (v := 1) hx hb dX1_wayIn_51 (by decide) ?_
    refine lv_goto (tgt := 56) hx hb dX1_wayIn_52 (by decide) ?_
    exact hJ_2 _ (if_pos c_2).symm

abbrev rX1_lessWorn : Room := { frames := 1, cells := 0, slots := 0, locals := 24 }
set_option maxHeartbeats 4000000 in
set_option maxRecDepth 100000 in
theorem k_X1_lessWorn (l : Launch) (dC : Nat → ClassId) (dI : Nat → Nat → Nat) (ad : Nat → Nat) (cI : ClassId) (σ : zS) (hok : zok σ) (o : Option Nat) (ho : ∀ k, o = some k → k < 18) (j : Nat) (hj : j < 18) : zRi l yX1_lessWorn wsX1_lessWorn rX1_lessWorn (dC, dI) [.ref (ad 0), .int (zo o), .int (nI j)] (zW ad cI σ) [(cI, .int)] (fun r => r = zo (pLess (pwr σ) o j)) := by
  refine zRi_of (cc := cX1_lessWorn) (maxL := 3) (ty := .int) (by decide) rfl (Nat.le_of_ble_eq_true rfl) (fun _ _ => rfl) ?_
  intro p e s m args below meth cd Q ls hat hP hK hend
  obtain ⟨hx, hb, hml, hown, hts, hl⟩ := hat
  replace hown : s.vm.findClass RX1 = some m.cls := hown
  replace hl : lv_has ls 3 [(0, .ref (ad 0)), (1, .int (zo o)), (2, .int (nI j))] := hl
  replace hP : va_P (dC, dI) vwCl [((ad 0), .inr (1, [.ref (ad 1), .ref (ad 2), .ref (ad 3), .ref (ad 4), .ref (ad 5), .ref (ad 6), .ref (ad 7), .ref (ad 8), .int (zc0 σ), .int (zc1 σ), .int (zc2 σ), .int (zc3 σ), .int (zc4 σ)])), ((ad 1), .inl (cI, 18, .inl (zhd σ))), ((ad 2), .inl (cI, 234, .inl (zwn σ))), ((ad 3), .inl (cI, 18, .inl (zwi σ))), ((ad 4), .inl (cI, 16, .inl (fun w => nI (zpl σ w)))), ((ad 5), .inl (cI, 16, .inl (zwh σ))), ((ad 6), .inl (cI, 16, .inl (zwo σ))), ((ad 7), .inl (cI, 16, .inl (zmo σ))), ((ad 8), .inl (cI, 2, .inl (zst σ)))] s.heap := hP
  refine lv_iload_n hx hb dX1_lessWorn_0 rfl (lv_at hl 1 rfl) ?_
  refine lv_iconst (v := (-1)) hx hb dX1_lessWorn_1 (by decide) ?_
  refine z_eqO hx hb o (fun i hi => Nat.lt_of_lt_of_le (ho i hi) (by decide)) (tgt := 18) dX1_lessWorn_2 (by decide) (fun ho_1 => ?_) (fun k_1 ho_1 => ?_)
  · skip
    try rw [ho_1] at hl
    try rw [ho_1]
    replace hl : lv_has ls 3 [(0, .ref (ad 0)), (1, .int (-1)), (2, .int (nI j))] := hl
    refine lv_iload_n hx hb dX1_lessWorn_18 rfl (lv_at hl 2 rfl) ?_
    refine lv_goto (tgt := 23) hx hb dX1_lessWorn_19 (by decide) ?_
    exact hend _ _ _ (by simp only [ho_1, pLess, if_true, if_false] <;> rfl) dX1_lessWorn_23
  · skip
    have hkb_1 := ho _ ho_1
    try rw [ho_1] at hl
    try rw [ho_1]
    replace hl : lv_has ls 3 [(0, .ref (ad 0)), (1, .int (nI k_1)), (2, .int (nI j))] := hl
    refine lv_aload_n hx hb dX1_lessWorn_5 rfl (lv_at hl 0 rfl) ?_
    refine lv_iload_n hx hb dX1_lessWorn_6 rfl (lv_at hl 2 rfl) ?_
    refine z_cVi (As := [.int (nI j)]) (rest := []) ⟨hx, hb, hml, hown, hts⟩ (k_X1_wornTogether l dC dI ad cI σ hok j (by omega)) (cwV 1 hts gX1_lessWorn_X1_wornTogether rfl rfl rfl (by decide +kernel) ⟨Nat.le_of_ble_eq_true rfl, Nat.le_of_ble_eq_true rfl⟩) (va_recv hK hP (ci := 1) (q0 := 0) rfl rfl) hP hK rfl hl.1 rfl (Nat.le_of_ble_eq_true rfl) dX1_lessWorn_7 ⟨Nat.le_of_ble_eq_true rfl, Nat.le_of_ble_eq_true rfl⟩ (fun r_2 hr_2 => ?_)
    subst hr_2
    refine lv_aload_n hx hb dX1_lessWorn_10 rfl (lv_at hl 0 rfl) ?_
    refine lv_iload_n hx hb dX1_lessWorn_11 rfl (lv_at hl 1 rfl) ?_
    refine z_cVi (As := [.int (nI k_1)]) (rest := [.int (pwr σ j)]) ⟨hx, hb, hml, hown, hts⟩ (k_X1_wornTogether l dC dI ad cI σ hok k_1 (by omega)) (cwV 1 hts gX1_lessWorn_X1_wornTogether rfl rfl rfl (by decide +kernel) ⟨Nat.le_of_ble_eq_true rfl, Nat.le_of_ble_eq_true rfl⟩) (va_recv hK hP (ci := 1) (q0 := 0) rfl rfl) hP hK rfl hl.1 rfl (Nat.le_of_ble_eq_true rfl) dX1_lessWorn_12 ⟨Nat.le_of_ble_eq_true rfl, Nat.le_of_ble_eq_true rfl⟩ (fun r_3 hr_3 => ?_)
    subst hr_3
    refine lv_icmp_ge (tgt := 22) hx hb dX1_lessWorn_15 (by decide) (fun c_4 => ?_) (fun c_4 => ?_)
    · skip
      refine lv_iload_n hx hb dX1_lessWorn_22 rfl (lv_at hl 1 rfl) ?_
      exact hend _ _ _ (by simp only [ho_1, c_4, pLess, if_true, if_false] <;> rfl) dX1_lessWorn_23
    · skip
      refine lv_iload_n hx hb dX1_lessWorn_18 rfl (lv_at hl 2 rfl) ?_
      refine lv_goto (tgt := 23) hx hb dX1_lessWorn_19 (by decide) ?_
      exact hend _ _ _ (by simp only [ho_1, c_4, pLess, if_true, if_false] <;> rfl) dX1_lessWorn_23

abbrev rX1_leastWornFree : Room := { frames := 2, cells := 0, slots := 0, locals := 46 }
set_option maxHeartbeats 4000000 in
set_option maxRecDepth 100000 in
theorem k_X1_leastWornFree (l : Launch) (dC : Nat → ClassId) (dI : Nat → Nat → Nat) (ad : Nat → Nat) (cI : ClassId) (σ : zS) (hok : zok σ) : zRi l yX1_leastWornFree wsX1_leastWornFree rX1_leastWornFree (dC, dI) [.ref (ad 0)] (zW ad cI σ) [(cI, .int)] (fun r => r = zo (pfr σ)) := by
  refine zRi_of (cc := cX1_leastWornFree) (maxL := 3) (ty := .int) (by decide) rfl (Nat.le_of_ble_eq_true rfl) (fun _ _ => rfl) ?_
  intro p e s m args below meth cd Q ls hat hP hK hend
  obtain ⟨hx, hb, hml, hown, hts, hl⟩ := hat
  replace hown : s.vm.findClass RX1 = some m.cls := hown
  replace hl : lv_has ls 3 [(0, .ref (ad 0))] := hl
  replace hP : va_P (dC, dI) vwCl [((ad 0), .inr (1, [.ref (ad 1), .ref (ad 2), .ref (ad 3), .ref (ad 4), .ref (ad 5), .ref (ad 6), .ref (ad 7), .ref (ad 8), .int (zc0 σ), .int (zc1 σ), .int (zc2 σ), .int (zc3 σ), .int (zc4 σ)])), ((ad 1), .inl (cI, 18, .inl (zhd σ))), ((ad 2), .inl (cI, 234, .inl (zwn σ))), ((ad 3), .inl (cI, 18, .inl (zwi σ))), ((ad 4), .inl (cI, 16, .inl (fun w => nI (zpl σ w)))), ((ad 5), .inl (cI, 16, .inl (zwh σ))), ((ad 6), .inl (cI, 16, .inl (zwo σ))), ((ad 7), .inl (cI, 16, .inl (zmo σ))), ((ad 8), .inl (cI, 2, .inl (zst σ)))] s.heap := hP
  have hf18 := hts (.fieldLink RX1 18 "InsideOutWords$State" "wordIn" "[I") (by decide +kernel)
  have hnX1 : ∀ w ∈ u_ws RX1 TX1 13, w ∈ wsX1_leastWornFree := by decide +kernel
  refine lv_iconst (v := (-1)) hx hb dX1_leastWornFree_0 (by decide) ?_
  refine lv_istore_n (lv' := [(1, .int (-1)), (0, .ref (ad 0))]) hx hb dX1_leastWornFree_1 rfl hl (by decide) rfl (fun ls hl => ?_)
  refine lv_iconst (v := 0) hx hb dX1_leastWornFree_2 (by decide) ?_
  refine lv_istore_n (lv' := [(2, .int 0), (1, .int (-1)), (0, .ref (ad 0))]) hx hb dX1_leastWornFree_3 rfl hl (by decide) rfl (fun ls hl => ?_)
  have hC_4 : ∀ (nf : Nat) (o : Option Nat) (c : Nat) (ls : Array Slot), 18 - c < nf → lv_has ls 3 [(0, .ref (ad 0)), (1, .int (zo o)), (2, .int (nI c))] → (c ≤ 18) → (o = pFree (pwr σ) (fun k => decide (zwi σ k = -1)) c) → (∀ k, o = some k → k < 18) → W p l e rX1_leastWornFree s m args below meth cd s.heap [] 0 0 Q (F0 m 4 ls []) := by
    intro nf
    induction nf with
    | zero => intro o c ls hm_4 hl hc eo hbo; exact absurd hm_4 (Nat.not_lt_zero _)
    | succ nf ih_4 =>
      intro o c ls hm_4 hl hc eo hbo
      refine lv_iload_n hx hb dX1_leastWornFree_4 rfl (lv_at hl 2 rfl) ?_
      refine lv_bipush (v := 18) hx hb dX1_leastWornFree_5 (by decide) ?_
      refine z_ge hx hb c 18 (by omega) (by omega) (tgt := 33) dX1_leastWornFree_7 (by decide) (fun c_1 => ?_) (fun c_1 => ?_)
      · skip
        refine lv_iload_n hx hb dX1_leastWornFree_33 rfl (lv_at hl 1 rfl) ?_
        exact hend _ _ _ (by rw [eo, show c = 18 by omega]; rfl) dX1_leastWornFree_34
      · skip
        refine lv_aload_n hx hb dX1_leastWornFree_10 rfl (lv_at hl 0 rfl) ?_
        refine va_get (D := (dC, dI)) (ci := 1) (v := .ref (ad 3)) (C := RX1) (T := TX1) (N := 13) hx hb hts hnX1 hown hK hP 0 rfl rfl 2 (by decide) hf18 (fun _ h9 => h9) rfl dX1_leastWornFree_11 ?_
        refine lv_iload_n hx hb dX1_leastWornFree_14 rfl (lv_at hl 2 rfl) ?_
        refine z_ald hx hb hK hP 3 0 c (f := (zwi σ)) rfl rfl (by first | omega | decide) (by first | decide | omega) dX1_leastWornFree_15 ?_
        refine lv_iconst (v := (-1)) hx hb dX1_leastWornFree_16 (by decide) ?_
        refine lv_icmp_ne (tgt := 27) hx hb dX1_leastWornFree_17 (by decide) (fun c_2 => ?_) (fun c_2 => ?_)
        · skip
          refine lv_iinc (v := nI (c + 1)) (lv' := [(2, .int (nI (c + 1))), (0, .ref (ad 0)), (1, .int (zo o))]) hx hb dX1_leastWornFree_27 hl (k := 2) rfl (z_inc1 _) (by decide) rfl (fun ls hl => ?_)
          refine lv_goto (tgt := 4) hx hb dX1_leastWornFree_30 (by decide) ?_
          exact ih_4 o (c + 1) _ (by omega) (lv_sub hl [1, 2, 0] rfl) (by omega) (by simp [pFree, ← eo, c_1, c_2]) (fun i hi => Nat.lt_of_lt_of_le (hbo i hi) (by omega))
        · skip
          refine lv_aload_n hx hb dX1_leastWornFree_20 rfl (lv_at hl 0 rfl) ?_
          refine lv_iload_n hx hb dX1_leastWornFree_21 rfl (lv_at hl 1 rfl) ?_
          refine lv_iload_n hx hb dX1_leastWornFree_22 rfl (lv_at hl 2 rfl) ?_
          refine z_cVi (As := [.int (zo o), .int (nI c)]) (rest := []) ⟨hx, hb, hml, hown, hts⟩ (k_X1_lessWorn l dC dI ad cI σ hok o (fun i hi => hbo i hi) c (by omega)) (cwV 2 hts gX1_leastWornFree_X1_lessWorn rfl rfl rfl (by decide +kernel) ⟨Nat.le_of_ble_eq_true rfl, Nat.le_of_ble_eq_true rfl⟩) (va_recv hK hP (ci := 1) (q0 := 0) rfl rfl) hP hK rfl hl.1 rfl (Nat.le_of_ble_eq_true rfl) dX1_leastWornFree_23 ⟨Nat.le_of_ble_eq_true rfl, Nat.le_of_ble_eq_true rfl⟩ (fun r_3 hr_3 => ?_)
          obtain ⟨o_4, eo_4⟩ : ∃ zz : Option Nat, zz = pLess (pwr σ) o c := ⟨_, rfl⟩
          rw [← eo_4] at hr_3
          subst hr_3
          have hbo_4 : ∀ i, o_4 = some i → i < 18 := by rw [eo_4]; exact pLess_lt (by first | assumption | omega) (by omega)
          refine lv_istore_n (lv' := [(1, .int (zo o_4)), (0, .ref (ad 0)), (2, .int (nI c))]) hx hb dX1_leastWornFree_26 rfl hl (by decide) rfl (fun ls hl => ?_)
          refine lv_iinc (v := nI (c + 1)) (lv' := [(2, .int (nI (c + 1))), (1, .int (zo o_4)), (0, .ref (ad 0))]) hx hb dX1_leastWornFree_27 hl (k := 2) rfl (z_inc1 _) (by decide) rfl (fun ls hl => ?_)
          refine lv_goto (tgt := 4) hx hb dX1_leastWornFree_30 (by decide) ?_
          exact ih_4 o_4 (c + 1) _ (by omega) (lv_sub hl [2, 1, 0] rfl) (by omega) (by rw [eo_4]; simp [pFree, ← eo, c_1, eq_true c_2]) (fun i hi => Nat.lt_of_lt_of_le (hbo_4 i hi) (by omega))
  exact hC_4 _ none 0 _ (Nat.lt_succ_self _) (lv_sub hl [2, 1, 0] rfl) (by omega) (rfl) (by intro _ h; cases h)

abbrev rX1_leastWornFreeFor : Room := { frames := 2, cells := 0, slots := 0, locals := 53 }
set_option maxHeartbeats 4000000 in
set_option maxRecDepth 100000 in
theorem k_X1_leastWornFreeFor (l : Launch) (dC : Nat → ClassId) (dI : Nat → Nat → Nat) (ad : Nat → Nat) (cI : ClassId) (σ : zS) (hok : zok σ) (v : Int32) : zRi l yX1_leastWornFreeFor wsX1_leastWornFreeFor rX1_leastWornFreeFor (dC, dI) [.ref (ad 0), .int v] (zW ad cI σ) [(cI, .int)] (fun r => r = zo (pff σ v)) := by
  refine zRi_of (cc := cX1_leastWornFreeFor) (maxL := 4) (ty := .int) (by decide) rfl (Nat.le_of_ble_eq_true rfl) (fun _ _ => rfl) ?_
  intro p e s m args below meth cd Q ls hat hP hK hend
  obtain ⟨hx, hb, hml, hown, hts, hl⟩ := hat
  replace hown : s.vm.findClass RX1 = some m.cls := hown
  replace hl : lv_has ls 4 [(0, .ref (ad 0)), (1, .int v)] := hl
  replace hP : va_P (dC, dI) vwCl [((ad 0), .inr (1, [.ref (ad 1), .ref (ad 2), .ref (ad 3), .ref (ad 4), .ref (ad 5), .ref (ad 6), .ref (ad 7), .ref (ad 8), .int (zc0 σ), .int (zc1 σ), .int (zc2 σ), .int (zc3 σ), .int (zc4 σ)])), ((ad 1), .inl (cI, 18, .inl (zhd σ))), ((ad 2), .inl (cI, 234, .inl (zwn σ))), ((ad 3), .inl (cI, 18, .inl (zwi σ))), ((ad 4), .inl (cI, 16, .inl (fun w => nI (zpl σ w)))), ((ad 5), .inl (cI, 16, .inl (zwh σ))), ((ad 6), .inl (cI, 16, .inl (zwo σ))), ((ad 7), .inl (cI, 16, .inl (zmo σ))), ((ad 8), .inl (cI, 2, .inl (zst σ)))] s.heap := hP
  have hf18 := hts (.fieldLink RX1 18 "InsideOutWords$State" "wordIn" "[I") (by decide +kernel)
  have hnX1 : ∀ w ∈ u_ws RX1 TX1 13, w ∈ wsX1_leastWornFreeFor := by decide +kernel
  refine lv_iconst (v := (-1)) hx hb dX1_leastWornFreeFor_0 (by decide) ?_
  refine lv_istore_n (lv' := [(2, .int (-1)), (0, .ref (ad 0)), (1, .int v)]) hx hb dX1_leastWornFreeFor_1 rfl hl (by decide) rfl (fun ls hl => ?_)
  refine lv_iconst (v := 0) hx hb dX1_leastWornFreeFor_2 (by decide) ?_
  refine lv_istore_n (lv' := [(3, .int 0), (2, .int (-1)), (0, .ref (ad 0)), (1, .int v)]) hx hb dX1_leastWornFreeFor_3 rfl hl (by decide) rfl (fun ls hl => ?_)
  have hC_4 : ∀ (nf : Nat) (o : Option Nat) (c : Nat) (ls : Array Slot), 18 - c < nf → lv_has ls 4 [(0, .ref (ad 0)), (1, .int v), (2, .int (zo o)), (3, .int (nI c))] → (c ≤ 18) → (o = pFree (pwr σ) (fun k => decide (zwi σ k = -1) && !decide (pwy σ k v = -1)) c) → (∀ k, o = some k → k < 18) → W p l e rX1_leastWornFreeFor s m args below meth cd s.heap [] 0 0 Q (F0 m 4 ls []) := by
    intro nf
    induction nf with
    | zero => intro o c ls hm_4 hl hc eo hbo; exact absurd hm_4 (Nat.not_lt_zero _)
    | succ nf ih_4 =>
      intro o c ls hm_4 hl hc eo hbo
      refine lv_iload_n hx hb dX1_leastWornFreeFor_4 rfl (lv_at hl 3 rfl) ?_
      refine lv_bipush (v := 18) hx hb dX1_leastWornFreeFor_5 (by decide) ?_
      refine z_ge hx hb c 18 (by omega) (by omega) (tgt := 43) dX1_leastWornFreeFor_7 (by decide) (fun c_1 => ?_) (fun c_1 => ?_)
      · skip
        refine lv_iload_n hx hb dX1_leastWornFreeFor_43 rfl (lv_at hl 2 rfl) ?_
        exact hend _ _ _ (by rw [eo, show c = 18 by omega]; rfl) dX1_leastWornFreeFor_44
      · skip
        refine lv_aload_n hx hb dX1_leastWornFreeFor_10 rfl (lv_at hl 0 rfl) ?_
        refine va_get (D := (dC, dI)) (ci := 1) (v := .ref (ad 3)) (C := RX1) (T := TX1) (N := 13) hx hb hts hnX1 hown hK hP 0 rfl rfl 2 (by decide) hf18 (fun _ h9 => h9) rfl dX1_leastWornFreeFor_11 ?_
        refine lv_iload_n hx hb dX1_leastWornFreeFor_14 rfl (lv_at hl 3 rfl) ?_
        refine z_ald hx hb hK hP 3 0 c (f := (zwi σ)) rfl rfl (by first | omega | decide) (by first | decide | omega) dX1_leastWornFreeFor_15 ?_
        refine lv_iconst (v := (-1)) hx hb dX1_leastWornFreeFor_16 (by decide) ?_
        refine lv_icmp_ne (tgt := 37) hx hb dX1_leastWornFreeFor_17 (by decide) (fun c_2 => ?_) (fun c_2 => ?_)
        · skip
          refine lv_iinc (v := nI (c + 1)) (lv' := [(3, .int (nI (c + 1))), (0, .ref (ad 0)), (1, .int v), (2, .int (zo o))]) hx hb dX1_leastWornFreeFor_37 hl (k := 3) rfl (z_inc1 _) (by decide) rfl (fun ls hl => ?_)
          refine lv_goto (tgt := 4) hx hb dX1_leastWornFreeFor_40 (by decide) ?_
          exact ih_4 o (c + 1) _ (by omega) (lv_sub hl [1, 2, 3, 0] rfl) (by omega) (by simp [pFree, ← eo, c_1, c_2]) (fun i hi => Nat.lt_of_lt_of_le (hbo i hi) (by omega))
        · skip
          refine lv_aload_n hx hb dX1_leastWornFreeFor_20 rfl (lv_at hl 0 rfl) ?_
          refine lv_iload_n hx hb dX1_leastWornFreeFor_21 rfl (lv_at hl 3 rfl) ?_
          refine lv_iload_n hx hb dX1_leastWornFreeFor_22 rfl (lv_at hl 1 rfl) ?_
          refine z_cVi (As := [.int (nI c), .int v]) (rest := []) ⟨hx, hb, hml, hown, hts⟩ (k_X1_wayIn l dC dI ad cI σ hok c (by omega) v) (cwV 2 hts gX1_leastWornFreeFor_X1_wayIn rfl rfl rfl (by decide +kernel) ⟨Nat.le_of_ble_eq_true rfl, Nat.le_of_ble_eq_true rfl⟩) (va_recv hK hP (ci := 1) (q0 := 0) rfl rfl) hP hK rfl hl.1 rfl (Nat.le_of_ble_eq_true rfl) dX1_leastWornFreeFor_23 ⟨Nat.le_of_ble_eq_true rfl, Nat.le_of_ble_eq_true rfl⟩ (fun r_3 hr_3 => ?_)
          subst hr_3
          refine lv_iconst (v := (-1)) hx hb dX1_leastWornFreeFor_26 (by decide) ?_
          refine lv_icmp_eq (tgt := 37) hx hb dX1_leastWornFreeFor_27 (by decide) (fun c_4 => ?_) (fun c_4 => ?_)
          · skip
            refine lv_iinc (v := nI (c + 1)) (lv' := [(3, .int (nI (c + 1))), (0, .ref (ad 0)), (1, .int v), (2, .int (zo o))]) hx hb dX1_leastWornFreeFor_37 hl (k := 3) rfl (z_inc1 _) (by decide) rfl (fun ls hl => ?_)
            refine lv_goto (tgt := 4) hx hb dX1_leastWornFreeFor_40 (by decide) ?_
            exact ih_4 o (c + 1) _ (by omega) (lv_sub hl [1, 2, 3, 0] rfl) (by omega) (by simp [pFree, ← eo, c_1, eq_true c_2, eq_true c_4]) (fun i hi => Nat.lt_of_lt_of_le (hbo i hi) (by omega))
          · skip
            refine lv_aload_n hx hb dX1_leastWornFreeFor_30 rfl (lv_at hl 0 rfl) ?_
            refine lv_iload_n hx hb dX1_leastWornFreeFor_31 rfl (lv_at hl 2 rfl) ?_
            refine lv_iload_n hx hb dX1_leastWornFreeFor_32 rfl (lv_at hl 3 rfl) ?_
            refine z_cVi (As := [.int (zo o), .int (nI c)]) (rest := []) ⟨hx, hb, hml, hown, hts⟩ (k_X1_lessWorn l dC dI ad cI σ hok o (fun i hi => hbo i hi) c (by omega)) (cwV 2 hts gX1_leastWornFreeFor_X1_lessWorn rfl rfl rfl (by decide +kernel) ⟨Nat.le_of_ble_eq_true rfl, Nat.le_of_ble_eq_true rfl⟩) (va_recv hK hP (ci := 1) (q0 := 0) rfl rfl) hP hK rfl hl.1 rfl (Nat.le_of_ble_eq_true rfl) dX1_leastWornFreeFor_33 ⟨Nat.le_of_ble_eq_true rfl, Nat.le_of_ble_eq_true rfl⟩ (fun r_5 hr_5 => ?_)
            obtain ⟨o_6, eo_6⟩ : ∃ zz : Option Nat, zz = pLess (pwr σ) o c := ⟨_, rfl⟩
            rw [← eo_6] at hr_5
            subst hr_5
            have hbo_6 : ∀ i, o_6 = some i → i < 18 := by rw [eo_6]; exact pLess_lt (by first | assumption | omega) (by omega)
            refine lv_istore_n (lv' := [(2, .int (zo o_6)), (0, .ref (ad 0)), (1, .int v), (3, .int (nI c))]) hx hb dX1_leastWornFreeFor_36 rfl hl (by decide) rfl (fun ls hl => ?_)
            refine lv_iinc (v := nI (c + 1)) (lv' := [(3, .int (nI (c + 1))), (2, .int (zo o_6)), (0, .ref (ad 0)), (1, .int v)]) hx hb dX1_leastWornFreeFor_37 hl (k := 3) rfl (z_inc1 _) (by decide) rfl (fun ls hl => ?_)
            refine lv_goto (tgt := 4) hx hb dX1_leastWornFreeFor_40 (by decide) ?_
            exact ih_4 o_6 (c + 1) _ (by omega) (lv_sub hl [2, 3, 1, 0] rfl) (by omega) (by rw [eo_6]; simp [pFree, ← eo, c_1, eq_true c_2, c_4]) (fun i hi => Nat.lt_of_lt_of_le (hbo_6 i hi) (by omega))
  exact hC_4 _ none 0 _ (Nat.lt_succ_self _) (lv_sub hl [2, 3, 1, 0] rfl) (by omega) (rfl) (by intro _ h; cases h)

abbrev rX1_targetOf : Room := { frames := 3, cells := 0, slots := 0, locals := 76 }
set_option maxHeartbeats 4000000 in
set_option maxRecDepth 100000 in
theorem k_X1_targetOf (l : Launch) (dC : Nat → ClassId) (dI : Nat → Nat → Nat) (ad : Nat → Nat) (cI : ClassId) (σ : zS) (hok : zok σ) (j : Nat) (hj : j < 16) (v : Int32) : zRi l yX1_targetOf wsX1_targetOf rX1_targetOf (dC, dI) [.ref (ad 0), .int (nI j), .int v] (zW ad cI σ) [(cI, .int)] (fun r => r = zo (ptg σ j v)) := by
  refine zRi_of (cc := cX1_targetOf) (maxL := 6) (ty := .int) (by decide) rfl (Nat.le_of_ble_eq_true rfl) (fun _ _ => rfl) ?_
  intro p e s m args below meth cd Q ls hat hP hK hend
  obtain ⟨hx, hb, hml, hown, hts, hl⟩ := hat
  replace hown : s.vm.findClass RX1 = some m.cls := hown
  replace hl : lv_has ls 6 [(0, .ref (ad 0)), (1, .int (nI j)), (2, .int v)] := hl
  replace hP : va_P (dC, dI) vwCl [((ad 0), .inr (1, [.ref (ad 1), .ref (ad 2), .ref (ad 3), .ref (ad 4), .ref (ad 5), .ref (ad 6), .ref (ad 7), .ref (ad 8), .int (zc0 σ), .int (zc1 σ), .int (zc2 σ), .int (zc3 σ), .int (zc4 σ)])), ((ad 1), .inl (cI, 18, .inl (zhd σ))), ((ad 2), .inl (cI, 234, .inl (zwn σ))), ((ad 3), .inl (cI, 18, .inl (zwi σ))), ((ad 4), .inl (cI, 16, .inl (fun w => nI (zpl σ w)))), ((ad 5), .inl (cI, 16, .inl (zwh σ))), ((ad 6), .inl (cI, 16, .inl (zwo σ))), ((ad 7), .inl (cI, 16, .inl (zmo σ))), ((ad 8), .inl (cI, 2, .inl (zst σ)))] s.heap := hP
  have hf21 := hts (.fieldLink RX1 21 "InsideOutWords$State" "slotOf" "[I") (by decide +kernel)
  have hnX1 : ∀ w ∈ u_ws RX1 TX1 13, w ∈ wsX1_targetOf := by decide +kernel
  refine lv_aload_n hx hb dX1_targetOf_0 rfl (lv_at hl 0 rfl) ?_
  refine va_get (D := (dC, dI)) (ci := 1) (v := .ref (ad 4)) (C := RX1) (T := TX1) (N := 13) hx hb hts hnX1 hown hK hP 0 rfl rfl 3 (by decide) hf21 (fun _ h9 => h9) rfl dX1_targetOf_1 ?_
  refine lv_iload_n hx hb dX1_targetOf_4 rfl (lv_at hl 1 rfl) ?_
  refine z_ald hx hb hK hP 4 0 j (f := (fun w => nI (zpl σ w))) rfl rfl (by first | omega | decide) (by first | decide | omega) dX1_targetOf_5 ?_
  have hq_1 : zpl σ j < 18 := hok _ (by omega)
  refine lv_istore_n (lv' := [(3, .int (nI (zpl σ j))), (0, .ref (ad 0)), (1, .int (nI j)), (2, .int v)]) hx hb dX1_targetOf_6 rfl hl (by decide) rfl (fun ls hl => ?_)
  refine lv_aload_n hx hb dX1_targetOf_7 rfl (lv_at hl 1 rfl) ?_
  refine lv_iload_n hx hb dX1_targetOf_8 rfl (lv_at hl 0 rfl) ?_
  refine lv_iload_n hx hb dX1_targetOf_9 rfl (lv_at hl 3 rfl) ?_
  refine z_cVi (As := [.int (nI (zpl σ j)), .int v]) (rest := []) ⟨hx, hb, hml, hown, hts⟩ (k_X1_wayIn l dC dI ad cI σ hok (zpl σ j) (by omega) v) (cwV 2 hts gX1_targetOf_X1_wayIn rfl rfl rfl (by decide +kernel) ⟨Nat.le_of_ble_eq_true rfl, Nat.le_of_ble_eq_true rfl⟩) (va_recv hK hP (ci := 1) (q0 := 0) rfl rfl) hP hK rfl hl.1 rfl (Nat.le_of_ble_eq_true rfl) dX1_targetOf_10 ⟨Nat.le_of_ble_eq_true rfl, Nat.le_of_ble_eq_true rfl⟩ (fun r_2 hr_2 => ?_)
  subst hr_2
  refine lv_iconst (v := (-1)) hx hb dX1_targetOf_13 (by decide) ?_
  have hJ_3 : ∀ b_3 : Int32, b_3 = (if ¬ ((pwy σ (zpl σ j) v) = (-1)) then 1 else 0) → W p l e rX1_targetOf s m args below meth cd s.heap [] 0 0 Q (F0 m 22 ls (.int b_3 :: [])) := by
    intro b_3 eb_3
    refine lv_istore (lv' := [(4, .int b_3), (3, .int (nI (zpl σ j))), (0, .ref (ad 0)), (1, .int (nI j)), (2, .int v)]) hx hb dX1_targetOf_22 hl (by decide) rfl (fun ls hl => ?_)
    refine lv_iload hx hb dX1_targetOf_24 (lv_at hl 0 rfl) ?_
    refine z_ifeqB hx hb eb_3 (tgt := 39) dX1_targetOf_26 (by decide) (fun c_4 => ?_) (fun c_4 => ?_)
    · skip
      replace c_4 := Classical.not_not.mp c_4
      refine lv_aload_n hx hb dX1_targetOf_39 rfl (lv_at hl 2 rfl) ?_
      refine lv_iload_n hx hb dX1_targetOf_40 rfl (lv_at hl 4 rfl) ?_
      refine z_cVi (As := [.int v]) (rest := []) ⟨hx, hb, hml, hown, hts⟩ (k_X1_leastWornFreeFor l dC dI ad cI σ hok v) (cwV 1 hts gX1_targetOf_X1_leastWornFreeFor rfl rfl rfl (by decide +kernel) ⟨Nat.le_of_ble_eq_true rfl, Nat.le_of_ble_eq_true rfl⟩) (va_recv hK hP (ci := 1) (q0 := 0) rfl rfl) hP hK rfl hl.1 rfl (Nat.le_of_ble_eq_true rfl) dX1_targetOf_41 ⟨Nat.le_of_ble_eq_true rfl, Nat.le_of_ble_eq_true rfl⟩ (fun r_5 hr_5 => ?_)
      obtain ⟨o_6, eo_6⟩ : ∃ zz : Option Nat, zz = pff σ v := ⟨_, rfl⟩
      rw [← eo_6] at hr_5
      subst hr_5
      have hbo_6 : ∀ i, o_6 = some i → i < 18 := by rw [eo_6]; exact pff_lt
      refine lv_istore (lv' := [(5, .int (zo o_6)), (4, .int b_3), (3, .int (nI (zpl σ j))), (0, .ref (ad 0)), (1, .int (nI j)), (2, .int v)]) hx hb dX1_targetOf_44 hl (by decide) rfl (fun ls hl => ?_)
      refine lv_iload hx hb dX1_targetOf_46 (lv_at hl 0 rfl) ?_
      refine lv_iconst (v := (-1)) hx hb dX1_targetOf_48 (by decide) ?_
      refine z_neO hx hb o_6 (fun i hi => Nat.lt_of_lt_of_le (hbo_6 i hi) (by decide)) (tgt := 61) dX1_targetOf_49 (by decide) (fun k_7 ho_7 => ?_) (fun ho_7 => ?_)
      · skip
        have hE_7 := eo_6.symm.trans ho_7
        have hkb_7 := hbo_6 _ ho_7
        try rw [ho_7] at hl
        try rw [ho_7]
        replace hl : lv_has ls 6 [(5, .int (nI k_7)), (4, .int b_3), (3, .int (nI (zpl σ j))), (0, .ref (ad 0)), (1, .int (nI j)), (2, .int v)] := hl
        refine lv_iload hx hb dX1_targetOf_61 (lv_at hl 0 rfl) ?_
        exact hend _ _ _ (by first | contradiction | (simp [ptg, c_4, hE_7]; done) | (simp [ptg, c_4, hE_7]; rfl)) dX1_targetOf_63
      · skip
        have hE_7 := eo_6.symm.trans ho_7
        try rw [ho_7] at hl
        try rw [ho_7]
        replace hl : lv_has ls 6 [(5, .int (-1)), (4, .int b_3), (3, .int (nI (zpl σ j))), (0, .ref (ad 0)), (1, .int (nI j)), (2, .int v)] := hl
        refine lv_iload hx hb dX1_targetOf_52 (lv_at hl 1 rfl) ?_
        refine z_ifeqB hx hb eb_3 (tgt := 61) dX1_targetOf_54 (by decide) (fun c_8 => ?_) (fun c_8 => ?_)
        · skip
          replace c_8 := Classical.not_not.mp c_8
          refine lv_iload hx hb dX1_targetOf_61 (lv_at hl 0 rfl) ?_
          exact hend _ _ _ (by first | contradiction | (simp [ptg, c_4, hE_7, c_8]; done) | (simp [ptg, c_4, hE_7, c_8]; rfl)) dX1_targetOf_63
        · skip
          refine lv_iload_n hx hb dX1_targetOf_57 rfl (lv_at hl 2 rfl) ?_
          refine lv_goto (tgt := 63) hx hb dX1_targetOf_58 (by decide) ?_
          exact hend _ _ _ (by first | contradiction | (simp [ptg, c_4, hE_7, c_8]; done) | (simp [ptg, c_4, hE_7, c_8]; rfl)) dX1_targetOf_63
    · skip
      refine lv_aload_n hx hb dX1_targetOf_29 rfl (lv_at hl 2 rfl) ?_
      refine lv_iload_n hx hb dX1_targetOf_30 rfl (lv_at hl 3 rfl) ?_
      refine z_cVi (As := [.int (nI j)]) (rest := []) ⟨hx, hb, hml, hown, hts⟩ (k_X1_isHot l dC dI ad cI σ hok j (by omega)) (cwV 1 hts gX1_targetOf_X1_isHot rfl rfl rfl (by decide +kernel) ⟨Nat.le_of_ble_eq_true rfl, Nat.le_of_ble_eq_true rfl⟩) (va_recv hK hP (ci := 1) (q0 := 0) rfl rfl) hP hK rfl hl.1 rfl (Nat.le_of_ble_eq_true rfl) dX1_targetOf_31 ⟨Nat.le_of_ble_eq_true rfl, Nat.le_of_ble_eq_true rfl⟩ (fun r_9 hr_9 => ?_)
      refine z_ifneB hx hb hr_9 (tgt := 39) dX1_targetOf_34 (by decide) (fun c_10 => ?_) (fun c_10 => ?_)
      · skip
        refine lv_aload_n hx hb dX1_targetOf_39 rfl (lv_at hl 2 rfl) ?_
        refine lv_iload_n hx hb dX1_targetOf_40 rfl (lv_at hl 4 rfl) ?_
        refine z_cVi (As := [.int v]) (rest := []) ⟨hx, hb, hml, hown, hts⟩ (k_X1_leastWornFreeFor l dC dI ad cI σ hok v) (cwV 1 hts gX1_targetOf_X1_leastWornFreeFor rfl rfl rfl (by decide +kernel) ⟨Nat.le_of_ble_eq_true rfl, Nat.le_of_ble_eq_true rfl⟩) (va_recv hK hP (ci := 1) (q0 := 0) rfl rfl) hP hK rfl hl.1 rfl (Nat.le_of_ble_eq_true rfl) dX1_targetOf_41 ⟨Nat.le_of_ble_eq_true rfl, Nat.le_of_ble_eq_true rfl⟩ (fun r_11 hr_11 => ?_)
        obtain ⟨o_12, eo_12⟩ : ∃ zz : Option Nat, zz = pff σ v := ⟨_, rfl⟩
        rw [← eo_12] at hr_11
        subst hr_11
        have hbo_12 : ∀ i, o_12 = some i → i < 18 := by rw [eo_12]; exact pff_lt
        refine lv_istore (lv' := [(5, .int (zo o_12)), (4, .int b_3), (3, .int (nI (zpl σ j))), (0, .ref (ad 0)), (1, .int (nI j)), (2, .int v)]) hx hb dX1_targetOf_44 hl (by decide) rfl (fun ls hl => ?_)
        refine lv_iload hx hb dX1_targetOf_46 (lv_at hl 0 rfl) ?_
        refine lv_iconst (v := (-1)) hx hb dX1_targetOf_48 (by decide) ?_
        refine z_neO hx hb o_12 (fun i hi => Nat.lt_of_lt_of_le (hbo_12 i hi) (by decide)) (tgt := 61) dX1_targetOf_49 (by decide) (fun k_13 ho_13 => ?_) (fun ho_13 => ?_)
        · skip
          have hE_13 := eo_12.symm.trans ho_13
          have hkb_13 := hbo_12 _ ho_13
          try rw [ho_13] at hl
          try rw [ho_13]
          replace hl : lv_has ls 6 [(5, .int (nI k_13)), (4, .int b_3), (3, .int (nI (zpl σ j))), (0, .ref (ad 0)), (1, .int (nI j)), (2, .int v)] := hl
          refine lv_iload hx hb dX1_targetOf_61 (lv_at hl 0 rfl) ?_
          exact hend _ _ _ (by first | contradiction | (simp [ptg, c_4, c_10, hE_13]; done) | (simp [ptg, c_4, c_10, hE_13]; rfl)) dX1_targetOf_63
        · skip
          have hE_13 := eo_12.symm.trans ho_13
          try rw [ho_13] at hl
          try rw [ho_13]
          replace hl : lv_has ls 6 [(5, .int (-1)), (4, .int b_3), (3, .int (nI (zpl σ j))), (0, .ref (ad 0)), (1, .int (nI j)), (2, .int v)] := hl
          refine lv_iload hx hb dX1_targetOf_52 (lv_at hl 1 rfl) ?_
          refine z_ifeqB hx hb eb_3 (tgt := 61) dX1_targetOf_54 (by decide) (fun c_14 => ?_) (fun c_14 => ?_)
          · skip
            replace c_14 := Classical.not_not.mp c_14
            refine lv_iload hx hb dX1_targetOf_61 (lv_at hl 0 rfl) ?_
            exact hend _ _ _ (by first | contradiction | (simp [ptg, c_4, c_10, hE_13, c_14]; done) | (simp [ptg, c_4, c_10, hE_13, c_14]; rfl)) dX1_targetOf_63
          · skip
            refine lv_iload_n hx hb dX1_targetOf_57 rfl (lv_at hl 2 rfl) ?_
            refine lv_goto (tgt := 63) hx hb dX1_targetOf_58 (by decide) ?_
            exact hend _ _ _ (by first | contradiction | (simp [ptg, c_4, c_10, hE_13, c_14]; done) | (simp [ptg, c_4, c_10, hE_13, c_14]; rfl)) dX1_targetOf_63
      · skip
        refine lv_iload_n hx hb dX1_targetOf_37 rfl (lv_at hl 1 rfl) ?_
        exact hend _ _ _ (by first | contradiction | (simp [ptg, c_4, c_10]; done) | (simp [ptg, c_4, c_10]; rfl)) dX1_targetOf_38
  refine lv_icmp_eq (tgt := 21) hx hb dX1_targetOf_14 (by decide) (fun c_3 => ?_) (fun c_3 => ?_)
  · refine lv_iconst (v := 0) hx hb dX1_targetOf_21 (by decide) ?_
    exact hJ_3 _ (if_neg (fun z => z c_3)).symm
  · refine lv_iconst (v := 1) hx hb dX1_targetOf_17 (by decide) ?_
    refine lv_goto (tgt := 22) hx hb dX1_targetOf_18 (by decide) ?_
    exact hJ_3 _ (if_pos c_3).symm
