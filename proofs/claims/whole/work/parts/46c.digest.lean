abbrev rX3_digest : Room := { frames := 6, cells := 0, slots := 0, locals := 149 }
set_option maxHeartbeats 4000000 in
set_option maxRecDepth 100000 in
theorem k_X3_digest (l : Launch) (dC : Nat → ClassId) (dI : Nat → Nat → Nat) (c0 : Nat) (ad ae ah ax : Nat → Nat) (ar : Nat → Nat → Nat) (cI cS : ClassId) (σ τ : zS) (o n : Nat) (ho : o < 6) (hn : n ≤ 6) (hs : Nat → zS) (ω : zT) (hok : zok σ) (hbt : zbt σ) (ht : tl ω ≤ 60) (hns : zNorm (pShare (zc1 σ) (zc2 σ))) (sz : Nat) : zWl (S := Unit) l yX3_digest wsX3_digest rX3_digest (dC, dI) [.ref c0] (zCW c0 ad ae ah ax ar cI cS σ τ o n hs ω) [(cI, .int), (cS, .object RX1)] sz (fun r (_ : Unit) => r = pDg σ n (pDD σ) (nI (pTurns 0 500 σ (nI 819)).2) (pShare (zc1 σ) (zc2 σ)) (tx ω) (tl ω)) (fun _ => zCW c0 ad ae ah ax ar cI cS σ ((pTurns 0 500 σ (nI 819)).1) o n hs ω) 0 0 := by
  refine zWl_of (cc := cX3_digest) (maxL := 4) (by decide) rfl (Nat.le_of_ble_eq_true rfl) ?_
  intro p e s m args below meth cd Q ls A hat hP hK hD hA hend
  obtain ⟨hx, hb, hml, hown, hts, hl⟩ := hat
  replace hown : s.vm.findClass RX3 = some m.cls := hown
  replace hl : lv_has ls 4 [(0, .ref c0)] := hl
  replace hP : va_P (dC, dI) vwCl (zCo c0 ad ae ah ax ++ (zW ad cI σ ++ (zW ae cI τ ++ (zHW ah ar cI cS o n hs ++ zTW ax cI ω)))) s.heap := hP
  replace hD : va_D A (zCo c0 ad ae ah ax ++ (zW ad cI σ ++ (zW ae cI τ ++ (zHW ah ar cI cS o n hs ++ zTW ax cI ω)))) := hD
  have hS : va_S A s.heap s.heap [] := va_S.rf
  have hc212 := hts (.constantLong RX3 212 (2969)) (by decide +kernel)
  have hc214 := hts (.constantLong RX3 214 (31)) (by decide +kernel)
  have hf29 := hts (.fieldLink RX3 29 "InsideOutWords" "text" "LInsideOutWords$Text;") (by decide +kernel)
  have hnX3 : ∀ w ∈ u_ws RX3 TX3 4, w ∈ wsX3_digest := by decide +kernel
  have hf10 := hts (.fieldLink RX3 10 "InsideOutWords" "now" "LInsideOutWords$State;") (by decide +kernel)
  have hf101 := hts (.fieldLink RX3 101 "InsideOutWords$State" "settings" "[I") (by decide +kernel)
  have hnX1 : ∀ w ∈ u_ws RX1 TX1 13, w ∈ wsX3_digest := by decide +kernel
  refine lv_ldc2 hx hb hown hc212 dX3_digest_0 ?_
  refine lv_lstore_n (lv' := [(1, .long 2969), (0, .ref c0)]) hx hb dX3_digest_3 rfl hl (by decide) rfl (fun ls hl => ?_)
  refine lv_iconst (v := 0) hx hb dX3_digest_4 (by decide) ?_
  refine lv_istore_n (lv' := [(3, .int 0), (1, .long 2969), (0, .ref c0)]) hx hb dX3_digest_5 rfl hl (by decide) rfl (fun ls hl => ?_)
  have hC_6 : ∀ (nf : Nat) (y1 : Int64) (i1 : Nat) (ls : Array Slot), 10 - i1 < nf → lv_has ls 4 [(0, .ref c0), (1, .long y1), (3, .int (nI i1))] → (i1 ≤ 10) → (y1 = pHs (vCount σ n) i1 2969) → W p l e rX3_digest s m args below meth cd s.heap [] 0 0 Q (F0 m 6 ls []) := by
    intro nf
    induction nf with
    | zero => intro y1 i1 ls hm_6 hl hi1 ey1; exact absurd hm_6 (Nat.not_lt_zero _)
    | succ nf ih_6 =>
      intro y1 i1 ls hm_6 hl hi1 ey1
      refine lv_iload_n hx hb dX3_digest_6 rfl (lv_at hl 2 rfl) ?_
      refine lv_bipush (v := 10) hx hb dX3_digest_7 (by decide) ?_
      refine z_ge hx hb i1 10 (by omega) (by omega) (tgt := 31) dX3_digest_9 (by decide) (fun c_1 => ?_) (fun c_1 => ?_)
      · skip
        refine lv_iconst (v := 0) hx hb dX3_digest_31 (by decide) ?_
        refine lv_istore_n (lv' := [(3, .int 0), (0, .ref c0), (1, .long y1)]) hx hb dX3_digest_32 rfl hl (by decide) rfl (fun ls hl => ?_)
        have hC_33 : ∀ (nf : Nat) (y2 : Int64) (i2 : Nat) (ls : Array Slot), 2 - i2 < nf → lv_has ls 4 [(0, .ref c0), (1, .long y2), (3, .int (nI i2))] → (i2 ≤ 2) → (y2 = pHs (zst σ) i2 (pHs (vCount σ n) 10 2969)) → W p l e rX3_digest s m args below meth cd s.heap [] 0 0 Q (F0 m 33 ls []) := by
          intro nf
          induction nf with
          | zero => intro y2 i2 ls hm_33 hl hi2 ey2; exact absurd hm_33 (Nat.not_lt_zero _)
          | succ nf ih_33 =>
            intro y2 i2 ls hm_33 hl hi2 ey2
            refine lv_iload_n hx hb dX3_digest_33 rfl (lv_at hl 2 rfl) ?_
            refine lv_iconst (v := 2) hx hb dX3_digest_34 (by decide) ?_
            refine z_ge hx hb i2 2 (by omega) (by omega) (tgt := 61) dX3_digest_35 (by decide) (fun c_2 => ?_) (fun c_2 => ?_)
            · skip
              refine lv_iconst (v := 0) hx hb dX3_digest_61 (by decide) ?_
              refine lv_istore_n (lv' := [(3, .int 0), (0, .ref c0), (1, .long y2)]) hx hb dX3_digest_62 rfl hl (by decide) rfl (fun ls hl => ?_)
              have hC_63 : ∀ (nf : Nat) (y3 : Int64) (i3 : Nat) (ls : Array Slot), 16 - i3 < nf → lv_has ls 4 [(0, .ref c0), (1, .long y3), (3, .int (nI i3))] → (i3 ≤ 16) → (y3 = pFold (pDgW σ (pDD σ)) i3 (pDg1 σ n)) → W p l e rX3_digest s m args below meth cd s.heap [] 0 0 Q (F0 m 63 ls []) := by
                intro nf
                induction nf with
                | zero => intro y3 i3 ls hm_63 hl hi3 ey3; exact absurd hm_63 (Nat.not_lt_zero _)
                | succ nf ih_63 =>
                  intro y3 i3 ls hm_63 hl hi3 ey3
                  refine lv_iload_n hx hb dX3_digest_63 rfl (lv_at hl 2 rfl) ?_
                  refine lv_bipush (v := 16) hx hb dX3_digest_64 (by decide) ?_
                  refine z_ge hx hb i3 16 (by omega) (by omega) (tgt := 82) dX3_digest_66 (by decide) (fun c_3 => ?_) (fun c_3 => ?_)
                  · skip
                    refine lv_iconst (v := 0) hx hb dX3_digest_82 (by decide) ?_
                    refine lv_istore_n (lv' := [(3, .int 0), (0, .ref c0), (1, .long y3)]) hx hb dX3_digest_83 rfl hl (by decide) rfl (fun ls hl => ?_)
                    have hC_84 : ∀ (nf : Nat) (y4 : Int64) (i4 : Nat) (ls : Array Slot), 18 - i4 < nf → lv_has ls 4 [(0, .ref c0), (1, .long y4), (3, .int (nI i4))] → (i4 ≤ 18) → (y4 = pFold (pDgS σ) i4 (pFold (pDgW σ (pDD σ)) 16 (pDg1 σ n))) → W p l e rX3_digest s m args below meth cd s.heap [] 0 0 Q (F0 m 84 ls []) := by
                      intro nf
                      induction nf with
                      | zero => intro y4 i4 ls hm_84 hl hi4 ey4; exact absurd hm_84 (Nat.not_lt_zero _)
                      | succ nf ih_84 =>
                        intro y4 i4 ls hm_84 hl hi4 ey4
                        refine lv_iload_n hx hb dX3_digest_84 rfl (lv_at hl 2 rfl) ?_
                        refine lv_bipush (v := 18) hx hb dX3_digest_85 (by decide) ?_
                        refine z_ge hx hb i4 18 (by omega) (by omega) (tgt := 103) dX3_digest_87 (by decide) (fun c_4 => ?_) (fun c_4 => ?_)
                        · skip
                          refine lv_iconst (v := 0) hx hb dX3_digest_103 (by decide) ?_
                          refine lv_istore_n (lv' := [(3, .int 0), (0, .ref c0), (1, .long y4)]) hx hb dX3_digest_104 rfl hl (by decide) rfl (fun ls hl => ?_)
                          have hC_105 : ∀ (nf : Nat) (y5 : Int64) (i5 : Nat) (ls : Array Slot), 13 - i5 < nf → lv_has ls 4 [(0, .ref c0), (1, .long y5), (3, .int (nI i5))] → (i5 ≤ 13) → (y5 = pHs (fun c => zwn σ (0 * 13 + c)) i5 (pFold (pDgS σ) 18 (pFold (pDgW σ (pDD σ)) 16 (pDg1 σ n)))) → W p l e rX3_digest s m args below meth cd s.heap [] 0 0 Q (F0 m 105 ls []) := by
                            intro nf
                            induction nf with
                            | zero => intro y5 i5 ls hm_105 hl hi5 ey5; exact absurd hm_105 (Nat.not_lt_zero _)
                            | succ nf ih_105 =>
                              intro y5 i5 ls hm_105 hl hi5 ey5
                              refine lv_iload_n hx hb dX3_digest_105 rfl (lv_at hl 2 rfl) ?_
                              refine lv_bipush (v := 13) hx hb dX3_digest_106 (by decide) ?_
                              refine z_ge hx hb i5 13 (by omega) (by omega) (tgt := 134) dX3_digest_108 (by decide) (fun c_5 => ?_) (fun c_5 => ?_)
                              · skip
                                refine lv_ldc2 hx hb hown hc214 dX3_digest_134 ?_
                                refine lv_lload_n hx hb dX3_digest_137 rfl (lv_at hl 1 rfl) ?_
                                refine lv_lmul hx hb dX3_digest_138 ?_
                                refine lv_aload_n hx hb dX3_digest_139 rfl (lv_at hl 0 rfl) ?_
                                refine lv_iconst (v := 0) hx hb dX3_digest_140 (by decide) ?_
                                refine lv_sipush (v := 819) hx hb dX3_digest_141 (by decide) ?_
                                replace hP := z_reord (ws' := (([] : va_W) ++ (zCo c0 ad ae ah ax ++ (zW ad cI σ ++ (zW ae cI τ ++ (zHW ah ar cI cS o n hs ++ zTW ax cI ω)))))) (fun q h => (List.mem_append.mp h).elim (fun h => nomatch h) (fun h => (List.mem_append.mp h).elim (fun h => List.mem_append_left _ h) (fun h => (List.mem_append.mp h).elim (fun h => List.mem_append_right _ (List.mem_append_left _ h)) (fun h => (List.mem_append.mp h).elim (fun h => List.mem_append_right _ (List.mem_append_right _ (List.mem_append_left _ h))) (fun h => (List.mem_append.mp h).elim (fun h => List.mem_append_right _ (List.mem_append_right _ (List.mem_append_right _ (List.mem_append_left _ h)))) (fun h => List.mem_append_right _ (List.mem_append_right _ (List.mem_append_right _ (List.mem_append_right _ h))))))))) (fun a => by simp only [List.map_append, List.count_append, List.map_nil, List.count_nil]; omega) hP hD
                                obtain ⟨hP, hD⟩ := hP
                                refine z_xWi (wr := ([] : va_W)) (As := [.int 0, .int 819]) (rest := [.long (31 * y5)]) ⟨hx, hb, hml, hown, hts⟩ (k_X3_life l dC dI c0 ad ae ah ax ar cI cS σ τ o n (by omega) (by omega) hs ω hok 0 (by omega) 819 (by omega) (s.heap).size) (cwV 2 hts gX3_digest_X3_life rfl rfl rfl (by decide +kernel) ⟨Nat.le_of_ble_eq_true rfl, Nat.le_of_ble_eq_true rfl⟩) (va_recv hK hP (ci := 3) (q0 := 0) rfl rfl) hP hD hS hA (hK.sub (tys' := [(cI, .int), (cS, .object RX1)]) [0, 1] rfl) rfl hl.1 rfl (Nat.le_of_ble_eq_true rfl) dX3_digest_144 ⟨Nat.le_of_ble_eq_true rfl, Nat.le_of_ble_eq_true rfl⟩ (fun r_6 _ H locs hr_6 (hP : va_P (dC, dI) vwCl (([] : va_W) ++ (zCo c0 ad ae ah ax ++ (zW ad cI σ ++ (zW ae cI ((pTurns 0 500 σ (nI 819)).1) ++ (zHW ah ar cI cS o n hs ++ zTW ax cI ω))))) H) (hD : va_D A (([] : va_W) ++ (zCo c0 ad ae ah ax ++ (zW ad cI σ ++ (zW ae cI ((pTurns 0 500 σ (nI 819)).1) ++ (zHW ah ar cI cS o n hs ++ zTW ax cI ω)))))) hS => ?_)
                                subst hr_6
                                refine lv_i2l (v := (nI ((pTurns 0 500 σ (nI 819)).2)).toInt64) hx hb dX3_digest_147 rfl ?_
                                refine lv_ladd hx hb dX3_digest_148 ?_
                                refine lv_lstore_n (lv' := [(1, .long ((31 * y5) + ((nI ((pTurns 0 500 σ (nI 819)).2)).toInt64))), (0, .ref c0), (3, .int (nI i5))]) hx hb dX3_digest_149 rfl hl (by decide) rfl (fun ls hl => ?_)
                                refine lv_ldc2 hx hb hown hc214 dX3_digest_150 ?_
                                refine lv_lload_n hx hb dX3_digest_153 rfl (lv_at hl 0 rfl) ?_
                                refine lv_lmul hx hb dX3_digest_154 ?_
                                refine lv_aload_n hx hb dX3_digest_155 rfl (lv_at hl 1 rfl) ?_
                                refine z_cVd (As := []) (rest := [.long (31 * ((31 * y5) + ((nI ((pTurns 0 500 σ (nI 819)).2)).toInt64)))]) ⟨hx, hb, hml, hown, hts⟩ (k_X3_share l dC dI c0 ad ae ah ax cI σ hok) (cwV 0 hts gX3_digest_X3_share rfl rfl rfl (by decide +kernel) ⟨Nat.le_of_ble_eq_true rfl, Nat.le_of_ble_eq_true rfl⟩) (va_recv hK hP (ci := 3) (q0 := 0) rfl rfl) (hP.sub (ws' := zCo c0 ad ae ah ax ++ zW ad cI σ) [0, 1, 2, 3, 4, 5, 6, 7, 8, 9] rfl) (hK.sub (tys' := [(cI, .int)]) [0] rfl) rfl hl.1 rfl (Nat.le_of_ble_eq_true rfl) dX3_digest_156 ⟨Nat.le_of_ble_eq_true rfl, Nat.le_of_ble_eq_true rfl⟩ (fun r_7 hr_7 => ?_)
                                subst hr_7
                                refine z_cSl (As := [.double (pShare (zc1 σ) (zc2 σ))]) (rest := [.long (31 * ((31 * y5) + ((nI ((pTurns 0 500 σ (nI 819)).2)).toInt64)))]) ⟨hx, hb, hml, hown, hts⟩ (k_X3_bitsOf_x l dC dI (pShare (zc1 σ) (zc2 σ)) hns) (va_cwS 1 hts gX3_digest_X3_bitsOf rfl rfl rfl (by decide +kernel) ⟨Nat.le_of_ble_eq_true rfl, Nat.le_of_ble_eq_true rfl⟩) (hP.sub (ws' := []) [] rfl) (hK.sub (tys' := []) [] rfl) rfl hl.1 rfl (Nat.le_of_ble_eq_true rfl) dX3_digest_159 ⟨Nat.le_of_ble_eq_true rfl, Nat.le_of_ble_eq_true rfl⟩ (fun r_8 hr_8 => ?_)
                                subst hr_8
                                refine lv_ladd hx hb dX3_digest_162 ?_
                                refine lv_lstore_n (lv' := [(1, .long ((31 * ((31 * y5) + ((nI ((pTurns 0 500 σ (nI 819)).2)).toInt64))) + ((pShare (zc1 σ) (zc2 σ)).toInt64))), (0, .ref c0), (3, .int (nI i5))]) hx hb dX3_digest_163 rfl hl (by decide) rfl (fun ls hl => ?_)
                                refine lv_aload_n hx hb dX3_digest_164 rfl (lv_at hl 1 rfl) ?_
                                refine va_get (D := (dC, dI)) (ci := 3) (v := .ref (ax 0)) (C := RX3) (T := TX3) (N := 4) hx hb hts hnX3 hown hK hP 0 rfl rfl 3 (by decide) hf29 (fun _ h9 => h9) rfl dX3_digest_165 ?_
                                refine lv_lload_n hx hb dX3_digest_168 rfl (lv_at hl 0 rfl) ?_
                                refine z_cVl (As := [.long ((31 * ((31 * y5) + ((nI ((pTurns 0 500 σ (nI 819)).2)).toInt64))) + ((pShare (zc1 σ) (zc2 σ)).toInt64))]) (rest := []) ⟨hx, hb, hml, hown, hts⟩ (k_X2_hashAfter l dC dI ax cI ω (by omega) ((31 * ((31 * y5) + ((nI ((pTurns 0 500 σ (nI 819)).2)).toInt64))) + ((pShare (zc1 σ) (zc2 σ)).toInt64))) (cwV 1 hts gX3_digest_X2_hashAfter rfl rfl rfl (by decide +kernel) ⟨Nat.le_of_ble_eq_true rfl, Nat.le_of_ble_eq_true rfl⟩) (va_recv hK hP (ci := 2) (q0 := 75) rfl rfl) (hP.sub (ws' := zTW ax cI ω) [75, 76, 77, 78] rfl) (hK.sub (tys' := [(cI, .int)]) [0] rfl) rfl hl.1 rfl (Nat.le_of_ble_eq_true rfl) dX3_digest_169 ⟨Nat.le_of_ble_eq_true rfl, Nat.le_of_ble_eq_true rfl⟩ (fun r_9 hr_9 => ?_)
                                subst hr_9
                                replace hP := z_reord (ws' := (zCo c0 ad ae ah ax ++ (zW ad cI σ ++ (zW ae cI ((pTurns 0 500 σ (nI 819)).1) ++ (zHW ah ar cI cS o n hs ++ zTW ax cI ω))))) (fun q h => (List.mem_append.mp h).elim (fun h => List.mem_append_right _ (List.mem_append_left _ h)) (fun h => (List.mem_append.mp h).elim (fun h => List.mem_append_right _ (List.mem_append_right _ (List.mem_append_left _ h))) (fun h => (List.mem_append.mp h).elim (fun h => List.mem_append_right _ (List.mem_append_right _ (List.mem_append_right _ (List.mem_append_left _ h)))) (fun h => (List.mem_append.mp h).elim (fun h => List.mem_append_right _ (List.mem_append_right _ (List.mem_append_right _ (List.mem_append_right _ (List.mem_append_left _ h))))) (fun h => List.mem_append_right _ (List.mem_append_right _ (List.mem_append_right _ (List.mem_append_right _ (List.mem_append_right _ h))))))))) (fun a => by simp only [List.map_append, List.count_append, List.map_nil, List.count_nil]; omega) hP hD
                                obtain ⟨hP, hD⟩ := hP
                                replace hP : va_P (dC, dI) vwCl (zCW c0 ad ae ah ax ar cI cS σ ((pTurns 0 500 σ (nI 819)).1) o n hs ω) H := hP
                                replace hD : va_D A (zCW c0 ad ae ah ax ar cI cS σ ((pTurns 0 500 σ (nI 819)).1) o n hs ω) := hD
                                exact hend _ () _ _ _ _ (by rw [ey5, show i5 = 13 by omega, pDg, pDg2]) hP hD hS dX3_digest_172
                              · skip
                                refine lv_ldc2 hx hb hown hc214 dX3_digest_111 ?_
                                refine lv_lload_n hx hb dX3_digest_114 rfl (lv_at hl 1 rfl) ?_
                                refine lv_lmul hx hb dX3_digest_115 ?_
                                refine lv_aload_n hx hb dX3_digest_116 rfl (lv_at hl 0 rfl) ?_
                                refine va_get (D := (dC, dI)) (ci := 3) (v := .ref (ad 0)) (C := RX3) (T := TX3) (N := 4) hx hb hts hnX3 hown hK hP 0 rfl rfl 0 (by decide) hf10 (fun _ h9 => h9) rfl dX3_digest_117 ?_
                                refine lv_iconst (v := 0) hx hb dX3_digest_120 (by decide) ?_
                                refine lv_iload_n hx hb dX3_digest_121 rfl (lv_at hl 2 rfl) ?_
                                refine z_cVi (As := [.int 0, .int (nI i5)]) (rest := [.long (31 * y5)]) ⟨hx, hb, hml, hown, hts⟩ (k_X1_wornAt l dC dI ad cI σ hok 0 (by omega) i5 (by omega)) (cwV 2 hts gX3_digest_X1_wornAt rfl rfl rfl (by decide +kernel) ⟨Nat.le_of_ble_eq_true rfl, Nat.le_of_ble_eq_true rfl⟩) (va_recv hK hP (ci := 1) (q0 := 1) rfl rfl) (hP.sub (ws' := zW ad cI σ) [1, 2, 3, 4, 5, 6, 7, 8, 9] rfl) (hK.sub (tys' := [(cI, .int)]) [0] rfl) rfl hl.1 rfl (Nat.le_of_ble_eq_true rfl) dX3_digest_122 ⟨Nat.le_of_ble_eq_true rfl, Nat.le_of_ble_eq_true rfl⟩ (fun r_10 hr_10 => ?_)
                                subst hr_10
                                refine lv_i2l (v := (zwn σ (0 * 13 + i5)).toInt64) hx hb dX3_digest_125 rfl ?_
                                refine lv_ladd hx hb dX3_digest_126 ?_
                                refine lv_lstore_n (lv' := [(1, .long ((31 * y5) + ((zwn σ (0 * 13 + i5)).toInt64))), (0, .ref c0), (3, .int (nI i5))]) hx hb dX3_digest_127 rfl hl (by decide) rfl (fun ls hl => ?_)
                                refine lv_iinc (v := nI (i5 + 1)) (lv' := [(3, .int (nI (i5 + 1))), (1, .long ((31 * y5) + ((zwn σ (0 * 13 + i5)).toInt64))), (0, .ref c0)]) hx hb dX3_digest_128 hl (k := 2) rfl (z_inc1 _) (by decide) rfl (fun ls hl => ?_)
                                refine lv_goto (tgt := 105) hx hb dX3_digest_131 (by decide) ?_
                                exact ih_105 ((31 * y5) + ((zwn σ (0 * 13 + i5)).toInt64)) (i5 + 1) _ (by omega) (lv_sub hl [2, 1, 0] rfl) (by omega) (by rw [ey5]; rfl)
                          exact hC_105 _ y4 0 _ (Nat.lt_succ_self _) (lv_sub hl [1, 2, 0] rfl) (by omega) (by rw [ey4, show i4 = 18 by omega, pHs_0])
                        · skip
                          refine lv_aload_n hx hb dX3_digest_90 rfl (lv_at hl 0 rfl) ?_
                          refine lv_lload_n hx hb dX3_digest_91 rfl (lv_at hl 1 rfl) ?_
                          refine lv_iload_n hx hb dX3_digest_92 rfl (lv_at hl 2 rfl) ?_
                          refine z_cVl (As := [.long y4, .int (nI i4)]) (rest := []) ⟨hx, hb, hml, hown, hts⟩ (k_X3_hashOfSlot l dC dI c0 ad ae ah ax cI σ hok y4 i4 (by omega)) (cwV 2 hts gX3_digest_X3_hashOfSlot rfl rfl rfl (by decide +kernel) ⟨Nat.le_of_ble_eq_true rfl, Nat.le_of_ble_eq_true rfl⟩) (va_recv hK hP (ci := 3) (q0 := 0) rfl rfl) (hP.sub (ws' := zCo c0 ad ae ah ax ++ zW ad cI σ) [0, 1, 2, 3, 4, 5, 6, 7, 8, 9] rfl) (hK.sub (tys' := [(cI, .int)]) [0] rfl) rfl hl.1 rfl (Nat.le_of_ble_eq_true rfl) dX3_digest_93 ⟨Nat.le_of_ble_eq_true rfl, Nat.le_of_ble_eq_true rfl⟩ (fun r_11 hr_11 => ?_)
                          subst hr_11
                          refine lv_lstore_n (lv' := [(1, .long (31 * pHs (vSlot σ i4) 6 y4 + (if pwy σ i4 (nI 2730) = -1 then -1 else pBC (zhd σ i4 ^^^ pwy σ i4 (nI 2730))).toInt64)), (0, .ref c0), (3, .int (nI i4))]) hx hb dX3_digest_96 rfl hl (by decide) rfl (fun ls hl => ?_)
                          refine lv_iinc (v := nI (i4 + 1)) (lv' := [(3, .int (nI (i4 + 1))), (1, .long (31 * pHs (vSlot σ i4) 6 y4 + (if pwy σ i4 (nI 2730) = -1 then -1 else pBC (zhd σ i4 ^^^ pwy σ i4 (nI 2730))).toInt64)), (0, .ref c0)]) hx hb dX3_digest_97 hl (k := 2) rfl (z_inc1 _) (by decide) rfl (fun ls hl => ?_)
                          refine lv_goto (tgt := 84) hx hb dX3_digest_100 (by decide) ?_
                          exact ih_84 (31 * pHs (vSlot σ i4) 6 y4 + (if pwy σ i4 (nI 2730) = -1 then -1 else pBC (zhd σ i4 ^^^ pwy σ i4 (nI 2730))).toInt64) (i4 + 1) _ (by omega) (lv_sub hl [2, 1, 0] rfl) (by omega) (by rw [ey4]; exact pFold_s (f := pDgS σ) (n := i4) (h := pFold (pDgW σ (pDD σ)) 16 (pDg1 σ n)))
                    exact hC_84 _ y3 0 _ (Nat.lt_succ_self _) (lv_sub hl [1, 2, 0] rfl) (by omega) (by rw [ey3, show i3 = 16 by omega, pFold_0])
                  · skip
                    refine lv_aload_n hx hb dX3_digest_69 rfl (lv_at hl 0 rfl) ?_
                    refine lv_lload_n hx hb dX3_digest_70 rfl (lv_at hl 1 rfl) ?_
                    refine lv_iload_n hx hb dX3_digest_71 rfl (lv_at hl 2 rfl) ?_
                    refine z_cVl (As := [.long y3, .int (nI i3)]) (rest := []) ⟨hx, hb, hml, hown, hts⟩ (k_X3_hashOfWord l dC dI c0 ad ae ah ax cI σ hok y3 i3 (by omega) hbt) (cwV 2 hts gX3_digest_X3_hashOfWord rfl rfl rfl (by decide +kernel) ⟨Nat.le_of_ble_eq_true rfl, Nat.le_of_ble_eq_true rfl⟩) (va_recv hK hP (ci := 3) (q0 := 0) rfl rfl) (hP.sub (ws' := zCo c0 ad ae ah ax ++ zW ad cI σ) [0, 1, 2, 3, 4, 5, 6, 7, 8, 9] rfl) (hK.sub (tys' := [(cI, .int)]) [0] rfl) rfl hl.1 rfl (Nat.le_of_ble_eq_true rfl) dX3_digest_72 ⟨Nat.le_of_ble_eq_true rfl, Nat.le_of_ble_eq_true rfl⟩ (fun r_12 hr_12 => ?_)
                    subst hr_12
                    refine lv_lstore_n (lv' := [(1, .long (31 * (31 * pHs (vWord σ i3) 5 (31 * y3 + (pnm σ i3).toInt64) + (zo (ptg σ i3 (nI 1365))).toInt64) + (pDi (iN (pNum (zhd σ (zpl σ i3)))) (pst σ (zpl σ i3))).toInt64)), (0, .ref c0), (3, .int (nI i3))]) hx hb dX3_digest_75 rfl hl (by decide) rfl (fun ls hl => ?_)
                    refine lv_iinc (v := nI (i3 + 1)) (lv' := [(3, .int (nI (i3 + 1))), (1, .long (31 * (31 * pHs (vWord σ i3) 5 (31 * y3 + (pnm σ i3).toInt64) + (zo (ptg σ i3 (nI 1365))).toInt64) + (pDi (iN (pNum (zhd σ (zpl σ i3)))) (pst σ (zpl σ i3))).toInt64)), (0, .ref c0)]) hx hb dX3_digest_76 hl (k := 2) rfl (z_inc1 _) (by decide) rfl (fun ls hl => ?_)
                    refine lv_goto (tgt := 63) hx hb dX3_digest_79 (by decide) ?_
                    exact ih_63 (31 * (31 * pHs (vWord σ i3) 5 (31 * y3 + (pnm σ i3).toInt64) + (zo (ptg σ i3 (nI 1365))).toInt64) + (pDi (iN (pNum (zhd σ (zpl σ i3)))) (pst σ (zpl σ i3))).toInt64) (i3 + 1) _ (by omega) (lv_sub hl [2, 1, 0] rfl) (by omega) (by rw [ey3]; exact pFold_s (f := pDgW σ (pDD σ)) (n := i3) (h := pDg1 σ n))
              exact hC_63 _ y2 0 _ (Nat.lt_succ_self _) (lv_sub hl [1, 2, 0] rfl) (by omega) (by rw [ey2, show i2 = 2 by omega, pFold_0, pDg1])
            · skip
              refine lv_ldc2 hx hb hown hc214 dX3_digest_38 ?_
              refine lv_lload_n hx hb dX3_digest_41 rfl (lv_at hl 1 rfl) ?_
              refine lv_lmul hx hb dX3_digest_42 ?_
              refine lv_aload_n hx hb dX3_digest_43 rfl (lv_at hl 0 rfl) ?_
              refine va_get (D := (dC, dI)) (ci := 3) (v := .ref (ad 0)) (C := RX3) (T := TX3) (N := 4) hx hb hts hnX3 hown hK hP 0 rfl rfl 0 (by decide) hf10 (fun _ h9 => h9) rfl dX3_digest_44 ?_
              refine va_get (D := (dC, dI)) (ci := 1) (v := .ref (ad 8)) (C := RX1) (T := TX1) (N := 13) hx hb hts hnX1 hown hK hP 1 rfl rfl 7 (by decide) hf101 (fun _ h9 => h9) rfl dX3_digest_47 ?_
              refine lv_iload_n hx hb dX3_digest_50 rfl (lv_at hl 2 rfl) ?_
              refine z_ald hx hb hK hP 9 0 i2 (f := (zst σ)) rfl rfl (by first | omega | decide) (by first | decide | omega) dX3_digest_51 ?_
              refine lv_i2l (v := ((zst σ) i2).toInt64) hx hb dX3_digest_52 rfl ?_
              refine lv_ladd hx hb dX3_digest_53 ?_
              refine lv_lstore_n (lv' := [(1, .long ((31 * y2) + (((zst σ) i2).toInt64))), (0, .ref c0), (3, .int (nI i2))]) hx hb dX3_digest_54 rfl hl (by decide) rfl (fun ls hl => ?_)
              refine lv_iinc (v := nI (i2 + 1)) (lv' := [(3, .int (nI (i2 + 1))), (1, .long ((31 * y2) + (((zst σ) i2).toInt64))), (0, .ref c0)]) hx hb dX3_digest_55 hl (k := 2) rfl (z_inc1 _) (by decide) rfl (fun ls hl => ?_)
              refine lv_goto (tgt := 33) hx hb dX3_digest_58 (by decide) ?_
              exact ih_33 ((31 * y2) + (((zst σ) i2).toInt64)) (i2 + 1) _ (by omega) (lv_sub hl [2, 1, 0] rfl) (by omega) (by rw [ey2]; rfl)
        exact hC_33 _ y1 0 _ (Nat.lt_succ_self _) (lv_sub hl [1, 2, 0] rfl) (by omega) (by rw [ey1, show i1 = 10 by omega, pHs_0])
      · skip
        refine lv_ldc2 hx hb hown hc214 dX3_digest_12 ?_
        refine lv_lload_n hx hb dX3_digest_15 rfl (lv_at hl 1 rfl) ?_
        refine lv_lmul hx hb dX3_digest_16 ?_
        refine lv_aload_n hx hb dX3_digest_17 rfl (lv_at hl 0 rfl) ?_
        refine lv_iload_n hx hb dX3_digest_18 rfl (lv_at hl 2 rfl) ?_
        refine z_cVi (As := [.int (nI i1)]) (rest := [.long (31 * y1)]) ⟨hx, hb, hml, hown, hts⟩ (k_X3_count l dC dI c0 ad ae ah ax cI σ hok o n i1 (by omega)) (cwV 1 hts gX3_digest_X3_count rfl rfl rfl (by decide +kernel) ⟨Nat.le_of_ble_eq_true rfl, Nat.le_of_ble_eq_true rfl⟩) (va_recv hK hP (ci := 3) (q0 := 0) rfl rfl) (hP.sub (ws' := zCo c0 ad ae ah ax ++ (zW ad cI σ ++ zHo ah o n)) [0, 1, 2, 3, 4, 5, 6, 7, 8, 9, 19] rfl) (hK.sub (tys' := [(cI, .int)]) [0] rfl) rfl hl.1 rfl (Nat.le_of_ble_eq_true rfl) dX3_digest_19 ⟨Nat.le_of_ble_eq_true rfl, Nat.le_of_ble_eq_true rfl⟩ (fun r_13 hr_13 => ?_)
        subst hr_13
        refine lv_i2l (v := (vCount σ n i1).toInt64) hx hb dX3_digest_22 rfl ?_
        refine lv_ladd hx hb dX3_digest_23 ?_
        refine lv_lstore_n (lv' := [(1, .long ((31 * y1) + ((vCount σ n i1).toInt64))), (0, .ref c0), (3, .int (nI i1))]) hx hb dX3_digest_24 rfl hl (by decide) rfl (fun ls hl => ?_)
        refine lv_iinc (v := nI (i1 + 1)) (lv' := [(3, .int (nI (i1 + 1))), (1, .long ((31 * y1) + ((vCount σ n i1).toInt64))), (0, .ref c0)]) hx hb dX3_digest_25 hl (k := 2) rfl (z_inc1 _) (by decide) rfl (fun ls hl => ?_)
        refine lv_goto (tgt := 6) hx hb dX3_digest_28 (by decide) ?_
        exact ih_6 ((31 * y1) + ((vCount σ n i1).toInt64)) (i1 + 1) _ (by omega) (lv_sub hl [2, 1, 0] rfl) (by omega) (by rw [ey1]; rfl)
  exact hC_6 _ 2969 0 _ (Nat.lt_succ_self _) (lv_sub hl [2, 1, 0] rfl) (by omega) (rfl)
