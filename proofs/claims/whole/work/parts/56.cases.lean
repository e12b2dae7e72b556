set_option maxHeartbeats 4000000 in
theorem g_write {p : Program} {l : Launch} {e : Env} {s : State} {m : MethodId} {args : Array Value} {below : List Frame} {meth : Method} {c : Code} {Q : State → Prop} {b L : Nat} {xs : Nat → Int32} {dC : Nat → ClassId} {dI : Nat → Nat → Nat} {cI cS cL : ClassId} {c0 oa : Nat} {am ad ae ah ax : Nat → Nat} {ar : Nat → Nat → Nat} {κ : zK} {μ : zM} {f : Nat → Int64} {B i : Nat} {H : Heap} {locs : List Loc} {cells slots : Nat} {ls : Array Slot} (C : lCx l p s m args c b L xs dC dI cI cS cL) (hi : i + 3 < L) (h : kRel B κ μ) (hB : B < 2 ^ 31) (hR : cells + 1 ≤ room_1.cells ∧ slots + 6 ≤ room_1.slots) (hl : lv_has ls 9 [(4, .int (nI i)), (0, .ref b), (1, .ref c0), (2, .ref (am 0)), (3, .ref oa)]) (hP : va_P (dC, dI) vwCl (zLM c0 am ad ae ah ax ar cI cS cL oa κ μ f) H) (hD : va_D (fun q => s.heap.size ≤ q) (zLM c0 am ad ae ah ax ar cI cS cL oa κ μ f)) (hS : va_S (fun q => s.heap.size ≤ q) s.heap H locs)
    (kk : ∀ (κ' : zK) (μ' : zM) (f' : Nat → Int64) (ls : Array Slot) (H : Heap) (locs : List Loc), lv_has ls 9 [(4, .int (nI i)), (0, .ref b), (1, .ref c0), (2, .ref (am 0)), (3, .ref oa)] → va_P (dC, dI) vwCl (zLM c0 am ad ae ah ax ar cI cS cL oa κ' μ' f') H → va_D (fun q => s.heap.size ≤ q) (zLM c0 am ad ae ah ax ar cI cS cL oa κ' μ' f') → va_S (fun q => s.heap.size ≤ q) s.heap H locs → kRel (B + 6500) κ' μ' → W p l e room_1 s m args below meth c H locs (cells + 1) (slots + 6) Q (F0 m 1361 ls [])) : W p l e room_1 s m args below meth c H locs cells slots Q (F0 m 140 ls []) := by
  obtain ⟨hx, hb, hml, hown, hts, hK, hE, hNc, hN, hX, hbl, hl0, hL⟩ := C
  have hA : ∀ q, s.heap.size ≤ q → s.heap.size ≤ q := fun _ h => h
  have hn6 := h.n6
  have hr := rel_Write h (xs (i + 1)) (xs (i + 2))
  refine lv_aload_n hx hb dL_law_140 rfl (lv_at hl 2 rfl) ?_
  refine lv_aload_n hx hb dL_law_141 rfl (lv_at hl 1 rfl) ?_
  refine lv_iload hx hb dL_law_142 (lv_at hl 0 rfl) ?_
  refine lv_iconst (v := 1) hx hb dL_law_144 (by decide) ?_
  refine z_iadd hx hb i 1 dL_law_145 ?_
  refine z_sld hx hb hX hbl hS (i + 1) (by omega) hL dL_law_146 ?_
  refine lv_aload_n hx hb dL_law_147 rfl (lv_at hl 1 rfl) ?_
  refine lv_iload hx hb dL_law_148 (lv_at hl 0 rfl) ?_
  refine lv_iconst (v := 2) hx hb dL_law_150 (by decide) ?_
  refine z_iadd hx hb i 2 dL_law_151 ?_
  refine z_sld hx hb hX hbl hS (i + 2) (by omega) hL dL_law_152 ?_
  refine lv_aload_n hx hb dL_law_153 rfl (lv_at hl 4 rfl) ?_
  refine z_xWSx (wr := zMW am cI μ) (As := [.ref c0, .int (xs (i + 1)), .int (xs (i + 2)), .ref oa]) (rest := []) ⟨hx, hb, hml, hown, hts⟩ (w_write l hl0 s.heap.size dC dI c0 ad ae ah ax ar cI cS cL oa κ h.o6 h.n6 h.zok f (xs (i + 1)) (xs (i + 2)) H.size) (vx_cwSW 4 hts gL_law_L_write rfl rfl rfl (by decide +kernel) ⟨Nat.le_of_ble_eq_true rfl, Nat.le_of_ble_eq_true rfl⟩) (fun U hU hW => ⟨hE.at (Nat.le_refl _) hS hW hU, hNc.at hW, va_Nw.warmM hW hN⟩) hP hD hS hA hK rfl hl.1 rfl (Nat.le_of_ble_eq_true rfl) dL_law_154 hR (fun r u H locs hu hP hD hS => ?_)
  obtain ⟨rfl, rfl⟩ := hu
  replace hP : va_P (dC, dI) vwCl (zMW am cI μ ++ zLW c0 ad ae ah ax ar cI cS cL oa (if cdWrite (uS κ) (xs (i + 1)) (xs (i + 2)) = 0 then (sWrite κ (xs (i + 1)) (xs (i + 2))).1 else κ) (if cdWrite (uS κ) (xs (i + 1)) (xs (i + 2)) = 0 then vp_updL f 0 ((sWrite κ (xs (i + 1)) (xs (i + 2))).2).toInt64 else f)) H := hP
  replace hD : va_D (fun q => s.heap.size ≤ q) (zMW am cI μ ++ zLW c0 ad ae ah ax ar cI cS cL oa (if cdWrite (uS κ) (xs (i + 1)) (xs (i + 2)) = 0 then (sWrite κ (xs (i + 1)) (xs (i + 2))).1 else κ) (if cdWrite (uS κ) (xs (i + 1)) (xs (i + 2)) = 0 then vp_updL f 0 ((sWrite κ (xs (i + 1)) (xs (i + 2))).2).toInt64 else f)) := hD
  generalize hf9 : (if cdWrite (uS κ) (xs (i + 1)) (xs (i + 2)) = 0 then vp_updL f 0 ((sWrite κ (xs (i + 1)) (xs (i + 2))).2).toInt64 else f) = f9 at hP hD
  generalize hk9 : (if cdWrite (uS κ) (xs (i + 1)) (xs (i + 2)) = 0 then (sWrite κ (xs (i + 1)) (xs (i + 2))).1 else κ) = κ9 at hP hD hr
  generalize hc9 : cdWrite (uS κ) (xs (i + 1)) (xs (i + 2)) = c9 at hf9 hr ⊢
  refine lv_istore (lv' := [(5, .int c9), (4, .int (nI i)), (0, .ref b), (1, .ref c0), (2, .ref (am 0)), (3, .ref oa)]) hx hb dL_law_157 hl (by decide) rfl (fun ls hl => ?_)
  refine lv_aload_n hx hb dL_law_159 rfl (lv_at hl 4 rfl) ?_
  refine lv_aload_n hx hb dL_law_160 rfl (lv_at hl 2 rfl) ?_
  refine lv_iload hx hb dL_law_161 (lv_at hl 1 rfl) ?_
  refine lv_iconst (v := 1) hx hb dL_law_163 (by decide) ?_
  refine z_iadd hx hb i 1 dL_law_164 ?_
  refine z_sld hx hb hX hbl hS (i + 1) (by omega) hL dL_law_165 ?_
  refine lv_aload_n hx hb dL_law_166 rfl (lv_at hl 2 rfl) ?_
  refine lv_iload hx hb dL_law_167 (lv_at hl 1 rfl) ?_
  refine lv_iconst (v := 2) hx hb dL_law_169 (by decide) ?_
  refine z_iadd hx hb i 2 dL_law_170 ?_
  refine z_sld hx hb hX hbl hS (i + 2) (by omega) hL dL_law_171 ?_
  obtain ⟨hP, hD⟩ := z_swp hP hD
  refine z_xWi (wr := zLW c0 ad ae ah ax ar cI cS cL oa κ9 f9) (As := [.int (xs (i + 1)), .int (xs (i + 2))]) (rest := []) ⟨hx, hb, hml, hown, hts⟩ (k_X4_write l dC dI am cI μ h.mok (xs (i + 1)) (xs (i + 2)) H.size) (cwV 2 hts gL_law_X4_write rfl rfl rfl (by decide +kernel) ⟨Nat.le_of_ble_eq_true rfl, Nat.le_of_ble_eq_true rfl⟩) (va_recv hK (z_swp hP hD).1 (ci := 4) (q0 := 0) rfl rfl) hP hD hS hA (hK.sub (tys' := [(cI, .int)]) [0] rfl) rfl hl.1 rfl (Nat.le_of_ble_eq_true rfl) dL_law_172 ⟨hR.1, hR.2⟩ (fun r _ H locs hu hP hD hS => ?_)
  subst hu
  replace hP : va_P (dC, dI) vwCl (zLW c0 ad ae ah ax ar cI cS cL oa κ9 f9 ++ zMW am cI (rWrite μ (xs (i + 1)) (xs (i + 2))).1) H := hP
  replace hD : va_D (fun q => s.heap.size ≤ q) (zLW c0 ad ae ah ax ar cI cS cL oa κ9 f9 ++ zMW am cI (rWrite μ (xs (i + 1)) (xs (i + 2))).1) := hD
  obtain ⟨hP, hD⟩ := z_swp hP hD
  generalize hm9 : (rWrite μ (xs (i + 1)) (xs (i + 2))) = m9 at hP hD hr ⊢
  refine lv_istore (lv' := [(6, .int m9.2), (5, .int c9), (4, .int (nI i)), (0, .ref b), (1, .ref c0), (2, .ref (am 0)), (3, .ref oa)]) hx hb dL_law_175 hl (by decide) rfl (fun ls hl => ?_)
  refine lv_aload_n hx hb dL_law_177 rfl (lv_at hl 5 rfl) ?_
  refine z_cVi (As := []) (rest := []) ⟨hx, hb, hml, hown, hts⟩ (k_X4_thrown l dC dI am cI m9.1 hr.2.2.mok) (cwV 0 hts gL_law_X4_thrown rfl rfl rfl (by decide +kernel) ⟨Nat.le_of_ble_eq_true rfl, Nat.le_of_ble_eq_true rfl⟩) (va_recv hK hP (ci := 4) (q0 := 0) rfl rfl) (hP.sub (ws' := zMW am cI m9.1) [0, 1, 2, 3, 4, 5] rfl) (hK.sub (tys' := [(cI, .int)]) [0] rfl) rfl hl.1 rfl (Nat.le_of_ble_eq_true rfl) dL_law_178 ⟨hR.1, hR.2⟩ (fun r hu => ?_)
  subst hu
  refine lv_iload hx hb dL_law_181 (lv_at hl 1 rfl) ?_
  refine lv_icmp_eq (tgt := 188) hx hb dL_law_183 (by decide) (fun _ => ?_) (fun z => absurd hr.1.symm z)
  refine lv_iload hx hb dL_law_188 (lv_at hl 1 rfl) ?_
  have hl2 : lv_has ls 9 [(4, .int (nI i)), (0, .ref b), (1, .ref c0), (2, .ref (am 0)), (3, .ref oa)] := lv_sub hl [2, 3, 4, 5, 6] rfl
  refine lv_if_ne (tgt := 205) hx hb dL_law_190 (by decide) (fun _ => ?_) (fun hc => ?_)
  · refine lv_goto (tgt := 1361) hx hb dL_law_205 (by decide) ?_
    exact kk κ9 m9.1 f9 ls H locs hl2 hP hD hS hr.2.2
  · skip
    refine lv_aload_n hx hb dL_law_193 rfl (lv_at hl 6 rfl) ?_
    refine lv_iconst (v := 0) hx hb dL_law_194 (by decide) ?_
    refine z_lald hx hb hK hP 6 2 0 rfl rfl (by decide) (by decide) dL_law_195 ?_
    refine lv_iload hx hb dL_law_196 (lv_at hl 0 rfl) ?_
    refine lv_i2l (v := m9.2.toInt64) hx hb dL_law_198 rfl ?_
    refine W.lcmp hx hb dL_law_199 ?_
    refine lv_if_eq (tgt := 205) hx hb dL_law_200 (by decide) (fun _ => ?_) (fun z => absurd ((lg_cmp_eq _ _).mpr ?_) z)
    · refine lv_goto (tgt := 1361) hx hb dL_law_205 (by decide) ?_
      exact kk κ9 m9.1 f9 ls H locs hl2 hP hD hS hr.2.2
    · rw [← hf9, if_pos hc, ← hr.2.1 hc]; rfl
set_option maxHeartbeats 4000000 in
theorem g_hammer {p : Program} {l : Launch} {e : Env} {s : State} {m : MethodId} {args : Array Value} {below : List Frame} {meth : Method} {c : Code} {Q : State → Prop} {b L : Nat} {xs : Nat → Int32} {dC : Nat → ClassId} {dI : Nat → Nat → Nat} {cI cS cL : ClassId} {c0 oa : Nat} {am ad ae ah ax : Nat → Nat} {ar : Nat → Nat → Nat} {κ : zK} {μ : zM} {f : Nat → Int64} {B i : Nat} {H : Heap} {locs : List Loc} {cells slots : Nat} {ls : Array Slot} (C : lCx l p s m args c b L xs dC dI cI cS cL) (hi : i + 3 < L) (h : kRel B κ μ) (hB : B < 2 ^ 31) (hR : cells + 1 ≤ room_1.cells ∧ slots + 6 ≤ room_1.slots) (hl : lv_has ls 9 [(4, .int (nI i)), (0, .ref b), (1, .ref c0), (2, .ref (am 0)), (3, .ref oa)]) (hP : va_P (dC, dI) vwCl (zLM c0 am ad ae ah ax ar cI cS cL oa κ μ f) H) (hD : va_D (fun q => s.heap.size ≤ q) (zLM c0 am ad ae ah ax ar cI cS cL oa κ μ f)) (hS : va_S (fun q => s.heap.size ≤ q) s.heap H locs)
    (kk : ∀ (κ' : zK) (μ' : zM) (f' : Nat → Int64) (ls : Array Slot) (H : Heap) (locs : List Loc), lv_has ls 9 [(4, .int (nI i)), (0, .ref b), (1, .ref c0), (2, .ref (am 0)), (3, .ref oa)] → va_P (dC, dI) vwCl (zLM c0 am ad ae ah ax ar cI cS cL oa κ' μ' f') H → va_D (fun q => s.heap.size ≤ q) (zLM c0 am ad ae ah ax ar cI cS cL oa κ' μ' f') → va_S (fun q => s.heap.size ≤ q) s.heap H locs → kRel (B + 6500) κ' μ' → W p l e room_1 s m args below meth c H locs (cells + 1) (slots + 6) Q (F0 m 1361 ls [])) : W p l e room_1 s m args below meth c H locs cells slots Q (F0 m 208 ls []) := by
  obtain ⟨hx, hb, hml, hown, hts, hK, hE, hNc, hN, hX, hbl, hl0, hL⟩ := C
  have hA : ∀ q, s.heap.size ≤ q → s.heap.size ≤ q := fun _ h => h
  have hn6 := h.n6
  have hr := rel_Hammer h (xs (i + 1)) (xs (i + 2)) (xs (i + 3))
  refine lv_aload_n hx hb dL_law_208 rfl (lv_at hl 2 rfl) ?_
  refine lv_aload_n hx hb dL_law_209 rfl (lv_at hl 1 rfl) ?_
  refine lv_iload hx hb dL_law_210 (lv_at hl 0 rfl) ?_
  refine lv_iconst (v := 1) hx hb dL_law_212 (by decide) ?_
  refine z_iadd hx hb i 1 dL_law_213 ?_
  refine z_sld hx hb hX hbl hS (i + 1) (by omega) hL dL_law_214 ?_
  refine lv_aload_n hx hb dL_law_215 rfl (lv_at hl 1 rfl) ?_
  refine lv_iload hx hb dL_law_216 (lv_at hl 0 rfl) ?_
  refine lv_iconst (v := 2) hx hb dL_law_218 (by decide) ?_
  refine z_iadd hx hb i 2 dL_law_219 ?_
  refine z_sld hx hb hX hbl hS (i + 2) (by omega) hL dL_law_220 ?_
  refine lv_aload_n hx hb dL_law_221 rfl (lv_at hl 1 rfl) ?_
  refine lv_iload hx hb dL_law_222 (lv_at hl 0 rfl) ?_
  refine lv_iconst (v := 3) hx hb dL_law_224 (by decide) ?_
  refine z_iadd hx hb i 3 dL_law_225 ?_
  refine z_sld hx hb hX hbl hS (i + 3) (by omega) hL dL_law_226 ?_
  refine lv_aload_n hx hb dL_law_227 rfl (lv_at hl 4 rfl) ?_
  refine z_xWSx (wr := zMW am cI μ) (As := [.ref c0, .int (xs (i + 1)), .int (xs (i + 2)), .int (xs (i + 3)), .ref oa]) (rest := []) ⟨hx, hb, hml, hown, hts⟩ (w_hammer l hl0 s.heap.size dC dI c0 ad ae ah ax ar cI cS cL oa κ h.o6 h.n6 h.zok f (xs (i + 1)) (xs (i + 2)) (xs (i + 3)) H.size) (vx_cwSW 5 hts gL_law_L_hammer rfl rfl rfl (by decide +kernel) ⟨Nat.le_of_ble_eq_true rfl, Nat.le_of_ble_eq_true rfl⟩) (fun U hU hW => ⟨hE.at (Nat.le_refl _) hS hW hU, hNc.at hW, va_Nw.warmM hW hN⟩) hP hD hS hA hK rfl hl.1 rfl (Nat.le_of_ble_eq_true rfl) dL_law_228 hR (fun r u H locs hu hP hD hS => ?_)
  obtain ⟨rfl, rfl⟩ := hu
  replace hP : va_P (dC, dI) vwCl (zMW am cI μ ++ zLW c0 ad ae ah ax ar cI cS cL oa (if cdHammer (xs (i + 1)) (xs (i + 2)) (xs (i + 3)) = 0 then (sHammer κ (xs (i + 1)) (xs (i + 2)) (xs (i + 3))).1 else κ) (if cdHammer (xs (i + 1)) (xs (i + 2)) (xs (i + 3)) = 0 then vp_updL f 0 ((sHammer κ (xs (i + 1)) (xs (i + 2)) (xs (i + 3))).2).toInt64 else f)) H := hP
  replace hD : va_D (fun q => s.heap.size ≤ q) (zMW am cI μ ++ zLW c0 ad ae ah ax ar cI cS cL oa (if cdHammer (xs (i + 1)) (xs (i + 2)) (xs (i + 3)) = 0 then (sHammer κ (xs (i + 1)) (xs (i + 2)) (xs (i + 3))).1 else κ) (if cdHammer (xs (i + 1)) (xs (i + 2)) (xs (i + 3)) = 0 then vp_updL f 0 ((sHammer κ (xs (i + 1)) (xs (i + 2)) (xs (i + 3))).2).toInt64 else f)) := hD
  generalize hf9 : (if cdHammer (xs (i + 1)) (xs (i + 2)) (xs (i + 3)) = 0 then vp_updL f 0 ((sHammer κ (xs (i + 1)) (xs (i + 2)) (xs (i + 3))).2).toInt64 else f) = f9 at hP hD
  generalize hk9 : (if cdHammer (xs (i + 1)) (xs (i + 2)) (xs (i + 3)) = 0 then (sHammer κ (xs (i + 1)) (xs (i + 2)) (xs (i + 3))).1 else κ) = κ9 at hP hD hr
  generalize hc9 : cdHammer (xs (i + 1)) (xs (i + 2)) (xs (i + 3)) = c9 at hf9 hr ⊢
  refine lv_istore (lv' := [(5, .int c9), (4, .int (nI i)), (0, .ref b), (1, .ref c0), (2, .ref (am 0)), (3, .ref oa)]) hx hb dL_law_231 hl (by decide) rfl (fun ls hl => ?_)
  refine lv_aload_n hx hb dL_law_233 rfl (lv_at hl 4 rfl) ?_
  refine lv_aload_n hx hb dL_law_234 rfl (lv_at hl 2 rfl) ?_
  refine lv_iload hx hb dL_law_235 (lv_at hl 1 rfl) ?_
  refine lv_iconst (v := 1) hx hb dL_law_237 (by decide) ?_
  refine z_iadd hx hb i 1 dL_law_238 ?_
  refine z_sld hx hb hX hbl hS (i + 1) (by omega) hL dL_law_239 ?_
  refine lv_aload_n hx hb dL_law_240 rfl (lv_at hl 2 rfl) ?_
  refine lv_iload hx hb dL_law_241 (lv_at hl 1 rfl) ?_
  refine lv_iconst (v := 2) hx hb dL_law_243 (by decide) ?_
  refine z_iadd hx hb i 2 dL_law_244 ?_
  refine z_sld hx hb hX hbl hS (i + 2) (by omega) hL dL_law_245 ?_
  refine lv_aload_n hx hb dL_law_246 rfl (lv_at hl 2 rfl) ?_
  refine lv_iload hx hb dL_law_247 (lv_at hl 1 rfl) ?_
  refine lv_iconst (v := 3) hx hb dL_law_249 (by decide) ?_
  refine z_iadd hx hb i 3 dL_law_250 ?_
  refine z_sld hx hb hX hbl hS (i + 3) (by omega) hL dL_law_251 ?_
  obtain ⟨hP, hD⟩ := z_swp hP hD
  refine z_xWi (wr := zLW c0 ad ae ah ax ar cI cS cL oa κ9 f9) (As := [.int (xs (i + 1)), .int (xs (i + 2)), .int (xs (i + 3))]) (rest := []) ⟨hx, hb, hml, hown, hts⟩ (k_X4_hammer l dC dI am cI μ h.mok (xs (i + 1)) (xs (i + 2)) (xs (i + 3)) H.size) (cwV 3 hts gL_law_X4_hammer rfl rfl rfl (by decide +kernel) ⟨Nat.le_of_ble_eq_true rfl, Nat.le_of_ble_eq_true rfl⟩) (va_recv hK (z_swp hP hD).1 (ci := 4) (q0 := 0) rfl rfl) hP hD hS hA (hK.sub (tys' := [(cI, .int)]) [0] rfl) rfl hl.1 rfl (Nat.le_of_ble_eq_true rfl) dL_law_252 ⟨hR.1, hR.2⟩ (fun r _ H locs hu hP hD hS => ?_)
  subst hu
  replace hP : va_P (dC, dI) vwCl (zLW c0 ad ae ah ax ar cI cS cL oa κ9 f9 ++ zMW am cI (rHammer μ (xs (i + 1)) (xs (i + 2)) (xs (i + 3))).1) H := hP
  replace hD : va_D (fun q => s.heap.size ≤ q) (zLW c0 ad ae ah ax ar cI cS cL oa κ9 f9 ++ zMW am cI (rHammer μ (xs (i + 1)) (xs (i + 2)) (xs (i + 3))).1) := hD
  obtain ⟨hP, hD⟩ := z_swp hP hD
  generalize hm9 : (rHammer μ (xs (i + 1)) (xs (i + 2)) (xs (i + 3))) = m9 at hP hD hr ⊢
  refine lv_istore (lv' := [(6, .int m9.2), (5, .int c9), (4, .int (nI i)), (0, .ref b), (1, .ref c0), (2, .ref (am 0)), (3, .ref oa)]) hx hb dL_law_255 hl (by decide) rfl (fun ls hl => ?_)
  refine lv_aload_n hx hb dL_law_257 rfl (lv_at hl 5 rfl) ?_
  refine z_cVi (As := []) (rest := []) ⟨hx, hb, hml, hown, hts⟩ (k_X4_thrown l dC dI am cI m9.1 hr.2.2.mok) (cwV 0 hts gL_law_X4_thrown rfl rfl rfl (by decide +kernel) ⟨Nat.le_of_ble_eq_true rfl, Nat.le_of_ble_eq_true rfl⟩) (va_recv hK hP (ci := 4) (q0 := 0) rfl rfl) (hP.sub (ws' := zMW am cI m9.1) [0, 1, 2, 3, 4, 5] rfl) (hK.sub (tys' := [(cI, .int)]) [0] rfl) rfl hl.1 rfl (Nat.le_of_ble_eq_true rfl) dL_law_258 ⟨hR.1, hR.2⟩ (fun r hu => ?_)
  subst hu
  refine lv_iload hx hb dL_law_261 (lv_at hl 1 rfl) ?_
  refine lv_icmp_eq (tgt := 268) hx hb dL_law_263 (by decide) (fun _ => ?_) (fun z => absurd hr.1.symm z)
  refine lv_iload hx hb dL_law_268 (lv_at hl 1 rfl) ?_
  have hl2 : lv_has ls 9 [(4, .int (nI i)), (0, .ref b), (1, .ref c0), (2, .ref (am 0)), (3, .ref oa)] := lv_sub hl [2, 3, 4, 5, 6] rfl
  refine lv_if_ne (tgt := 285) hx hb dL_law_270 (by decide) (fun _ => ?_) (fun hc => ?_)
  · refine lv_goto (tgt := 1361) hx hb dL_law_285 (by decide) ?_
    exact kk κ9 m9.1 f9 ls H locs hl2 hP hD hS hr.2.2
  · skip
    refine lv_aload_n hx hb dL_law_273 rfl (lv_at hl 6 rfl) ?_
    refine lv_iconst (v := 0) hx hb dL_law_274 (by decide) ?_
    refine z_lald hx hb hK hP 6 2 0 rfl rfl (by decide) (by decide) dL_law_275 ?_
    refine lv_iload hx hb dL_law_276 (lv_at hl 0 rfl) ?_
    refine lv_i2l (v := m9.2.toInt64) hx hb dL_law_278 rfl ?_
    refine W.lcmp hx hb dL_law_279 ?_
    refine lv_if_eq (tgt := 285) hx hb dL_law_280 (by decide) (fun _ => ?_) (fun z => absurd ((lg_cmp_eq _ _).mpr ?_) z)
    · refine lv_goto (tgt := 1361) hx hb dL_law_285 (by decide) ?_
      exact kk κ9 m9.1 f9 ls H locs hl2 hP hD hS hr.2.2
    · rw [← hf9, if_pos hc, ← hr.2.1 hc]; rfl
set_option maxHeartbeats 4000000 in
theorem g_exchange {p : Program} {l : Launch} {e : Env} {s : State} {m : MethodId} {args : Array Value} {below : List Frame} {meth : Method} {c : Code} {Q : State → Prop} {b L : Nat} {xs : Nat → Int32} {dC : Nat → ClassId} {dI : Nat → Nat → Nat} {cI cS cL : ClassId} {c0 oa : Nat} {am ad ae ah ax : Nat → Nat} {ar : Nat → Nat → Nat} {κ : zK} {μ : zM} {f : Nat → Int64} {B i : Nat} {H : Heap} {locs : List Loc} {cells slots : Nat} {ls : Array Slot} (C : lCx l p s m args c b L xs dC dI cI cS cL) (hi : i + 3 < L) (h : kRel B κ μ) (hB : B < 2 ^ 31) (hR : cells + 1 ≤ room_1.cells ∧ slots + 6 ≤ room_1.slots) (hl : lv_has ls 9 [(4, .int (nI i)), (0, .ref b), (1, .ref c0), (2, .ref (am 0)), (3, .ref oa)]) (hP : va_P (dC, dI) vwCl (zLM c0 am ad ae ah ax ar cI cS cL oa κ μ f) H) (hD : va_D (fun q => s.heap.size ≤ q) (zLM c0 am ad ae ah ax ar cI cS cL oa κ μ f)) (hS : va_S (fun q => s.heap.size ≤ q) s.heap H locs)
    (kk : ∀ (κ' : zK) (μ' : zM) (f' : Nat → Int64) (ls : Array Slot) (H : Heap) (locs : List Loc), lv_has ls 9 [(4, .int (nI i)), (0, .ref b), (1, .ref c0), (2, .ref (am 0)), (3, .ref oa)] → va_P (dC, dI) vwCl (zLM c0 am ad ae ah ax ar cI cS cL oa κ' μ' f') H → va_D (fun q => s.heap.size ≤ q) (zLM c0 am ad ae ah ax ar cI cS cL oa κ' μ' f') → va_S (fun q => s.heap.size ≤ q) s.heap H locs → kRel (B + 6500) κ' μ' → W p l e room_1 s m args below meth c H locs (cells + 1) (slots + 6) Q (F0 m 1361 ls [])) : W p l e room_1 s m args below meth c H locs cells slots Q (F0 m 288 ls []) := by
  obtain ⟨hx, hb, hml, hown, hts, hK, hE, hNc, hN, hX, hbl, hl0, hL⟩ := C
  have hA : ∀ q, s.heap.size ≤ q → s.heap.size ≤ q := fun _ h => h
  have hn6 := h.n6
  have hr := rel_Exch h (xs (i + 1)) (xs (i + 2))
  refine lv_aload_n hx hb dL_law_288 rfl (lv_at hl 2 rfl) ?_
  refine lv_aload_n hx hb dL_law_289 rfl (lv_at hl 1 rfl) ?_
  refine lv_iload hx hb dL_law_290 (lv_at hl 0 rfl) ?_
  refine lv_iconst (v := 1) hx hb dL_law_292 (by decide) ?_
  refine z_iadd hx hb i 1 dL_law_293 ?_
  refine z_sld hx hb hX hbl hS (i + 1) (by omega) hL dL_law_294 ?_
  refine lv_aload_n hx hb dL_law_295 rfl (lv_at hl 1 rfl) ?_
  refine lv_iload hx hb dL_law_296 (lv_at hl 0 rfl) ?_
  refine lv_iconst (v := 2) hx hb dL_law_298 (by decide) ?_
  refine z_iadd hx hb i 2 dL_law_299 ?_
  refine z_sld hx hb hX hbl hS (i + 2) (by omega) hL dL_law_300 ?_
  refine lv_aload_n hx hb dL_law_301 rfl (lv_at hl 4 rfl) ?_
  refine z_xWSx (wr := zMW am cI μ) (As := [.ref c0, .int (xs (i + 1)), .int (xs (i + 2)), .ref oa]) (rest := []) ⟨hx, hb, hml, hown, hts⟩ (w_exchange l hl0 s.heap.size dC dI c0 ad ae ah ax ar cI cS cL oa κ h.o6 h.n6 h.zok f (xs (i + 1)) (xs (i + 2)) H.size) (vx_cwSW 4 hts gL_law_L_exchange rfl rfl rfl (by decide +kernel) ⟨Nat.le_of_ble_eq_true rfl, Nat.le_of_ble_eq_true rfl⟩) (fun U hU hW => ⟨hE.at (Nat.le_refl _) hS hW hU, hNc.at hW, va_Nw.warmM hW hN⟩) hP hD hS hA hK rfl hl.1 rfl (Nat.le_of_ble_eq_true rfl) dL_law_302 hR (fun r u H locs hu hP hD hS => ?_)
  obtain ⟨rfl, rfl⟩ := hu
  replace hP : va_P (dC, dI) vwCl (zMW am cI μ ++ zLW c0 ad ae ah ax ar cI cS cL oa (if cd11 (xs (i + 1)) 15 (xs (i + 2)) 15 = 0 then (sExch κ (xs (i + 1)) (xs (i + 2))).1 else κ) (if cd11 (xs (i + 1)) 15 (xs (i + 2)) 15 = 0 then vp_updL f 0 ((sExch κ (xs (i + 1)) (xs (i + 2))).2).toInt64 else f)) H := hP
  replace hD : va_D (fun q => s.heap.size ≤ q) (zMW am cI μ ++ zLW c0 ad ae ah ax ar cI cS cL oa (if cd11 (xs (i + 1)) 15 (xs (i + 2)) 15 = 0 then (sExch κ (xs (i + 1)) (xs (i + 2))).1 else κ) (if cd11 (xs (i + 1)) 15 (xs (i + 2)) 15 = 0 then vp_updL f 0 ((sExch κ (xs (i + 1)) (xs (i + 2))).2).toInt64 else f)) := hD
  generalize hf9 : (if cd11 (xs (i + 1)) 15 (xs (i + 2)) 15 = 0 then vp_updL f 0 ((sExch κ (xs (i + 1)) (xs (i + 2))).2).toInt64 else f) = f9 at hP hD
  generalize hk9 : (if cd11 (xs (i + 1)) 15 (xs (i + 2)) 15 = 0 then (sExch κ (xs (i + 1)) (xs (i + 2))).1 else κ) = κ9 at hP hD hr
  generalize hc9 : cd11 (xs (i + 1)) 15 (xs (i + 2)) 15 = c9 at hf9 hr ⊢
  refine lv_istore (lv' := [(5, .int c9), (4, .int (nI i)), (0, .ref b), (1, .ref c0), (2, .ref (am 0)), (3, .ref oa)]) hx hb dL_law_305 hl (by decide) rfl (fun ls hl => ?_)
  refine lv_aload_n hx hb dL_law_307 rfl (lv_at hl 4 rfl) ?_
  refine lv_aload_n hx hb dL_law_308 rfl (lv_at hl 2 rfl) ?_
  refine lv_iload hx hb dL_law_309 (lv_at hl 1 rfl) ?_
  refine lv_iconst (v := 1) hx hb dL_law_311 (by decide) ?_
  refine z_iadd hx hb i 1 dL_law_312 ?_
  refine z_sld hx hb hX hbl hS (i + 1) (by omega) hL dL_law_313 ?_
  refine lv_aload_n hx hb dL_law_314 rfl (lv_at hl 2 rfl) ?_
  refine lv_iload hx hb dL_law_315 (lv_at hl 1 rfl) ?_
  refine lv_iconst (v := 2) hx hb dL_law_317 (by decide) ?_
  refine z_iadd hx hb i 2 dL_law_318 ?_
  refine z_sld hx hb hX hbl hS (i + 2) (by omega) hL dL_law_319 ?_
  obtain ⟨hP, hD⟩ := z_swp hP hD
  refine z_xWi (wr := zLW c0 ad ae ah ax ar cI cS cL oa κ9 f9) (As := [.int (xs (i + 1)), .int (xs (i + 2))]) (rest := []) ⟨hx, hb, hml, hown, hts⟩ (k_X4_exchange l dC dI am cI μ h.mok (xs (i + 1)) (xs (i + 2)) H.size) (cwV 2 hts gL_law_X4_exchange rfl rfl rfl (by decide +kernel) ⟨Nat.le_of_ble_eq_true rfl, Nat.le_of_ble_eq_true rfl⟩) (va_recv hK (z_swp hP hD).1 (ci := 4) (q0 := 0) rfl rfl) hP hD hS hA (hK.sub (tys' := [(cI, .int)]) [0] rfl) rfl hl.1 rfl (Nat.le_of_ble_eq_true rfl) dL_law_320 ⟨hR.1, hR.2⟩ (fun r _ H locs hu hP hD hS => ?_)
  subst hu
  replace hP : va_P (dC, dI) vwCl (zLW c0 ad ae ah ax ar cI cS cL oa κ9 f9 ++ zMW am cI (rExch μ (xs (i + 1)) (xs (i + 2))).1) H := hP
  replace hD : va_D (fun q => s.heap.size ≤ q) (zLW c0 ad ae ah ax ar cI cS cL oa κ9 f9 ++ zMW am cI (rExch μ (xs (i + 1)) (xs (i + 2))).1) := hD
  obtain ⟨hP, hD⟩ := z_swp hP hD
  generalize hm9 : (rExch μ (xs (i + 1)) (xs (i + 2))) = m9 at hP hD hr ⊢
  refine lv_istore (lv' := [(6, .int m9.2), (5, .int c9), (4, .int (nI i)), (0, .ref b), (1, .ref c0), (2, .ref (am 0)), (3, .ref oa)]) hx hb dL_law_323 hl (by decide) rfl (fun ls hl => ?_)
  refine lv_aload_n hx hb dL_law_325 rfl (lv_at hl 5 rfl) ?_
  refine z_cVi (As := []) (rest := []) ⟨hx, hb, hml, hown, hts⟩ (k_X4_thrown l dC dI am cI m9.1 hr.2.2.mok) (cwV 0 hts gL_law_X4_thrown rfl rfl rfl (by decide +kernel) ⟨Nat.le_of_ble_eq_true rfl, Nat.le_of_ble_eq_true rfl⟩) (va_recv hK hP (ci := 4) (q0 := 0) rfl rfl) (hP.sub (ws' := zMW am cI m9.1) [0, 1, 2, 3, 4, 5] rfl) (hK.sub (tys' := [(cI, .int)]) [0] rfl) rfl hl.1 rfl (Nat.le_of_ble_eq_true rfl) dL_law_326 ⟨hR.1, hR.2⟩ (fun r hu => ?_)
  subst hu
  refine lv_iload hx hb dL_law_329 (lv_at hl 1 rfl) ?_
  refine lv_icmp_eq (tgt := 336) hx hb dL_law_331 (by decide) (fun _ => ?_) (fun z => absurd hr.1.symm z)
  refine lv_iload hx hb dL_law_336 (lv_at hl 1 rfl) ?_
  have hl2 : lv_has ls 9 [(4, .int (nI i)), (0, .ref b), (1, .ref c0), (2, .ref (am 0)), (3, .ref oa)] := lv_sub hl [2, 3, 4, 5, 6] rfl
  refine lv_if_ne (tgt := 353) hx hb dL_law_338 (by decide) (fun _ => ?_) (fun hc => ?_)
  · refine lv_goto (tgt := 1361) hx hb dL_law_353 (by decide) ?_
    exact kk κ9 m9.1 f9 ls H locs hl2 hP hD hS hr.2.2
  · skip
    refine lv_aload_n hx hb dL_law_341 rfl (lv_at hl 6 rfl) ?_
    refine lv_iconst (v := 0) hx hb dL_law_342 (by decide) ?_
    refine z_lald hx hb hK hP 6 2 0 rfl rfl (by decide) (by decide) dL_law_343 ?_
    refine lv_iload hx hb dL_law_344 (lv_at hl 0 rfl) ?_
    refine lv_i2l (v := m9.2.toInt64) hx hb dL_law_346 rfl ?_
    refine W.lcmp hx hb dL_law_347 ?_
    refine lv_if_eq (tgt := 353) hx hb dL_law_348 (by decide) (fun _ => ?_) (fun z => absurd ((lg_cmp_eq _ _).mpr ?_) z)
    · refine lv_goto (tgt := 1361) hx hb dL_law_353 (by decide) ?_
      exact kk κ9 m9.1 f9 ls H locs hl2 hP hD hS hr.2.2
    · rw [← hf9, if_pos hc, ← hr.2.1 hc]; rfl
set_option maxHeartbeats 4000000 in
theorem g_wear {p : Program} {l : Launch} {e : Env} {s : State} {m : MethodId} {args : Array Value} {below : List Frame} {meth : Method} {c : Code} {Q : State → Prop} {b L : Nat} {xs : Nat → Int32} {dC : Nat → ClassId} {dI : Nat → Nat → Nat} {cI cS cL : ClassId} {c0 oa : Nat} {am ad ae ah ax : Nat → Nat} {ar : Nat → Nat → Nat} {κ : zK} {μ : zM} {f : Nat → Int64} {B i : Nat} {H : Heap} {locs : List Loc} {cells slots : Nat} {ls : Array Slot} (C : lCx l p s m args c b L xs dC dI cI cS cL) (hi : i + 3 < L) (h : kRel B κ μ) (hB : B < 2 ^ 31) (hR : cells + 1 ≤ room_1.cells ∧ slots + 6 ≤ room_1.slots) (hl : lv_has ls 9 [(4, .int (nI i)), (0, .ref b), (1, .ref c0), (2, .ref (am 0)), (3, .ref oa)]) (hP : va_P (dC, dI) vwCl (zLM c0 am ad ae ah ax ar cI cS cL oa κ μ f) H) (hD : va_D (fun q => s.heap.size ≤ q) (zLM c0 am ad ae ah ax ar cI cS cL oa κ μ f)) (hS : va_S (fun q => s.heap.size ≤ q) s.heap H locs)
    (kk : ∀ (κ' : zK) (μ' : zM) (f' : Nat → Int64) (ls : Array Slot) (H : Heap) (locs : List Loc), lv_has ls 9 [(4, .int (nI i)), (0, .ref b), (1, .ref c0), (2, .ref (am 0)), (3, .ref oa)] → va_P (dC, dI) vwCl (zLM c0 am ad ae ah ax ar cI cS cL oa κ' μ' f') H → va_D (fun q => s.heap.size ≤ q) (zLM c0 am ad ae ah ax ar cI cS cL oa κ' μ' f') → va_S (fun q => s.heap.size ≤ q) s.heap H locs → kRel (B + 6500) κ' μ' → W p l e room_1 s m args below meth c H locs (cells + 1) (slots + 6) Q (F0 m 1361 ls [])) : W p l e room_1 s m args below meth c H locs cells slots Q (F0 m 356 ls []) := by
  obtain ⟨hx, hb, hml, hown, hts, hK, hE, hNc, hN, hX, hbl, hl0, hL⟩ := C
  have hA : ∀ q, s.heap.size ≤ q → s.heap.size ≤ q := fun _ h => h
  have hn6 := h.n6
  have hr := rel_Wear h (xs (i + 1)) (xs (i + 2)) (xs (i + 3))
  refine lv_aload_n hx hb dL_law_356 rfl (lv_at hl 2 rfl) ?_
  refine lv_aload_n hx hb dL_law_357 rfl (lv_at hl 1 rfl) ?_
  refine lv_iload hx hb dL_law_358 (lv_at hl 0 rfl) ?_
  refine lv_iconst (v := 1) hx hb dL_law_360 (by decide) ?_
  refine z_iadd hx hb i 1 dL_law_361 ?_
  refine z_sld hx hb hX hbl hS (i + 1) (by omega) hL dL_law_362 ?_
  refine lv_aload_n hx hb dL_law_363 rfl (lv_at hl 1 rfl) ?_
  refine lv_iload hx hb dL_law_364 (lv_at hl 0 rfl) ?_
  refine lv_iconst (v := 2) hx hb dL_law_366 (by decide) ?_
  refine z_iadd hx hb i 2 dL_law_367 ?_
  refine z_sld hx hb hX hbl hS (i + 2) (by omega) hL dL_law_368 ?_
  refine lv_aload_n hx hb dL_law_369 rfl (lv_at hl 1 rfl) ?_
  refine lv_iload hx hb dL_law_370 (lv_at hl 0 rfl) ?_
  refine lv_iconst (v := 3) hx hb dL_law_372 (by decide) ?_
  refine z_iadd hx hb i 3 dL_law_373 ?_
  refine z_sld hx hb hX hbl hS (i + 3) (by omega) hL dL_law_374 ?_
  refine lv_aload_n hx hb dL_law_375 rfl (lv_at hl 4 rfl) ?_
  refine z_xWSx (wr := zMW am cI μ) (As := [.ref c0, .int (xs (i + 1)), .int (xs (i + 2)), .int (xs (i + 3)), .ref oa]) (rest := []) ⟨hx, hb, hml, hown, hts⟩ (w_wear l hl0 s.heap.size dC dI c0 ad ae ah ax ar cI cS cL oa κ h.o6 h.n6 h.zok f (xs (i + 1)) (xs (i + 2)) (xs (i + 3)) H.size) (vx_cwSW 5 hts gL_law_L_wear rfl rfl rfl (by decide +kernel) ⟨Nat.le_of_ble_eq_true rfl, Nat.le_of_ble_eq_true rfl⟩) (fun U hU hW => ⟨hE.at (Nat.le_refl _) hS hW hU, hNc.at hW, va_Nw.warmM hW hN⟩) hP hD hS hA hK rfl hl.1 rfl (Nat.le_of_ble_eq_true rfl) dL_law_376 hR (fun r u H locs hu hP hD hS => ?_)
  obtain ⟨rfl, rfl⟩ := hu
  replace hP : va_P (dC, dI) vwCl (zMW am cI μ ++ zLW c0 ad ae ah ax ar cI cS cL oa (if cdWear (uS κ) (xs (i + 1)) (xs (i + 2)) (xs (i + 3)) = 0 then (sWear κ (xs (i + 1)) (xs (i + 2)) (xs (i + 3))).1 else κ) (if cdWear (uS κ) (xs (i + 1)) (xs (i + 2)) (xs (i + 3)) = 0 then vp_updL f 0 ((sWear κ (xs (i + 1)) (xs (i + 2)) (xs (i + 3))).2).toInt64 else f)) H := hP
  replace hD : va_D (fun q => s.heap.size ≤ q) (zMW am cI μ ++ zLW c0 ad ae ah ax ar cI cS cL oa (if cdWear (uS κ) (xs (i + 1)) (xs (i + 2)) (xs (i + 3)) = 0 then (sWear κ (xs (i + 1)) (xs (i + 2)) (xs (i + 3))).1 else κ) (if cdWear (uS κ) (xs (i + 1)) (xs (i + 2)) (xs (i + 3)) = 0 then vp_updL f 0 ((sWear κ (xs (i + 1)) (xs (i + 2)) (xs (i + 3))).2).toInt64 else f)) := hD
  generalize hf9 : (if cdWear (uS κ) (xs (i + 1)) (xs (i + 2)) (xs (i + 3)) = 0 then vp_updL f 0 ((sWear κ (xs (i + 1)) (xs (i + 2)) (xs (i + 3))).2).toInt64 else f) = f9 at hP hD
  generalize hk9 : (if cdWear (uS κ) (xs (i + 1)) (xs (i + 2)) (xs (i + 3)) = 0 then (sWear κ (xs (i + 1)) (xs (i + 2)) (xs (i + 3))).1 else κ) = κ9 at hP hD hr
  generalize hc9 : cdWear (uS κ) (xs (i + 1)) (xs (i + 2)) (xs (i + 3)) = c9 at hf9 hr ⊢
  refine lv_istore (lv' := [(5, .int c9), (4, .int (nI i)), (0, .ref b), (1, .ref c0), (2, .ref (am 0)), (3, .ref oa)]) hx hb dL_law_379 hl (by decide) rfl (fun ls hl => ?_)
  refine lv_aload_n hx hb dL_law_381 rfl (lv_at hl 4 rfl) ?_
  refine lv_aload_n hx hb dL_law_382 rfl (lv_at hl 2 rfl) ?_
  refine lv_iload hx hb dL_law_383 (lv_at hl 1 rfl) ?_
  refine lv_iconst (v := 1) hx hb dL_law_385 (by decide) ?_
  refine z_iadd hx hb i 1 dL_law_386 ?_
  refine z_sld hx hb hX hbl hS (i + 1) (by omega) hL dL_law_387 ?_
  refine lv_aload_n hx hb dL_law_388 rfl (lv_at hl 2 rfl) ?_
  refine lv_iload hx hb dL_law_389 (lv_at hl 1 rfl) ?_
  refine lv_iconst (v := 2) hx hb dL_law_391 (by decide) ?_
  refine z_iadd hx hb i 2 dL_law_392 ?_
  refine z_sld hx hb hX hbl hS (i + 2) (by omega) hL dL_law_393 ?_
  refine lv_aload_n hx hb dL_law_394 rfl (lv_at hl 2 rfl) ?_
  refine lv_iload hx hb dL_law_395 (lv_at hl 1 rfl) ?_
  refine lv_iconst (v := 3) hx hb dL_law_397 (by decide) ?_
  refine z_iadd hx hb i 3 dL_law_398 ?_
  refine z_sld hx hb hX hbl hS (i + 3) (by omega) hL dL_law_399 ?_
  obtain ⟨hP, hD⟩ := z_swp hP hD
  refine z_xWi (wr := zLW c0 ad ae ah ax ar cI cS cL oa κ9 f9) (As := [.int (xs (i + 1)), .int (xs (i + 2)), .int (xs (i + 3))]) (rest := []) ⟨hx, hb, hml, hown, hts⟩ (k_X4_wear l dC dI am cI μ h.mok (xs (i + 1)) (xs (i + 2)) (xs (i + 3)) H.size) (cwV 3 hts gL_law_X4_wear rfl rfl rfl (by decide +kernel) ⟨Nat.le_of_ble_eq_true rfl, Nat.le_of_ble_eq_true rfl⟩) (va_recv hK (z_swp hP hD).1 (ci := 4) (q0 := 0) rfl rfl) hP hD hS hA (hK.sub (tys' := [(cI, .int)]) [0] rfl) rfl hl.1 rfl (Nat.le_of_ble_eq_true rfl) dL_law_400 ⟨hR.1, hR.2⟩ (fun r _ H locs hu hP hD hS => ?_)
  subst hu
  replace hP : va_P (dC, dI) vwCl (zLW c0 ad ae ah ax ar cI cS cL oa κ9 f9 ++ zMW am cI (rWear μ (xs (i + 1)) (xs (i + 2)) (xs (i + 3))).1) H := hP
  replace hD : va_D (fun q => s.heap.size ≤ q) (zLW c0 ad ae ah ax ar cI cS cL oa κ9 f9 ++ zMW am cI (rWear μ (xs (i + 1)) (xs (i + 2)) (xs (i + 3))).1) := hD
  obtain ⟨hP, hD⟩ := z_swp hP hD
  generalize hm9 : (rWear μ (xs (i + 1)) (xs (i + 2)) (xs (i + 3))) = m9 at hP hD hr ⊢
  refine lv_istore (lv' := [(6, .int m9.2), (5, .int c9), (4, .int (nI i)), (0, .ref b), (1, .ref c0), (2, .ref (am 0)), (3, .ref oa)]) hx hb dL_law_403 hl (by decide) rfl (fun ls hl => ?_)
  refine lv_aload_n hx hb dL_law_405 rfl (lv_at hl 5 rfl) ?_
  refine z_cVi (As := []) (rest := []) ⟨hx, hb, hml, hown, hts⟩ (k_X4_thrown l dC dI am cI m9.1 hr.2.2.mok) (cwV 0 hts gL_law_X4_thrown rfl rfl rfl (by decide +kernel) ⟨Nat.le_of_ble_eq_true rfl, Nat.le_of_ble_eq_true rfl⟩) (va_recv hK hP (ci := 4) (q0 := 0) rfl rfl) (hP.sub (ws' := zMW am cI m9.1) [0, 1, 2, 3, 4, 5] rfl) (hK.sub (tys' := [(cI, .int)]) [0] rfl) rfl hl.1 rfl (Nat.le_of_ble_eq_true rfl) dL_law_406 ⟨hR.1, hR.2⟩ (fun r hu => ?_)
  subst hu
  refine lv_iload hx hb dL_law_409 (lv_at hl 1 rfl) ?_
  refine lv_icmp_eq (tgt := 416) hx hb dL_law_411 (by decide) (fun _ => ?_) (fun z => absurd hr.1.symm z)
  refine lv_iload hx hb dL_law_416 (lv_at hl 1 rfl) ?_
  have hl2 : lv_has ls 9 [(4, .int (nI i)), (0, .ref b), (1, .ref c0), (2, .ref (am 0)), (3, .ref oa)] := lv_sub hl [2, 3, 4, 5, 6] rfl
  refine lv_if_ne (tgt := 433) hx hb dL_law_418 (by decide) (fun _ => ?_) (fun hc => ?_)
  · refine lv_goto (tgt := 1361) hx hb dL_law_433 (by decide) ?_
    exact kk κ9 m9.1 f9 ls H locs hl2 hP hD hS hr.2.2
  · skip
    refine lv_aload_n hx hb dL_law_421 rfl (lv_at hl 6 rfl) ?_
    refine lv_iconst (v := 0) hx hb dL_law_422 (by decide) ?_
    refine z_lald hx hb hK hP 6 2 0 rfl rfl (by decide) (by decide) dL_law_423 ?_
    refine lv_iload hx hb dL_law_424 (lv_at hl 0 rfl) ?_
    refine lv_i2l (v := m9.2.toInt64) hx hb dL_law_426 rfl ?_
    refine W.lcmp hx hb dL_law_427 ?_
    refine lv_if_eq (tgt := 433) hx hb dL_law_428 (by decide) (fun _ => ?_) (fun z => absurd ((lg_cmp_eq _ _).mpr ?_) z)
    · refine lv_goto (tgt := 1361) hx hb dL_law_433 (by decide) ?_
      exact kk κ9 m9.1 f9 ls H locs hl2 hP hD hS hr.2.2
    · rw [← hf9, if_pos hc, ← hr.2.1 hc]; rfl
set_option maxHeartbeats 4000000 in
theorem g_set {p : Program} {l : Launch} {e : Env} {s : State} {m : MethodId} {args : Array Value} {below : List Frame} {meth : Method} {c : Code} {Q : State → Prop} {b L : Nat} {xs : Nat → Int32} {dC : Nat → ClassId} {dI : Nat → Nat → Nat} {cI cS cL : ClassId} {c0 oa : Nat} {am ad ae ah ax : Nat → Nat} {ar : Nat → Nat → Nat} {κ : zK} {μ : zM} {f : Nat → Int64} {B i : Nat} {H : Heap} {locs : List Loc} {cells slots : Nat} {ls : Array Slot} (C : lCx l p s m args c b L xs dC dI cI cS cL) (hi : i + 3 < L) (h : kRel B κ μ) (hB : B < 2 ^ 31) (hR : cells + 1 ≤ room_1.cells ∧ slots + 6 ≤ room_1.slots) (hl : lv_has ls 9 [(4, .int (nI i)), (0, .ref b), (1, .ref c0), (2, .ref (am 0)), (3, .ref oa)]) (hP : va_P (dC, dI) vwCl (zLM c0 am ad ae ah ax ar cI cS cL oa κ μ f) H) (hD : va_D (fun q => s.heap.size ≤ q) (zLM c0 am ad ae ah ax ar cI cS cL oa κ μ f)) (hS : va_S (fun q => s.heap.size ≤ q) s.heap H locs)
    (kk : ∀ (κ' : zK) (μ' : zM) (f' : Nat → Int64) (ls : Array Slot) (H : Heap) (locs : List Loc), lv_has ls 9 [(4, .int (nI i)), (0, .ref b), (1, .ref c0), (2, .ref (am 0)), (3, .ref oa)] → va_P (dC, dI) vwCl (zLM c0 am ad ae ah ax ar cI cS cL oa κ' μ' f') H → va_D (fun q => s.heap.size ≤ q) (zLM c0 am ad ae ah ax ar cI cS cL oa κ' μ' f') → va_S (fun q => s.heap.size ≤ q) s.heap H locs → kRel (B + 6500) κ' μ' → W p l e room_1 s m args below meth c H locs (cells + 1) (slots + 6) Q (F0 m 1361 ls [])) : W p l e room_1 s m args below meth c H locs cells slots Q (F0 m 436 ls []) := by
  obtain ⟨hx, hb, hml, hown, hts, hK, hE, hNc, hN, hX, hbl, hl0, hL⟩ := C
  have hA : ∀ q, s.heap.size ≤ q → s.heap.size ≤ q := fun _ h => h
  have hn6 := h.n6
  have hr := rel_Set h (xs (i + 1)) (xs (i + 2))
  refine lv_aload_n hx hb dL_law_436 rfl (lv_at hl 2 rfl) ?_
  refine lv_aload_n hx hb dL_law_437 rfl (lv_at hl 1 rfl) ?_
  refine lv_iload hx hb dL_law_438 (lv_at hl 0 rfl) ?_
  refine lv_iconst (v := 1) hx hb dL_law_440 (by decide) ?_
  refine z_iadd hx hb i 1 dL_law_441 ?_
  refine z_sld hx hb hX hbl hS (i + 1) (by omega) hL dL_law_442 ?_
  refine lv_aload_n hx hb dL_law_443 rfl (lv_at hl 1 rfl) ?_
  refine lv_iload hx hb dL_law_444 (lv_at hl 0 rfl) ?_
  refine lv_iconst (v := 2) hx hb dL_law_446 (by decide) ?_
  refine z_iadd hx hb i 2 dL_law_447 ?_
  refine z_sld hx hb hX hbl hS (i + 2) (by omega) hL dL_law_448 ?_
  refine lv_aload_n hx hb dL_law_449 rfl (lv_at hl 4 rfl) ?_
  refine z_xWSx (wr := zMW am cI μ) (As := [.ref c0, .int (xs (i + 1)), .int (xs (i + 2)), .ref oa]) (rest := []) ⟨hx, hb, hml, hown, hts⟩ (w_set l hl0 s.heap.size dC dI c0 ad ae ah ax ar cI cS cL oa κ h.o6 h.n6 h.zok f (xs (i + 1)) (xs (i + 2)) H.size) (vx_cwSW 4 hts gL_law_L_set rfl rfl rfl (by decide +kernel) ⟨Nat.le_of_ble_eq_true rfl, Nat.le_of_ble_eq_true rfl⟩) (fun U hU hW => ⟨hE.at (Nat.le_refl _) hS hW hU, hNc.at hW, va_Nw.warmM hW hN⟩) hP hD hS hA hK rfl hl.1 rfl (Nat.le_of_ble_eq_true rfl) dL_law_450 hR (fun r u H locs hu hP hD hS => ?_)
  obtain ⟨rfl, rfl⟩ := hu
  replace hP : va_P (dC, dI) vwCl (zMW am cI μ ++ zLW c0 ad ae ah ax ar cI cS cL oa (if cdSet (xs (i + 1)) (xs (i + 2)) = 0 then (sSet κ (xs (i + 1)) (xs (i + 2))).1 else κ) (if cdSet (xs (i + 1)) (xs (i + 2)) = 0 then vp_updL f 0 ((sSet κ (xs (i + 1)) (xs (i + 2))).2).toInt64 else f)) H := hP
  replace hD : va_D (fun q => s.heap.size ≤ q) (zMW am cI μ ++ zLW c0 ad ae ah ax ar cI cS cL oa (if cdSet (xs (i + 1)) (xs (i + 2)) = 0 then (sSet κ (xs (i + 1)) (xs (i + 2))).1 else κ) (if cdSet (xs (i + 1)) (xs (i + 2)) = 0 then vp_updL f 0 ((sSet κ (xs (i + 1)) (xs (i + 2))).2).toInt64 else f)) := hD
  generalize hf9 : (if cdSet (xs (i + 1)) (xs (i + 2)) = 0 then vp_updL f 0 ((sSet κ (xs (i + 1)) (xs (i + 2))).2).toInt64 else f) = f9 at hP hD
  generalize hk9 : (if cdSet (xs (i + 1)) (xs (i + 2)) = 0 then (sSet κ (xs (i + 1)) (xs (i + 2))).1 else κ) = κ9 at hP hD hr
  generalize hc9 : cdSet (xs (i + 1)) (xs (i + 2)) = c9 at hf9 hr ⊢
  refine lv_istore (lv' := [(5, .int c9), (4, .int (nI i)), (0, .ref b), (1, .ref c0), (2, .ref (am 0)), (3, .ref oa)]) hx hb dL_law_453 hl (by decide) rfl (fun ls hl => ?_)
  refine lv_aload_n hx hb dL_law_455 rfl (lv_at hl 4 rfl) ?_
  refine lv_aload_n hx hb dL_law_456 rfl (lv_at hl 2 rfl) ?_
  refine lv_iload hx hb dL_law_457 (lv_at hl 1 rfl) ?_
  refine lv_iconst (v := 1) hx hb dL_law_459 (by decide) ?_
  refine z_iadd hx hb i 1 dL_law_460 ?_
  refine z_sld hx hb hX hbl hS (i + 1) (by omega) hL dL_law_461 ?_
  refine lv_aload_n hx hb dL_law_462 rfl (lv_at hl 2 rfl) ?_
  refine lv_iload hx hb dL_law_463 (lv_at hl 1 rfl) ?_
  refine lv_iconst (v := 2) hx hb dL_law_465 (by decide) ?_
  refine z_iadd hx hb i 2 dL_law_466 ?_
  refine z_sld hx hb hX hbl hS (i + 2) (by omega) hL dL_law_467 ?_
  obtain ⟨hP, hD⟩ := z_swp hP hD
  refine z_xWi (wr := zLW c0 ad ae ah ax ar cI cS cL oa κ9 f9) (As := [.int (xs (i + 1)), .int (xs (i + 2))]) (rest := []) ⟨hx, hb, hml, hown, hts⟩ (k_X4_set l dC dI am cI μ h.mok (xs (i + 1)) (xs (i + 2)) H.size) (cwV 2 hts gL_law_X4_set rfl rfl rfl (by decide +kernel) ⟨Nat.le_of_ble_eq_true rfl, Nat.le_of_ble_eq_true rfl⟩) (va_recv hK (z_swp hP hD).1 (ci := 4) (q0 := 0) rfl rfl) hP hD hS hA (hK.sub (tys' := [(cI, .int)]) [0] rfl) rfl hl.1 rfl (Nat.le_of_ble_eq_true rfl) dL_law_468 ⟨hR.1, hR.2⟩ (fun r _ H locs hu hP hD hS => ?_)
  subst hu
  replace hP : va_P (dC, dI) vwCl (zLW c0 ad ae ah ax ar cI cS cL oa κ9 f9 ++ zMW am cI (rSet μ (xs (i + 1)) (xs (i + 2))).1) H := hP
  replace hD : va_D (fun q => s.heap.size ≤ q) (zLW c0 ad ae ah ax ar cI cS cL oa κ9 f9 ++ zMW am cI (rSet μ (xs (i + 1)) (xs (i + 2))).1) := hD
  obtain ⟨hP, hD⟩ := z_swp hP hD
  generalize hm9 : (rSet μ (xs (i + 1)) (xs (i + 2))) = m9 at hP hD hr ⊢
  refine lv_istore (lv' := [(6, .int m9.2), (5, .int c9), (4, .int (nI i)), (0, .ref b), (1, .ref c0), (2, .ref (am 0)), (3, .ref oa)]) hx hb dL_law_471 hl (by decide) rfl (fun ls hl => ?_)
  refine lv_aload_n hx hb dL_law_473 rfl (lv_at hl 5 rfl) ?_
  refine z_cVi (As := []) (rest := []) ⟨hx, hb, hml, hown, hts⟩ (k_X4_thrown l dC dI am cI m9.1 hr.2.2.mok) (cwV 0 hts gL_law_X4_thrown rfl rfl rfl (by decide +kernel) ⟨Nat.le_of_ble_eq_true rfl, Nat.le_of_ble_eq_true rfl⟩) (va_recv hK hP (ci := 4) (q0 := 0) rfl rfl) (hP.sub (ws' := zMW am cI m9.1) [0, 1, 2, 3, 4, 5] rfl) (hK.sub (tys' := [(cI, .int)]) [0] rfl) rfl hl.1 rfl (Nat.le_of_ble_eq_true rfl) dL_law_474 ⟨hR.1, hR.2⟩ (fun r hu => ?_)
  subst hu
  refine lv_iload hx hb dL_law_477 (lv_at hl 1 rfl) ?_
  refine lv_icmp_eq (tgt := 484) hx hb dL_law_479 (by decide) (fun _ => ?_) (fun z => absurd hr.1.symm z)
  refine lv_iload hx hb dL_law_484 (lv_at hl 1 rfl) ?_
  have hl2 : lv_has ls 9 [(4, .int (nI i)), (0, .ref b), (1, .ref c0), (2, .ref (am 0)), (3, .ref oa)] := lv_sub hl [2, 3, 4, 5, 6] rfl
  refine lv_if_ne (tgt := 501) hx hb dL_law_486 (by decide) (fun _ => ?_) (fun hc => ?_)
  · refine lv_goto (tgt := 1361) hx hb dL_law_501 (by decide) ?_
    exact kk κ9 m9.1 f9 ls H locs hl2 hP hD hS hr.2.2
  · skip
    refine lv_aload_n hx hb dL_law_489 rfl (lv_at hl 6 rfl) ?_
    refine lv_iconst (v := 0) hx hb dL_law_490 (by decide) ?_
    refine z_lald hx hb hK hP 6 2 0 rfl rfl (by decide) (by decide) dL_law_491 ?_
    refine lv_iload hx hb dL_law_492 (lv_at hl 0 rfl) ?_
    refine lv_i2l (v := m9.2.toInt64) hx hb dL_law_494 rfl ?_
    refine W.lcmp hx hb dL_law_495 ?_
    refine lv_if_eq (tgt := 501) hx hb dL_law_496 (by decide) (fun _ => ?_) (fun z => absurd ((lg_cmp_eq _ _).mpr ?_) z)
    · refine lv_goto (tgt := 1361) hx hb dL_law_501 (by decide) ?_
      exact kk κ9 m9.1 f9 ls H locs hl2 hP hD hS hr.2.2
    · rw [← hf9, if_pos hc, ← hr.2.1 hc]; rfl
set_option maxHeartbeats 4000000 in
theorem g_append {p : Program} {l : Launch} {e : Env} {s : State} {m : MethodId} {args : Array Value} {below : List Frame} {meth : Method} {c : Code} {Q : State → Prop} {b L : Nat} {xs : Nat → Int32} {dC : Nat → ClassId} {dI : Nat → Nat → Nat} {cI cS cL : ClassId} {c0 oa : Nat} {am ad ae ah ax : Nat → Nat} {ar : Nat → Nat → Nat} {κ : zK} {μ : zM} {f : Nat → Int64} {B i : Nat} {H : Heap} {locs : List Loc} {cells slots : Nat} {ls : Array Slot} (C : lCx l p s m args c b L xs dC dI cI cS cL) (hi : i + 3 < L) (h : kRel B κ μ) (hB : B < 2 ^ 31) (hR : cells + 1 ≤ room_1.cells ∧ slots + 6 ≤ room_1.slots) (hl : lv_has ls 9 [(4, .int (nI i)), (0, .ref b), (1, .ref c0), (2, .ref (am 0)), (3, .ref oa)]) (hP : va_P (dC, dI) vwCl (zLM c0 am ad ae ah ax ar cI cS cL oa κ μ f) H) (hD : va_D (fun q => s.heap.size ≤ q) (zLM c0 am ad ae ah ax ar cI cS cL oa κ μ f)) (hS : va_S (fun q => s.heap.size ≤ q) s.heap H locs)
    (kk : ∀ (κ' : zK) (μ' : zM) (f' : Nat → Int64) (ls : Array Slot) (H : Heap) (locs : List Loc), lv_has ls 9 [(4, .int (nI i)), (0, .ref b), (1, .ref c0), (2, .ref (am 0)), (3, .ref oa)] → va_P (dC, dI) vwCl (zLM c0 am ad ae ah ax ar cI cS cL oa κ' μ' f') H → va_D (fun q => s.heap.size ≤ q) (zLM c0 am ad ae ah ax ar cI cS cL oa κ' μ' f') → va_S (fun q => s.heap.size ≤ q) s.heap H locs → kRel (B + 6500) κ' μ' → W p l e room_1 s m args below meth c H locs (cells + 1) (slots + 6) Q (F0 m 1361 ls [])) : W p l e room_1 s m args below meth c H locs cells slots Q (F0 m 504 ls []) := by
  obtain ⟨hx, hb, hml, hown, hts, hK, hE, hNc, hN, hX, hbl, hl0, hL⟩ := C
  have hA : ∀ q, s.heap.size ≤ q → s.heap.size ≤ q := fun _ h => h
  have hn6 := h.n6
  have hr := rel_Append h (xs (i + 1))
  refine lv_aload_n hx hb dL_law_504 rfl (lv_at hl 2 rfl) ?_
  refine lv_aload_n hx hb dL_law_505 rfl (lv_at hl 1 rfl) ?_
  refine lv_iload hx hb dL_law_506 (lv_at hl 0 rfl) ?_
  refine lv_iconst (v := 1) hx hb dL_law_508 (by decide) ?_
  refine z_iadd hx hb i 1 dL_law_509 ?_
  refine z_sld hx hb hX hbl hS (i + 1) (by omega) hL dL_law_510 ?_
  refine lv_aload_n hx hb dL_law_511 rfl (lv_at hl 4 rfl) ?_
  refine z_xWSx (wr := zMW am cI μ) (As := [.ref c0, .int (xs (i + 1)), .ref oa]) (rest := []) ⟨hx, hb, hml, hown, hts⟩ (w_append l hl0 s.heap.size dC dI c0 ad ae ah ax ar cI cS cL oa κ h.o6 h.n6 h.zok (by rw [h.tt.2.1]; exact h.tt.2.2.1) f (xs (i + 1)) H.size) (vx_cwSW 3 hts gL_law_L_append rfl rfl rfl (by decide +kernel) ⟨Nat.le_of_ble_eq_true rfl, Nat.le_of_ble_eq_true rfl⟩) (fun U hU hW => ⟨hE.at (Nat.le_refl _) hS hW hU, hNc.at hW, va_Nw.warmM hW hN⟩) hP hD hS hA hK rfl hl.1 rfl (Nat.le_of_ble_eq_true rfl) dL_law_512 hR (fun r u H locs hu hP hD hS => ?_)
  obtain ⟨rfl, rfl⟩ := hu
  replace hP : va_P (dC, dI) vwCl (zMW am cI μ ++ zLW c0 ad ae ah ax ar cI cS cL oa (if cdAppend (tl (ut κ)) (xs (i + 1)) = 0 then (sAppend κ (xs (i + 1))).1 else κ) (if cdAppend (tl (ut κ)) (xs (i + 1)) = 0 then vp_updL f 0 ((sAppend κ (xs (i + 1))).2).toInt64 else f)) H := hP
  replace hD : va_D (fun q => s.heap.size ≤ q) (zMW am cI μ ++ zLW c0 ad ae ah ax ar cI cS cL oa (if cdAppend (tl (ut κ)) (xs (i + 1)) = 0 then (sAppend κ (xs (i + 1))).1 else κ) (if cdAppend (tl (ut κ)) (xs (i + 1)) = 0 then vp_updL f 0 ((sAppend κ (xs (i + 1))).2).toInt64 else f)) := hD
  generalize hf9 : (if cdAppend (tl (ut κ)) (xs (i + 1)) = 0 then vp_updL f 0 ((sAppend κ (xs (i + 1))).2).toInt64 else f) = f9 at hP hD
  generalize hk9 : (if cdAppend (tl (ut κ)) (xs (i + 1)) = 0 then (sAppend κ (xs (i + 1))).1 else κ) = κ9 at hP hD hr
  generalize hc9 : cdAppend (tl (ut κ)) (xs (i + 1)) = c9 at hf9 hr ⊢
  refine lv_istore (lv' := [(5, .int c9), (4, .int (nI i)), (0, .ref b), (1, .ref c0), (2, .ref (am 0)), (3, .ref oa)]) hx hb dL_law_515 hl (by decide) rfl (fun ls hl => ?_)
  refine lv_aload_n hx hb dL_law_517 rfl (lv_at hl 4 rfl) ?_
  refine lv_aload_n hx hb dL_law_518 rfl (lv_at hl 2 rfl) ?_
  refine lv_iload hx hb dL_law_519 (lv_at hl 1 rfl) ?_
  refine lv_iconst (v := 1) hx hb dL_law_521 (by decide) ?_
  refine z_iadd hx hb i 1 dL_law_522 ?_
  refine z_sld hx hb hX hbl hS (i + 1) (by omega) hL dL_law_523 ?_
  obtain ⟨hP, hD⟩ := z_swp hP hD
  refine z_xWi (wr := zLW c0 ad ae ah ax ar cI cS cL oa κ9 f9) (As := [.int (xs (i + 1))]) (rest := []) ⟨hx, hb, hml, hown, hts⟩ (k_X4_append l dC dI am cI μ h.mok (xs (i + 1)) H.size) (cwV 1 hts gL_law_X4_append rfl rfl rfl (by decide +kernel) ⟨Nat.le_of_ble_eq_true rfl, Nat.le_of_ble_eq_true rfl⟩) (va_recv hK (z_swp hP hD).1 (ci := 4) (q0 := 0) rfl rfl) hP hD hS hA (hK.sub (tys' := [(cI, .int)]) [0] rfl) rfl hl.1 rfl (Nat.le_of_ble_eq_true rfl) dL_law_524 ⟨hR.1, hR.2⟩ (fun r _ H locs hu hP hD hS => ?_)
  subst hu
  replace hP : va_P (dC, dI) vwCl (zLW c0 ad ae ah ax ar cI cS cL oa κ9 f9 ++ zMW am cI (rAppend μ (xs (i + 1))).1) H := hP
  replace hD : va_D (fun q => s.heap.size ≤ q) (zLW c0 ad ae ah ax ar cI cS cL oa κ9 f9 ++ zMW am cI (rAppend μ (xs (i + 1))).1) := hD
  obtain ⟨hP, hD⟩ := z_swp hP hD
  generalize hm9 : (rAppend μ (xs (i + 1))) = m9 at hP hD hr ⊢
  refine lv_istore (lv' := [(6, .int m9.2), (5, .int c9), (4, .int (nI i)), (0, .ref b), (1, .ref c0), (2, .ref (am 0)), (3, .ref oa)]) hx hb dL_law_527 hl (by decide) rfl (fun ls hl => ?_)
  refine lv_aload_n hx hb dL_law_529 rfl (lv_at hl 5 rfl) ?_
  refine z_cVi (As := []) (rest := []) ⟨hx, hb, hml, hown, hts⟩ (k_X4_thrown l dC dI am cI m9.1 hr.2.2.mok) (cwV 0 hts gL_law_X4_thrown rfl rfl rfl (by decide +kernel) ⟨Nat.le_of_ble_eq_true rfl, Nat.le_of_ble_eq_true rfl⟩) (va_recv hK hP (ci := 4) (q0 := 0) rfl rfl) (hP.sub (ws' := zMW am cI m9.1) [0, 1, 2, 3, 4, 5] rfl) (hK.sub (tys' := [(cI, .int)]) [0] rfl) rfl hl.1 rfl (Nat.le_of_ble_eq_true rfl) dL_law_530 ⟨hR.1, hR.2⟩ (fun r hu => ?_)
  subst hu
  refine lv_iload hx hb dL_law_533 (lv_at hl 1 rfl) ?_
  refine lv_icmp_eq (tgt := 540) hx hb dL_law_535 (by decide) (fun _ => ?_) (fun z => absurd hr.1.symm z)
  refine lv_iload hx hb dL_law_540 (lv_at hl 1 rfl) ?_
  have hl2 : lv_has ls 9 [(4, .int (nI i)), (0, .ref b), (1, .ref c0), (2, .ref (am 0)), (3, .ref oa)] := lv_sub hl [2, 3, 4, 5, 6] rfl
  refine lv_if_ne (tgt := 557) hx hb dL_law_542 (by decide) (fun _ => ?_) (fun hc => ?_)
  · refine lv_goto (tgt := 1361) hx hb dL_law_557 (by decide) ?_
    exact kk κ9 m9.1 f9 ls H locs hl2 hP hD hS hr.2.2
  · skip
    refine lv_aload_n hx hb dL_law_545 rfl (lv_at hl 6 rfl) ?_
    refine lv_iconst (v := 0) hx hb dL_law_546 (by decide) ?_
    refine z_lald hx hb hK hP 6 2 0 rfl rfl (by decide) (by decide) dL_law_547 ?_
    refine lv_iload hx hb dL_law_548 (lv_at hl 0 rfl) ?_
    refine lv_i2l (v := m9.2.toInt64) hx hb dL_law_550 rfl ?_
    refine W.lcmp hx hb dL_law_551 ?_
    refine lv_if_eq (tgt := 557) hx hb dL_law_552 (by decide) (fun _ => ?_) (fun z => absurd ((lg_cmp_eq _ _).mpr ?_) z)
    · refine lv_goto (tgt := 1361) hx hb dL_law_557 (by decide) ?_
      exact kk κ9 m9.1 f9 ls H locs hl2 hP hD hS hr.2.2
    · rw [← hf9, if_pos hc, ← hr.2.1 hc]; rfl
set_option maxHeartbeats 4000000 in
theorem g_writeAll {p : Program} {l : Launch} {e : Env} {s : State} {m : MethodId} {args : Array Value} {below : List Frame} {meth : Method} {c : Code} {Q : State → Prop} {b L : Nat} {xs : Nat → Int32} {dC : Nat → ClassId} {dI : Nat → Nat → Nat} {cI cS cL : ClassId} {c0 oa : Nat} {am ad ae ah ax : Nat → Nat} {ar : Nat → Nat → Nat} {κ : zK} {μ : zM} {f : Nat → Int64} {B i : Nat} {H : Heap} {locs : List Loc} {cells slots : Nat} {ls : Array Slot} (C : lCx l p s m args c b L xs dC dI cI cS cL) (hi : i + 3 < L) (h : kRel B κ μ) (hB : B < 2 ^ 31) (hR : cells + 1 ≤ room_1.cells ∧ slots + 6 ≤ room_1.slots) (hl : lv_has ls 9 [(4, .int (nI i)), (0, .ref b), (1, .ref c0), (2, .ref (am 0)), (3, .ref oa)]) (hP : va_P (dC, dI) vwCl (zLM c0 am ad ae ah ax ar cI cS cL oa κ μ f) H) (hD : va_D (fun q => s.heap.size ≤ q) (zLM c0 am ad ae ah ax ar cI cS cL oa κ μ f)) (hS : va_S (fun q => s.heap.size ≤ q) s.heap H locs)
    (kk : ∀ (κ' : zK) (μ' : zM) (f' : Nat → Int64) (ls : Array Slot) (H : Heap) (locs : List Loc), lv_has ls 9 [(4, .int (nI i)), (0, .ref b), (1, .ref c0), (2, .ref (am 0)), (3, .ref oa)] → va_P (dC, dI) vwCl (zLM c0 am ad ae ah ax ar cI cS cL oa κ' μ' f') H → va_D (fun q => s.heap.size ≤ q) (zLM c0 am ad ae ah ax ar cI cS cL oa κ' μ' f') → va_S (fun q => s.heap.size ≤ q) s.heap H locs → kRel (B + 6500) κ' μ' → W p l e room_1 s m args below meth c H locs (cells + 1) (slots + 6) Q (F0 m 1361 ls [])) : W p l e room_1 s m args below meth c H locs cells slots Q (F0 m 586 ls []) := by
  obtain ⟨hx, hb, hml, hown, hts, hK, hE, hNc, hN, hX, hbl, hl0, hL⟩ := C
  have hA : ∀ q, s.heap.size ≤ q → s.heap.size ≤ q := fun _ h => h
  have hn6 := h.n6
  have hr := rel_WriteAll h
  refine lv_aload_n hx hb dL_law_586 rfl (lv_at hl 2 rfl) ?_
  refine lv_aload_n hx hb dL_law_587 rfl (lv_at hl 4 rfl) ?_
  refine z_xWSx (wr := zMW am cI μ) (As := [.ref c0, .ref oa]) (rest := []) ⟨hx, hb, hml, hown, hts⟩ (w_writeAll l hl0 s.heap.size dC dI c0 ad ae ah ax ar cI cS cL oa κ h.o6 h.n6 h.zok (by rw [h.tt.2.1]; exact h.tt.2.2.1) (tRel.f h.tt) f H.size (va_A_n0 (A0 := fun _ => True) (wr := zMW am cI μ ++ [(oa, .inl (cL, 1, .inr (.inl f)))]) hD hS.1)) (vx_cwSW 2 hts gL_law_L_writeAll rfl rfl rfl (by decide +kernel) ⟨Nat.le_of_ble_eq_true rfl, Nat.le_of_ble_eq_true rfl⟩) (fun U hU hW => ⟨hE.at (Nat.le_refl _) hS hW hU, hNc.at hW, va_Nw.warmM hW hN⟩) hP hD hS hA hK rfl hl.1 rfl (Nat.le_of_ble_eq_true rfl) dL_law_588 hR (fun r u H locs hu hP hD hS => ?_)
  obtain ⟨rfl, rfl⟩ := hu
  replace hP : va_P (dC, dI) vwCl (zMW am cI μ ++ zLW c0 ad ae ah ax ar cI cS cL oa (sWriteAll κ).1 (if cdWriteAll (ut κ) = 0 then vp_updL f 0 ((sWriteAll κ).2).toInt64 else f)) H := hP
  replace hD : va_D (fun q => s.heap.size ≤ q) (zMW am cI μ ++ zLW c0 ad ae ah ax ar cI cS cL oa (sWriteAll κ).1 (if cdWriteAll (ut κ) = 0 then vp_updL f 0 ((sWriteAll κ).2).toInt64 else f)) := hD
  generalize hf9 : (if cdWriteAll (ut κ) = 0 then vp_updL f 0 ((sWriteAll κ).2).toInt64 else f) = f9 at hP hD
  generalize hk9 : (sWriteAll κ).1 = κ9 at hP hD hr
  generalize hc9 : cdWriteAll (ut κ) = c9 at hf9 hr ⊢
  refine lv_istore (lv' := [(5, .int c9), (4, .int (nI i)), (0, .ref b), (1, .ref c0), (2, .ref (am 0)), (3, .ref oa)]) hx hb dL_law_591 hl (by decide) rfl (fun ls hl => ?_)
  refine lv_aload_n hx hb dL_law_593 rfl (lv_at hl 4 rfl) ?_
  obtain ⟨hP, hD⟩ := z_swp hP hD
  refine z_xWi (wr := zLW c0 ad ae ah ax ar cI cS cL oa κ9 f9) (As := []) (rest := []) ⟨hx, hb, hml, hown, hts⟩ (k_X4_writeAll l dC dI am cI μ h.mok h.tt.2.2.2 H.size) (cwV 0 hts gL_law_X4_writeAll rfl rfl rfl (by decide +kernel) ⟨Nat.le_of_ble_eq_true rfl, Nat.le_of_ble_eq_true rfl⟩) (va_recv hK (z_swp hP hD).1 (ci := 4) (q0 := 0) rfl rfl) hP hD hS hA (hK.sub (tys' := [(cI, .int)]) [0] rfl) rfl hl.1 rfl (Nat.le_of_ble_eq_true rfl) dL_law_594 ⟨hR.1, hR.2⟩ (fun r _ H locs hu hP hD hS => ?_)
  subst hu
  replace hP : va_P (dC, dI) vwCl (zLW c0 ad ae ah ax ar cI cS cL oa κ9 f9 ++ zMW am cI (rWriteAll μ).1) H := hP
  replace hD : va_D (fun q => s.heap.size ≤ q) (zLW c0 ad ae ah ax ar cI cS cL oa κ9 f9 ++ zMW am cI (rWriteAll μ).1) := hD
  obtain ⟨hP, hD⟩ := z_swp hP hD
  generalize hm9 : (rWriteAll μ) = m9 at hP hD hr ⊢
  refine lv_istore (lv' := [(6, .int m9.2), (5, .int c9), (4, .int (nI i)), (0, .ref b), (1, .ref c0), (2, .ref (am 0)), (3, .ref oa)]) hx hb dL_law_597 hl (by decide) rfl (fun ls hl => ?_)
  refine lv_aload_n hx hb dL_law_599 rfl (lv_at hl 5 rfl) ?_
  refine z_cVi (As := []) (rest := []) ⟨hx, hb, hml, hown, hts⟩ (k_X4_thrown l dC dI am cI m9.1 hr.2.2.mok) (cwV 0 hts gL_law_X4_thrown rfl rfl rfl (by decide +kernel) ⟨Nat.le_of_ble_eq_true rfl, Nat.le_of_ble_eq_true rfl⟩) (va_recv hK hP (ci := 4) (q0 := 0) rfl rfl) (hP.sub (ws' := zMW am cI m9.1) [0, 1, 2, 3, 4, 5] rfl) (hK.sub (tys' := [(cI, .int)]) [0] rfl) rfl hl.1 rfl (Nat.le_of_ble_eq_true rfl) dL_law_600 ⟨hR.1, hR.2⟩ (fun r hu => ?_)
  subst hu
  refine lv_iload hx hb dL_law_603 (lv_at hl 1 rfl) ?_
  refine lv_icmp_eq (tgt := 610) hx hb dL_law_605 (by decide) (fun _ => ?_) (fun z => absurd hr.1.symm z)
  refine lv_iload hx hb dL_law_610 (lv_at hl 1 rfl) ?_
  have hl2 : lv_has ls 9 [(4, .int (nI i)), (0, .ref b), (1, .ref c0), (2, .ref (am 0)), (3, .ref oa)] := lv_sub hl [2, 3, 4, 5, 6] rfl
  refine lv_if_ne (tgt := 627) hx hb dL_law_612 (by decide) (fun _ => ?_) (fun hc => ?_)
  · refine lv_goto (tgt := 1361) hx hb dL_law_627 (by decide) ?_
    exact kk κ9 m9.1 f9 ls H locs hl2 hP hD hS hr.2.2
  · skip
    refine lv_aload_n hx hb dL_law_615 rfl (lv_at hl 6 rfl) ?_
    refine lv_iconst (v := 0) hx hb dL_law_616 (by decide) ?_
    refine z_lald hx hb hK hP 6 2 0 rfl rfl (by decide) (by decide) dL_law_617 ?_
    refine lv_iload hx hb dL_law_618 (lv_at hl 0 rfl) ?_
    refine lv_i2l (v := m9.2.toInt64) hx hb dL_law_620 rfl ?_
    refine W.lcmp hx hb dL_law_621 ?_
    refine lv_if_eq (tgt := 627) hx hb dL_law_622 (by decide) (fun _ => ?_) (fun z => absurd ((lg_cmp_eq _ _).mpr ?_) z)
    · refine lv_goto (tgt := 1361) hx hb dL_law_627 (by decide) ?_
      exact kk κ9 m9.1 f9 ls H locs hl2 hP hD hS hr.2.2
    · rw [← hf9, if_pos hc, ← hr.2.1 hc]; rfl
set_option maxHeartbeats 4000000 in
theorem g_undo {p : Program} {l : Launch} {e : Env} {s : State} {m : MethodId} {args : Array Value} {below : List Frame} {meth : Method} {c : Code} {Q : State → Prop} {b L : Nat} {xs : Nat → Int32} {dC : Nat → ClassId} {dI : Nat → Nat → Nat} {cI cS cL : ClassId} {c0 oa : Nat} {am ad ae ah ax : Nat → Nat} {ar : Nat → Nat → Nat} {κ : zK} {μ : zM} {f : Nat → Int64} {B i : Nat} {H : Heap} {locs : List Loc} {cells slots : Nat} {ls : Array Slot} (C : lCx l p s m args c b L xs dC dI cI cS cL) (hi : i + 3 < L) (h : kRel B κ μ) (hB : B < 2 ^ 31) (hR : cells + 1 ≤ room_1.cells ∧ slots + 6 ≤ room_1.slots) (hl : lv_has ls 9 [(4, .int (nI i)), (0, .ref b), (1, .ref c0), (2, .ref (am 0)), (3, .ref oa)]) (hP : va_P (dC, dI) vwCl (zLM c0 am ad ae ah ax ar cI cS cL oa κ μ f) H) (hD : va_D (fun q => s.heap.size ≤ q) (zLM c0 am ad ae ah ax ar cI cS cL oa κ μ f)) (hS : va_S (fun q => s.heap.size ≤ q) s.heap H locs)
    (kk : ∀ (κ' : zK) (μ' : zM) (f' : Nat → Int64) (ls : Array Slot) (H : Heap) (locs : List Loc), lv_has ls 9 [(4, .int (nI i)), (0, .ref b), (1, .ref c0), (2, .ref (am 0)), (3, .ref oa)] → va_P (dC, dI) vwCl (zLM c0 am ad ae ah ax ar cI cS cL oa κ' μ' f') H → va_D (fun q => s.heap.size ≤ q) (zLM c0 am ad ae ah ax ar cI cS cL oa κ' μ' f') → va_S (fun q => s.heap.size ≤ q) s.heap H locs → kRel (B + 6500) κ' μ' → W p l e room_1 s m args below meth c H locs (cells + 1) (slots + 6) Q (F0 m 1361 ls [])) : W p l e room_1 s m args below meth c H locs cells slots Q (F0 m 630 ls []) := by
  obtain ⟨hx, hb, hml, hown, hts, hK, hE, hNc, hN, hX, hbl, hl0, hL⟩ := C
  have hA : ∀ q, s.heap.size ≤ q → s.heap.size ≤ q := fun _ h => h
  have hn6 := h.n6
  have hr := rel_Undo h
  refine lv_aload_n hx hb dL_law_630 rfl (lv_at hl 2 rfl) ?_
  refine lv_aload_n hx hb dL_law_631 rfl (lv_at hl 4 rfl) ?_
  refine z_xWSx (wr := zMW am cI μ) (As := [.ref c0, .ref oa]) (rest := []) ⟨hx, hb, hml, hown, hts⟩ (w_undo l hl0 s.heap.size dC dI c0 ad ae ah ax ar cI cS cL oa κ h.o6 h.n6 h.zok f H.size) (vx_cwSW 2 hts gL_law_L_undo rfl rfl rfl (by decide +kernel) ⟨Nat.le_of_ble_eq_true rfl, Nat.le_of_ble_eq_true rfl⟩) (fun U hU hW => ⟨hE.at (Nat.le_refl _) hS hW hU, hNc.at hW, va_Nw.warmM hW hN⟩) hP hD hS hA hK rfl hl.1 rfl (Nat.le_of_ble_eq_true rfl) dL_law_632 hR (fun r u H locs hu hP hD hS => ?_)
  obtain ⟨rfl, rfl⟩ := hu
  replace hP : va_P (dC, dI) vwCl (zMW am cI μ ++ zLW c0 ad ae ah ax ar cI cS cL oa (if cdUndo (un κ) = 0 then (sUndo κ).1 else κ) (if cdUndo (un κ) = 0 then vp_updL f 0 ((sUndo κ).2).toInt64 else f)) H := hP
  replace hD : va_D (fun q => s.heap.size ≤ q) (zMW am cI μ ++ zLW c0 ad ae ah ax ar cI cS cL oa (if cdUndo (un κ) = 0 then (sUndo κ).1 else κ) (if cdUndo (un κ) = 0 then vp_updL f 0 ((sUndo κ).2).toInt64 else f)) := hD
  generalize hf9 : (if cdUndo (un κ) = 0 then vp_updL f 0 ((sUndo κ).2).toInt64 else f) = f9 at hP hD
  generalize hk9 : (if cdUndo (un κ) = 0 then (sUndo κ).1 else κ) = κ9 at hP hD hr
  generalize hc9 : cdUndo (un κ) = c9 at hf9 hr ⊢
  refine lv_istore (lv' := [(5, .int c9), (4, .int (nI i)), (0, .ref b), (1, .ref c0), (2, .ref (am 0)), (3, .ref oa)]) hx hb dL_law_635 hl (by decide) rfl (fun ls hl => ?_)
  refine lv_aload_n hx hb dL_law_637 rfl (lv_at hl 4 rfl) ?_
  obtain ⟨hP, hD⟩ := z_swp hP hD
  refine z_xWi (wr := zLW c0 ad ae ah ax ar cI cS cL oa κ9 f9) (As := []) (rest := []) ⟨hx, hb, hml, hown, hts⟩ (k_X4_undo l dC dI am cI μ h.mok H.size) (cwV 0 hts gL_law_X4_undo rfl rfl rfl (by decide +kernel) ⟨Nat.le_of_ble_eq_true rfl, Nat.le_of_ble_eq_true rfl⟩) (va_recv hK (z_swp hP hD).1 (ci := 4) (q0 := 0) rfl rfl) hP hD hS hA (hK.sub (tys' := [(cI, .int)]) [0] rfl) rfl hl.1 rfl (Nat.le_of_ble_eq_true rfl) dL_law_638 ⟨hR.1, hR.2⟩ (fun r _ H locs hu hP hD hS => ?_)
  subst hu
  replace hP : va_P (dC, dI) vwCl (zLW c0 ad ae ah ax ar cI cS cL oa κ9 f9 ++ zMW am cI (rUndo μ).1) H := hP
  replace hD : va_D (fun q => s.heap.size ≤ q) (zLW c0 ad ae ah ax ar cI cS cL oa κ9 f9 ++ zMW am cI (rUndo μ).1) := hD
  obtain ⟨hP, hD⟩ := z_swp hP hD
  generalize hm9 : (rUndo μ) = m9 at hP hD hr ⊢
  refine lv_istore (lv' := [(6, .int m9.2), (5, .int c9), (4, .int (nI i)), (0, .ref b), (1, .ref c0), (2, .ref (am 0)), (3, .ref oa)]) hx hb dL_law_641 hl (by decide) rfl (fun ls hl => ?_)
  refine lv_aload_n hx hb dL_law_643 rfl (lv_at hl 5 rfl) ?_
  refine z_cVi (As := []) (rest := []) ⟨hx, hb, hml, hown, hts⟩ (k_X4_thrown l dC dI am cI m9.1 hr.2.2.mok) (cwV 0 hts gL_law_X4_thrown rfl rfl rfl (by decide +kernel) ⟨Nat.le_of_ble_eq_true rfl, Nat.le_of_ble_eq_true rfl⟩) (va_recv hK hP (ci := 4) (q0 := 0) rfl rfl) (hP.sub (ws' := zMW am cI m9.1) [0, 1, 2, 3, 4, 5] rfl) (hK.sub (tys' := [(cI, .int)]) [0] rfl) rfl hl.1 rfl (Nat.le_of_ble_eq_true rfl) dL_law_644 ⟨hR.1, hR.2⟩ (fun r hu => ?_)
  subst hu
  refine lv_iload hx hb dL_law_647 (lv_at hl 1 rfl) ?_
  refine lv_icmp_eq (tgt := 654) hx hb dL_law_649 (by decide) (fun _ => ?_) (fun z => absurd hr.1.symm z)
  refine lv_iload hx hb dL_law_654 (lv_at hl 1 rfl) ?_
  have hl2 : lv_has ls 9 [(4, .int (nI i)), (0, .ref b), (1, .ref c0), (2, .ref (am 0)), (3, .ref oa)] := lv_sub hl [2, 3, 4, 5, 6] rfl
  refine lv_if_ne (tgt := 671) hx hb dL_law_656 (by decide) (fun _ => ?_) (fun hc => ?_)
  · refine lv_goto (tgt := 1361) hx hb dL_law_671 (by decide) ?_
    exact kk κ9 m9.1 f9 ls H locs hl2 hP hD hS hr.2.2
  · skip
    refine lv_aload_n hx hb dL_law_659 rfl (lv_at hl 6 rfl) ?_
    refine lv_iconst (v := 0) hx hb dL_law_660 (by decide) ?_
    refine z_lald hx hb hK hP 6 2 0 rfl rfl (by decide) (by decide) dL_law_661 ?_
    refine lv_iload hx hb dL_law_662 (lv_at hl 0 rfl) ?_
    refine lv_i2l (v := m9.2.toInt64) hx hb dL_law_664 rfl ?_
    refine W.lcmp hx hb dL_law_665 ?_
    refine lv_if_eq (tgt := 671) hx hb dL_law_666 (by decide) (fun _ => ?_) (fun z => absurd ((lg_cmp_eq _ _).mpr ?_) z)
    · refine lv_goto (tgt := 1361) hx hb dL_law_671 (by decide) ?_
      exact kk κ9 m9.1 f9 ls H locs hl2 hP hD hS hr.2.2
    · rw [← hf9, if_pos hc, ← hr.2.1 hc]; rfl
set_option maxHeartbeats 4000000 in
theorem g_read {p : Program} {l : Launch} {e : Env} {s : State} {m : MethodId} {args : Array Value} {below : List Frame} {meth : Method} {c : Code} {Q : State → Prop} {b L : Nat} {xs : Nat → Int32} {dC : Nat → ClassId} {dI : Nat → Nat → Nat} {cI cS cL : ClassId} {c0 oa : Nat} {am ad ae ah ax : Nat → Nat} {ar : Nat → Nat → Nat} {κ : zK} {μ : zM} {f : Nat → Int64} {B i : Nat} {H : Heap} {locs : List Loc} {cells slots : Nat} {ls : Array Slot} (C : lCx l p s m args c b L xs dC dI cI cS cL) (hi : i + 3 < L) (h : kRel B κ μ) (hB : B < 2 ^ 31) (hR : cells + 1 ≤ room_1.cells ∧ slots + 6 ≤ room_1.slots) (hl : lv_has ls 9 [(4, .int (nI i)), (0, .ref b), (1, .ref c0), (2, .ref (am 0)), (3, .ref oa)]) (hP : va_P (dC, dI) vwCl (zLM c0 am ad ae ah ax ar cI cS cL oa κ μ f) H) (hD : va_D (fun q => s.heap.size ≤ q) (zLM c0 am ad ae ah ax ar cI cS cL oa κ μ f)) (hS : va_S (fun q => s.heap.size ≤ q) s.heap H locs)
    (kk : ∀ (κ' : zK) (μ' : zM) (f' : Nat → Int64) (ls : Array Slot) (H : Heap) (locs : List Loc), lv_has ls 9 [(4, .int (nI i)), (0, .ref b), (1, .ref c0), (2, .ref (am 0)), (3, .ref oa)] → va_P (dC, dI) vwCl (zLM c0 am ad ae ah ax ar cI cS cL oa κ' μ' f') H → va_D (fun q => s.heap.size ≤ q) (zLM c0 am ad ae ah ax ar cI cS cL oa κ' μ' f') → va_S (fun q => s.heap.size ≤ q) s.heap H locs → kRel (B + 6500) κ' μ' → W p l e room_1 s m args below meth c H locs (cells + 1) (slots + 6) Q (F0 m 1361 ls [])) : W p l e room_1 s m args below meth c H locs cells slots Q (F0 m 674 ls []) := by
  obtain ⟨hx, hb, hml, hown, hts, hK, hE, hNc, hN, hX, hbl, hl0, hL⟩ := C
  have hA : ∀ q, s.heap.size ≤ q → s.heap.size ≤ q := fun _ h => h
  have hn6 := h.n6
  have hr := rel_Read h (xs (i + 1))
  refine lv_aload_n hx hb dL_law_674 rfl (lv_at hl 2 rfl) ?_
  refine lv_aload_n hx hb dL_law_675 rfl (lv_at hl 1 rfl) ?_
  refine lv_iload hx hb dL_law_676 (lv_at hl 0 rfl) ?_
  refine lv_iconst (v := 1) hx hb dL_law_678 (by decide) ?_
  refine z_iadd hx hb i 1 dL_law_679 ?_
  refine z_sld hx hb hX hbl hS (i + 1) (by omega) hL dL_law_680 ?_
  refine lv_aload_n hx hb dL_law_681 rfl (lv_at hl 4 rfl) ?_
  refine z_xWSx (wr := zMW am cI μ) (As := [.ref c0, .int (xs (i + 1)), .ref oa]) (rest := []) ⟨hx, hb, hml, hown, hts⟩ (w_read l hl0 s.heap.size dC dI c0 ad ae ah ax ar cI cS cL oa κ h.o6 h.n6 h.zok f (xs (i + 1)) H.size) (vx_cwSW 3 hts gL_law_L_read rfl rfl rfl (by decide +kernel) ⟨Nat.le_of_ble_eq_true rfl, Nat.le_of_ble_eq_true rfl⟩) (fun U hU hW => ⟨hE.at (Nat.le_refl _) hS hW hU, hNc.at hW, va_Nw.warmM hW hN⟩) hP hD hS hA hK rfl hl.1 rfl (Nat.le_of_ble_eq_true rfl) dL_law_682 hR (fun r u H locs hu hP hD hS => ?_)
  obtain ⟨rfl, rfl⟩ := hu
  replace hP : va_P (dC, dI) vwCl (zMW am cI μ ++ zLW c0 ad ae ah ax ar cI cS cL oa κ (if cd1 (xs (i + 1)) 15 = 0 then vp_updL f 0 (pnm (uS κ) (iN (xs (i + 1)))).toInt64 else f)) H := hP
  replace hD : va_D (fun q => s.heap.size ≤ q) (zMW am cI μ ++ zLW c0 ad ae ah ax ar cI cS cL oa κ (if cd1 (xs (i + 1)) 15 = 0 then vp_updL f 0 (pnm (uS κ) (iN (xs (i + 1)))).toInt64 else f)) := hD
  generalize hf9 : (if cd1 (xs (i + 1)) 15 = 0 then vp_updL f 0 (pnm (uS κ) (iN (xs (i + 1)))).toInt64 else f) = f9 at hP hD
  generalize hc9 : cd1 (xs (i + 1)) 15 = c9 at hf9 hr ⊢
  refine lv_istore (lv' := [(5, .int c9), (4, .int (nI i)), (0, .ref b), (1, .ref c0), (2, .ref (am 0)), (3, .ref oa)]) hx hb dL_law_685 hl (by decide) rfl (fun ls hl => ?_)
  refine lv_aload_n hx hb dL_law_687 rfl (lv_at hl 4 rfl) ?_
  refine lv_aload_n hx hb dL_law_688 rfl (lv_at hl 2 rfl) ?_
  refine lv_iload hx hb dL_law_689 (lv_at hl 1 rfl) ?_
  refine lv_iconst (v := 1) hx hb dL_law_691 (by decide) ?_
  refine z_iadd hx hb i 1 dL_law_692 ?_
  refine z_sld hx hb hX hbl hS (i + 1) (by omega) hL dL_law_693 ?_
  obtain ⟨hP, hD⟩ := z_swp hP hD
  refine z_xWi (wr := zLW c0 ad ae ah ax ar cI cS cL oa κ f9) (As := [.int (xs (i + 1))]) (rest := []) ⟨hx, hb, hml, hown, hts⟩ (k_X4_read l dC dI am cI μ h.mok (xs (i + 1)) H.size) (cwV 1 hts gL_law_X4_read rfl rfl rfl (by decide +kernel) ⟨Nat.le_of_ble_eq_true rfl, Nat.le_of_ble_eq_true rfl⟩) (va_recv hK (z_swp hP hD).1 (ci := 4) (q0 := 0) rfl rfl) hP hD hS hA (hK.sub (tys' := [(cI, .int)]) [0] rfl) rfl hl.1 rfl (Nat.le_of_ble_eq_true rfl) dL_law_694 ⟨hR.1, hR.2⟩ (fun r _ H locs hu hP hD hS => ?_)
  subst hu
  replace hP : va_P (dC, dI) vwCl (zLW c0 ad ae ah ax ar cI cS cL oa κ f9 ++ zMW am cI (rRead μ (xs (i + 1))).1) H := hP
  replace hD : va_D (fun q => s.heap.size ≤ q) (zLW c0 ad ae ah ax ar cI cS cL oa κ f9 ++ zMW am cI (rRead μ (xs (i + 1))).1) := hD
  obtain ⟨hP, hD⟩ := z_swp hP hD
  generalize hm9 : (rRead μ (xs (i + 1))) = m9 at hP hD hr ⊢
  refine lv_istore (lv' := [(6, .int m9.2), (5, .int c9), (4, .int (nI i)), (0, .ref b), (1, .ref c0), (2, .ref (am 0)), (3, .ref oa)]) hx hb dL_law_697 hl (by decide) rfl (fun ls hl => ?_)
  refine lv_aload_n hx hb dL_law_699 rfl (lv_at hl 5 rfl) ?_
  refine z_cVi (As := []) (rest := []) ⟨hx, hb, hml, hown, hts⟩ (k_X4_thrown l dC dI am cI m9.1 hr.2.2.mok) (cwV 0 hts gL_law_X4_thrown rfl rfl rfl (by decide +kernel) ⟨Nat.le_of_ble_eq_true rfl, Nat.le_of_ble_eq_true rfl⟩) (va_recv hK hP (ci := 4) (q0 := 0) rfl rfl) (hP.sub (ws' := zMW am cI m9.1) [0, 1, 2, 3, 4, 5] rfl) (hK.sub (tys' := [(cI, .int)]) [0] rfl) rfl hl.1 rfl (Nat.le_of_ble_eq_true rfl) dL_law_700 ⟨hR.1, hR.2⟩ (fun r hu => ?_)
  subst hu
  refine lv_iload hx hb dL_law_703 (lv_at hl 1 rfl) ?_
  refine lv_icmp_eq (tgt := 710) hx hb dL_law_705 (by decide) (fun _ => ?_) (fun z => absurd hr.1.symm z)
  refine lv_iload hx hb dL_law_710 (lv_at hl 1 rfl) ?_
  have hl2 : lv_has ls 9 [(4, .int (nI i)), (0, .ref b), (1, .ref c0), (2, .ref (am 0)), (3, .ref oa)] := lv_sub hl [2, 3, 4, 5, 6] rfl
  refine lv_if_ne (tgt := 727) hx hb dL_law_712 (by decide) (fun _ => ?_) (fun hc => ?_)
  · refine lv_goto (tgt := 1361) hx hb dL_law_727 (by decide) ?_
    exact kk κ m9.1 f9 ls H locs hl2 hP hD hS hr.2.2
  · skip
    refine lv_aload_n hx hb dL_law_715 rfl (lv_at hl 6 rfl) ?_
    refine lv_iconst (v := 0) hx hb dL_law_716 (by decide) ?_
    refine z_lald hx hb hK hP 6 2 0 rfl rfl (by decide) (by decide) dL_law_717 ?_
    refine lv_iload hx hb dL_law_718 (lv_at hl 0 rfl) ?_
    refine lv_i2l (v := m9.2.toInt64) hx hb dL_law_720 rfl ?_
    refine W.lcmp hx hb dL_law_721 ?_
    refine lv_if_eq (tgt := 727) hx hb dL_law_722 (by decide) (fun _ => ?_) (fun z => absurd ((lg_cmp_eq _ _).mpr ?_) z)
    · refine lv_goto (tgt := 1361) hx hb dL_law_727 (by decide) ?_
      exact kk κ m9.1 f9 ls H locs hl2 hP hD hS hr.2.2
    · rw [← hf9, if_pos hc, ← hr.2.1 hc]; rfl
set_option maxHeartbeats 4000000 in
theorem g_word {p : Program} {l : Launch} {e : Env} {s : State} {m : MethodId} {args : Array Value} {below : List Frame} {meth : Method} {c : Code} {Q : State → Prop} {b L : Nat} {xs : Nat → Int32} {dC : Nat → ClassId} {dI : Nat → Nat → Nat} {cI cS cL : ClassId} {c0 oa : Nat} {am ad ae ah ax : Nat → Nat} {ar : Nat → Nat → Nat} {κ : zK} {μ : zM} {f : Nat → Int64} {B i : Nat} {H : Heap} {locs : List Loc} {cells slots : Nat} {ls : Array Slot} (C : lCx l p s m args c b L xs dC dI cI cS cL) (hi : i + 3 < L) (h : kRel B κ μ) (hB : B < 2 ^ 31) (hR : cells + 1 ≤ room_1.cells ∧ slots + 6 ≤ room_1.slots) (hl : lv_has ls 9 [(4, .int (nI i)), (0, .ref b), (1, .ref c0), (2, .ref (am 0)), (3, .ref oa)]) (hP : va_P (dC, dI) vwCl (zLM c0 am ad ae ah ax ar cI cS cL oa κ μ f) H) (hD : va_D (fun q => s.heap.size ≤ q) (zLM c0 am ad ae ah ax ar cI cS cL oa κ μ f)) (hS : va_S (fun q => s.heap.size ≤ q) s.heap H locs)
    (kk : ∀ (κ' : zK) (μ' : zM) (f' : Nat → Int64) (ls : Array Slot) (H : Heap) (locs : List Loc), lv_has ls 9 [(4, .int (nI i)), (0, .ref b), (1, .ref c0), (2, .ref (am 0)), (3, .ref oa)] → va_P (dC, dI) vwCl (zLM c0 am ad ae ah ax ar cI cS cL oa κ' μ' f') H → va_D (fun q => s.heap.size ≤ q) (zLM c0 am ad ae ah ax ar cI cS cL oa κ' μ' f') → va_S (fun q => s.heap.size ≤ q) s.heap H locs → kRel (B + 6500) κ' μ' → W p l e room_1 s m args below meth c H locs (cells + 1) (slots + 6) Q (F0 m 1361 ls [])) : W p l e room_1 s m args below meth c H locs cells slots Q (F0 m 730 ls []) := by
  obtain ⟨hx, hb, hml, hown, hts, hK, hE, hNc, hN, hX, hbl, hl0, hL⟩ := C
  have hA : ∀ q, s.heap.size ≤ q → s.heap.size ≤ q := fun _ h => h
  have hn6 := h.n6
  have hr := rel_Word h (xs (i + 1)) (xs (i + 2))
  refine lv_aload_n hx hb dL_law_730 rfl (lv_at hl 2 rfl) ?_
  refine lv_aload_n hx hb dL_law_731 rfl (lv_at hl 1 rfl) ?_
  refine lv_iload hx hb dL_law_732 (lv_at hl 0 rfl) ?_
  refine lv_iconst (v := 1) hx hb dL_law_734 (by decide) ?_
  refine z_iadd hx hb i 1 dL_law_735 ?_
  refine z_sld hx hb hX hbl hS (i + 1) (by omega) hL dL_law_736 ?_
  refine lv_aload_n hx hb dL_law_737 rfl (lv_at hl 1 rfl) ?_
  refine lv_iload hx hb dL_law_738 (lv_at hl 0 rfl) ?_
  refine lv_iconst (v := 2) hx hb dL_law_740 (by decide) ?_
  refine z_iadd hx hb i 2 dL_law_741 ?_
  refine z_sld hx hb hX hbl hS (i + 2) (by omega) hL dL_law_742 ?_
  refine lv_aload_n hx hb dL_law_743 rfl (lv_at hl 4 rfl) ?_
  refine z_xWSx (wr := zMW am cI μ) (As := [.ref c0, .int (xs (i + 1)), .int (xs (i + 2)), .ref oa]) (rest := []) ⟨hx, hb, hml, hown, hts⟩ (w_word l hl0 s.heap.size dC dI c0 ad ae ah ax ar cI cS cL oa κ h.o6 h.n6 h.zok f (xs (i + 1)) (xs (i + 2)) H.size) (vx_cwSW 4 hts gL_law_L_word rfl rfl rfl (by decide +kernel) ⟨Nat.le_of_ble_eq_true rfl, Nat.le_of_ble_eq_true rfl⟩) (fun U hU hW => ⟨hE.at (Nat.le_refl _) hS hW hU, hNc.at hW, va_Nw.warmM hW hN⟩) hP hD hS hA hK rfl hl.1 rfl (Nat.le_of_ble_eq_true rfl) dL_law_744 hR (fun r u H locs hu hP hD hS => ?_)
  obtain ⟨rfl, rfl⟩ := hu
  replace hP : va_P (dC, dI) vwCl (zMW am cI μ ++ zLW c0 ad ae ah ax ar cI cS cL oa κ (if cd12 (xs (i + 1)) 15 (xs (i + 2)) 4 = 0 then vp_updL f 0 (vWord (uS κ) (iN (xs (i + 1))) (iN (xs (i + 2)))).toInt64 else f)) H := hP
  replace hD : va_D (fun q => s.heap.size ≤ q) (zMW am cI μ ++ zLW c0 ad ae ah ax ar cI cS cL oa κ (if cd12 (xs (i + 1)) 15 (xs (i + 2)) 4 = 0 then vp_updL f 0 (vWord (uS κ) (iN (xs (i + 1))) (iN (xs (i + 2)))).toInt64 else f)) := hD
  generalize hf9 : (if cd12 (xs (i + 1)) 15 (xs (i + 2)) 4 = 0 then vp_updL f 0 (vWord (uS κ) (iN (xs (i + 1))) (iN (xs (i + 2)))).toInt64 else f) = f9 at hP hD
  generalize hc9 : cd12 (xs (i + 1)) 15 (xs (i + 2)) 4 = c9 at hf9 hr ⊢
  refine lv_istore (lv' := [(5, .int c9), (4, .int (nI i)), (0, .ref b), (1, .ref c0), (2, .ref (am 0)), (3, .ref oa)]) hx hb dL_law_747 hl (by decide) rfl (fun ls hl => ?_)
  refine lv_aload_n hx hb dL_law_749 rfl (lv_at hl 4 rfl) ?_
  refine lv_aload_n hx hb dL_law_750 rfl (lv_at hl 2 rfl) ?_
  refine lv_iload hx hb dL_law_751 (lv_at hl 1 rfl) ?_
  refine lv_iconst (v := 1) hx hb dL_law_753 (by decide) ?_
  refine z_iadd hx hb i 1 dL_law_754 ?_
  refine z_sld hx hb hX hbl hS (i + 1) (by omega) hL dL_law_755 ?_
  refine lv_aload_n hx hb dL_law_756 rfl (lv_at hl 2 rfl) ?_
  refine lv_iload hx hb dL_law_757 (lv_at hl 1 rfl) ?_
  refine lv_iconst (v := 2) hx hb dL_law_759 (by decide) ?_
  refine z_iadd hx hb i 2 dL_law_760 ?_
  refine z_sld hx hb hX hbl hS (i + 2) (by omega) hL dL_law_761 ?_
  obtain ⟨hP, hD⟩ := z_swp hP hD
  refine z_xWi (wr := zLW c0 ad ae ah ax ar cI cS cL oa κ f9) (As := [.int (xs (i + 1)), .int (xs (i + 2))]) (rest := []) ⟨hx, hb, hml, hown, hts⟩ (k_X4_word l dC dI am cI μ h.mok (xs (i + 1)) (xs (i + 2)) H.size) (cwV 2 hts gL_law_X4_word rfl rfl rfl (by decide +kernel) ⟨Nat.le_of_ble_eq_true rfl, Nat.le_of_ble_eq_true rfl⟩) (va_recv hK (z_swp hP hD).1 (ci := 4) (q0 := 0) rfl rfl) hP hD hS hA (hK.sub (tys' := [(cI, .int)]) [0] rfl) rfl hl.1 rfl (Nat.le_of_ble_eq_true rfl) dL_law_762 ⟨hR.1, hR.2⟩ (fun r _ H locs hu hP hD hS => ?_)
  subst hu
  replace hP : va_P (dC, dI) vwCl (zLW c0 ad ae ah ax ar cI cS cL oa κ f9 ++ zMW am cI (rWord μ (xs (i + 1)) (xs (i + 2))).1) H := hP
  replace hD : va_D (fun q => s.heap.size ≤ q) (zLW c0 ad ae ah ax ar cI cS cL oa κ f9 ++ zMW am cI (rWord μ (xs (i + 1)) (xs (i + 2))).1) := hD
  obtain ⟨hP, hD⟩ := z_swp hP hD
  generalize hm9 : (rWord μ (xs (i + 1)) (xs (i + 2))) = m9 at hP hD hr ⊢
  refine lv_istore (lv' := [(6, .int m9.2), (5, .int c9), (4, .int (nI i)), (0, .ref b), (1, .ref c0), (2, .ref (am 0)), (3, .ref oa)]) hx hb dL_law_765 hl (by decide) rfl (fun ls hl => ?_)
  refine lv_aload_n hx hb dL_law_767 rfl (lv_at hl 5 rfl) ?_
  refine z_cVi (As := []) (rest := []) ⟨hx, hb, hml, hown, hts⟩ (k_X4_thrown l dC dI am cI m9.1 hr.2.2.mok) (cwV 0 hts gL_law_X4_thrown rfl rfl rfl (by decide +kernel) ⟨Nat.le_of_ble_eq_true rfl, Nat.le_of_ble_eq_true rfl⟩) (va_recv hK hP (ci := 4) (q0 := 0) rfl rfl) (hP.sub (ws' := zMW am cI m9.1) [0, 1, 2, 3, 4, 5] rfl) (hK.sub (tys' := [(cI, .int)]) [0] rfl) rfl hl.1 rfl (Nat.le_of_ble_eq_true rfl) dL_law_768 ⟨hR.1, hR.2⟩ (fun r hu => ?_)
  subst hu
  refine lv_iload hx hb dL_law_771 (lv_at hl 1 rfl) ?_
  refine lv_icmp_eq (tgt := 778) hx hb dL_law_773 (by decide) (fun _ => ?_) (fun z => absurd hr.1.symm z)
  refine lv_iload hx hb dL_law_778 (lv_at hl 1 rfl) ?_
  have hl2 : lv_has ls 9 [(4, .int (nI i)), (0, .ref b), (1, .ref c0), (2, .ref (am 0)), (3, .ref oa)] := lv_sub hl [2, 3, 4, 5, 6] rfl
  refine lv_if_ne (tgt := 795) hx hb dL_law_780 (by decide) (fun _ => ?_) (fun hc => ?_)
  · refine lv_goto (tgt := 1361) hx hb dL_law_795 (by decide) ?_
    exact kk κ m9.1 f9 ls H locs hl2 hP hD hS hr.2.2
  · skip
    refine lv_aload_n hx hb dL_law_783 rfl (lv_at hl 6 rfl) ?_
    refine lv_iconst (v := 0) hx hb dL_law_784 (by decide) ?_
    refine z_lald hx hb hK hP 6 2 0 rfl rfl (by decide) (by decide) dL_law_785 ?_
    refine lv_iload hx hb dL_law_786 (lv_at hl 0 rfl) ?_
    refine lv_i2l (v := m9.2.toInt64) hx hb dL_law_788 rfl ?_
    refine W.lcmp hx hb dL_law_789 ?_
    refine lv_if_eq (tgt := 795) hx hb dL_law_790 (by decide) (fun _ => ?_) (fun z => absurd ((lg_cmp_eq _ _).mpr ?_) z)
    · refine lv_goto (tgt := 1361) hx hb dL_law_795 (by decide) ?_
      exact kk κ m9.1 f9 ls H locs hl2 hP hD hS hr.2.2
    · rw [← hf9, if_pos hc, ← hr.2.1 hc]; rfl
set_option maxHeartbeats 4000000 in
theorem g_slot {p : Program} {l : Launch} {e : Env} {s : State} {m : MethodId} {args : Array Value} {below : List Frame} {meth : Method} {c : Code} {Q : State → Prop} {b L : Nat} {xs : Nat → Int32} {dC : Nat → ClassId} {dI : Nat → Nat → Nat} {cI cS cL : ClassId} {c0 oa : Nat} {am ad ae ah ax : Nat → Nat} {ar : Nat → Nat → Nat} {κ : zK} {μ : zM} {f : Nat → Int64} {B i : Nat} {H : Heap} {locs : List Loc} {cells slots : Nat} {ls : Array Slot} (C : lCx l p s m args c b L xs dC dI cI cS cL) (hi : i + 3 < L) (h : kRel B κ μ) (hB : B < 2 ^ 31) (hR : cells + 1 ≤ room_1.cells ∧ slots + 6 ≤ room_1.slots) (hl : lv_has ls 9 [(4, .int (nI i)), (0, .ref b), (1, .ref c0), (2, .ref (am 0)), (3, .ref oa)]) (hP : va_P (dC, dI) vwCl (zLM c0 am ad ae ah ax ar cI cS cL oa κ μ f) H) (hD : va_D (fun q => s.heap.size ≤ q) (zLM c0 am ad ae ah ax ar cI cS cL oa κ μ f)) (hS : va_S (fun q => s.heap.size ≤ q) s.heap H locs)
    (kk : ∀ (κ' : zK) (μ' : zM) (f' : Nat → Int64) (ls : Array Slot) (H : Heap) (locs : List Loc), lv_has ls 9 [(4, .int (nI i)), (0, .ref b), (1, .ref c0), (2, .ref (am 0)), (3, .ref oa)] → va_P (dC, dI) vwCl (zLM c0 am ad ae ah ax ar cI cS cL oa κ' μ' f') H → va_D (fun q => s.heap.size ≤ q) (zLM c0 am ad ae ah ax ar cI cS cL oa κ' μ' f') → va_S (fun q => s.heap.size ≤ q) s.heap H locs → kRel (B + 6500) κ' μ' → W p l e room_1 s m args below meth c H locs (cells + 1) (slots + 6) Q (F0 m 1361 ls [])) : W p l e room_1 s m args below meth c H locs cells slots Q (F0 m 798 ls []) := by
  obtain ⟨hx, hb, hml, hown, hts, hK, hE, hNc, hN, hX, hbl, hl0, hL⟩ := C
  have hA : ∀ q, s.heap.size ≤ q → s.heap.size ≤ q := fun _ h => h
  have hn6 := h.n6
  have hr := rel_Slot h (xs (i + 1)) (xs (i + 2))
  refine lv_aload_n hx hb dL_law_798 rfl (lv_at hl 2 rfl) ?_
  refine lv_aload_n hx hb dL_law_799 rfl (lv_at hl 1 rfl) ?_
  refine lv_iload hx hb dL_law_800 (lv_at hl 0 rfl) ?_
  refine lv_iconst (v := 1) hx hb dL_law_802 (by decide) ?_
  refine z_iadd hx hb i 1 dL_law_803 ?_
  refine z_sld hx hb hX hbl hS (i + 1) (by omega) hL dL_law_804 ?_
  refine lv_aload_n hx hb dL_law_805 rfl (lv_at hl 1 rfl) ?_
  refine lv_iload hx hb dL_law_806 (lv_at hl 0 rfl) ?_
  refine lv_iconst (v := 2) hx hb dL_law_808 (by decide) ?_
  refine z_iadd hx hb i 2 dL_law_809 ?_
  refine z_sld hx hb hX hbl hS (i + 2) (by omega) hL dL_law_810 ?_
  refine lv_aload_n hx hb dL_law_811 rfl (lv_at hl 4 rfl) ?_
  refine z_xWSx (wr := zMW am cI μ) (As := [.ref c0, .int (xs (i + 1)), .int (xs (i + 2)), .ref oa]) (rest := []) ⟨hx, hb, hml, hown, hts⟩ (w_slot l hl0 s.heap.size dC dI c0 ad ae ah ax ar cI cS cL oa κ h.o6 h.n6 h.zok f (xs (i + 1)) (xs (i + 2)) H.size) (vx_cwSW 4 hts gL_law_L_slot rfl rfl rfl (by decide +kernel) ⟨Nat.le_of_ble_eq_true rfl, Nat.le_of_ble_eq_true rfl⟩) (fun U hU hW => ⟨hE.at (Nat.le_refl _) hS hW hU, hNc.at hW, va_Nw.warmM hW hN⟩) hP hD hS hA hK rfl hl.1 rfl (Nat.le_of_ble_eq_true rfl) dL_law_812 hR (fun r u H locs hu hP hD hS => ?_)
  obtain ⟨rfl, rfl⟩ := hu
  replace hP : va_P (dC, dI) vwCl (zMW am cI μ ++ zLW c0 ad ae ah ax ar cI cS cL oa κ (if cd12 (xs (i + 1)) 17 (xs (i + 2)) 5 = 0 then vp_updL f 0 (vSlot (uS κ) (iN (xs (i + 1))) (iN (xs (i + 2)))).toInt64 else f)) H := hP
  replace hD : va_D (fun q => s.heap.size ≤ q) (zMW am cI μ ++ zLW c0 ad ae ah ax ar cI cS cL oa κ (if cd12 (xs (i + 1)) 17 (xs (i + 2)) 5 = 0 then vp_updL f 0 (vSlot (uS κ) (iN (xs (i + 1))) (iN (xs (i + 2)))).toInt64 else f)) := hD
  generalize hf9 : (if cd12 (xs (i + 1)) 17 (xs (i + 2)) 5 = 0 then vp_updL f 0 (vSlot (uS κ) (iN (xs (i + 1))) (iN (xs (i + 2)))).toInt64 else f) = f9 at hP hD
  generalize hc9 : cd12 (xs (i + 1)) 17 (xs (i + 2)) 5 = c9 at hf9 hr ⊢
  refine lv_istore (lv' := [(5, .int c9), (4, .int (nI i)), (0, .ref b), (1, .ref c0), (2, .ref (am 0)), (3, .ref oa)]) hx hb dL_law_815 hl (by decide) rfl (fun ls hl => ?_)
  refine lv_aload_n hx hb dL_law_817 rfl (lv_at hl 4 rfl) ?_
  refine lv_aload_n hx hb dL_law_818 rfl (lv_at hl 2 rfl) ?_
  refine lv_iload hx hb dL_law_819 (lv_at hl 1 rfl) ?_
  refine lv_iconst (v := 1) hx hb dL_law_821 (by decide) ?_
  refine z_iadd hx hb i 1 dL_law_822 ?_
  refine z_sld hx hb hX hbl hS (i + 1) (by omega) hL dL_law_823 ?_
  refine lv_aload_n hx hb dL_law_824 rfl (lv_at hl 2 rfl) ?_
  refine lv_iload hx hb dL_law_825 (lv_at hl 1 rfl) ?_
  refine lv_iconst (v := 2) hx hb dL_law_827 (by decide) ?_
  refine z_iadd hx hb i 2 dL_law_828 ?_
  refine z_sld hx hb hX hbl hS (i + 2) (by omega) hL dL_law_829 ?_
  obtain ⟨hP, hD⟩ := z_swp hP hD
  refine z_xWi (wr := zLW c0 ad ae ah ax ar cI cS cL oa κ f9) (As := [.int (xs (i + 1)), .int (xs (i + 2))]) (rest := []) ⟨hx, hb, hml, hown, hts⟩ (k_X4_slot l dC dI am cI μ h.mok (xs (i + 1)) (xs (i + 2)) H.size) (cwV 2 hts gL_law_X4_slot rfl rfl rfl (by decide +kernel) ⟨Nat.le_of_ble_eq_true rfl, Nat.le_of_ble_eq_true rfl⟩) (va_recv hK (z_swp hP hD).1 (ci := 4) (q0 := 0) rfl rfl) hP hD hS hA (hK.sub (tys' := [(cI, .int)]) [0] rfl) rfl hl.1 rfl (Nat.le_of_ble_eq_true rfl) dL_law_830 ⟨hR.1, hR.2⟩ (fun r _ H locs hu hP hD hS => ?_)
  subst hu
  replace hP : va_P (dC, dI) vwCl (zLW c0 ad ae ah ax ar cI cS cL oa κ f9 ++ zMW am cI (rSlot μ (xs (i + 1)) (xs (i + 2))).1) H := hP
  replace hD : va_D (fun q => s.heap.size ≤ q) (zLW c0 ad ae ah ax ar cI cS cL oa κ f9 ++ zMW am cI (rSlot μ (xs (i + 1)) (xs (i + 2))).1) := hD
  obtain ⟨hP, hD⟩ := z_swp hP hD
  generalize hm9 : (rSlot μ (xs (i + 1)) (xs (i + 2))) = m9 at hP hD hr ⊢
  refine lv_istore (lv' := [(6, .int m9.2), (5, .int c9), (4, .int (nI i)), (0, .ref b), (1, .ref c0), (2, .ref (am 0)), (3, .ref oa)]) hx hb dL_law_833 hl (by decide) rfl (fun ls hl => ?_)
  refine lv_aload_n hx hb dL_law_835 rfl (lv_at hl 5 rfl) ?_
  refine z_cVi (As := []) (rest := []) ⟨hx, hb, hml, hown, hts⟩ (k_X4_thrown l dC dI am cI m9.1 hr.2.2.mok) (cwV 0 hts gL_law_X4_thrown rfl rfl rfl (by decide +kernel) ⟨Nat.le_of_ble_eq_true rfl, Nat.le_of_ble_eq_true rfl⟩) (va_recv hK hP (ci := 4) (q0 := 0) rfl rfl) (hP.sub (ws' := zMW am cI m9.1) [0, 1, 2, 3, 4, 5] rfl) (hK.sub (tys' := [(cI, .int)]) [0] rfl) rfl hl.1 rfl (Nat.le_of_ble_eq_true rfl) dL_law_836 ⟨hR.1, hR.2⟩ (fun r hu => ?_)
  subst hu
  refine lv_iload hx hb dL_law_839 (lv_at hl 1 rfl) ?_
  refine lv_icmp_eq (tgt := 846) hx hb dL_law_841 (by decide) (fun _ => ?_) (fun z => absurd hr.1.symm z)
  refine lv_iload hx hb dL_law_846 (lv_at hl 1 rfl) ?_
  have hl2 : lv_has ls 9 [(4, .int (nI i)), (0, .ref b), (1, .ref c0), (2, .ref (am 0)), (3, .ref oa)] := lv_sub hl [2, 3, 4, 5, 6] rfl
  refine lv_if_ne (tgt := 863) hx hb dL_law_848 (by decide) (fun _ => ?_) (fun hc => ?_)
  · refine lv_goto (tgt := 1361) hx hb dL_law_863 (by decide) ?_
    exact kk κ m9.1 f9 ls H locs hl2 hP hD hS hr.2.2
  · skip
    refine lv_aload_n hx hb dL_law_851 rfl (lv_at hl 6 rfl) ?_
    refine lv_iconst (v := 0) hx hb dL_law_852 (by decide) ?_
    refine z_lald hx hb hK hP 6 2 0 rfl rfl (by decide) (by decide) dL_law_853 ?_
    refine lv_iload hx hb dL_law_854 (lv_at hl 0 rfl) ?_
    refine lv_i2l (v := m9.2.toInt64) hx hb dL_law_856 rfl ?_
    refine W.lcmp hx hb dL_law_857 ?_
    refine lv_if_eq (tgt := 863) hx hb dL_law_858 (by decide) (fun _ => ?_) (fun z => absurd ((lg_cmp_eq _ _).mpr ?_) z)
    · refine lv_goto (tgt := 1361) hx hb dL_law_863 (by decide) ?_
      exact kk κ m9.1 f9 ls H locs hl2 hP hD hS hr.2.2
    · rw [← hf9, if_pos hc, ← hr.2.1 hc]; rfl
set_option maxHeartbeats 4000000 in
theorem g_wearOf {p : Program} {l : Launch} {e : Env} {s : State} {m : MethodId} {args : Array Value} {below : List Frame} {meth : Method} {c : Code} {Q : State → Prop} {b L : Nat} {xs : Nat → Int32} {dC : Nat → ClassId} {dI : Nat → Nat → Nat} {cI cS cL : ClassId} {c0 oa : Nat} {am ad ae ah ax : Nat → Nat} {ar : Nat → Nat → Nat} {κ : zK} {μ : zM} {f : Nat → Int64} {B i : Nat} {H : Heap} {locs : List Loc} {cells slots : Nat} {ls : Array Slot} (C : lCx l p s m args c b L xs dC dI cI cS cL) (hi : i + 3 < L) (h : kRel B κ μ) (hB : B < 2 ^ 31) (hR : cells + 1 ≤ room_1.cells ∧ slots + 6 ≤ room_1.slots) (hl : lv_has ls 9 [(4, .int (nI i)), (0, .ref b), (1, .ref c0), (2, .ref (am 0)), (3, .ref oa)]) (hP : va_P (dC, dI) vwCl (zLM c0 am ad ae ah ax ar cI cS cL oa κ μ f) H) (hD : va_D (fun q => s.heap.size ≤ q) (zLM c0 am ad ae ah ax ar cI cS cL oa κ μ f)) (hS : va_S (fun q => s.heap.size ≤ q) s.heap H locs)
    (kk : ∀ (κ' : zK) (μ' : zM) (f' : Nat → Int64) (ls : Array Slot) (H : Heap) (locs : List Loc), lv_has ls 9 [(4, .int (nI i)), (0, .ref b), (1, .ref c0), (2, .ref (am 0)), (3, .ref oa)] → va_P (dC, dI) vwCl (zLM c0 am ad ae ah ax ar cI cS cL oa κ' μ' f') H → va_D (fun q => s.heap.size ≤ q) (zLM c0 am ad ae ah ax ar cI cS cL oa κ' μ' f') → va_S (fun q => s.heap.size ≤ q) s.heap H locs → kRel (B + 6500) κ' μ' → W p l e room_1 s m args below meth c H locs (cells + 1) (slots + 6) Q (F0 m 1361 ls [])) : W p l e room_1 s m args below meth c H locs cells slots Q (F0 m 866 ls []) := by
  obtain ⟨hx, hb, hml, hown, hts, hK, hE, hNc, hN, hX, hbl, hl0, hL⟩ := C
  have hA : ∀ q, s.heap.size ≤ q → s.heap.size ≤ q := fun _ h => h
  have hn6 := h.n6
  have hr := rel_WearOf h (xs (i + 1)) (xs (i + 2))
  refine lv_aload_n hx hb dL_law_866 rfl (lv_at hl 2 rfl) ?_
  refine lv_aload_n hx hb dL_law_867 rfl (lv_at hl 1 rfl) ?_
  refine lv_iload hx hb dL_law_868 (lv_at hl 0 rfl) ?_
  refine lv_iconst (v := 1) hx hb dL_law_870 (by decide) ?_
  refine z_iadd hx hb i 1 dL_law_871 ?_
  refine z_sld hx hb hX hbl hS (i + 1) (by omega) hL dL_law_872 ?_
  refine lv_aload_n hx hb dL_law_873 rfl (lv_at hl 1 rfl) ?_
  refine lv_iload hx hb dL_law_874 (lv_at hl 0 rfl) ?_
  refine lv_iconst (v := 2) hx hb dL_law_876 (by decide) ?_
  refine z_iadd hx hb i 2 dL_law_877 ?_
  refine z_sld hx hb hX hbl hS (i + 2) (by omega) hL dL_law_878 ?_
  refine lv_aload_n hx hb dL_law_879 rfl (lv_at hl 4 rfl) ?_
  refine z_xWSx (wr := zMW am cI μ) (As := [.ref c0, .int (xs (i + 1)), .int (xs (i + 2)), .ref oa]) (rest := []) ⟨hx, hb, hml, hown, hts⟩ (w_wearOf l hl0 s.heap.size dC dI c0 ad ae ah ax ar cI cS cL oa κ h.o6 h.n6 h.zok f (xs (i + 1)) (xs (i + 2)) H.size) (vx_cwSW 4 hts gL_law_L_wearOf rfl rfl rfl (by decide +kernel) ⟨Nat.le_of_ble_eq_true rfl, Nat.le_of_ble_eq_true rfl⟩) (fun U hU hW => ⟨hE.at (Nat.le_refl _) hS hW hU, hNc.at hW, va_Nw.warmM hW hN⟩) hP hD hS hA hK rfl hl.1 rfl (Nat.le_of_ble_eq_true rfl) dL_law_880 hR (fun r u H locs hu hP hD hS => ?_)
  obtain ⟨rfl, rfl⟩ := hu
  replace hP : va_P (dC, dI) vwCl (zMW am cI μ ++ zLW c0 ad ae ah ax ar cI cS cL oa κ (if cd11 (xs (i + 1)) 17 (xs (i + 2)) 12 = 0 then vp_updL f 0 (zwn (uS κ) (iN (xs (i + 1)) * 13 + iN (xs (i + 2)))).toInt64 else f)) H := hP
  replace hD : va_D (fun q => s.heap.size ≤ q) (zMW am cI μ ++ zLW c0 ad ae ah ax ar cI cS cL oa κ (if cd11 (xs (i + 1)) 17 (xs (i + 2)) 12 = 0 then vp_updL f 0 (zwn (uS κ) (iN (xs (i + 1)) * 13 + iN (xs (i + 2)))).toInt64 else f)) := hD
  generalize hf9 : (if cd11 (xs (i + 1)) 17 (xs (i + 2)) 12 = 0 then vp_updL f 0 (zwn (uS κ) (iN (xs (i + 1)) * 13 + iN (xs (i + 2)))).toInt64 else f) = f9 at hP hD
  generalize hc9 : cd11 (xs (i + 1)) 17 (xs (i + 2)) 12 = c9 at hf9 hr ⊢
  refine lv_istore (lv' := [(5, .int c9), (4, .int (nI i)), (0, .ref b), (1, .ref c0), (2, .ref (am 0)), (3, .ref oa)]) hx hb dL_law_883 hl (by decide) rfl (fun ls hl => ?_)
  refine lv_aload_n hx hb dL_law_885 rfl (lv_at hl 4 rfl) ?_
  refine lv_aload_n hx hb dL_law_886 rfl (lv_at hl 2 rfl) ?_
  refine lv_iload hx hb dL_law_887 (lv_at hl 1 rfl) ?_
  refine lv_iconst (v := 1) hx hb dL_law_889 (by decide) ?_
  refine z_iadd hx hb i 1 dL_law_890 ?_
  refine z_sld hx hb hX hbl hS (i + 1) (by omega) hL dL_law_891 ?_
  refine lv_aload_n hx hb dL_law_892 rfl (lv_at hl 2 rfl) ?_
  refine lv_iload hx hb dL_law_893 (lv_at hl 1 rfl) ?_
  refine lv_iconst (v := 2) hx hb dL_law_895 (by decide) ?_
  refine z_iadd hx hb i 2 dL_law_896 ?_
  refine z_sld hx hb hX hbl hS (i + 2) (by omega) hL dL_law_897 ?_
  obtain ⟨hP, hD⟩ := z_swp hP hD
  refine z_xWi (wr := zLW c0 ad ae ah ax ar cI cS cL oa κ f9) (As := [.int (xs (i + 1)), .int (xs (i + 2))]) (rest := []) ⟨hx, hb, hml, hown, hts⟩ (k_X4_wearOf l dC dI am cI μ h.mok (xs (i + 1)) (xs (i + 2)) H.size) (cwV 2 hts gL_law_X4_wearOf rfl rfl rfl (by decide +kernel) ⟨Nat.le_of_ble_eq_true rfl, Nat.le_of_ble_eq_true rfl⟩) (va_recv hK (z_swp hP hD).1 (ci := 4) (q0 := 0) rfl rfl) hP hD hS hA (hK.sub (tys' := [(cI, .int)]) [0] rfl) rfl hl.1 rfl (Nat.le_of_ble_eq_true rfl) dL_law_898 ⟨hR.1, hR.2⟩ (fun r _ H locs hu hP hD hS => ?_)
  subst hu
  replace hP : va_P (dC, dI) vwCl (zLW c0 ad ae ah ax ar cI cS cL oa κ f9 ++ zMW am cI (rWearOf μ (xs (i + 1)) (xs (i + 2))).1) H := hP
  replace hD : va_D (fun q => s.heap.size ≤ q) (zLW c0 ad ae ah ax ar cI cS cL oa κ f9 ++ zMW am cI (rWearOf μ (xs (i + 1)) (xs (i + 2))).1) := hD
  obtain ⟨hP, hD⟩ := z_swp hP hD
  generalize hm9 : (rWearOf μ (xs (i + 1)) (xs (i + 2))) = m9 at hP hD hr ⊢
  refine lv_istore (lv' := [(6, .int m9.2), (5, .int c9), (4, .int (nI i)), (0, .ref b), (1, .ref c0), (2, .ref (am 0)), (3, .ref oa)]) hx hb dL_law_901 hl (by decide) rfl (fun ls hl => ?_)
  refine lv_aload_n hx hb dL_law_903 rfl (lv_at hl 5 rfl) ?_
  refine z_cVi (As := []) (rest := []) ⟨hx, hb, hml, hown, hts⟩ (k_X4_thrown l dC dI am cI m9.1 hr.2.2.mok) (cwV 0 hts gL_law_X4_thrown rfl rfl rfl (by decide +kernel) ⟨Nat.le_of_ble_eq_true rfl, Nat.le_of_ble_eq_true rfl⟩) (va_recv hK hP (ci := 4) (q0 := 0) rfl rfl) (hP.sub (ws' := zMW am cI m9.1) [0, 1, 2, 3, 4, 5] rfl) (hK.sub (tys' := [(cI, .int)]) [0] rfl) rfl hl.1 rfl (Nat.le_of_ble_eq_true rfl) dL_law_904 ⟨hR.1, hR.2⟩ (fun r hu => ?_)
  subst hu
  refine lv_iload hx hb dL_law_907 (lv_at hl 1 rfl) ?_
  refine lv_icmp_eq (tgt := 914) hx hb dL_law_909 (by decide) (fun _ => ?_) (fun z => absurd hr.1.symm z)
  refine lv_iload hx hb dL_law_914 (lv_at hl 1 rfl) ?_
  have hl2 : lv_has ls 9 [(4, .int (nI i)), (0, .ref b), (1, .ref c0), (2, .ref (am 0)), (3, .ref oa)] := lv_sub hl [2, 3, 4, 5, 6] rfl
  refine lv_if_ne (tgt := 931) hx hb dL_law_916 (by decide) (fun _ => ?_) (fun hc => ?_)
  · refine lv_goto (tgt := 1361) hx hb dL_law_931 (by decide) ?_
    exact kk κ m9.1 f9 ls H locs hl2 hP hD hS hr.2.2
  · skip
    refine lv_aload_n hx hb dL_law_919 rfl (lv_at hl 6 rfl) ?_
    refine lv_iconst (v := 0) hx hb dL_law_920 (by decide) ?_
    refine z_lald hx hb hK hP 6 2 0 rfl rfl (by decide) (by decide) dL_law_921 ?_
    refine lv_iload hx hb dL_law_922 (lv_at hl 0 rfl) ?_
    refine lv_i2l (v := m9.2.toInt64) hx hb dL_law_924 rfl ?_
    refine W.lcmp hx hb dL_law_925 ?_
    refine lv_if_eq (tgt := 931) hx hb dL_law_926 (by decide) (fun _ => ?_) (fun z => absurd ((lg_cmp_eq _ _).mpr ?_) z)
    · refine lv_goto (tgt := 1361) hx hb dL_law_931 (by decide) ?_
      exact kk κ m9.1 f9 ls H locs hl2 hP hD hS hr.2.2
    · rw [← hf9, if_pos hc, ← hr.2.1 hc]; rfl
set_option maxHeartbeats 4000000 in
theorem g_count {p : Program} {l : Launch} {e : Env} {s : State} {m : MethodId} {args : Array Value} {below : List Frame} {meth : Method} {c : Code} {Q : State → Prop} {b L : Nat} {xs : Nat → Int32} {dC : Nat → ClassId} {dI : Nat → Nat → Nat} {cI cS cL : ClassId} {c0 oa : Nat} {am ad ae ah ax : Nat → Nat} {ar : Nat → Nat → Nat} {κ : zK} {μ : zM} {f : Nat → Int64} {B i : Nat} {H : Heap} {locs : List Loc} {cells slots : Nat} {ls : Array Slot} (C : lCx l p s m args c b L xs dC dI cI cS cL) (hi : i + 3 < L) (h : kRel B κ μ) (hB : B < 2 ^ 31) (hR : cells + 1 ≤ room_1.cells ∧ slots + 6 ≤ room_1.slots) (hl : lv_has ls 9 [(4, .int (nI i)), (0, .ref b), (1, .ref c0), (2, .ref (am 0)), (3, .ref oa)]) (hP : va_P (dC, dI) vwCl (zLM c0 am ad ae ah ax ar cI cS cL oa κ μ f) H) (hD : va_D (fun q => s.heap.size ≤ q) (zLM c0 am ad ae ah ax ar cI cS cL oa κ μ f)) (hS : va_S (fun q => s.heap.size ≤ q) s.heap H locs)
    (kk : ∀ (κ' : zK) (μ' : zM) (f' : Nat → Int64) (ls : Array Slot) (H : Heap) (locs : List Loc), lv_has ls 9 [(4, .int (nI i)), (0, .ref b), (1, .ref c0), (2, .ref (am 0)), (3, .ref oa)] → va_P (dC, dI) vwCl (zLM c0 am ad ae ah ax ar cI cS cL oa κ' μ' f') H → va_D (fun q => s.heap.size ≤ q) (zLM c0 am ad ae ah ax ar cI cS cL oa κ' μ' f') → va_S (fun q => s.heap.size ≤ q) s.heap H locs → kRel (B + 6500) κ' μ' → W p l e room_1 s m args below meth c H locs (cells + 1) (slots + 6) Q (F0 m 1361 ls [])) : W p l e room_1 s m args below meth c H locs cells slots Q (F0 m 934 ls []) := by
  obtain ⟨hx, hb, hml, hown, hts, hK, hE, hNc, hN, hX, hbl, hl0, hL⟩ := C
  have hA : ∀ q, s.heap.size ≤ q → s.heap.size ≤ q := fun _ h => h
  have hn6 := h.n6
  have hr := rel_Count h (xs (i + 1))
  refine lv_aload_n hx hb dL_law_934 rfl (lv_at hl 2 rfl) ?_
  refine lv_aload_n hx hb dL_law_935 rfl (lv_at hl 1 rfl) ?_
  refine lv_iload hx hb dL_law_936 (lv_at hl 0 rfl) ?_
  refine lv_iconst (v := 1) hx hb dL_law_938 (by decide) ?_
  refine z_iadd hx hb i 1 dL_law_939 ?_
  refine z_sld hx hb hX hbl hS (i + 1) (by omega) hL dL_law_940 ?_
  refine lv_aload_n hx hb dL_law_941 rfl (lv_at hl 4 rfl) ?_
  refine z_xWSx (wr := zMW am cI μ) (As := [.ref c0, .int (xs (i + 1)), .ref oa]) (rest := []) ⟨hx, hb, hml, hown, hts⟩ (w_count l hl0 s.heap.size dC dI c0 ad ae ah ax ar cI cS cL oa κ h.o6 h.n6 h.zok f (xs (i + 1)) H.size) (vx_cwSW 3 hts gL_law_L_count rfl rfl rfl (by decide +kernel) ⟨Nat.le_of_ble_eq_true rfl, Nat.le_of_ble_eq_true rfl⟩) (fun U hU hW => ⟨hE.at (Nat.le_refl _) hS hW hU, hNc.at hW, va_Nw.warmM hW hN⟩) hP hD hS hA hK rfl hl.1 rfl (Nat.le_of_ble_eq_true rfl) dL_law_942 hR (fun r u H locs hu hP hD hS => ?_)
  obtain ⟨rfl, rfl⟩ := hu
  replace hP : va_P (dC, dI) vwCl (zMW am cI μ ++ zLW c0 ad ae ah ax ar cI cS cL oa κ (if cd1 (xs (i + 1)) 9 = 0 then vp_updL f 0 (vCount (uS κ) (un κ) (iN (xs (i + 1)))).toInt64 else f)) H := hP
  replace hD : va_D (fun q => s.heap.size ≤ q) (zMW am cI μ ++ zLW c0 ad ae ah ax ar cI cS cL oa κ (if cd1 (xs (i + 1)) 9 = 0 then vp_updL f 0 (vCount (uS κ) (un κ) (iN (xs (i + 1)))).toInt64 else f)) := hD
  generalize hf9 : (if cd1 (xs (i + 1)) 9 = 0 then vp_updL f 0 (vCount (uS κ) (un κ) (iN (xs (i + 1)))).toInt64 else f) = f9 at hP hD
  generalize hc9 : cd1 (xs (i + 1)) 9 = c9 at hf9 hr ⊢
  refine lv_istore (lv' := [(5, .int c9), (4, .int (nI i)), (0, .ref b), (1, .ref c0), (2, .ref (am 0)), (3, .ref oa)]) hx hb dL_law_945 hl (by decide) rfl (fun ls hl => ?_)
  refine lv_aload_n hx hb dL_law_947 rfl (lv_at hl 4 rfl) ?_
  refine lv_aload_n hx hb dL_law_948 rfl (lv_at hl 2 rfl) ?_
  refine lv_iload hx hb dL_law_949 (lv_at hl 1 rfl) ?_
  refine lv_iconst (v := 1) hx hb dL_law_951 (by decide) ?_
  refine z_iadd hx hb i 1 dL_law_952 ?_
  refine z_sld hx hb hX hbl hS (i + 1) (by omega) hL dL_law_953 ?_
  obtain ⟨hP, hD⟩ := z_swp hP hD
  refine z_xWi (wr := zLW c0 ad ae ah ax ar cI cS cL oa κ f9) (As := [.int (xs (i + 1))]) (rest := []) ⟨hx, hb, hml, hown, hts⟩ (k_X4_count l dC dI am cI μ h.mok (xs (i + 1)) H.size) (cwV 1 hts gL_law_X4_count rfl rfl rfl (by decide +kernel) ⟨Nat.le_of_ble_eq_true rfl, Nat.le_of_ble_eq_true rfl⟩) (va_recv hK (z_swp hP hD).1 (ci := 4) (q0 := 0) rfl rfl) hP hD hS hA (hK.sub (tys' := [(cI, .int)]) [0] rfl) rfl hl.1 rfl (Nat.le_of_ble_eq_true rfl) dL_law_954 ⟨hR.1, hR.2⟩ (fun r _ H locs hu hP hD hS => ?_)
  subst hu
  replace hP : va_P (dC, dI) vwCl (zLW c0 ad ae ah ax ar cI cS cL oa κ f9 ++ zMW am cI (rCount μ (xs (i + 1))).1) H := hP
  replace hD : va_D (fun q => s.heap.size ≤ q) (zLW c0 ad ae ah ax ar cI cS cL oa κ f9 ++ zMW am cI (rCount μ (xs (i + 1))).1) := hD
  obtain ⟨hP, hD⟩ := z_swp hP hD
  generalize hm9 : (rCount μ (xs (i + 1))) = m9 at hP hD hr ⊢
  refine lv_istore (lv' := [(6, .int m9.2), (5, .int c9), (4, .int (nI i)), (0, .ref b), (1, .ref c0), (2, .ref (am 0)), (3, .ref oa)]) hx hb dL_law_957 hl (by decide) rfl (fun ls hl => ?_)
  refine lv_aload_n hx hb dL_law_959 rfl (lv_at hl 5 rfl) ?_
  refine z_cVi (As := []) (rest := []) ⟨hx, hb, hml, hown, hts⟩ (k_X4_thrown l dC dI am cI m9.1 hr.2.2.mok) (cwV 0 hts gL_law_X4_thrown rfl rfl rfl (by decide +kernel) ⟨Nat.le_of_ble_eq_true rfl, Nat.le_of_ble_eq_true rfl⟩) (va_recv hK hP (ci := 4) (q0 := 0) rfl rfl) (hP.sub (ws' := zMW am cI m9.1) [0, 1, 2, 3, 4, 5] rfl) (hK.sub (tys' := [(cI, .int)]) [0] rfl) rfl hl.1 rfl (Nat.le_of_ble_eq_true rfl) dL_law_960 ⟨hR.1, hR.2⟩ (fun r hu => ?_)
  subst hu
  refine lv_iload hx hb dL_law_963 (lv_at hl 1 rfl) ?_
  refine lv_icmp_eq (tgt := 970) hx hb dL_law_965 (by decide) (fun _ => ?_) (fun z => absurd hr.1.symm z)
  refine lv_iload hx hb dL_law_970 (lv_at hl 1 rfl) ?_
  have hl2 : lv_has ls 9 [(4, .int (nI i)), (0, .ref b), (1, .ref c0), (2, .ref (am 0)), (3, .ref oa)] := lv_sub hl [2, 3, 4, 5, 6] rfl
  refine lv_if_ne (tgt := 987) hx hb dL_law_972 (by decide) (fun _ => ?_) (fun hc => ?_)
  · refine lv_goto (tgt := 1361) hx hb dL_law_987 (by decide) ?_
    exact kk κ m9.1 f9 ls H locs hl2 hP hD hS hr.2.2
  · skip
    refine lv_aload_n hx hb dL_law_975 rfl (lv_at hl 6 rfl) ?_
    refine lv_iconst (v := 0) hx hb dL_law_976 (by decide) ?_
    refine z_lald hx hb hK hP 6 2 0 rfl rfl (by decide) (by decide) dL_law_977 ?_
    refine lv_iload hx hb dL_law_978 (lv_at hl 0 rfl) ?_
    refine lv_i2l (v := m9.2.toInt64) hx hb dL_law_980 rfl ?_
    refine W.lcmp hx hb dL_law_981 ?_
    refine lv_if_eq (tgt := 987) hx hb dL_law_982 (by decide) (fun _ => ?_) (fun z => absurd ((lg_cmp_eq _ _).mpr ?_) z)
    · refine lv_goto (tgt := 1361) hx hb dL_law_987 (by decide) ?_
      exact kk κ m9.1 f9 ls H locs hl2 hP hD hS hr.2.2
    · rw [← hf9, if_pos hc, ← hr.2.1 hc]; rfl
set_option maxHeartbeats 4000000 in
theorem g_setting {p : Program} {l : Launch} {e : Env} {s : State} {m : MethodId} {args : Array Value} {below : List Frame} {meth : Method} {c : Code} {Q : State → Prop} {b L : Nat} {xs : Nat → Int32} {dC : Nat → ClassId} {dI : Nat → Nat → Nat} {cI cS cL : ClassId} {c0 oa : Nat} {am ad ae ah ax : Nat → Nat} {ar : Nat → Nat → Nat} {κ : zK} {μ : zM} {f : Nat → Int64} {B i : Nat} {H : Heap} {locs : List Loc} {cells slots : Nat} {ls : Array Slot} (C : lCx l p s m args c b L xs dC dI cI cS cL) (hi : i + 3 < L) (h : kRel B κ μ) (hB : B < 2 ^ 31) (hR : cells + 1 ≤ room_1.cells ∧ slots + 6 ≤ room_1.slots) (hl : lv_has ls 9 [(4, .int (nI i)), (0, .ref b), (1, .ref c0), (2, .ref (am 0)), (3, .ref oa)]) (hP : va_P (dC, dI) vwCl (zLM c0 am ad ae ah ax ar cI cS cL oa κ μ f) H) (hD : va_D (fun q => s.heap.size ≤ q) (zLM c0 am ad ae ah ax ar cI cS cL oa κ μ f)) (hS : va_S (fun q => s.heap.size ≤ q) s.heap H locs)
    (kk : ∀ (κ' : zK) (μ' : zM) (f' : Nat → Int64) (ls : Array Slot) (H : Heap) (locs : List Loc), lv_has ls 9 [(4, .int (nI i)), (0, .ref b), (1, .ref c0), (2, .ref (am 0)), (3, .ref oa)] → va_P (dC, dI) vwCl (zLM c0 am ad ae ah ax ar cI cS cL oa κ' μ' f') H → va_D (fun q => s.heap.size ≤ q) (zLM c0 am ad ae ah ax ar cI cS cL oa κ' μ' f') → va_S (fun q => s.heap.size ≤ q) s.heap H locs → kRel (B + 6500) κ' μ' → W p l e room_1 s m args below meth c H locs (cells + 1) (slots + 6) Q (F0 m 1361 ls [])) : W p l e room_1 s m args below meth c H locs cells slots Q (F0 m 990 ls []) := by
  obtain ⟨hx, hb, hml, hown, hts, hK, hE, hNc, hN, hX, hbl, hl0, hL⟩ := C
  have hA : ∀ q, s.heap.size ≤ q → s.heap.size ≤ q := fun _ h => h
  have hn6 := h.n6
  have hr := rel_Setting h (xs (i + 1))
  refine lv_aload_n hx hb dL_law_990 rfl (lv_at hl 2 rfl) ?_
  refine lv_aload_n hx hb dL_law_991 rfl (lv_at hl 1 rfl) ?_
  refine lv_iload hx hb dL_law_992 (lv_at hl 0 rfl) ?_
  refine lv_iconst (v := 1) hx hb dL_law_994 (by decide) ?_
  refine z_iadd hx hb i 1 dL_law_995 ?_
  refine z_sld hx hb hX hbl hS (i + 1) (by omega) hL dL_law_996 ?_
  refine lv_aload_n hx hb dL_law_997 rfl (lv_at hl 4 rfl) ?_
  refine z_xWSx (wr := zMW am cI μ) (As := [.ref c0, .int (xs (i + 1)), .ref oa]) (rest := []) ⟨hx, hb, hml, hown, hts⟩ (w_setting l hl0 s.heap.size dC dI c0 ad ae ah ax ar cI cS cL oa κ h.o6 h.n6 h.zok f (xs (i + 1)) H.size) (vx_cwSW 3 hts gL_law_L_setting rfl rfl rfl (by decide +kernel) ⟨Nat.le_of_ble_eq_true rfl, Nat.le_of_ble_eq_true rfl⟩) (fun U hU hW => ⟨hE.at (Nat.le_refl _) hS hW hU, hNc.at hW, va_Nw.warmM hW hN⟩) hP hD hS hA hK rfl hl.1 rfl (Nat.le_of_ble_eq_true rfl) dL_law_998 hR (fun r u H locs hu hP hD hS => ?_)
  obtain ⟨rfl, rfl⟩ := hu
  replace hP : va_P (dC, dI) vwCl (zMW am cI μ ++ zLW c0 ad ae ah ax ar cI cS cL oa κ (if cd1 (xs (i + 1)) 1 = 0 then vp_updL f 0 (zst (uS κ) (iN (xs (i + 1)))).toInt64 else f)) H := hP
  replace hD : va_D (fun q => s.heap.size ≤ q) (zMW am cI μ ++ zLW c0 ad ae ah ax ar cI cS cL oa κ (if cd1 (xs (i + 1)) 1 = 0 then vp_updL f 0 (zst (uS κ) (iN (xs (i + 1)))).toInt64 else f)) := hD
  generalize hf9 : (if cd1 (xs (i + 1)) 1 = 0 then vp_updL f 0 (zst (uS κ) (iN (xs (i + 1)))).toInt64 else f) = f9 at hP hD
  generalize hc9 : cd1 (xs (i + 1)) 1 = c9 at hf9 hr ⊢
  refine lv_istore (lv' := [(5, .int c9), (4, .int (nI i)), (0, .ref b), (1, .ref c0), (2, .ref (am 0)), (3, .ref oa)]) hx hb dL_law_1001 hl (by decide) rfl (fun ls hl => ?_)
  refine lv_aload_n hx hb dL_law_1003 rfl (lv_at hl 4 rfl) ?_
  refine lv_aload_n hx hb dL_law_1004 rfl (lv_at hl 2 rfl) ?_
  refine lv_iload hx hb dL_law_1005 (lv_at hl 1 rfl) ?_
  refine lv_iconst (v := 1) hx hb dL_law_1007 (by decide) ?_
  refine z_iadd hx hb i 1 dL_law_1008 ?_
  refine z_sld hx hb hX hbl hS (i + 1) (by omega) hL dL_law_1009 ?_
  obtain ⟨hP, hD⟩ := z_swp hP hD
  refine z_xWi (wr := zLW c0 ad ae ah ax ar cI cS cL oa κ f9) (As := [.int (xs (i + 1))]) (rest := []) ⟨hx, hb, hml, hown, hts⟩ (k_X4_setting l dC dI am cI μ h.mok (xs (i + 1)) H.size) (cwV 1 hts gL_law_X4_setting rfl rfl rfl (by decide +kernel) ⟨Nat.le_of_ble_eq_true rfl, Nat.le_of_ble_eq_true rfl⟩) (va_recv hK (z_swp hP hD).1 (ci := 4) (q0 := 0) rfl rfl) hP hD hS hA (hK.sub (tys' := [(cI, .int)]) [0] rfl) rfl hl.1 rfl (Nat.le_of_ble_eq_true rfl) dL_law_1010 ⟨hR.1, hR.2⟩ (fun r _ H locs hu hP hD hS => ?_)
  subst hu
  replace hP : va_P (dC, dI) vwCl (zLW c0 ad ae ah ax ar cI cS cL oa κ f9 ++ zMW am cI (rSetting μ (xs (i + 1))).1) H := hP
  replace hD : va_D (fun q => s.heap.size ≤ q) (zLW c0 ad ae ah ax ar cI cS cL oa κ f9 ++ zMW am cI (rSetting μ (xs (i + 1))).1) := hD
  obtain ⟨hP, hD⟩ := z_swp hP hD
  generalize hm9 : (rSetting μ (xs (i + 1))) = m9 at hP hD hr ⊢
  refine lv_istore (lv' := [(6, .int m9.2), (5, .int c9), (4, .int (nI i)), (0, .ref b), (1, .ref c0), (2, .ref (am 0)), (3, .ref oa)]) hx hb dL_law_1013 hl (by decide) rfl (fun ls hl => ?_)
  refine lv_aload_n hx hb dL_law_1015 rfl (lv_at hl 5 rfl) ?_
  refine z_cVi (As := []) (rest := []) ⟨hx, hb, hml, hown, hts⟩ (k_X4_thrown l dC dI am cI m9.1 hr.2.2.mok) (cwV 0 hts gL_law_X4_thrown rfl rfl rfl (by decide +kernel) ⟨Nat.le_of_ble_eq_true rfl, Nat.le_of_ble_eq_true rfl⟩) (va_recv hK hP (ci := 4) (q0 := 0) rfl rfl) (hP.sub (ws' := zMW am cI m9.1) [0, 1, 2, 3, 4, 5] rfl) (hK.sub (tys' := [(cI, .int)]) [0] rfl) rfl hl.1 rfl (Nat.le_of_ble_eq_true rfl) dL_law_1016 ⟨hR.1, hR.2⟩ (fun r hu => ?_)
  subst hu
  refine lv_iload hx hb dL_law_1019 (lv_at hl 1 rfl) ?_
  refine lv_icmp_eq (tgt := 1026) hx hb dL_law_1021 (by decide) (fun _ => ?_) (fun z => absurd hr.1.symm z)
  refine lv_iload hx hb dL_law_1026 (lv_at hl 1 rfl) ?_
  have hl2 : lv_has ls 9 [(4, .int (nI i)), (0, .ref b), (1, .ref c0), (2, .ref (am 0)), (3, .ref oa)] := lv_sub hl [2, 3, 4, 5, 6] rfl
  refine lv_if_ne (tgt := 1043) hx hb dL_law_1028 (by decide) (fun _ => ?_) (fun hc => ?_)
  · refine lv_goto (tgt := 1361) hx hb dL_law_1043 (by decide) ?_
    exact kk κ m9.1 f9 ls H locs hl2 hP hD hS hr.2.2
  · skip
    refine lv_aload_n hx hb dL_law_1031 rfl (lv_at hl 6 rfl) ?_
    refine lv_iconst (v := 0) hx hb dL_law_1032 (by decide) ?_
    refine z_lald hx hb hK hP 6 2 0 rfl rfl (by decide) (by decide) dL_law_1033 ?_
    refine lv_iload hx hb dL_law_1034 (lv_at hl 0 rfl) ?_
    refine lv_i2l (v := m9.2.toInt64) hx hb dL_law_1036 rfl ?_
    refine W.lcmp hx hb dL_law_1037 ?_
    refine lv_if_eq (tgt := 1043) hx hb dL_law_1038 (by decide) (fun _ => ?_) (fun z => absurd ((lg_cmp_eq _ _).mpr ?_) z)
    · refine lv_goto (tgt := 1361) hx hb dL_law_1043 (by decide) ?_
      exact kk κ m9.1 f9 ls H locs hl2 hP hD hS hr.2.2
    · rw [← hf9, if_pos hc, ← hr.2.1 hc]; rfl
set_option maxHeartbeats 4000000 in
theorem g_cost {p : Program} {l : Launch} {e : Env} {s : State} {m : MethodId} {args : Array Value} {below : List Frame} {meth : Method} {c : Code} {Q : State → Prop} {b L : Nat} {xs : Nat → Int32} {dC : Nat → ClassId} {dI : Nat → Nat → Nat} {cI cS cL : ClassId} {c0 oa : Nat} {am ad ae ah ax : Nat → Nat} {ar : Nat → Nat → Nat} {κ : zK} {μ : zM} {f : Nat → Int64} {B i : Nat} {H : Heap} {locs : List Loc} {cells slots : Nat} {ls : Array Slot} (C : lCx l p s m args c b L xs dC dI cI cS cL) (hi : i + 3 < L) (h : kRel B κ μ) (hB : B < 2 ^ 31) (hR : cells + 1 ≤ room_1.cells ∧ slots + 6 ≤ room_1.slots) (hl : lv_has ls 9 [(4, .int (nI i)), (0, .ref b), (1, .ref c0), (2, .ref (am 0)), (3, .ref oa)]) (hP : va_P (dC, dI) vwCl (zLM c0 am ad ae ah ax ar cI cS cL oa κ μ f) H) (hD : va_D (fun q => s.heap.size ≤ q) (zLM c0 am ad ae ah ax ar cI cS cL oa κ μ f)) (hS : va_S (fun q => s.heap.size ≤ q) s.heap H locs)
    (kk : ∀ (κ' : zK) (μ' : zM) (f' : Nat → Int64) (ls : Array Slot) (H : Heap) (locs : List Loc), lv_has ls 9 [(4, .int (nI i)), (0, .ref b), (1, .ref c0), (2, .ref (am 0)), (3, .ref oa)] → va_P (dC, dI) vwCl (zLM c0 am ad ae ah ax ar cI cS cL oa κ' μ' f') H → va_D (fun q => s.heap.size ≤ q) (zLM c0 am ad ae ah ax ar cI cS cL oa κ' μ' f') → va_S (fun q => s.heap.size ≤ q) s.heap H locs → kRel (B + 6500) κ' μ' → W p l e room_1 s m args below meth c H locs (cells + 1) (slots + 6) Q (F0 m 1361 ls [])) : W p l e room_1 s m args below meth c H locs cells slots Q (F0 m 1046 ls []) := by
  obtain ⟨hx, hb, hml, hown, hts, hK, hE, hNc, hN, hX, hbl, hl0, hL⟩ := C
  have hA : ∀ q, s.heap.size ≤ q → s.heap.size ≤ q := fun _ h => h
  have hn6 := h.n6
  have hr := rel_Cost h (xs (i + 1)) (xs (i + 2))
  refine lv_aload_n hx hb dL_law_1046 rfl (lv_at hl 2 rfl) ?_
  refine lv_aload_n hx hb dL_law_1047 rfl (lv_at hl 1 rfl) ?_
  refine lv_iload hx hb dL_law_1048 (lv_at hl 0 rfl) ?_
  refine lv_iconst (v := 1) hx hb dL_law_1050 (by decide) ?_
  refine z_iadd hx hb i 1 dL_law_1051 ?_
  refine z_sld hx hb hX hbl hS (i + 1) (by omega) hL dL_law_1052 ?_
  refine lv_aload_n hx hb dL_law_1053 rfl (lv_at hl 1 rfl) ?_
  refine lv_iload hx hb dL_law_1054 (lv_at hl 0 rfl) ?_
  refine lv_iconst (v := 2) hx hb dL_law_1056 (by decide) ?_
  refine z_iadd hx hb i 2 dL_law_1057 ?_
  refine z_sld hx hb hX hbl hS (i + 2) (by omega) hL dL_law_1058 ?_
  refine lv_aload_n hx hb dL_law_1059 rfl (lv_at hl 4 rfl) ?_
  refine z_xWSx (wr := zMW am cI μ) (As := [.ref c0, .int (xs (i + 1)), .int (xs (i + 2)), .ref oa]) (rest := []) ⟨hx, hb, hml, hown, hts⟩ (w_cost l hl0 s.heap.size dC dI c0 ad ae ah ax ar cI cS cL oa κ h.o6 h.n6 h.zok f (xs (i + 1)) (xs (i + 2)) H.size) (vx_cwSW 4 hts gL_law_L_cost rfl rfl rfl (by decide +kernel) ⟨Nat.le_of_ble_eq_true rfl, Nat.le_of_ble_eq_true rfl⟩) (fun U hU hW => ⟨hE.at (Nat.le_refl _) hS hW hU, hNc.at hW, va_Nw.warmM hW hN⟩) hP hD hS hA hK rfl hl.1 rfl (Nat.le_of_ble_eq_true rfl) dL_law_1060 hR (fun r u H locs hu hP hD hS => ?_)
  obtain ⟨rfl, rfl⟩ := hu
  replace hP : va_P (dC, dI) vwCl (zMW am cI μ ++ zLW c0 ad ae ah ax ar cI cS cL oa κ (if cd12 (xs (i + 1)) 17 (xs (i + 2)) 4095 = 0 then vp_updL f 0 (pCost (zhd (uS κ) (iN (xs (i + 1)))) (nI (iN (xs (i + 2)))) (pst (uS κ) (iN (xs (i + 1))))).toInt64 else f)) H := hP
  replace hD : va_D (fun q => s.heap.size ≤ q) (zMW am cI μ ++ zLW c0 ad ae ah ax ar cI cS cL oa κ (if cd12 (xs (i + 1)) 17 (xs (i + 2)) 4095 = 0 then vp_updL f 0 (pCost (zhd (uS κ) (iN (xs (i + 1)))) (nI (iN (xs (i + 2)))) (pst (uS κ) (iN (xs (i + 1))))).toInt64 else f)) := hD
  generalize hf9 : (if cd12 (xs (i + 1)) 17 (xs (i + 2)) 4095 = 0 then vp_updL f 0 (pCost (zhd (uS κ) (iN (xs (i + 1)))) (nI (iN (xs (i + 2)))) (pst (uS κ) (iN (xs (i + 1))))).toInt64 else f) = f9 at hP hD
  generalize hc9 : cd12 (xs (i + 1)) 17 (xs (i + 2)) 4095 = c9 at hf9 hr ⊢
  refine lv_istore (lv' := [(5, .int c9), (4, .int (nI i)), (0, .ref b), (1, .ref c0), (2, .ref (am 0)), (3, .ref oa)]) hx hb dL_law_1063 hl (by decide) rfl (fun ls hl => ?_)
  refine lv_aload_n hx hb dL_law_1065 rfl (lv_at hl 4 rfl) ?_
  refine lv_aload_n hx hb dL_law_1066 rfl (lv_at hl 2 rfl) ?_
  refine lv_iload hx hb dL_law_1067 (lv_at hl 1 rfl) ?_
  refine lv_iconst (v := 1) hx hb dL_law_1069 (by decide) ?_
  refine z_iadd hx hb i 1 dL_law_1070 ?_
  refine z_sld hx hb hX hbl hS (i + 1) (by omega) hL dL_law_1071 ?_
  refine lv_aload_n hx hb dL_law_1072 rfl (lv_at hl 2 rfl) ?_
  refine lv_iload hx hb dL_law_1073 (lv_at hl 1 rfl) ?_
  refine lv_iconst (v := 2) hx hb dL_law_1075 (by decide) ?_
  refine z_iadd hx hb i 2 dL_law_1076 ?_
  refine z_sld hx hb hX hbl hS (i + 2) (by omega) hL dL_law_1077 ?_
  obtain ⟨hP, hD⟩ := z_swp hP hD
  refine z_xWi (wr := zLW c0 ad ae ah ax ar cI cS cL oa κ f9) (As := [.int (xs (i + 1)), .int (xs (i + 2))]) (rest := []) ⟨hx, hb, hml, hown, hts⟩ (k_X4_cost l dC dI am cI μ h.mok (xs (i + 1)) (xs (i + 2)) H.size) (cwV 2 hts gL_law_X4_cost rfl rfl rfl (by decide +kernel) ⟨Nat.le_of_ble_eq_true rfl, Nat.le_of_ble_eq_true rfl⟩) (va_recv hK (z_swp hP hD).1 (ci := 4) (q0 := 0) rfl rfl) hP hD hS hA (hK.sub (tys' := [(cI, .int)]) [0] rfl) rfl hl.1 rfl (Nat.le_of_ble_eq_true rfl) dL_law_1078 ⟨hR.1, hR.2⟩ (fun r _ H locs hu hP hD hS => ?_)
  subst hu
  replace hP : va_P (dC, dI) vwCl (zLW c0 ad ae ah ax ar cI cS cL oa κ f9 ++ zMW am cI (rCost μ (xs (i + 1)) (xs (i + 2))).1) H := hP
  replace hD : va_D (fun q => s.heap.size ≤ q) (zLW c0 ad ae ah ax ar cI cS cL oa κ f9 ++ zMW am cI (rCost μ (xs (i + 1)) (xs (i + 2))).1) := hD
  obtain ⟨hP, hD⟩ := z_swp hP hD
  generalize hm9 : (rCost μ (xs (i + 1)) (xs (i + 2))) = m9 at hP hD hr ⊢
  refine lv_istore (lv' := [(6, .int m9.2), (5, .int c9), (4, .int (nI i)), (0, .ref b), (1, .ref c0), (2, .ref (am 0)), (3, .ref oa)]) hx hb dL_law_1081 hl (by decide) rfl (fun ls hl => ?_)
  refine lv_aload_n hx hb dL_law_1083 rfl (lv_at hl 5 rfl) ?_
  refine z_cVi (As := []) (rest := []) ⟨hx, hb, hml, hown, hts⟩ (k_X4_thrown l dC dI am cI m9.1 hr.2.2.mok) (cwV 0 hts gL_law_X4_thrown rfl rfl rfl (by decide +kernel) ⟨Nat.le_of_ble_eq_true rfl, Nat.le_of_ble_eq_true rfl⟩) (va_recv hK hP (ci := 4) (q0 := 0) rfl rfl) (hP.sub (ws' := zMW am cI m9.1) [0, 1, 2, 3, 4, 5] rfl) (hK.sub (tys' := [(cI, .int)]) [0] rfl) rfl hl.1 rfl (Nat.le_of_ble_eq_true rfl) dL_law_1084 ⟨hR.1, hR.2⟩ (fun r hu => ?_)
  subst hu
  refine lv_iload hx hb dL_law_1087 (lv_at hl 1 rfl) ?_
  refine lv_icmp_eq (tgt := 1094) hx hb dL_law_1089 (by decide) (fun _ => ?_) (fun z => absurd hr.1.symm z)
  refine lv_iload hx hb dL_law_1094 (lv_at hl 1 rfl) ?_
  have hl2 : lv_has ls 9 [(4, .int (nI i)), (0, .ref b), (1, .ref c0), (2, .ref (am 0)), (3, .ref oa)] := lv_sub hl [2, 3, 4, 5, 6] rfl
  refine lv_if_ne (tgt := 1111) hx hb dL_law_1096 (by decide) (fun _ => ?_) (fun hc => ?_)
  · refine lv_goto (tgt := 1361) hx hb dL_law_1111 (by decide) ?_
    exact kk κ m9.1 f9 ls H locs hl2 hP hD hS hr.2.2
  · skip
    refine lv_aload_n hx hb dL_law_1099 rfl (lv_at hl 6 rfl) ?_
    refine lv_iconst (v := 0) hx hb dL_law_1100 (by decide) ?_
    refine z_lald hx hb hK hP 6 2 0 rfl rfl (by decide) (by decide) dL_law_1101 ?_
    refine lv_iload hx hb dL_law_1102 (lv_at hl 0 rfl) ?_
    refine lv_i2l (v := m9.2.toInt64) hx hb dL_law_1104 rfl ?_
    refine W.lcmp hx hb dL_law_1105 ?_
    refine lv_if_eq (tgt := 1111) hx hb dL_law_1106 (by decide) (fun _ => ?_) (fun z => absurd ((lg_cmp_eq _ _).mpr ?_) z)
    · refine lv_goto (tgt := 1361) hx hb dL_law_1111 (by decide) ?_
      exact kk κ m9.1 f9 ls H locs hl2 hP hD hS hr.2.2
    · rw [← hf9, if_pos hc, ← hr.2.1 hc]; rfl
set_option maxHeartbeats 4000000 in
theorem g_ifWritten {p : Program} {l : Launch} {e : Env} {s : State} {m : MethodId} {args : Array Value} {below : List Frame} {meth : Method} {c : Code} {Q : State → Prop} {b L : Nat} {xs : Nat → Int32} {dC : Nat → ClassId} {dI : Nat → Nat → Nat} {cI cS cL : ClassId} {c0 oa : Nat} {am ad ae ah ax : Nat → Nat} {ar : Nat → Nat → Nat} {κ : zK} {μ : zM} {f : Nat → Int64} {B i : Nat} {H : Heap} {locs : List Loc} {cells slots : Nat} {ls : Array Slot} (C : lCx l p s m args c b L xs dC dI cI cS cL) (hi : i + 3 < L) (h : kRel B κ μ) (hB : B < 2 ^ 31) (hR : cells + 1 ≤ room_1.cells ∧ slots + 6 ≤ room_1.slots) (hl : lv_has ls 9 [(4, .int (nI i)), (0, .ref b), (1, .ref c0), (2, .ref (am 0)), (3, .ref oa)]) (hP : va_P (dC, dI) vwCl (zLM c0 am ad ae ah ax ar cI cS cL oa κ μ f) H) (hD : va_D (fun q => s.heap.size ≤ q) (zLM c0 am ad ae ah ax ar cI cS cL oa κ μ f)) (hS : va_S (fun q => s.heap.size ≤ q) s.heap H locs)
    (kk : ∀ (κ' : zK) (μ' : zM) (f' : Nat → Int64) (ls : Array Slot) (H : Heap) (locs : List Loc), lv_has ls 9 [(4, .int (nI i)), (0, .ref b), (1, .ref c0), (2, .ref (am 0)), (3, .ref oa)] → va_P (dC, dI) vwCl (zLM c0 am ad ae ah ax ar cI cS cL oa κ' μ' f') H → va_D (fun q => s.heap.size ≤ q) (zLM c0 am ad ae ah ax ar cI cS cL oa κ' μ' f') → va_S (fun q => s.heap.size ≤ q) s.heap H locs → kRel (B + 6500) κ' μ' → W p l e room_1 s m args below meth c H locs (cells + 1) (slots + 6) Q (F0 m 1361 ls [])) : W p l e room_1 s m args below meth c H locs cells slots Q (F0 m 1114 ls []) := by
  obtain ⟨hx, hb, hml, hown, hts, hK, hE, hNc, hN, hX, hbl, hl0, hL⟩ := C
  have hA : ∀ q, s.heap.size ≤ q → s.heap.size ≤ q := fun _ h => h
  have hn6 := h.n6
  have hr := rel_IfW h (xs (i + 1)) (xs (i + 2))
  refine lv_aload_n hx hb dL_law_1114 rfl (lv_at hl 2 rfl) ?_
  refine lv_aload_n hx hb dL_law_1115 rfl (lv_at hl 1 rfl) ?_
  refine lv_iload hx hb dL_law_1116 (lv_at hl 0 rfl) ?_
  refine lv_iconst (v := 1) hx hb dL_law_1118 (by decide) ?_
  refine z_iadd hx hb i 1 dL_law_1119 ?_
  refine z_sld hx hb hX hbl hS (i + 1) (by omega) hL dL_law_1120 ?_
  refine lv_aload_n hx hb dL_law_1121 rfl (lv_at hl 1 rfl) ?_
  refine lv_iload hx hb dL_law_1122 (lv_at hl 0 rfl) ?_
  refine lv_iconst (v := 2) hx hb dL_law_1124 (by decide) ?_
  refine z_iadd hx hb i 2 dL_law_1125 ?_
  refine z_sld hx hb hX hbl hS (i + 2) (by omega) hL dL_law_1126 ?_
  refine lv_aload_n hx hb dL_law_1127 rfl (lv_at hl 4 rfl) ?_
  refine z_xWSx (wr := zMW am cI μ) (As := [.ref c0, .int (xs (i + 1)), .int (xs (i + 2)), .ref oa]) (rest := []) ⟨hx, hb, hml, hown, hts⟩ (w_ifWritten l hl0 s.heap.size dC dI c0 ad ae ah ax ar cI cS cL oa κ h.o6 h.n6 h.zok f (xs (i + 1)) (xs (i + 2)) H.size) (vx_cwSW 4 hts gL_law_L_ifWritten rfl rfl rfl (by decide +kernel) ⟨Nat.le_of_ble_eq_true rfl, Nat.le_of_ble_eq_true rfl⟩) (fun U hU hW => ⟨hE.at (Nat.le_refl _) hS hW hU, hNc.at hW, va_Nw.warmM hW hN⟩) hP hD hS hA hK rfl hl.1 rfl (Nat.le_of_ble_eq_true rfl) dL_law_1128 hR (fun r u H locs hu hP hD hS => ?_)
  obtain ⟨rfl, rfl⟩ := hu
  replace hP : va_P (dC, dI) vwCl (zMW am cI μ ++ zLW c0 ad ae ah ax ar cI cS cL oa κ (if cd12 (xs (i + 1)) 15 (xs (i + 2)) 4095 = 0 then vp_updL f 0 (zo (ptg (uS κ) (iN (xs (i + 1))) (nI (iN (xs (i + 2)))))).toInt64 else f)) H := hP
  replace hD : va_D (fun q => s.heap.size ≤ q) (zMW am cI μ ++ zLW c0 ad ae ah ax ar cI cS cL oa κ (if cd12 (xs (i + 1)) 15 (xs (i + 2)) 4095 = 0 then vp_updL f 0 (zo (ptg (uS κ) (iN (xs (i + 1))) (nI (iN (xs (i + 2)))))).toInt64 else f)) := hD
  generalize hf9 : (if cd12 (xs (i + 1)) 15 (xs (i + 2)) 4095 = 0 then vp_updL f 0 (zo (ptg (uS κ) (iN (xs (i + 1))) (nI (iN (xs (i + 2)))))).toInt64 else f) = f9 at hP hD
  generalize hc9 : cd12 (xs (i + 1)) 15 (xs (i + 2)) 4095 = c9 at hf9 hr ⊢
  refine lv_istore (lv' := [(5, .int c9), (4, .int (nI i)), (0, .ref b), (1, .ref c0), (2, .ref (am 0)), (3, .ref oa)]) hx hb dL_law_1131 hl (by decide) rfl (fun ls hl => ?_)
  refine lv_aload_n hx hb dL_law_1133 rfl (lv_at hl 4 rfl) ?_
  refine lv_aload_n hx hb dL_law_1134 rfl (lv_at hl 2 rfl) ?_
  refine lv_iload hx hb dL_law_1135 (lv_at hl 1 rfl) ?_
  refine lv_iconst (v := 1) hx hb dL_law_1137 (by decide) ?_
  refine z_iadd hx hb i 1 dL_law_1138 ?_
  refine z_sld hx hb hX hbl hS (i + 1) (by omega) hL dL_law_1139 ?_
  refine lv_aload_n hx hb dL_law_1140 rfl (lv_at hl 2 rfl) ?_
  refine lv_iload hx hb dL_law_1141 (lv_at hl 1 rfl) ?_
  refine lv_iconst (v := 2) hx hb dL_law_1143 (by decide) ?_
  refine z_iadd hx hb i 2 dL_law_1144 ?_
  refine z_sld hx hb hX hbl hS (i + 2) (by omega) hL dL_law_1145 ?_
  obtain ⟨hP, hD⟩ := z_swp hP hD
  refine z_xWi (wr := zLW c0 ad ae ah ax ar cI cS cL oa κ f9) (As := [.int (xs (i + 1)), .int (xs (i + 2))]) (rest := []) ⟨hx, hb, hml, hown, hts⟩ (k_X4_ifWritten l dC dI am cI μ h.mok (xs (i + 1)) (xs (i + 2)) H.size) (cwV 2 hts gL_law_X4_ifWritten rfl rfl rfl (by decide +kernel) ⟨Nat.le_of_ble_eq_true rfl, Nat.le_of_ble_eq_true rfl⟩) (va_recv hK (z_swp hP hD).1 (ci := 4) (q0 := 0) rfl rfl) hP hD hS hA (hK.sub (tys' := [(cI, .int)]) [0] rfl) rfl hl.1 rfl (Nat.le_of_ble_eq_true rfl) dL_law_1146 ⟨hR.1, hR.2⟩ (fun r _ H locs hu hP hD hS => ?_)
  subst hu
  replace hP : va_P (dC, dI) vwCl (zLW c0 ad ae ah ax ar cI cS cL oa κ f9 ++ zMW am cI (rIfW μ (xs (i + 1)) (xs (i + 2))).1) H := hP
  replace hD : va_D (fun q => s.heap.size ≤ q) (zLW c0 ad ae ah ax ar cI cS cL oa κ f9 ++ zMW am cI (rIfW μ (xs (i + 1)) (xs (i + 2))).1) := hD
  obtain ⟨hP, hD⟩ := z_swp hP hD
  generalize hm9 : (rIfW μ (xs (i + 1)) (xs (i + 2))) = m9 at hP hD hr ⊢
  refine lv_istore (lv' := [(6, .int m9.2), (5, .int c9), (4, .int (nI i)), (0, .ref b), (1, .ref c0), (2, .ref (am 0)), (3, .ref oa)]) hx hb dL_law_1149 hl (by decide) rfl (fun ls hl => ?_)
  refine lv_aload_n hx hb dL_law_1151 rfl (lv_at hl 5 rfl) ?_
  refine z_cVi (As := []) (rest := []) ⟨hx, hb, hml, hown, hts⟩ (k_X4_thrown l dC dI am cI m9.1 hr.2.2.mok) (cwV 0 hts gL_law_X4_thrown rfl rfl rfl (by decide +kernel) ⟨Nat.le_of_ble_eq_true rfl, Nat.le_of_ble_eq_true rfl⟩) (va_recv hK hP (ci := 4) (q0 := 0) rfl rfl) (hP.sub (ws' := zMW am cI m9.1) [0, 1, 2, 3, 4, 5] rfl) (hK.sub (tys' := [(cI, .int)]) [0] rfl) rfl hl.1 rfl (Nat.le_of_ble_eq_true rfl) dL_law_1152 ⟨hR.1, hR.2⟩ (fun r hu => ?_)
  subst hu
  refine lv_iload hx hb dL_law_1155 (lv_at hl 1 rfl) ?_
  refine lv_icmp_eq (tgt := 1162) hx hb dL_law_1157 (by decide) (fun _ => ?_) (fun z => absurd hr.1.symm z)
  refine lv_iload hx hb dL_law_1162 (lv_at hl 1 rfl) ?_
  have hl2 : lv_has ls 9 [(4, .int (nI i)), (0, .ref b), (1, .ref c0), (2, .ref (am 0)), (3, .ref oa)] := lv_sub hl [2, 3, 4, 5, 6] rfl
  refine lv_if_ne (tgt := 1179) hx hb dL_law_1164 (by decide) (fun _ => ?_) (fun hc => ?_)
  · refine lv_goto (tgt := 1361) hx hb dL_law_1179 (by decide) ?_
    exact kk κ m9.1 f9 ls H locs hl2 hP hD hS hr.2.2
  · skip
    refine lv_aload_n hx hb dL_law_1167 rfl (lv_at hl 6 rfl) ?_
    refine lv_iconst (v := 0) hx hb dL_law_1168 (by decide) ?_
    refine z_lald hx hb hK hP 6 2 0 rfl rfl (by decide) (by decide) dL_law_1169 ?_
    refine lv_iload hx hb dL_law_1170 (lv_at hl 0 rfl) ?_
    refine lv_i2l (v := m9.2.toInt64) hx hb dL_law_1172 rfl ?_
    refine W.lcmp hx hb dL_law_1173 ?_
    refine lv_if_eq (tgt := 1179) hx hb dL_law_1174 (by decide) (fun _ => ?_) (fun z => absurd ((lg_cmp_eq _ _).mpr ?_) z)
    · refine lv_goto (tgt := 1361) hx hb dL_law_1179 (by decide) ?_
      exact kk κ m9.1 f9 ls H locs hl2 hP hD hS hr.2.2
    · rw [← hf9, if_pos hc, ← hr.2.1 hc]; rfl
set_option maxHeartbeats 4000000 in
theorem g_costliest {p : Program} {l : Launch} {e : Env} {s : State} {m : MethodId} {args : Array Value} {below : List Frame} {meth : Method} {c : Code} {Q : State → Prop} {b L : Nat} {xs : Nat → Int32} {dC : Nat → ClassId} {dI : Nat → Nat → Nat} {cI cS cL : ClassId} {c0 oa : Nat} {am ad ae ah ax : Nat → Nat} {ar : Nat → Nat → Nat} {κ : zK} {μ : zM} {f : Nat → Int64} {B i : Nat} {H : Heap} {locs : List Loc} {cells slots : Nat} {ls : Array Slot} (C : lCx l p s m args c b L xs dC dI cI cS cL) (hi : i + 3 < L) (h : kRel B κ μ) (hB : B < 2 ^ 31) (hR : cells + 1 ≤ room_1.cells ∧ slots + 6 ≤ room_1.slots) (hl : lv_has ls 9 [(4, .int (nI i)), (0, .ref b), (1, .ref c0), (2, .ref (am 0)), (3, .ref oa)]) (hP : va_P (dC, dI) vwCl (zLM c0 am ad ae ah ax ar cI cS cL oa κ μ f) H) (hD : va_D (fun q => s.heap.size ≤ q) (zLM c0 am ad ae ah ax ar cI cS cL oa κ μ f)) (hS : va_S (fun q => s.heap.size ≤ q) s.heap H locs)
    (kk : ∀ (κ' : zK) (μ' : zM) (f' : Nat → Int64) (ls : Array Slot) (H : Heap) (locs : List Loc), lv_has ls 9 [(4, .int (nI i)), (0, .ref b), (1, .ref c0), (2, .ref (am 0)), (3, .ref oa)] → va_P (dC, dI) vwCl (zLM c0 am ad ae ah ax ar cI cS cL oa κ' μ' f') H → va_D (fun q => s.heap.size ≤ q) (zLM c0 am ad ae ah ax ar cI cS cL oa κ' μ' f') → va_S (fun q => s.heap.size ≤ q) s.heap H locs → kRel (B + 6500) κ' μ' → W p l e room_1 s m args below meth c H locs (cells + 1) (slots + 6) Q (F0 m 1361 ls [])) : W p l e room_1 s m args below meth c H locs cells slots Q (F0 m 1182 ls []) := by
  obtain ⟨hx, hb, hml, hown, hts, hK, hE, hNc, hN, hX, hbl, hl0, hL⟩ := C
  have hA : ∀ q, s.heap.size ≤ q → s.heap.size ≤ q := fun _ h => h
  have hn6 := h.n6
  have hr := rel_Dear h (xs (i + 1))
  refine lv_aload_n hx hb dL_law_1182 rfl (lv_at hl 2 rfl) ?_
  refine lv_aload_n hx hb dL_law_1183 rfl (lv_at hl 1 rfl) ?_
  refine lv_iload hx hb dL_law_1184 (lv_at hl 0 rfl) ?_
  refine lv_iconst (v := 1) hx hb dL_law_1186 (by decide) ?_
  refine z_iadd hx hb i 1 dL_law_1187 ?_
  refine z_sld hx hb hX hbl hS (i + 1) (by omega) hL dL_law_1188 ?_
  refine lv_aload_n hx hb dL_law_1189 rfl (lv_at hl 4 rfl) ?_
  refine z_xWSx (wr := zMW am cI μ) (As := [.ref c0, .int (xs (i + 1)), .ref oa]) (rest := []) ⟨hx, hb, hml, hown, hts⟩ (w_costliest l hl0 s.heap.size dC dI c0 ad ae ah ax ar cI cS cL oa κ h.o6 h.n6 h.zok h.bt f (xs (i + 1)) H.size) (vx_cwSW 3 hts gL_law_L_costliest rfl rfl rfl (by decide +kernel) ⟨Nat.le_of_ble_eq_true rfl, Nat.le_of_ble_eq_true rfl⟩) (fun U hU hW => ⟨hE.at (Nat.le_refl _) hS hW hU, hNc.at hW, va_Nw.warmM hW hN⟩) hP hD hS hA hK rfl hl.1 rfl (Nat.le_of_ble_eq_true rfl) dL_law_1190 hR (fun r u H locs hu hP hD hS => ?_)
  obtain ⟨rfl, rfl⟩ := hu
  replace hP : va_P (dC, dI) vwCl (zMW am cI μ ++ zLW c0 ad ae ah ax ar cI cS cL oa κ (if cd1 (xs (i + 1)) 15 = 0 then vp_updL f 0 (pDD (uS κ) (iN (xs (i + 1)))).toInt64 else f)) H := hP
  replace hD : va_D (fun q => s.heap.size ≤ q) (zMW am cI μ ++ zLW c0 ad ae ah ax ar cI cS cL oa κ (if cd1 (xs (i + 1)) 15 = 0 then vp_updL f 0 (pDD (uS κ) (iN (xs (i + 1)))).toInt64 else f)) := hD
  generalize hf9 : (if cd1 (xs (i + 1)) 15 = 0 then vp_updL f 0 (pDD (uS κ) (iN (xs (i + 1)))).toInt64 else f) = f9 at hP hD
  generalize hc9 : cd1 (xs (i + 1)) 15 = c9 at hf9 hr ⊢
  refine lv_istore (lv' := [(5, .int c9), (4, .int (nI i)), (0, .ref b), (1, .ref c0), (2, .ref (am 0)), (3, .ref oa)]) hx hb dL_law_1193 hl (by decide) rfl (fun ls hl => ?_)
  refine lv_aload_n hx hb dL_law_1195 rfl (lv_at hl 4 rfl) ?_
  refine lv_aload_n hx hb dL_law_1196 rfl (lv_at hl 2 rfl) ?_
  refine lv_iload hx hb dL_law_1197 (lv_at hl 1 rfl) ?_
  refine lv_iconst (v := 1) hx hb dL_law_1199 (by decide) ?_
  refine z_iadd hx hb i 1 dL_law_1200 ?_
  refine z_sld hx hb hX hbl hS (i + 1) (by omega) hL dL_law_1201 ?_
  obtain ⟨hP, hD⟩ := z_swp hP hD
  refine z_xWi (wr := zLW c0 ad ae ah ax ar cI cS cL oa κ f9) (As := [.int (xs (i + 1))]) (rest := []) ⟨hx, hb, hml, hown, hts⟩ (k_X4_costliest l dC dI am cI μ h.mok (xs (i + 1)) H.size) (cwV 1 hts gL_law_X4_costliest rfl rfl rfl (by decide +kernel) ⟨Nat.le_of_ble_eq_true rfl, Nat.le_of_ble_eq_true rfl⟩) (va_recv hK (z_swp hP hD).1 (ci := 4) (q0 := 0) rfl rfl) hP hD hS hA (hK.sub (tys' := [(cI, .int)]) [0] rfl) rfl hl.1 rfl (Nat.le_of_ble_eq_true rfl) dL_law_1202 ⟨hR.1, hR.2⟩ (fun r _ H locs hu hP hD hS => ?_)
  subst hu
  replace hP : va_P (dC, dI) vwCl (zLW c0 ad ae ah ax ar cI cS cL oa κ f9 ++ zMW am cI (rDear μ (xs (i + 1))).1) H := hP
  replace hD : va_D (fun q => s.heap.size ≤ q) (zLW c0 ad ae ah ax ar cI cS cL oa κ f9 ++ zMW am cI (rDear μ (xs (i + 1))).1) := hD
  obtain ⟨hP, hD⟩ := z_swp hP hD
  generalize hm9 : (rDear μ (xs (i + 1))) = m9 at hP hD hr ⊢
  refine lv_istore (lv' := [(6, .int m9.2), (5, .int c9), (4, .int (nI i)), (0, .ref b), (1, .ref c0), (2, .ref (am 0)), (3, .ref oa)]) hx hb dL_law_1205 hl (by decide) rfl (fun ls hl => ?_)
  refine lv_aload_n hx hb dL_law_1207 rfl (lv_at hl 5 rfl) ?_
  refine z_cVi (As := []) (rest := []) ⟨hx, hb, hml, hown, hts⟩ (k_X4_thrown l dC dI am cI m9.1 hr.2.2.mok) (cwV 0 hts gL_law_X4_thrown rfl rfl rfl (by decide +kernel) ⟨Nat.le_of_ble_eq_true rfl, Nat.le_of_ble_eq_true rfl⟩) (va_recv hK hP (ci := 4) (q0 := 0) rfl rfl) (hP.sub (ws' := zMW am cI m9.1) [0, 1, 2, 3, 4, 5] rfl) (hK.sub (tys' := [(cI, .int)]) [0] rfl) rfl hl.1 rfl (Nat.le_of_ble_eq_true rfl) dL_law_1208 ⟨hR.1, hR.2⟩ (fun r hu => ?_)
  subst hu
  refine lv_iload hx hb dL_law_1211 (lv_at hl 1 rfl) ?_
  refine lv_icmp_eq (tgt := 1218) hx hb dL_law_1213 (by decide) (fun _ => ?_) (fun z => absurd hr.1.symm z)
  refine lv_iload hx hb dL_law_1218 (lv_at hl 1 rfl) ?_
  have hl2 : lv_has ls 9 [(4, .int (nI i)), (0, .ref b), (1, .ref c0), (2, .ref (am 0)), (3, .ref oa)] := lv_sub hl [2, 3, 4, 5, 6] rfl
  refine lv_if_ne (tgt := 1235) hx hb dL_law_1220 (by decide) (fun _ => ?_) (fun hc => ?_)
  · refine lv_goto (tgt := 1361) hx hb dL_law_1235 (by decide) ?_
    exact kk κ m9.1 f9 ls H locs hl2 hP hD hS hr.2.2
  · skip
    refine lv_aload_n hx hb dL_law_1223 rfl (lv_at hl 6 rfl) ?_
    refine lv_iconst (v := 0) hx hb dL_law_1224 (by decide) ?_
    refine z_lald hx hb hK hP 6 2 0 rfl rfl (by decide) (by decide) dL_law_1225 ?_
    refine lv_iload hx hb dL_law_1226 (lv_at hl 0 rfl) ?_
    refine lv_i2l (v := m9.2.toInt64) hx hb dL_law_1228 rfl ?_
    refine W.lcmp hx hb dL_law_1229 ?_
    refine lv_if_eq (tgt := 1235) hx hb dL_law_1230 (by decide) (fun _ => ?_) (fun z => absurd ((lg_cmp_eq _ _).mpr ?_) z)
    · refine lv_goto (tgt := 1361) hx hb dL_law_1235 (by decide) ?_
      exact kk κ m9.1 f9 ls H locs hl2 hP hD hS hr.2.2
    · rw [← hf9, if_pos hc, ← hr.2.1 hc]; rfl
set_option maxHeartbeats 4000000 in
theorem g_life {p : Program} {l : Launch} {e : Env} {s : State} {m : MethodId} {args : Array Value} {below : List Frame} {meth : Method} {c : Code} {Q : State → Prop} {b L : Nat} {xs : Nat → Int32} {dC : Nat → ClassId} {dI : Nat → Nat → Nat} {cI cS cL : ClassId} {c0 oa : Nat} {am ad ae ah ax : Nat → Nat} {ar : Nat → Nat → Nat} {κ : zK} {μ : zM} {f : Nat → Int64} {B i : Nat} {H : Heap} {locs : List Loc} {cells slots : Nat} {ls : Array Slot} (C : lCx l p s m args c b L xs dC dI cI cS cL) (hi : i + 3 < L) (h : kRel B κ μ) (hB : B < 2 ^ 31) (hR : cells + 1 ≤ room_1.cells ∧ slots + 6 ≤ room_1.slots) (hl : lv_has ls 9 [(4, .int (nI i)), (0, .ref b), (1, .ref c0), (2, .ref (am 0)), (3, .ref oa)]) (hP : va_P (dC, dI) vwCl (zLM c0 am ad ae ah ax ar cI cS cL oa κ μ f) H) (hD : va_D (fun q => s.heap.size ≤ q) (zLM c0 am ad ae ah ax ar cI cS cL oa κ μ f)) (hS : va_S (fun q => s.heap.size ≤ q) s.heap H locs)
    (kk : ∀ (κ' : zK) (μ' : zM) (f' : Nat → Int64) (ls : Array Slot) (H : Heap) (locs : List Loc), lv_has ls 9 [(4, .int (nI i)), (0, .ref b), (1, .ref c0), (2, .ref (am 0)), (3, .ref oa)] → va_P (dC, dI) vwCl (zLM c0 am ad ae ah ax ar cI cS cL oa κ' μ' f') H → va_D (fun q => s.heap.size ≤ q) (zLM c0 am ad ae ah ax ar cI cS cL oa κ' μ' f') → va_S (fun q => s.heap.size ≤ q) s.heap H locs → kRel (B + 6500) κ' μ' → W p l e room_1 s m args below meth c H locs (cells + 1) (slots + 6) Q (F0 m 1361 ls [])) : W p l e room_1 s m args below meth c H locs cells slots Q (F0 m 1238 ls []) := by
  obtain ⟨hx, hb, hml, hown, hts, hK, hE, hNc, hN, hX, hbl, hl0, hL⟩ := C
  have hA : ∀ q, s.heap.size ≤ q → s.heap.size ≤ q := fun _ h => h
  have hn6 := h.n6
  have hr := rel_Life h (xs (i + 1)) (xs (i + 2))
  refine lv_aload_n hx hb dL_law_1238 rfl (lv_at hl 2 rfl) ?_
  refine lv_aload_n hx hb dL_law_1239 rfl (lv_at hl 1 rfl) ?_
  refine lv_iload hx hb dL_law_1240 (lv_at hl 0 rfl) ?_
  refine lv_iconst (v := 1) hx hb dL_law_1242 (by decide) ?_
  refine z_iadd hx hb i 1 dL_law_1243 ?_
  refine z_sld hx hb hX hbl hS (i + 1) (by omega) hL dL_law_1244 ?_
  refine lv_aload_n hx hb dL_law_1245 rfl (lv_at hl 1 rfl) ?_
  refine lv_iload hx hb dL_law_1246 (lv_at hl 0 rfl) ?_
  refine lv_iconst (v := 2) hx hb dL_law_1248 (by decide) ?_
  refine z_iadd hx hb i 2 dL_law_1249 ?_
  refine z_sld hx hb hX hbl hS (i + 2) (by omega) hL dL_law_1250 ?_
  refine lv_aload_n hx hb dL_law_1251 rfl (lv_at hl 4 rfl) ?_
  refine z_xWSx (wr := zMW am cI μ) (As := [.ref c0, .int (xs (i + 1)), .int (xs (i + 2)), .ref oa]) (rest := []) ⟨hx, hb, hml, hown, hts⟩ (w_life l hl0 s.heap.size dC dI c0 ad ae ah ax ar cI cS cL oa κ h.o6 h.n6 h.zok f (xs (i + 1)) (xs (i + 2)) H.size) (vx_cwSW 4 hts gL_law_L_life rfl rfl rfl (by decide +kernel) ⟨Nat.le_of_ble_eq_true rfl, Nat.le_of_ble_eq_true rfl⟩) (fun U hU hW => ⟨hE.at (Nat.le_refl _) hS hW hU, hNc.at hW, va_Nw.warmM hW hN⟩) hP hD hS hA hK rfl hl.1 rfl (Nat.le_of_ble_eq_true rfl) dL_law_1252 hR (fun r u H locs hu hP hD hS => ?_)
  obtain ⟨rfl, rfl⟩ := hu
  replace hP : va_P (dC, dI) vwCl (zMW am cI μ ++ zLW c0 ad ae ah ax ar cI cS cL oa (if cd12 (xs (i + 1)) 15 (xs (i + 2)) 4095 = 0 then (sLife κ (xs (i + 1)) (xs (i + 2))).1 else κ) (if cd12 (xs (i + 1)) 15 (xs (i + 2)) 4095 = 0 then vp_updL f 0 ((sLife κ (xs (i + 1)) (xs (i + 2))).2).toInt64 else f)) H := hP
  replace hD : va_D (fun q => s.heap.size ≤ q) (zMW am cI μ ++ zLW c0 ad ae ah ax ar cI cS cL oa (if cd12 (xs (i + 1)) 15 (xs (i + 2)) 4095 = 0 then (sLife κ (xs (i + 1)) (xs (i + 2))).1 else κ) (if cd12 (xs (i + 1)) 15 (xs (i + 2)) 4095 = 0 then vp_updL f 0 ((sLife κ (xs (i + 1)) (xs (i + 2))).2).toInt64 else f)) := hD
  generalize hf9 : (if cd12 (xs (i + 1)) 15 (xs (i + 2)) 4095 = 0 then vp_updL f 0 ((sLife κ (xs (i + 1)) (xs (i + 2))).2).toInt64 else f) = f9 at hP hD
  generalize hk9 : (if cd12 (xs (i + 1)) 15 (xs (i + 2)) 4095 = 0 then (sLife κ (xs (i + 1)) (xs (i + 2))).1 else κ) = κ9 at hP hD hr
  generalize hc9 : cd12 (xs (i + 1)) 15 (xs (i + 2)) 4095 = c9 at hf9 hr ⊢
  refine lv_istore (lv' := [(5, .int c9), (4, .int (nI i)), (0, .ref b), (1, .ref c0), (2, .ref (am 0)), (3, .ref oa)]) hx hb dL_law_1255 hl (by decide) rfl (fun ls hl => ?_)
  refine lv_aload_n hx hb dL_law_1257 rfl (lv_at hl 4 rfl) ?_
  refine lv_aload_n hx hb dL_law_1258 rfl (lv_at hl 2 rfl) ?_
  refine lv_iload hx hb dL_law_1259 (lv_at hl 1 rfl) ?_
  refine lv_iconst (v := 1) hx hb dL_law_1261 (by decide) ?_
  refine z_iadd hx hb i 1 dL_law_1262 ?_
  refine z_sld hx hb hX hbl hS (i + 1) (by omega) hL dL_law_1263 ?_
  refine lv_aload_n hx hb dL_law_1264 rfl (lv_at hl 2 rfl) ?_
  refine lv_iload hx hb dL_law_1265 (lv_at hl 1 rfl) ?_
  refine lv_iconst (v := 2) hx hb dL_law_1267 (by decide) ?_
  refine z_iadd hx hb i 2 dL_law_1268 ?_
  refine z_sld hx hb hX hbl hS (i + 2) (by omega) hL dL_law_1269 ?_
  obtain ⟨hP, hD⟩ := z_swp hP hD
  refine z_xWi (wr := zLW c0 ad ae ah ax ar cI cS cL oa κ9 f9) (As := [.int (xs (i + 1)), .int (xs (i + 2))]) (rest := []) ⟨hx, hb, hml, hown, hts⟩ (k_X4_life l dC dI am cI μ h.mok (xs (i + 1)) (xs (i + 2)) H.size) (cwV 2 hts gL_law_X4_life rfl rfl rfl (by decide +kernel) ⟨Nat.le_of_ble_eq_true rfl, Nat.le_of_ble_eq_true rfl⟩) (va_recv hK (z_swp hP hD).1 (ci := 4) (q0 := 0) rfl rfl) hP hD hS hA (hK.sub (tys' := [(cI, .int)]) [0] rfl) rfl hl.1 rfl (Nat.le_of_ble_eq_true rfl) dL_law_1270 ⟨hR.1, hR.2⟩ (fun r _ H locs hu hP hD hS => ?_)
  subst hu
  replace hP : va_P (dC, dI) vwCl (zLW c0 ad ae ah ax ar cI cS cL oa κ9 f9 ++ zMW am cI (rLife μ (xs (i + 1)) (xs (i + 2))).1) H := hP
  replace hD : va_D (fun q => s.heap.size ≤ q) (zLW c0 ad ae ah ax ar cI cS cL oa κ9 f9 ++ zMW am cI (rLife μ (xs (i + 1)) (xs (i + 2))).1) := hD
  obtain ⟨hP, hD⟩ := z_swp hP hD
  generalize hm9 : (rLife μ (xs (i + 1)) (xs (i + 2))) = m9 at hP hD hr ⊢
  refine lv_istore (lv' := [(6, .int m9.2), (5, .int c9), (4, .int (nI i)), (0, .ref b), (1, .ref c0), (2, .ref (am 0)), (3, .ref oa)]) hx hb dL_law_1273 hl (by decide) rfl (fun ls hl => ?_)
  refine lv_aload_n hx hb dL_law_1275 rfl (lv_at hl 5 rfl) ?_
  refine z_cVi (As := []) (rest := []) ⟨hx, hb, hml, hown, hts⟩ (k_X4_thrown l dC dI am cI m9.1 hr.2.2.mok) (cwV 0 hts gL_law_X4_thrown rfl rfl rfl (by decide +kernel) ⟨Nat.le_of_ble_eq_true rfl, Nat.le_of_ble_eq_true rfl⟩) (va_recv hK hP (ci := 4) (q0 := 0) rfl rfl) (hP.sub (ws' := zMW am cI m9.1) [0, 1, 2, 3, 4, 5] rfl) (hK.sub (tys' := [(cI, .int)]) [0] rfl) rfl hl.1 rfl (Nat.le_of_ble_eq_true rfl) dL_law_1276 ⟨hR.1, hR.2⟩ (fun r hu => ?_)
  subst hu
  refine lv_iload hx hb dL_law_1279 (lv_at hl 1 rfl) ?_
  refine lv_icmp_eq (tgt := 1286) hx hb dL_law_1281 (by decide) (fun _ => ?_) (fun z => absurd hr.1.symm z)
  refine lv_iload hx hb dL_law_1286 (lv_at hl 1 rfl) ?_
  have hl2 : lv_has ls 9 [(4, .int (nI i)), (0, .ref b), (1, .ref c0), (2, .ref (am 0)), (3, .ref oa)] := lv_sub hl [2, 3, 4, 5, 6] rfl
  refine lv_if_ne (tgt := 1303) hx hb dL_law_1288 (by decide) (fun _ => ?_) (fun hc => ?_)
  · refine lv_goto (tgt := 1361) hx hb dL_law_1303 (by decide) ?_
    exact kk κ9 m9.1 f9 ls H locs hl2 hP hD hS hr.2.2
  · skip
    refine lv_aload_n hx hb dL_law_1291 rfl (lv_at hl 6 rfl) ?_
    refine lv_iconst (v := 0) hx hb dL_law_1292 (by decide) ?_
    refine z_lald hx hb hK hP 6 2 0 rfl rfl (by decide) (by decide) dL_law_1293 ?_
    refine lv_iload hx hb dL_law_1294 (lv_at hl 0 rfl) ?_
    refine lv_i2l (v := m9.2.toInt64) hx hb dL_law_1296 rfl ?_
    refine W.lcmp hx hb dL_law_1297 ?_
    refine lv_if_eq (tgt := 1303) hx hb dL_law_1298 (by decide) (fun _ => ?_) (fun z => absurd ((lg_cmp_eq _ _).mpr ?_) z)
    · refine lv_goto (tgt := 1361) hx hb dL_law_1303 (by decide) ?_
      exact kk κ9 m9.1 f9 ls H locs hl2 hP hD hS hr.2.2
    · rw [← hf9, if_pos hc, ← hr.2.1 hc]; rfl
