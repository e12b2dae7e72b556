/-! the four cases without a wrapper -/
abbrev zOU (cL : ClassId) (oa : Nat) (f : Nat → Int64) : va_W := [(oa, .inl (cL, 1, .inr (.inl f)))]
set_option maxHeartbeats 4000000 in
theorem g_clearBuffer {p : Program} {l : Launch} {e : Env} {s : State} {m : MethodId} {args : Array Value} {below : List Frame} {meth : Method} {c : Code} {Q : State → Prop} {b L : Nat} {xs : Nat → Int32} {dC : Nat → ClassId} {dI : Nat → Nat → Nat} {cI cS cL : ClassId} {c0 oa : Nat} {am ad ae ah ax : Nat → Nat} {ar : Nat → Nat → Nat} {κ : zK} {μ : zM} {f : Nat → Int64} {B i : Nat} {H : Heap} {locs : List Loc} {cells slots : Nat} {ls : Array Slot} (C : lCx l p s m args c b L xs dC dI cI cS cL) (hi : i + 3 < L) (h : kRel B κ μ) (hB : B < 2 ^ 31) (hR : cells + 1 ≤ room_1.cells ∧ slots + 6 ≤ room_1.slots) (hl : lv_has ls 9 [(4, .int (nI i)), (0, .ref b), (1, .ref c0), (2, .ref (am 0)), (3, .ref oa)]) (hP : va_P (dC, dI) vwCl (zLM c0 am ad ae ah ax ar cI cS cL oa κ μ f) H) (hD : va_D (fun q => s.heap.size ≤ q) (zLM c0 am ad ae ah ax ar cI cS cL oa κ μ f)) (hS : va_S (fun q => s.heap.size ≤ q) s.heap H locs)
    (kk : ∀ (κ' : zK) (μ' : zM) (f' : Nat → Int64) (ls : Array Slot) (H : Heap) (locs : List Loc), lv_has ls 9 [(4, .int (nI i)), (0, .ref b), (1, .ref c0), (2, .ref (am 0)), (3, .ref oa)] → va_P (dC, dI) vwCl (zLM c0 am ad ae ah ax ar cI cS cL oa κ' μ' f') H → va_D (fun q => s.heap.size ≤ q) (zLM c0 am ad ae ah ax ar cI cS cL oa κ' μ' f') → va_S (fun q => s.heap.size ≤ q) s.heap H locs → kRel (B + 6500) κ' μ' → W p l e room_1 s m args below meth c H locs (cells + 1) (slots + 6) Q (F0 m 1361 ls [])) : W p l e room_1 s m args below meth c H locs cells slots Q (F0 m 560 ls []) := by
  obtain ⟨hx, hb, hml, hown, hts, hK, hE, hNc, hN, hX, hbl, hl0, hL⟩ := C
  have hA : ∀ q, s.heap.size ≤ q → s.heap.size ≤ q := fun _ h => h
  have hn6 := h.n6
  have hr := rel_Clear h
  refine lv_aload_n hx hb dL_law_560 rfl (lv_at hl 2 rfl) ?_
  replace hP : va_P (dC, dI) vwCl ((zMW am cI μ ++ zOU cL oa f) ++ zCW c0 ad ae ah ax ar cI cS (uS κ) (uA κ) (uo κ) (un κ) (uh κ) (ut κ)) H := hP
  replace hD : va_D (fun q => s.heap.size ≤ q) ((zMW am cI μ ++ zOU cL oa f) ++ zCW c0 ad ae ah ax ar cI cS (uS κ) (uA κ) (uo κ) (un κ) (uh κ) (ut κ)) := hD
  refine z_xWi (wr := zMW am cI μ ++ zOU cL oa f) (As := []) (rest := []) ⟨hx, hb, hml, hown, hts⟩ (k_X3_clearBuffer l dC dI c0 ad ae ah ax ar cI cS (uS κ) (uA κ) (uo κ) (un κ) h.o6 hn6 (uh κ) (ut κ) h.zok H.size) (cwV 0 hts gL_law_X3_clearBuffer rfl rfl rfl (by decide +kernel) ⟨Nat.le_of_ble_eq_true rfl, Nat.le_of_ble_eq_true rfl⟩) (va_recv hK hP (ci := 3) (q0 := 7) rfl rfl) hP hD hS hA (hK.sub (tys' := [(cI, .int), (cS, .object RX1)]) [0, 1] rfl) rfl hl.1 rfl (Nat.le_of_ble_eq_true rfl) dL_law_561 ⟨Nat.le_trans (Nat.le_add_right _ _) hR.1, Nat.le_trans (Nat.le_add_right _ _) hR.2⟩ (fun r3 _ H locs hu3 hP hD hS => ?_)
  replace hP : va_P (dC, dI) vwCl (zMW am cI μ ++ zLW c0 ad ae ah ax ar cI cS cL oa (sClear κ).1 f) H := hP
  replace hD : va_D (fun q => s.heap.size ≤ q) (zMW am cI μ ++ zLW c0 ad ae ah ax ar cI cS cL oa (sClear κ).1 f) := hD
  refine lv_aload_n hx hb dL_law_564 rfl (lv_at hl 3 rfl) ?_
  obtain ⟨hP, hD⟩ := z_swp hP hD
  refine z_xWi (wr := zLW c0 ad ae ah ax ar cI cS cL oa (sClear κ).1 f) (As := []) (rest := [.int r3]) ⟨hx, hb, hml, hown, hts⟩ (k_X4_clearBuffer l dC dI am cI μ h.mok H.size) (cwV 0 hts gL_law_X4_clearBuffer rfl rfl rfl (by decide +kernel) ⟨Nat.le_of_ble_eq_true rfl, Nat.le_of_ble_eq_true rfl⟩) (va_recv hK (z_swp hP hD).1 (ci := 4) (q0 := 0) rfl rfl) hP hD hS hA (hK.sub (tys' := [(cI, .int)]) [0] rfl) rfl hl.1 rfl (Nat.le_of_ble_eq_true rfl) dL_law_565 ⟨Nat.le_trans (Nat.le_add_right _ _) hR.1, Nat.le_trans (Nat.le_add_right _ _) hR.2⟩ (fun r4 _ H locs hu4 hP hD hS => ?_)
  replace hP : va_P (dC, dI) vwCl (zLW c0 ad ae ah ax ar cI cS cL oa (sClear κ).1 f ++ zMW am cI (rClear μ).1) H := hP
  replace hD : va_D (fun q => s.heap.size ≤ q) (zLW c0 ad ae ah ax ar cI cS cL oa (sClear κ).1 f ++ zMW am cI (rClear μ).1) := hD
  obtain ⟨hP, hD⟩ := z_swp hP hD
  refine lv_icmp_eq (tgt := 1361) hx hb dL_law_568 (by decide) (fun _ => ?_) (fun z => absurd (hu3.trans (hr.1.trans hu4.symm)) z)
  refine W.widen (k := cells + 1) (n := slots + 6) (Nat.le_add_right _ _) (Nat.le_add_right _ _) ?_
  exact kk (sClear κ).1 (rClear μ).1 f ls H locs (lv_sub hl [0, 1, 2, 3, 4] rfl) hP hD hS hr.2
set_option maxHeartbeats 4000000 in
theorem g_firstError {p : Program} {l : Launch} {e : Env} {s : State} {m : MethodId} {args : Array Value} {below : List Frame} {meth : Method} {c : Code} {Q : State → Prop} {b L : Nat} {xs : Nat → Int32} {dC : Nat → ClassId} {dI : Nat → Nat → Nat} {cI cS cL : ClassId} {c0 oa : Nat} {am ad ae ah ax : Nat → Nat} {ar : Nat → Nat → Nat} {κ : zK} {μ : zM} {f : Nat → Int64} {B i : Nat} {H : Heap} {locs : List Loc} {cells slots : Nat} {ls : Array Slot} (C : lCx l p s m args c b L xs dC dI cI cS cL) (hi : i + 3 < L) (h : kRel B κ μ) (hB : B < 2 ^ 31) (hR : cells + 1 ≤ room_1.cells ∧ slots + 6 ≤ room_1.slots) (hl : lv_has ls 9 [(4, .int (nI i)), (0, .ref b), (1, .ref c0), (2, .ref (am 0)), (3, .ref oa)]) (hP : va_P (dC, dI) vwCl (zLM c0 am ad ae ah ax ar cI cS cL oa κ μ f) H) (hD : va_D (fun q => s.heap.size ≤ q) (zLM c0 am ad ae ah ax ar cI cS cL oa κ μ f)) (hS : va_S (fun q => s.heap.size ≤ q) s.heap H locs)
    (kk : ∀ (κ' : zK) (μ' : zM) (f' : Nat → Int64) (ls : Array Slot) (H : Heap) (locs : List Loc), lv_has ls 9 [(4, .int (nI i)), (0, .ref b), (1, .ref c0), (2, .ref (am 0)), (3, .ref oa)] → va_P (dC, dI) vwCl (zLM c0 am ad ae ah ax ar cI cS cL oa κ' μ' f') H → va_D (fun q => s.heap.size ≤ q) (zLM c0 am ad ae ah ax ar cI cS cL oa κ' μ' f') → va_S (fun q => s.heap.size ≤ q) s.heap H locs → kRel (B + 6500) κ' μ' → W p l e room_1 s m args below meth c H locs (cells + 1) (slots + 6) Q (F0 m 1361 ls [])) : W p l e room_1 s m args below meth c H locs cells slots Q (F0 m 573 ls []) := by
  obtain ⟨hx, hb, hml, hown, hts, hK, hE, hNc, hN, hX, hbl, hl0, hL⟩ := C
  have hA : ∀ q, s.heap.size ≤ q → s.heap.size ≤ q := fun _ h => h
  have hn6 := h.n6
  have hr := rel_First h
  refine lv_aload_n hx hb dL_law_573 rfl (lv_at hl 2 rfl) ?_
  replace hP : va_P (dC, dI) vwCl ((zMW am cI μ ++ zOU cL oa f) ++ zCW c0 ad ae ah ax ar cI cS (uS κ) (uA κ) (uo κ) (un κ) (uh κ) (ut κ)) H := hP
  replace hD : va_D (fun q => s.heap.size ≤ q) ((zMW am cI μ ++ zOU cL oa f) ++ zCW c0 ad ae ah ax ar cI cS (uS κ) (uA κ) (uo κ) (un κ) (uh κ) (ut κ)) := hD
  refine z_xWiN (wr := zMW am cI μ ++ zOU cL oa f) (As := []) (rest := []) ⟨hx, hb, hml, hown, hts⟩ (k_X3_firstError l dC dI c0 ad ae ah ax ar cI cS (uS κ) (uA κ) (uo κ) (un κ) h.o6 hn6 (uh κ) (ut κ) h.zok (by rw [h.tt.2.1]; exact h.tt.2.2.1) (tRel.f h.tt) H.size) (cwV 0 hts gL_law_X3_firstError rfl rfl rfl (by decide +kernel) ⟨Nat.le_of_ble_eq_true rfl, Nat.le_of_ble_eq_true rfl⟩) (va_recv hK hP (ci := 3) (q0 := 7) rfl rfl) hP hD hS hA (hK.sub (tys' := [(cI, .int), (cS, .object RX1)]) [0, 1] rfl) hN rfl hl.1 rfl (Nat.le_of_ble_eq_true rfl) dL_law_574 ⟨Nat.le_trans (Nat.le_add_right _ _) hR.1, Nat.le_trans (Nat.le_add_right _ _) hR.2⟩ (fun r3 _ H locs hu3 hP hD hS => ?_)
  replace hP : va_P (dC, dI) vwCl (zMW am cI μ ++ zLW c0 ad ae ah ax ar cI cS cL oa (sFirst κ).1 f) H := hP
  replace hD : va_D (fun q => s.heap.size ≤ q) (zMW am cI μ ++ zLW c0 ad ae ah ax ar cI cS cL oa (sFirst κ).1 f) := hD
  refine lv_aload_n hx hb dL_law_577 rfl (lv_at hl 3 rfl) ?_
  obtain ⟨hP, hD⟩ := z_swp hP hD
  refine z_xWi (wr := zLW c0 ad ae ah ax ar cI cS cL oa (sFirst κ).1 f) (As := []) (rest := [.int r3]) ⟨hx, hb, hml, hown, hts⟩ (k_X4_firstError l dC dI am cI μ h.mok h.tt.2.2.2 H.size) (cwV 0 hts gL_law_X4_firstError rfl rfl rfl (by decide +kernel) ⟨Nat.le_of_ble_eq_true rfl, Nat.le_of_ble_eq_true rfl⟩) (va_recv hK (z_swp hP hD).1 (ci := 4) (q0 := 0) rfl rfl) hP hD hS hA (hK.sub (tys' := [(cI, .int)]) [0] rfl) rfl hl.1 rfl (Nat.le_of_ble_eq_true rfl) dL_law_578 ⟨Nat.le_trans (Nat.le_add_right _ _) hR.1, Nat.le_trans (Nat.le_add_right _ _) hR.2⟩ (fun r4 _ H locs hu4 hP hD hS => ?_)
  replace hP : va_P (dC, dI) vwCl (zLW c0 ad ae ah ax ar cI cS cL oa (sFirst κ).1 f ++ zMW am cI (rFirst μ).1) H := hP
  replace hD : va_D (fun q => s.heap.size ≤ q) (zLW c0 ad ae ah ax ar cI cS cL oa (sFirst κ).1 f ++ zMW am cI (rFirst μ).1) := hD
  obtain ⟨hP, hD⟩ := z_swp hP hD
  refine lv_icmp_eq (tgt := 1361) hx hb dL_law_581 (by decide) (fun _ => ?_) (fun z => absurd (hu3.trans (hr.1.trans hu4.symm)) z)
  refine W.widen (k := cells + 1) (n := slots + 6) (Nat.le_add_right _ _) (Nat.le_add_right _ _) ?_
  exact kk (sFirst κ).1 (rFirst μ).1 f ls H locs (lv_sub hl [0, 1, 2, 3, 4] rfl) hP hD hS hr.2
set_option maxHeartbeats 4000000 in
theorem g_share {p : Program} {l : Launch} {e : Env} {s : State} {m : MethodId} {args : Array Value} {below : List Frame} {meth : Method} {c : Code} {Q : State → Prop} {b L : Nat} {xs : Nat → Int32} {dC : Nat → ClassId} {dI : Nat → Nat → Nat} {cI cS cL : ClassId} {c0 oa : Nat} {am ad ae ah ax : Nat → Nat} {ar : Nat → Nat → Nat} {κ : zK} {μ : zM} {f : Nat → Int64} {B i : Nat} {H : Heap} {locs : List Loc} {cells slots : Nat} {ls : Array Slot} (C : lCx l p s m args c b L xs dC dI cI cS cL) (hi : i + 3 < L) (h : kRel B κ μ) (hB : B < 2 ^ 31) (hR : cells + 1 ≤ room_1.cells ∧ slots + 6 ≤ room_1.slots) (hl : lv_has ls 9 [(4, .int (nI i)), (0, .ref b), (1, .ref c0), (2, .ref (am 0)), (3, .ref oa)]) (hP : va_P (dC, dI) vwCl (zLM c0 am ad ae ah ax ar cI cS cL oa κ μ f) H) (hD : va_D (fun q => s.heap.size ≤ q) (zLM c0 am ad ae ah ax ar cI cS cL oa κ μ f)) (hS : va_S (fun q => s.heap.size ≤ q) s.heap H locs)
    (kk : ∀ (κ' : zK) (μ' : zM) (f' : Nat → Int64) (ls : Array Slot) (H : Heap) (locs : List Loc), lv_has ls 9 [(4, .int (nI i)), (0, .ref b), (1, .ref c0), (2, .ref (am 0)), (3, .ref oa)] → va_P (dC, dI) vwCl (zLM c0 am ad ae ah ax ar cI cS cL oa κ' μ' f') H → va_D (fun q => s.heap.size ≤ q) (zLM c0 am ad ae ah ax ar cI cS cL oa κ' μ' f') → va_S (fun q => s.heap.size ≤ q) s.heap H locs → kRel (B + 6500) κ' μ' → W p l e room_1 s m args below meth c H locs (cells + 1) (slots + 6) Q (F0 m 1361 ls [])) : W p l e room_1 s m args below meth c H locs cells slots Q (F0 m 1306 ls []) := by
  obtain ⟨hx, hb, hml, hown, hts, hK, hE, hNc, hN, hX, hbl, hl0, hL⟩ := C
  have hA : ∀ q, s.heap.size ≤ q → s.heap.size ≤ q := fun _ h => h
  have hn6 := h.n6
  refine lv_aload_n hx hb dL_law_1306 rfl (lv_at hl 2 rfl) ?_
  refine z_cVd (As := []) (rest := []) ⟨hx, hb, hml, hown, hts⟩ (k_X3_share l dC dI c0 ad ae ah ax cI (uS κ) h.zok) (cwV 0 hts gL_law_X3_share rfl rfl rfl (by decide +kernel) ⟨Nat.le_of_ble_eq_true rfl, Nat.le_of_ble_eq_true rfl⟩) (va_recv hK hP (ci := 3) (q0 := 7) rfl rfl) (hP.sub (ws' := zCo c0 ad ae ah ax ++ zW ad cI (uS κ)) [7, 8, 9, 10, 11, 12, 13, 14, 15, 16] rfl) (hK.sub (tys' := [(cI, .int)]) [0] rfl) rfl hl.1 rfl (Nat.le_of_ble_eq_true rfl) dL_law_1307 ⟨Nat.le_trans (Nat.le_add_right _ _) hR.1, Nat.le_trans (Nat.le_add_right _ _) hR.2⟩ (fun r3 hu3 => ?_)
  refine lv_dstore (lv' := [(5, .double r3), (4, .int (nI i)), (0, .ref b), (1, .ref c0), (2, .ref (am 0)), (3, .ref oa)]) hx hb dL_law_1310 hl (by decide) rfl (fun ls hl => ?_)
  refine lv_aload_n hx hb dL_law_1312 rfl (lv_at hl 4 rfl) ?_
  obtain ⟨hP, hD⟩ := z_swp hP hD
  refine z_xWd (wr := zLW c0 ad ae ah ax ar cI cS cL oa κ f) (As := []) (rest := []) ⟨hx, hb, hml, hown, hts⟩ (k_X4_share l dC dI am cI μ h.mok H.size) (cwV 0 hts gL_law_X4_share rfl rfl rfl (by decide +kernel) ⟨Nat.le_of_ble_eq_true rfl, Nat.le_of_ble_eq_true rfl⟩) (va_recv hK (z_swp hP hD).1 (ci := 4) (q0 := 0) rfl rfl) hP hD hS hA (hK.sub (tys' := [(cI, .int)]) [0] rfl) rfl hl.1 rfl (Nat.le_of_ble_eq_true rfl) dL_law_1313 ⟨Nat.le_trans (Nat.le_add_right _ _) hR.1, Nat.le_trans (Nat.le_add_right _ _) hR.2⟩ (fun r4 _ H locs hu4 hP hD hS => ?_)
  replace hP : va_P (dC, dI) vwCl (zLW c0 ad ae ah ax ar cI cS cL oa κ f ++ zMW am cI (mset_th μ 0)) H := hP
  replace hD : va_D (fun q => s.heap.size ≤ q) (zLW c0 ad ae ah ax ar cI cS cL oa κ f ++ zMW am cI (mset_th μ 0)) := hD
  obtain ⟨hP, hD⟩ := z_swp hP hD
  refine lv_dstore (lv' := [(7, .double r4), (5, .double r3), (4, .int (nI i)), (0, .ref b), (1, .ref c0), (2, .ref (am 0)), (3, .ref oa)]) hx hb dL_law_1316 hl (by decide) rfl (fun ls hl => ?_)
  have hnn : zNorm r4 := by rw [hu4]; exact rel_norm h hB
  have he : r3 = r4 := hu3.trans ((rel_share h).trans hu4.symm)
  subst he
  refine lv_dload hx hb dL_law_1318 (lv_at hl 1 rfl) ?_
  refine lv_dload hx hb dL_law_1320 (lv_at hl 0 rfl) ?_
  refine lv_dcmp hx hb dL_law_1322 ?_
  refine lv_if_eq (tgt := 1344) hx hb dL_law_1323 (by decide) (fun _ => ?_) (fun z => absurd (dlb_ok hnn) z)
  refine lv_goto (tgt := 1361) hx hb dL_law_1344 (by decide) ?_
  refine W.widen (k := cells + 1) (n := slots + 6) (Nat.le_add_right _ _) (Nat.le_add_right _ _) ?_
  exact kk κ (mset_th μ 0) f ls H locs (lv_sub hl [2, 3, 4, 5, 6] rfl) hP hD hS (h.same 0)
set_option maxHeartbeats 4000000 in
theorem g_digest {p : Program} {l : Launch} {e : Env} {s : State} {m : MethodId} {args : Array Value} {below : List Frame} {meth : Method} {c : Code} {Q : State → Prop} {b L : Nat} {xs : Nat → Int32} {dC : Nat → ClassId} {dI : Nat → Nat → Nat} {cI cS cL : ClassId} {c0 oa : Nat} {am ad ae ah ax : Nat → Nat} {ar : Nat → Nat → Nat} {κ : zK} {μ : zM} {f : Nat → Int64} {B i : Nat} {H : Heap} {locs : List Loc} {cells slots : Nat} {ls : Array Slot} (C : lCx l p s m args c b L xs dC dI cI cS cL) (hi : i + 3 < L) (h : kRel B κ μ) (hB : B < 2 ^ 31) (hR : cells + 1 ≤ room_1.cells ∧ slots + 6 ≤ room_1.slots) (hl : lv_has ls 9 [(4, .int (nI i)), (0, .ref b), (1, .ref c0), (2, .ref (am 0)), (3, .ref oa)]) (hP : va_P (dC, dI) vwCl (zLM c0 am ad ae ah ax ar cI cS cL oa κ μ f) H) (hD : va_D (fun q => s.heap.size ≤ q) (zLM c0 am ad ae ah ax ar cI cS cL oa κ μ f)) (hS : va_S (fun q => s.heap.size ≤ q) s.heap H locs)
    (kk : ∀ (κ' : zK) (μ' : zM) (f' : Nat → Int64) (ls : Array Slot) (H : Heap) (locs : List Loc), lv_has ls 9 [(4, .int (nI i)), (0, .ref b), (1, .ref c0), (2, .ref (am 0)), (3, .ref oa)] → va_P (dC, dI) vwCl (zLM c0 am ad ae ah ax ar cI cS cL oa κ' μ' f') H → va_D (fun q => s.heap.size ≤ q) (zLM c0 am ad ae ah ax ar cI cS cL oa κ' μ' f') → va_S (fun q => s.heap.size ≤ q) s.heap H locs → kRel (B + 6500) κ' μ' → W p l e room_1 s m args below meth c H locs (cells + 1) (slots + 6) Q (F0 m 1361 ls [])) : W p l e room_1 s m args below meth c H locs cells slots Q (F0 m 1347 ls []) := by
  obtain ⟨hx, hb, hml, hown, hts, hK, hE, hNc, hN, hX, hbl, hl0, hL⟩ := C
  have hA : ∀ q, s.heap.size ≤ q → s.heap.size ≤ q := fun _ h => h
  have hn6 := h.n6
  refine lv_aload_n hx hb dL_law_1347 rfl (lv_at hl 2 rfl) ?_
  have hq := rel_Digest h
  replace hP : va_P (dC, dI) vwCl ((zMW am cI μ ++ zOU cL oa f) ++ zCW c0 ad ae ah ax ar cI cS (uS κ) (uA κ) (uo κ) (un κ) (uh κ) (ut κ)) H := hP
  replace hD : va_D (fun q => s.heap.size ≤ q) ((zMW am cI μ ++ zOU cL oa f) ++ zCW c0 ad ae ah ax ar cI cS (uS κ) (uA κ) (uo κ) (un κ) (uh κ) (ut κ)) := hD
  refine z_xWl (wr := zMW am cI μ ++ zOU cL oa f) (As := []) (rest := []) ⟨hx, hb, hml, hown, hts⟩ (k_X3_digest l dC dI c0 ad ae ah ax ar cI cS (uS κ) (uA κ) (uo κ) (un κ) h.o6 hn6 (uh κ) (ut κ) h.zok h.bt (by rw [h.tt.2.1]; exact h.tt.2.2.1) (rel_norm' h hB) H.size) (cwV 0 hts gL_law_X3_digest rfl rfl rfl (by decide +kernel) ⟨Nat.le_of_ble_eq_true rfl, Nat.le_of_ble_eq_true rfl⟩) (va_recv hK hP (ci := 3) (q0 := 7) rfl rfl) hP hD hS hA (hK.sub (tys' := [(cI, .int), (cS, .object RX1)]) [0, 1] rfl) rfl hl.1 rfl (Nat.le_of_ble_eq_true rfl) dL_law_1348 ⟨Nat.le_trans (Nat.le_add_right _ _) hR.1, Nat.le_trans (Nat.le_add_right _ _) hR.2⟩ (fun r3 _ H locs hu3 hP hD hS => ?_)
  replace hP : va_P (dC, dI) vwCl (zMW am cI μ ++ zLW c0 ad ae ah ax ar cI cS cL oa (uSpare κ (pTurns 0 500 (uS κ) (nI 819)).1) f) H := hP
  replace hD : va_D (fun q => s.heap.size ≤ q) (zMW am cI μ ++ zLW c0 ad ae ah ax ar cI cS cL oa (uSpare κ (pTurns 0 500 (uS κ) (nI 819)).1) f) := hD
  refine lv_aload_n hx hb dL_law_1351 rfl (lv_at hl 3 rfl) ?_
  obtain ⟨hP, hD⟩ := z_swp hP hD
  refine z_xWl (wr := zLW c0 ad ae ah ax ar cI cS cL oa (uSpare κ (pTurns 0 500 (uS κ) (nI 819)).1) f) (As := []) (rest := [.long r3]) ⟨hx, hb, hml, hown, hts⟩ (k_X4_digest l dC dI am cI μ h.mok (rel_norm h hB) H.size) (cwV 0 hts gL_law_X4_digest rfl rfl rfl (by decide +kernel) ⟨Nat.le_of_ble_eq_true rfl, Nat.le_of_ble_eq_true rfl⟩) (va_recv hK (z_swp hP hD).1 (ci := 4) (q0 := 0) rfl rfl) hP hD hS hA (hK.sub (tys' := [(cI, .int)]) [0] rfl) rfl hl.1 rfl (Nat.le_of_ble_eq_true rfl) dL_law_1352 ⟨Nat.le_trans (Nat.le_add_right _ _) hR.1, Nat.le_trans (Nat.le_add_right _ _) hR.2⟩ (fun r4 _ H locs hu4 hP hD hS => ?_)
  replace hP : va_P (dC, dI) vwCl (zLW c0 ad ae ah ax ar cI cS cL oa (uSpare κ (pTurns 0 500 (uS κ) (nI 819)).1) f ++ zMW am cI (mset_h (mset_th μ 0) (pHam 0 819 500 0 (mg μ)).1)) H := hP
  replace hD : va_D (fun q => s.heap.size ≤ q) (zLW c0 ad ae ah ax ar cI cS cL oa (uSpare κ (pTurns 0 500 (uS κ) (nI 819)).1) f ++ zMW am cI (mset_h (mset_th μ 0) (pHam 0 819 500 0 (mg μ)).1)) := hD
  obtain ⟨hP, hD⟩ := z_swp hP hD
  refine W.lcmp hx hb dL_law_1355 ?_
  refine lv_if_eq (tgt := 1361) hx hb dL_law_1356 (by decide) (fun _ => ?_) (fun z => absurd ((lg_cmp_eq _ _).mpr (hu3.trans (Eq.trans hq hu4.symm))) z)
  refine W.widen (k := cells + 1) (n := slots + 6) (Nat.le_add_right _ _) (Nat.le_add_right _ _) ?_
  exact kk (uSpare κ (pTurns 0 500 (uS κ) (nI 819)).1) (mset_h (mset_th μ 0) (pHam 0 819 500 0 (mg μ)).1) f ls H locs (lv_sub hl [0, 1, 2, 3, 4] rfl) hP hD hS (h.spare _ _)
