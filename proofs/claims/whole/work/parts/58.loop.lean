/-! the law's loop -/
theorem and31 (x : Int32) : ∃ n, n < 32 ∧ x &&& 31 = nI n := by
  refine ⟨(x.toBitVec &&& 31#32).toNat, ?_, ?_⟩
  · rw [BitVec.toNat_and]
    exact Nat.lt_of_le_of_lt Nat.and_le_right (by decide)
  · apply Int32.toBitVec_inj.mp
    rw [Int32.toBitVec_and]
    show _ = BitVec.ofNat 32 _
    rw [BitVec.ofNat_toNat]
    simp
theorem len4 {L i : Nat} (hL : L ≤ 2048) (hi : i ≤ L + 3) : (nI L - 4 < nI i) ∨ i + 3 < L := by
  by_cases q : i + 3 < L
  · exact Or.inr q
  · refine Or.inl ?_
    by_cases q4 : 4 ≤ L
    · rw [show (nI L - 4 : Int32) = nI (L - 4) from pk_sub (a := L) (b := 4) q4]
      exact nI_lt (by omega) (by omega)
    · have hi' := nI_toInt (n := i) (by omega)
      rw [Int32.lt_iff_toInt_lt, hi']
      rcases (show L = 0 ∨ L = 1 ∨ L = 2 ∨ L = 3 by omega) with rfl | rfl | rfl | rfl
      · have : (nI 0 - 4).toInt = -4 := by decide
        omega
      · have : (nI 1 - 4).toInt = -3 := by decide
        omega
      · have : (nI 2 - 4).toInt = -2 := by decide
        omega
      · have : (nI 3 - 4).toInt = -1 := by decide
        omega
theorem len4' {L i : Nat} (hL : L ≤ 2048) (h : i + 3 < L) : ¬ (nI L - 4 < nI i) := by
  rw [show (nI L - 4 : Int32) = nI (L - 4) from pk_sub (a := L) (b := 4) (by omega)]
  exact nI_nlt (by omega) (by omega)
set_option maxHeartbeats 4000000 in
theorem g_loop {p : Program} {l : Launch} {e : Env} {s : State} {m : MethodId} {args : Array Value} {below : List Frame} {meth : Method} {c : Code} {Q : State → Prop} {b L : Nat} {xs : Nat → Int32} {dC : Nat → ClassId} {dI : Nat → Nat → Nat} {cI cS cL : ClassId} {c0 oa : Nat} {am ad ae ah ax : Nat → Nat} {ar : Nat → Nat → Nat} (C : lCx l p s m args c b L xs dC dI cI cS cL)
    (hend : ∀ (ls : Array Slot) (H : Heap) (locs : List Loc) (cells slots : Nat), va_S (fun q => s.heap.size ≤ q) s.heap H locs → cells ≤ 601024 → slots ≤ 7293034 → W p l e room_1 s m args below meth c H locs cells slots Q (F0 m 1367 ls [])) :
    ∀ (k i : Nat) (κ : zK) (μ : zM) (f : Nat → Int64) (H : Heap) (locs : List Loc) (cells slots : Nat) (ls : Array Slot), L + 4 - i < k → i ≤ L + 3 → kRel (1625 * i) κ μ → cells ≤ 100 + i → slots ≤ 10000 + 2 * i → lv_has ls 9 [(4, .int (nI i)), (0, .ref b), (1, .ref c0), (2, .ref (am 0)), (3, .ref oa)] → va_P (dC, dI) vwCl (zLM c0 am ad ae ah ax ar cI cS cL oa κ μ f) H → va_D (fun q => s.heap.size ≤ q) (zLM c0 am ad ae ah ax ar cI cS cL oa κ μ f) → va_S (fun q => s.heap.size ≤ q) s.heap H locs → W p l e room_1 s m args below meth c H locs cells slots Q (F0 m 23 ls []) := by
  intro k
  induction k with
  | zero => intro i κ μ f H locs cells slots ls hk; exact absurd hk (Nat.not_lt_zero _)
  | succ k ih =>
    intro i κ μ f H locs cells slots ls hk hiL h hc hs hl hP hD hS
    obtain ⟨hx, hb, hml, hown, hts, hK, hE, hNc, hN, hX, hbl, hl0, hL⟩ := id C
    refine lv_iload hx hb dL_law_23 (lv_at hl 0 rfl) ?_
    refine lv_aload_n hx hb dL_law_25 rfl (lv_at hl 1 rfl) ?_
    refine va_slen hx hb hX hbl (Nat.not_le.mpr hbl) hS dL_law_26 ?_
    refine lv_iconst (v := 4) hx hb dL_law_27 (by decide) ?_
    refine lv_isub hx hb dL_law_28 ?_
    by_cases hi : i + 3 < L
    · refine lv_icmp_gt (tgt := 1367) hx hb dL_law_29 (by decide) (fun z => absurd z (len4' hL hi)) (fun _ => ?_)
      have hR : cells + 1 ≤ room_1.cells ∧ slots + 6 ≤ room_1.slots := ⟨by show cells + 1 ≤ 601024; omega, by show slots + 6 ≤ 7293034; omega⟩
      have hB : 1625 * i < 2 ^ 31 := by omega
      have kk : ∀ (κ' : zK) (μ' : zM) (f' : Nat → Int64) (ls : Array Slot) (H : Heap) (locs : List Loc), lv_has ls 9 [(4, .int (nI i)), (0, .ref b), (1, .ref c0), (2, .ref (am 0)), (3, .ref oa)] → va_P (dC, dI) vwCl (zLM c0 am ad ae ah ax ar cI cS cL oa κ' μ' f') H → va_D (fun q => s.heap.size ≤ q) (zLM c0 am ad ae ah ax ar cI cS cL oa κ' μ' f') → va_S (fun q => s.heap.size ≤ q) s.heap H locs → kRel (1625 * i + 6500) κ' μ' → W p l e room_1 s m args below meth c H locs (cells + 1) (slots + 6) Q (F0 m 1361 ls []) := by
        intro κ' μ' f' ls H locs hl hP hD hS h'
        refine lv_iinc (v := nI (i + 4)) (lv' := [(4, .int (nI (i + 4))), (0, .ref b), (1, .ref c0), (2, .ref (am 0)), (3, .ref oa)]) hx hb dL_law_1361 hl (k := 0) rfl (z_inc4 _) (by decide) rfl (fun ls hl => ?_)
        refine lv_goto (tgt := 23) hx hb dL_law_1364 (by decide) ?_
        exact ih (i + 4) κ' μ' f' H locs (cells + 1) (slots + 6) ls (by omega) (by omega) (by rw [show 1625 * (i + 4) = 1625 * i + 6500 by omega]; exact h') (by omega) (by omega) hl hP hD hS
      refine lv_aload_n hx hb dL_law_32 rfl (lv_at hl 1 rfl) ?_
      refine lv_iload hx hb dL_law_33 (lv_at hl 0 rfl) ?_
      refine z_sld hx hb hX hbl hS i (by omega) hL dL_law_35 ?_
      refine lv_bipush (v := 31) hx hb dL_law_36 (by decide) ?_
      refine lv_iand hx hb dL_law_38 ?_
      obtain ⟨n, hn, hn2⟩ := and31 (xs i)
      rw [hn2]
      clear hn2
      have hdef : W p l e room_1 s m args below meth c H locs cells slots Q (F0 m 1361 ls []) := by
        refine W.widen (k := cells + 1) (n := slots + 6) (Nat.le_add_right _ _) (Nat.le_add_right _ _) ?_
        exact kk κ μ f ls H locs hl hP hD hS (h.mono (by omega))
      rcases (show n = 0 ∨ n = 1 ∨ n = 2 ∨ n = 3 ∨ n = 4 ∨ n = 5 ∨ n = 6 ∨ n = 7 ∨ n = 8 ∨ n = 9 ∨ n = 10 ∨ n = 11 ∨ n = 12 ∨ n = 13 ∨ n = 14 ∨ n = 15 ∨ n = 16 ∨ n = 17 ∨ n = 18 ∨ n = 19 ∨ n = 20 ∨ n = 21 ∨ 22 ≤ n by omega) with rfl | rfl | rfl | rfl | rfl | rfl | rfl | rfl | rfl | rfl | rfl | rfl | rfl | rfl | rfl | rfl | rfl | rfl | rfl | rfl | rfl | rfl | hn3
      · refine lv_tableIn (x := nI 0) (off := 101) (tgt := 140) hx hb dL_law_39 (by decide) (by decide) rfl (by decide) ?_
        exact g_write C hi h hB hR hl hP hD hS kk
      · refine lv_tableIn (x := nI 1) (off := 169) (tgt := 208) hx hb dL_law_39 (by decide) (by decide) rfl (by decide) ?_
        exact g_hammer C hi h hB hR hl hP hD hS kk
      · refine lv_tableIn (x := nI 2) (off := 249) (tgt := 288) hx hb dL_law_39 (by decide) (by decide) rfl (by decide) ?_
        exact g_exchange C hi h hB hR hl hP hD hS kk
      · refine lv_tableIn (x := nI 3) (off := 317) (tgt := 356) hx hb dL_law_39 (by decide) (by decide) rfl (by decide) ?_
        exact g_wear C hi h hB hR hl hP hD hS kk
      · refine lv_tableIn (x := nI 4) (off := 397) (tgt := 436) hx hb dL_law_39 (by decide) (by decide) rfl (by decide) ?_
        exact g_set C hi h hB hR hl hP hD hS kk
      · refine lv_tableIn (x := nI 5) (off := 465) (tgt := 504) hx hb dL_law_39 (by decide) (by decide) rfl (by decide) ?_
        exact g_append C hi h hB hR hl hP hD hS kk
      · refine lv_tableIn (x := nI 6) (off := 521) (tgt := 560) hx hb dL_law_39 (by decide) (by decide) rfl (by decide) ?_
        exact g_clearBuffer C hi h hB hR hl hP hD hS kk
      · refine lv_tableIn (x := nI 7) (off := 534) (tgt := 573) hx hb dL_law_39 (by decide) (by decide) rfl (by decide) ?_
        exact g_firstError C hi h hB hR hl hP hD hS kk
      · refine lv_tableIn (x := nI 8) (off := 547) (tgt := 586) hx hb dL_law_39 (by decide) (by decide) rfl (by decide) ?_
        exact g_writeAll C hi h hB hR hl hP hD hS kk
      · refine lv_tableIn (x := nI 9) (off := 591) (tgt := 630) hx hb dL_law_39 (by decide) (by decide) rfl (by decide) ?_
        exact g_undo C hi h hB hR hl hP hD hS kk
      · refine lv_tableIn (x := nI 10) (off := 635) (tgt := 674) hx hb dL_law_39 (by decide) (by decide) rfl (by decide) ?_
        exact g_read C hi h hB hR hl hP hD hS kk
      · refine lv_tableIn (x := nI 11) (off := 691) (tgt := 730) hx hb dL_law_39 (by decide) (by decide) rfl (by decide) ?_
        exact g_word C hi h hB hR hl hP hD hS kk
      · refine lv_tableIn (x := nI 12) (off := 759) (tgt := 798) hx hb dL_law_39 (by decide) (by decide) rfl (by decide) ?_
        exact g_slot C hi h hB hR hl hP hD hS kk
      · refine lv_tableIn (x := nI 13) (off := 827) (tgt := 866) hx hb dL_law_39 (by decide) (by decide) rfl (by decide) ?_
        exact g_wearOf C hi h hB hR hl hP hD hS kk
      · refine lv_tableIn (x := nI 14) (off := 895) (tgt := 934) hx hb dL_law_39 (by decide) (by decide) rfl (by decide) ?_
        exact g_count C hi h hB hR hl hP hD hS kk
      · refine lv_tableIn (x := nI 15) (off := 951) (tgt := 990) hx hb dL_law_39 (by decide) (by decide) rfl (by decide) ?_
        exact g_setting C hi h hB hR hl hP hD hS kk
      · refine lv_tableIn (x := nI 16) (off := 1007) (tgt := 1046) hx hb dL_law_39 (by decide) (by decide) rfl (by decide) ?_
        exact g_cost C hi h hB hR hl hP hD hS kk
      · refine lv_tableIn (x := nI 17) (off := 1075) (tgt := 1114) hx hb dL_law_39 (by decide) (by decide) rfl (by decide) ?_
        exact g_ifWritten C hi h hB hR hl hP hD hS kk
      · refine lv_tableIn (x := nI 18) (off := 1143) (tgt := 1182) hx hb dL_law_39 (by decide) (by decide) rfl (by decide) ?_
        exact g_costliest C hi h hB hR hl hP hD hS kk
      · refine lv_tableIn (x := nI 19) (off := 1199) (tgt := 1238) hx hb dL_law_39 (by decide) (by decide) rfl (by decide) ?_
        exact g_life C hi h hB hR hl hP hD hS kk
      · refine lv_tableIn (x := nI 20) (off := 1267) (tgt := 1306) hx hb dL_law_39 (by decide) (by decide) rfl (by decide) ?_
        exact g_share C hi h hB hR hl hP hD hS kk
      · refine lv_tableIn (x := nI 21) (off := 1308) (tgt := 1347) hx hb dL_law_39 (by decide) (by decide) rfl (by decide) ?_
        exact g_digest C hi h hB hR hl hP hD hS kk
      · refine lv_tableOut (x := nI n) (tgt := 1361) hx hb dL_law_39 (Or.inr (by rw [nI_toInt (by omega)]; omega)) (by decide) ?_
        exact hdef
    · refine lv_icmp_gt (tgt := 1367) hx hb dL_law_29 (by decide) (fun _ => ?_) (fun z => ?_)
      · exact hend ls H locs cells slots hS (by omega) (by omega)
      · exact absurd ((len4 hL hiL).resolve_right hi) z
