abbrev rX4_copies : Room := { frames := 0, cells := 0, slots := 0, locals := 0 }
set_option maxHeartbeats 4000000 in
set_option maxRecDepth 100000 in
theorem k_X4_copies (l : Launch) (dC : Nat → ClassId) (dI : Nat → Nat → Nat) (b a : Nat) (cI : ClassId) (n1 n2 : Nat) (f t : Nat → Int32) (hn1 : n1 < 2 ^ 30) (hn2 : n2 < 2 ^ 30) (fa ta : Nat) (hf : fa + 323 ≤ n1) (ht : ta + 323 ≤ n2) (sz : Nat) : zWv (S := Unit) l yX4_copies wsX4_copies rX4_copies (dC, dI) [.ref b, .int (nI fa), .ref a, .int (nI ta)] [(b, .inl (cI, n1, .inl f)), (a, .inl (cI, n2, .inl t))] [(cI, .int)] sz (fun _ : Unit => True) (fun _ => [(b, .inl (cI, n1, .inl f)), (a, .inl (cI, n2, .inl (va_cpy f t fa ta 323)))]) 0 0 := by
  refine zWv_of (cc := cX4_copies) (maxL := 5) (by decide) rfl (Nat.le_of_ble_eq_true rfl) ?_
  intro p e s m args below meth cd Q ls A hat hname hP hK hD hA hend
  obtain ⟨hx, hb, hml, hown, hts, hl⟩ := hat
  replace hown : s.vm.findClass RX4 = some m.cls := hown
  replace hl : lv_has ls 5 [(0, .ref b), (1, .int (nI fa)), (2, .ref a), (3, .int (nI ta))] := hl
  replace hP : va_P (dC, dI) vwCl [(b, .inl (cI, n1, .inl f)), (a, .inl (cI, n2, .inl t))] s.heap := hP
  replace hD : va_D A [(b, .inl (cI, n1, .inl f)), (a, .inl (cI, n2, .inl t))] := hD
  have hS : va_S A s.heap s.heap [] := va_S.rf
  refine lv_iconst (v := 0) hx hb dX4_copies_0 (by decide) ?_
  refine lv_istore (lv' := [(4, .int 0), (0, .ref b), (1, .int (nI fa)), (2, .ref a), (3, .int (nI ta))]) hx hb dX4_copies_1 hl (by decide) rfl (fun ls hl => ?_)
  have hC_3 : ∀ (nf : Nat) (u : Nat → Int32) (c : Nat) (ls : Array Slot) (H : Heap) (locs : List Loc), 323 - c < nf → lv_has ls 5 [(0, .ref b), (1, .int (nI fa)), (2, .ref a), (3, .int (nI ta)), (4, .int (nI c))] → (c ≤ 323) → (u = va_cpy f t fa ta c) → va_P (dC, dI) vwCl [(b, .inl (cI, n1, .inl f)), (a, .inl (cI, n2, .inl u))] H → va_D A [(b, .inl (cI, n1, .inl f)), (a, .inl (cI, n2, .inl u))] → va_S A s.heap H locs → W p l e rX4_copies s m args below meth cd H locs 0 0 Q (F0 m 3 ls []) := by
    intro nf
    induction nf with
    | zero => intro u c ls H locs hm_3 hl hc eu hP hD hS; exact absurd hm_3 (Nat.not_lt_zero _)
    | succ nf ih_3 =>
      intro u c ls H locs hm_3 hl hc eu hP hD hS
      refine lv_iload hx hb dX4_copies_3 (lv_at hl 4 rfl) ?_
      refine lv_sipush (v := 323) hx hb dX4_copies_5 (by decide) ?_
      refine z_ge hx hb c 323 (by omega) (by omega) (tgt := 29) dX4_copies_8 (by decide) (fun c_1 => ?_) (fun c_1 => ?_)
      · skip
        rw [eu, show c = 323 by omega] at hP hD
        exact hend () _ _ _ _ trivial hP hD hS dX4_copies_29
      · skip
        refine lv_aload_n hx hb dX4_copies_11 rfl (lv_at hl 2 rfl) ?_
        refine lv_iload_n hx hb dX4_copies_12 rfl (lv_at hl 3 rfl) ?_
        refine lv_iload hx hb dX4_copies_13 (lv_at hl 4 rfl) ?_
        refine z_iadd hx hb ta c dX4_copies_15 ?_
        refine lv_aload_n hx hb dX4_copies_16 rfl (lv_at hl 0 rfl) ?_
        refine lv_iload_n hx hb dX4_copies_17 rfl (lv_at hl 1 rfl) ?_
        refine lv_iload hx hb dX4_copies_18 (lv_at hl 4 rfl) ?_
        refine z_iadd hx hb fa c dX4_copies_20 ?_
        refine z_ald hx hb hK hP 0 0 (fa + c) (f := f) rfl rfl (by first | omega | decide) (by first | decide | omega) dX4_copies_21 ?_
        refine z_ast hx hb hK hP hD hS 1 0 (ta + c) (f := u) rfl rfl (by first | omega | decide) (by first | decide | omega) dX4_copies_22 (fun H locs (hP : va_P (dC, dI) vwCl [(b, .inl (cI, n1, .inl f)), (a, .inl (cI, n2, .inl (upd u (ta + c) (f (fa + c)))))] H) (hD : va_D A [(b, .inl (cI, n1, .inl f)), (a, .inl (cI, n2, .inl (upd u (ta + c) (f (fa + c)))))]) hS => ?_)
        refine lv_iinc (v := nI (c + 1)) (lv' := [(4, .int (nI (c + 1))), (0, .ref b), (1, .int (nI fa)), (2, .ref a), (3, .int (nI ta))]) hx hb dX4_copies_23 hl (k := 4) rfl (z_inc1 _) (by decide) rfl (fun ls hl => ?_)
        refine lv_goto (tgt := 3) hx hb dX4_copies_26 (by decide) ?_
        exact ih_3 (upd u (ta + c) (f (fa + c))) (c + 1) _ _ _ (by omega) (lv_sub hl [1, 2, 3, 4, 0] rfl) (by omega) (by rw [eu, cpy_s]) hP hD hS
  exact hC_3 _ t 0 _ _ _ (Nat.lt_succ_self _) (lv_sub hl [1, 2, 3, 4, 0] rfl) (by omega) (by rw [cpy_0]) hP hD hS

abbrev rX4_writes : Room := { frames := 5, cells := 0, slots := 0, locals := 121 }
set_option maxHeartbeats 4000000 in
set_option maxRecDepth 100000 in
theorem k_X4_writes (l : Launch) (dC : Nat → ClassId) (dI : Nat → Nat → Nat) (a : Nat) (cI : ClassId) (g : Nat → Int32) (hok : gok g) (hbt : gbt g) (j : Nat) (hj : j < 16) (v : Nat) (hv : v < 4096) (sz : Nat) : zWi (S := Unit) l yX4_writes wsX4_writes rX4_writes (dC, dI) [.ref a, .int (nI j), .int (nI v)] [(a, .inl (cI, 323, .inl g))] [(cI, .int)] sz (fun r (_ : Unit) => r = pWres g j v) (fun _ => [(a, .inl (cI, 323, .inl (pWst g j v)))]) 0 0 := by
  refine zWi_of (cc := cX4_writes) (maxL := 8) (ty := .int) (by decide) rfl (Nat.le_of_ble_eq_true rfl) (fun _ _ _ => rfl) ?_
  intro p e s m args below meth cd Q ls A hat hP hK hD hA hend
  obtain ⟨hx, hb, hml, hown, hts, hl⟩ := hat
  replace hown : s.vm.findClass RX4 = some m.cls := hown
  replace hl : lv_has ls 8 [(0, .ref a), (1, .int (nI j)), (2, .int (nI v))] := hl
  replace hP : va_P (dC, dI) vwCl [(a, .inl (cI, 323, .inl g))] s.heap := hP
  replace hD : va_D A [(a, .inl (cI, 323, .inl g))] := hD
  have hS : va_S A s.heap s.heap [] := va_S.rf
  refine lv_aload_n hx hb dX4_writes_0 rfl (lv_at hl 0 rfl) ?_
  refine lv_iload_n hx hb dX4_writes_1 rfl (lv_at hl 1 rfl) ?_
  refine lv_iload_n hx hb dX4_writes_2 rfl (lv_at hl 2 rfl) ?_
  refine z_cSi (As := [.ref a, .int (nI j), .int (nI v)]) (rest := []) ⟨hx, hb, hml, hown, hts⟩ (k_X4_goesTo l dC dI a cI g hok hbt j (by omega) v (by omega)) (va_cwS 3 hts gX4_writes_X4_goesTo rfl rfl rfl (by decide +kernel) ⟨Nat.le_of_ble_eq_true rfl, Nat.le_of_ble_eq_true rfl⟩) (hP.sub (ws' := [(a, .inl (cI, 323, .inl g))]) [0] rfl) (hK.sub (tys' := [(cI, .int)]) [0] rfl) rfl hl.1 rfl (Nat.le_of_ble_eq_true rfl) dX4_writes_3 ⟨Nat.le_of_ble_eq_true rfl, Nat.le_of_ble_eq_true rfl⟩ (fun r_1 hr_1 => ?_)
  obtain ⟨o_2, eo_2⟩ : ∃ zz : Option Nat, zz = ptg (gS g) j (nI v) := ⟨_, rfl⟩
  rw [← eo_2] at hr_1
  subst hr_1
  have hbo_2 : ∀ i, o_2 = some i → i < 18 := by rw [eo_2]; exact ptg_lt ((hok _ (by omega)).1)
  refine lv_istore_n (lv' := [(3, .int (zo o_2)), (0, .ref a), (1, .int (nI j)), (2, .int (nI v))]) hx hb dX4_writes_6 rfl hl (by decide) rfl (fun ls hl => ?_)
  refine lv_iload_n hx hb dX4_writes_7 rfl (lv_at hl 0 rfl) ?_
  refine lv_iconst (v := (-1)) hx hb dX4_writes_8 (by decide) ?_
  refine z_neO hx hb o_2 (fun i hi => Nat.lt_of_lt_of_le (hbo_2 i hi) (by decide)) (tgt := 14) dX4_writes_9 (by decide) (fun k_3 ho_3 => ?_) (fun ho_3 => ?_)
  · skip
    have hE_3 := eo_2.symm.trans ho_3
    have hkb_3 := hbo_2 _ ho_3
    try rw [ho_3] at hl
    try rw [ho_3]
    replace hl : lv_has ls 8 [(3, .int (nI k_3)), (0, .ref a), (1, .int (nI j)), (2, .int (nI v))] := hl
    have hEs := hE_3
    have hwy := ptg_way hEs
    refine lv_iload_n hx hb dX4_writes_14 rfl (lv_at hl 0 rfl) ?_
    refine lv_aload_n hx hb dX4_writes_15 rfl (lv_at hl 1 rfl) ?_
    refine lv_sipush (v := 259) hx hb dX4_writes_16 (by decide) ?_
    refine lv_iload_n hx hb dX4_writes_19 rfl (lv_at hl 2 rfl) ?_
    refine z_iadd hx hb 259 j dX4_writes_20 ?_
    refine z_ald hx hb hK hP 0 0 (259 + j) (f := g) rfl rfl (by first | omega | decide) (by first | decide | omega) dX4_writes_21 ?_
    refine z_top (hok j (by omega)).2 ?_
    have hq_4 := (hok j (by omega)).1
    have hJ_5 : ∀ b_5 : Int32, b_5 = (if k_3 ≠ (gpl g j) then 1 else 0) → W p l e rX4_writes s m args below meth cd s.heap [] 0 0 Q (F0 m 30 ls (.int b_5 :: [])) := by
      intro b_5 eb_5
      refine lv_istore (lv' := [(4, .int b_5), (3, .int (nI k_3)), (0, .ref a), (1, .int (nI j)), (2, .int (nI v))]) hx hb dX4_writes_30 hl (by decide) rfl (fun ls hl => ?_)
      refine lv_aload_n hx hb dX4_writes_32 rfl (lv_at hl 2 rfl) ?_
      refine lv_iload_n hx hb dX4_writes_33 rfl (lv_at hl 1 rfl) ?_
      refine lv_iload_n hx hb dX4_writes_34 rfl (lv_at hl 4 rfl) ?_
      refine lv_aload_n hx hb dX4_writes_35 rfl (lv_at hl 2 rfl) ?_
      refine lv_iload_n hx hb dX4_writes_36 rfl (lv_at hl 1 rfl) ?_
      refine z_cSi (As := [.ref a, .int (nI k_3)]) (rest := [.int (nI v), .int (nI k_3), .ref a]) ⟨hx, hb, hml, hown, hts⟩ (k_X4_stuck l dC dI a cI g hok hbt k_3 (by omega)) (va_cwS 2 hts gX4_writes_X4_stuck rfl rfl rfl (by decide +kernel) ⟨Nat.le_of_ble_eq_true rfl, Nat.le_of_ble_eq_true rfl⟩) (hP.sub (ws' := [(a, .inl (cI, 323, .inl g))]) [0] rfl) (hK.sub (tys' := [(cI, .int)]) [0] rfl) rfl hl.1 rfl (Nat.le_of_ble_eq_true rfl) dX4_writes_37 ⟨Nat.le_of_ble_eq_true rfl, Nat.le_of_ble_eq_true rfl⟩ (fun r_6 hr_6 => ?_)
      subst hr_6
      refine z_cSi (As := [.ref a, .int (nI k_3), .int (nI v), .int (pst (gS g) k_3)]) (rest := []) ⟨hx, hb, hml, hown, hts⟩ (k_X4_taken l dC dI a cI g hok hbt k_3 (by omega) v (by omega) (pst (gS g) k_3)) (va_cwS 4 hts gX4_writes_X4_taken rfl rfl rfl (by decide +kernel) ⟨Nat.le_of_ble_eq_true rfl, Nat.le_of_ble_eq_true rfl⟩) (hP.sub (ws' := [(a, .inl (cI, 323, .inl g))]) [0] rfl) (hK.sub (tys' := [(cI, .int)]) [0] rfl) rfl hl.1 rfl (Nat.le_of_ble_eq_true rfl) dX4_writes_40 ⟨Nat.le_of_ble_eq_true rfl, Nat.le_of_ble_eq_true rfl⟩ (fun r_7 hr_7 => ?_)
      subst hr_7
      refine lv_istore (lv' := [(5, .int (pWay (g (7 + k_3)) (nI v) (pst (gS g) k_3))), (4, .int b_5), (3, .int (nI k_3)), (0, .ref a), (1, .int (nI j)), (2, .int (nI v))]) hx hb dX4_writes_43 hl (by decide) rfl (fun ls hl => ?_)
      refine lv_aload_n hx hb dX4_writes_45 rfl (lv_at hl 3 rfl) ?_
      refine lv_bipush (v := 7) hx hb dX4_writes_46 (by decide) ?_
      refine lv_iload_n hx hb dX4_writes_48 rfl (lv_at hl 2 rfl) ?_
      refine z_iadd hx hb 7 k_3 dX4_writes_49 ?_
      refine z_ald hx hb hK hP 0 0 (7 + k_3) (f := g) rfl rfl (by first | omega | decide) (by first | decide | omega) dX4_writes_50 ?_
      refine lv_iload hx hb dX4_writes_51 (lv_at hl 0 rfl) ?_
      refine lv_ixor hx hb dX4_writes_53 ?_
      refine lv_istore (lv' := [(6, .int ((g (7 + k_3)) ^^^ (pWay (g (7 + k_3)) (nI v) (pst (gS g) k_3)))), (5, .int (pWay (g (7 + k_3)) (nI v) (pst (gS g) k_3))), (4, .int b_5), (3, .int (nI k_3)), (0, .ref a), (1, .int (nI j)), (2, .int (nI v))]) hx hb dX4_writes_54 hl (by decide) rfl (fun ls hl => ?_)
      refine lv_aload_n hx hb dX4_writes_56 rfl (lv_at hl 4 rfl) ?_
      refine lv_iconst (v := 2) hx hb dX4_writes_57 (by decide) ?_
      refine lv_dup2_11 hx hb dX4_writes_58 rfl rfl ?_
      refine z_ald hx hb hK hP 0 0 2 (f := g) rfl rfl (by first | omega | decide) (by first | decide | omega) dX4_writes_59 ?_
      refine lv_iconst (v := 1) hx hb dX4_writes_60 (by decide) ?_
      refine lv_iadd hx hb dX4_writes_61 ?_
      refine z_ast hx hb hK hP hD hS 0 0 2 (f := g) rfl rfl (by first | omega | decide) (by first | decide | omega) dX4_writes_62 (fun H locs (hP : va_P (dC, dI) vwCl [(a, .inl (cI, 323, .inl (upd g 2 ((g 2) + 1))))] H) (hD : va_D A [(a, .inl (cI, 323, .inl (upd g 2 ((g 2) + 1))))]) hS => ?_)
      obtain ⟨f_8, ef_8⟩ : ∃ zz : Nat → Int32, zz = (upd g 2 ((g 2) + 1)) := ⟨_, rfl⟩
      rw [← ef_8] at hP hD
      have hok_8 : gok f_8 := by rw [ef_8]; exact gok_upd hok (by omega)
      have hbt_8 : gbt f_8 := by rw [ef_8]; exact gbt_upd hbt (by omega)
      refine lv_aload_n hx hb dX4_writes_63 rfl (lv_at hl 4 rfl) ?_
      refine lv_iconst (v := 3) hx hb dX4_writes_64 (by decide) ?_
      refine lv_dup2_11 hx hb dX4_writes_65 rfl rfl ?_
      refine z_ald hx hb hK hP 0 0 3 (f := f_8) rfl rfl (by first | omega | decide) (by first | decide | omega) dX4_writes_66 ?_
      refine lv_iload hx hb dX4_writes_67 (lv_at hl 0 rfl) ?_
      refine z_cSi (As := [.int ((g (7 + k_3)) ^^^ (pWay (g (7 + k_3)) (nI v) (pst (gS g) k_3)))]) (rest := [.int (f_8 3), .int 3, .ref a]) ⟨hx, hb, hml, hown, hts⟩ (k_X4_ones l dC dI ((g (7 + k_3)) ^^^ (pWay (g (7 + k_3)) (nI v) (pst (gS g) k_3))) (z13_xor (hbt _ (by omega)) (pWay_13 (by omega) hwy))) (va_cwS 1 hts gX4_writes_X4_ones rfl rfl rfl (by decide +kernel) ⟨Nat.le_of_ble_eq_true rfl, Nat.le_of_ble_eq_true rfl⟩) (hP.sub (ws' := []) [] rfl) (hK.sub (tys' := []) [] rfl) rfl hl.1 rfl (Nat.le_of_ble_eq_true rfl) dX4_writes_69 ⟨Nat.le_of_ble_eq_true rfl, Nat.le_of_ble_eq_true rfl⟩ (fun r_9 hr_9 => ?_)
      subst hr_9
      refine lv_iadd hx hb dX4_writes_72 ?_
      refine z_ast hx hb hK hP hD hS 0 0 3 (f := f_8) rfl rfl (by first | omega | decide) (by first | decide | omega) dX4_writes_73 (fun H locs (hP : va_P (dC, dI) vwCl [(a, .inl (cI, 323, .inl (upd f_8 3 ((f_8 3) + (pBC ((g (7 + k_3)) ^^^ (pWay (g (7 + k_3)) (nI v) (pst (gS g) k_3))))))))] H) (hD : va_D A [(a, .inl (cI, 323, .inl (upd f_8 3 ((f_8 3) + (pBC ((g (7 + k_3)) ^^^ (pWay (g (7 + k_3)) (nI v) (pst (gS g) k_3))))))))]) hS => ?_)
      obtain ⟨f_10, ef_10⟩ : ∃ zz : Nat → Int32, zz = (upd f_8 3 ((f_8 3) + (pBC ((g (7 + k_3)) ^^^ (pWay (g (7 + k_3)) (nI v) (pst (gS g) k_3)))))) := ⟨_, rfl⟩
      rw [← ef_10] at hP hD
      have hok_10 : gok f_10 := by rw [ef_10]; exact gok_upd hok_8 (by omega)
      have hbt_10 : gbt f_10 := by rw [ef_10]; exact gbt_upd hbt_8 (by omega)
      refine lv_aload_n hx hb dX4_writes_74 rfl (lv_at hl 4 rfl) ?_
      refine lv_iconst (v := 4) hx hb dX4_writes_75 (by decide) ?_
      refine lv_dup2_11 hx hb dX4_writes_76 rfl rfl ?_
      refine z_ald hx hb hK hP 0 0 4 (f := f_10) rfl rfl (by first | omega | decide) (by first | decide | omega) dX4_writes_77 ?_
      refine lv_aload_n hx hb dX4_writes_78 rfl (lv_at hl 4 rfl) ?_
      refine lv_iload_n hx hb dX4_writes_79 rfl (lv_at hl 5 rfl) ?_
      refine z_cSi (As := [.ref a, .int (nI j)]) (rest := [.int (f_10 4), .int 4, .ref a]) ⟨hx, hb, hml, hown, hts⟩ (k_X4_reads l dC dI a cI f_10 hok_10 hbt_10 j (by omega)) (va_cwS 2 hts gX4_writes_X4_reads rfl rfl rfl (by decide +kernel) ⟨Nat.le_of_ble_eq_true rfl, Nat.le_of_ble_eq_true rfl⟩) (hP.sub (ws' := [(a, .inl (cI, 323, .inl f_10))]) [0] rfl) (hK.sub (tys' := [(cI, .int)]) [0] rfl) rfl hl.1 rfl (Nat.le_of_ble_eq_true rfl) dX4_writes_80 ⟨Nat.le_of_ble_eq_true rfl, Nat.le_of_ble_eq_true rfl⟩ (fun r_11 hr_11 => ?_)
      subst hr_11
      refine lv_iload_n hx hb dX4_writes_83 rfl (lv_at hl 6 rfl) ?_
      refine lv_ixor hx hb dX4_writes_84 ?_
      refine z_cSi (As := [.int ((pnm (gS f_10) j) ^^^ (nI v))]) (rest := [.int (f_10 4), .int 4, .ref a]) ⟨hx, hb, hml, hown, hts⟩ (k_X4_ones l dC dI ((pnm (gS f_10) j) ^^^ (nI v)) (z13_xor (pNum_13 (hbt_10 _ (hok_10 _ (by omega)).1)) (z13_nI (by omega)))) (va_cwS 1 hts gX4_writes_X4_ones rfl rfl rfl (by decide +kernel) ⟨Nat.le_of_ble_eq_true rfl, Nat.le_of_ble_eq_true rfl⟩) (hP.sub (ws' := []) [] rfl) (hK.sub (tys' := []) [] rfl) rfl hl.1 rfl (Nat.le_of_ble_eq_true rfl) dX4_writes_85 ⟨Nat.le_of_ble_eq_true rfl, Nat.le_of_ble_eq_true rfl⟩ (fun r_12 hr_12 => ?_)
      subst hr_12
      refine lv_iadd hx hb dX4_writes_88 ?_
      refine z_ast hx hb hK hP hD hS 0 0 4 (f := f_10) rfl rfl (by first | omega | decide) (by first | decide | omega) dX4_writes_89 (fun H locs (hP : va_P (dC, dI) vwCl [(a, .inl (cI, 323, .inl (upd f_10 4 ((f_10 4) + (pBC ((pnm (gS f_10) j) ^^^ (nI v)))))))] H) (hD : va_D A [(a, .inl (cI, 323, .inl (upd f_10 4 ((f_10 4) + (pBC ((pnm (gS f_10) j) ^^^ (nI v)))))))]) hS => ?_)
      obtain ⟨f_13, ef_13⟩ : ∃ zz : Nat → Int32, zz = (upd f_10 4 ((f_10 4) + (pBC ((pnm (gS f_10) j) ^^^ (nI v))))) := ⟨_, rfl⟩
      rw [← ef_13] at hP hD
      have hok_13 : gok f_13 := by rw [ef_13]; exact gok_upd hok_10 (by omega)
      have hbt_13 : gbt f_13 := by rw [ef_13]; exact gbt_upd hbt_10 (by omega)
      refine lv_aload_n hx hb dX4_writes_90 rfl (lv_at hl 4 rfl) ?_
      refine lv_iconst (v := 5) hx hb dX4_writes_91 (by decide) ?_
      refine lv_dup2_11 hx hb dX4_writes_92 rfl rfl ?_
      refine z_ald hx hb hK hP 0 0 5 (f := f_13) rfl rfl (by first | omega | decide) (by first | decide | omega) dX4_writes_93 ?_
      refine lv_iload hx hb dX4_writes_94 (lv_at hl 2 rfl) ?_
      have hJ_14 : ∀ b_14 : Int32, b_14 = (if k_3 ≠ (gpl g j) then 1 else 0) → W p l e rX4_writes s m args below meth cd H locs 0 0 Q (F0 m 104 ls (.int b_14 :: [.int (f_13 5), .int 5, .ref a])) := by
        intro b_14 eb_14
        refine lv_iadd hx hb dX4_writes_104 ?_
        refine z_ast hx hb hK hP hD hS 0 0 5 (f := f_13) rfl rfl (by first | omega | decide) (by first | decide | omega) dX4_writes_105 (fun H locs (hP : va_P (dC, dI) vwCl [(a, .inl (cI, 323, .inl (upd f_13 5 ((f_13 5) + b_14))))] H) (hD : va_D A [(a, .inl (cI, 323, .inl (upd f_13 5 ((f_13 5) + b_14))))]) hS => ?_)
        obtain ⟨f_15, ef_15⟩ : ∃ zz : Nat → Int32, zz = (upd f_13 5 ((f_13 5) + b_14)) := ⟨_, rfl⟩
        rw [← ef_15] at hP hD
        have hok_15 : gok f_15 := by rw [ef_15]; exact gok_upd hok_13 (by omega)
        have hbt_15 : gbt f_15 := by rw [ef_15]; exact gbt_upd hbt_13 (by omega)
        refine lv_aload_n hx hb dX4_writes_106 rfl (lv_at hl 4 rfl) ?_
        refine lv_bipush (v := 6) hx hb dX4_writes_107 (by decide) ?_
        refine lv_dup2_11 hx hb dX4_writes_109 rfl rfl ?_
        refine z_ald hx hb hK hP 0 0 6 (f := f_15) rfl rfl (by first | omega | decide) (by first | decide | omega) dX4_writes_110 ?_
        refine lv_iload hx hb dX4_writes_111 (lv_at hl 1 rfl) ?_
        refine lv_sipush (v := 4096) hx hb dX4_writes_113 (by decide) ?_
        have hJ_16 : ∀ b_16 : Int32, b_16 = (if 4096 ≤ (pWay (g (7 + k_3)) (nI v) (pst (gS g) k_3)) then 1 else 0) → W p l e rX4_writes s m args below meth cd H locs 0 0 Q (F0 m 124 ls (.int b_16 :: [.int (f_15 6), .int 6, .ref a])) := by
          intro b_16 eb_16
          refine lv_iadd hx hb dX4_writes_124 ?_
          refine z_ast hx hb hK hP hD hS 0 0 6 (f := f_15) rfl rfl (by first | omega | decide) (by first | decide | omega) dX4_writes_125 (fun H locs (hP : va_P (dC, dI) vwCl [(a, .inl (cI, 323, .inl (upd f_15 6 ((f_15 6) + b_16))))] H) (hD : va_D A [(a, .inl (cI, 323, .inl (upd f_15 6 ((f_15 6) + b_16))))]) hS => ?_)
          obtain ⟨f_17, ef_17⟩ : ∃ zz : Nat → Int32, zz = (upd f_15 6 ((f_15 6) + b_16)) := ⟨_, rfl⟩
          rw [← ef_17] at hP hD
          have hok_17 : gok f_17 := by rw [ef_17]; exact gok_upd hok_15 (by omega)
          have hbt_17 : gbt f_17 := by rw [ef_17]; exact gbt_upd hbt_15 (by omega)
          refine lv_iconst (v := 0) hx hb dX4_writes_126 (by decide) ?_
          refine lv_istore (lv' := [(7, .int 0), (6, .int ((g (7 + k_3)) ^^^ (pWay (g (7 + k_3)) (nI v) (pst (gS g) k_3)))), (5, .int (pWay (g (7 + k_3)) (nI v) (pst (gS g) k_3))), (4, .int b_5), (3, .int (nI k_3)), (0, .ref a), (1, .int (nI j)), (2, .int (nI v))]) hx hb dX4_writes_127 hl (by decide) rfl (fun ls hl => ?_)
          have hC_129 : ∀ (nf : Nat) (u : Nat → Int32) (c : Nat) (ls : Array Slot) (H : Heap) (locs : List Loc), 13 - c < nf → lv_has ls 8 [(0, .ref a), (1, .int (nI j)), (2, .int (nI v)), (3, .int (nI k_3)), (4, .int b_5), (5, .int (pWay (g (7 + k_3)) (nI v) (pst (gS g) k_3))), (6, .int ((g (7 + k_3)) ^^^ (pWay (g (7 + k_3)) (nI v) (pst (gS g) k_3)))), (7, .int (nI c))] → (c ≤ 13) → (u = pGw f_17 (k_3 * 13) ((g (7 + k_3)) ^^^ (pWay (g (7 + k_3)) (nI v) (pst (gS g) k_3))) c) → va_P (dC, dI) vwCl [(a, .inl (cI, 323, .inl u))] H → va_D A [(a, .inl (cI, 323, .inl u))] → va_S A s.heap H locs → W p l e rX4_writes s m args below meth cd H locs 0 0 Q (F0 m 129 ls []) := by
            intro nf
            induction nf with
            | zero => intro u c ls H locs hm_129 hl hc eu hP hD hS; exact absurd hm_129 (Nat.not_lt_zero _)
            | succ nf ih_129 =>
              intro u c ls H locs hm_129 hl hc eu hP hD hS
              refine lv_iload hx hb dX4_writes_129 (lv_at hl 7 rfl) ?_
              refine lv_bipush (v := 13) hx hb dX4_writes_131 (by decide) ?_
              refine z_ge hx hb c 13 (by omega) (by omega) (tgt := 164) dX4_writes_133 (by decide) (fun c_18 => ?_) (fun c_18 => ?_)
              · skip
                have hc13 : c = 13 := by omega
                subst hc13
                have hok_u : gok u := by rw [eu]; exact gok_pGw hok_17 (by omega) (by omega)
                have hbt_u : gbt u := by rw [eu]; exact gbt_pGw hbt_17
                refine lv_aload_n hx hb dX4_writes_164 rfl (lv_at hl 0 rfl) ?_
                refine lv_bipush (v := 7) hx hb dX4_writes_165 (by decide) ?_
                refine lv_iload_n hx hb dX4_writes_167 rfl (lv_at hl 3 rfl) ?_
                refine z_iadd hx hb 7 k_3 dX4_writes_168 ?_
                refine lv_iload hx hb dX4_writes_169 (lv_at hl 5 rfl) ?_
                refine z_ast hx hb hK hP hD hS 0 0 (7 + k_3) (f := u) rfl rfl (by first | omega | decide) (by first | decide | omega) dX4_writes_171 (fun H locs (hP : va_P (dC, dI) vwCl [(a, .inl (cI, 323, .inl (upd u (7 + k_3) (pWay (g (7 + k_3)) (nI v) (pst (gS g) k_3)))))] H) (hD : va_D A [(a, .inl (cI, 323, .inl (upd u (7 + k_3) (pWay (g (7 + k_3)) (nI v) (pst (gS g) k_3)))))]) hS => ?_)
                obtain ⟨f_19, ef_19⟩ : ∃ zz : Nat → Int32, zz = (upd u (7 + k_3) (pWay (g (7 + k_3)) (nI v) (pst (gS g) k_3))) := ⟨_, rfl⟩
                rw [← ef_19] at hP hD
                have hok_19 : gok f_19 := by rw [ef_19]; exact gok_upd hok_u (by omega)
                have hbt_19 : gbt f_19 := by rw [ef_19]; exact gbt_put hbt_u (pWay_13 (by omega) hwy)
                refine lv_aload_n hx hb dX4_writes_172 rfl (lv_at hl 0 rfl) ?_
                refine lv_sipush (v := 259) hx hb dX4_writes_173 (by decide) ?_
                refine lv_iload_n hx hb dX4_writes_176 rfl (lv_at hl 1 rfl) ?_
                refine z_iadd hx hb 259 j dX4_writes_177 ?_
                refine lv_iload_n hx hb dX4_writes_178 rfl (lv_at hl 3 rfl) ?_
                refine z_ast hx hb hK hP hD hS 0 0 (259 + j) (f := f_19) rfl rfl (by first | omega | decide) (by first | decide | omega) dX4_writes_179 (fun H locs (hP : va_P (dC, dI) vwCl [(a, .inl (cI, 323, .inl (upd f_19 (259 + j) (nI k_3))))] H) (hD : va_D A [(a, .inl (cI, 323, .inl (upd f_19 (259 + j) (nI k_3))))]) hS => ?_)
                obtain ⟨f_20, ef_20⟩ : ∃ zz : Nat → Int32, zz = (upd f_19 (259 + j) (nI k_3)) := ⟨_, rfl⟩
                rw [← ef_20] at hP hD
                have hok_20 : gok f_20 := by rw [ef_20]; exact gok_put hok_19 (by omega)
                have hbt_20 : gbt f_20 := by rw [ef_20]; exact gbt_upd hbt_19 (by omega)
                refine lv_aload_n hx hb dX4_writes_180 rfl (lv_at hl 0 rfl) ?_
                refine lv_sipush (v := 275) hx hb dX4_writes_181 (by decide) ?_
                refine lv_iload_n hx hb dX4_writes_184 rfl (lv_at hl 1 rfl) ?_
                refine z_iadd hx hb 275 j dX4_writes_185 ?_
                refine lv_iload hx hb dX4_writes_186 (lv_at hl 4 rfl) ?_
                have hC_204 : ∀ (x9 : Int32) (ls : Array Slot), lv_has ls 8 [(0, .ref a), (1, .int (nI j)), (2, .int (nI v)), (3, .int (nI k_3)), (4, .int b_5), (5, .int (pWay (g (7 + k_3)) (nI v) (pst (gS g) k_3))), (6, .int ((g (7 + k_3)) ^^^ (pWay (g (7 + k_3)) (nI v) (pst (gS g) k_3))))] → (x9 = if k_3 ≠ gpl g j then 0 else f_20 (275 + j) + 1) → W p l e rX4_writes s m args below meth cd H locs 0 0 Q (F0 m 204 ls [.int x9, .int (nI (275 + j)), .ref a]) := by
                  intro x9 ls hl ex9
                  refine z_ast hx hb hK hP hD hS 0 0 (275 + j) (f := f_20) rfl rfl (by first | omega | decide) (by first | decide | omega) dX4_writes_204 (fun H locs (hP : va_P (dC, dI) vwCl [(a, .inl (cI, 323, .inl (upd f_20 (275 + j) x9)))] H) (hD : va_D A [(a, .inl (cI, 323, .inl (upd f_20 (275 + j) x9)))]) hS => ?_)
                  obtain ⟨f_21, ef_21⟩ : ∃ zz : Nat → Int32, zz = (upd f_20 (275 + j) x9) := ⟨_, rfl⟩
                  rw [← ef_21] at hP hD
                  have hok_21 : gok f_21 := by rw [ef_21]; exact gok_upd hok_20 (by omega)
                  have hbt_21 : gbt f_21 := by rw [ef_21]; exact gbt_upd hbt_20 (by omega)
                  refine lv_aload_n hx hb dX4_writes_205 rfl (lv_at hl 0 rfl) ?_
                  refine lv_sipush (v := 291) hx hb dX4_writes_206 (by decide) ?_
                  refine lv_iload_n hx hb dX4_writes_209 rfl (lv_at hl 1 rfl) ?_
                  refine z_iadd hx hb 291 j dX4_writes_210 ?_
                  refine lv_dup2_11 hx hb dX4_writes_211 rfl rfl ?_
                  refine z_ald hx hb hK hP 0 0 (291 + j) (f := f_21) rfl rfl (by first | omega | decide) (by first | decide | omega) dX4_writes_212 ?_
                  refine lv_iconst (v := 1) hx hb dX4_writes_213 (by decide) ?_
                  refine lv_iadd hx hb dX4_writes_214 ?_
                  refine z_ast hx hb hK hP hD hS 0 0 (291 + j) (f := f_21) rfl rfl (by first | omega | decide) (by first | decide | omega) dX4_writes_215 (fun H locs (hP : va_P (dC, dI) vwCl [(a, .inl (cI, 323, .inl (upd f_21 (291 + j) ((f_21 (291 + j)) + 1))))] H) (hD : va_D A [(a, .inl (cI, 323, .inl (upd f_21 (291 + j) ((f_21 (291 + j)) + 1))))]) hS => ?_)
                  obtain ⟨f_22, ef_22⟩ : ∃ zz : Nat → Int32, zz = (upd f_21 (291 + j) ((f_21 (291 + j)) + 1)) := ⟨_, rfl⟩
                  rw [← ef_22] at hP hD
                  have hok_22 : gok f_22 := by rw [ef_22]; exact gok_upd hok_21 (by omega)
                  have hbt_22 : gbt f_22 := by rw [ef_22]; exact gbt_upd hbt_21 (by omega)
                  refine lv_aload_n hx hb dX4_writes_216 rfl (lv_at hl 0 rfl) ?_
                  refine lv_sipush (v := 307) hx hb dX4_writes_217 (by decide) ?_
                  refine lv_iload_n hx hb dX4_writes_220 rfl (lv_at hl 1 rfl) ?_
                  refine z_iadd hx hb 307 j dX4_writes_221 ?_
                  refine lv_dup2_11 hx hb dX4_writes_222 rfl rfl ?_
                  refine z_ald hx hb hK hP 0 0 (307 + j) (f := f_22) rfl rfl (by first | omega | decide) (by first | decide | omega) dX4_writes_223 ?_
                  refine lv_iload hx hb dX4_writes_224 (lv_at hl 4 rfl) ?_
                  have hJ_23 : ∀ b_23 : Int32, b_23 = (if k_3 ≠ (gpl g j) then 1 else 0) → W p l e rX4_writes s m args below meth cd H locs 0 0 Q (F0 m 234 ls (.int b_23 :: [.int (f_22 (307 + j)), .int (nI (307 + j)), .ref a])) := by
                    intro b_23 eb_23
                    refine lv_iadd hx hb dX4_writes_234 ?_
                    refine z_ast hx hb hK hP hD hS 0 0 (307 + j) (f := f_22) rfl rfl (by first | omega | decide) (by first | decide | omega) dX4_writes_235 (fun H locs (hP : va_P (dC, dI) vwCl [(a, .inl (cI, 323, .inl (upd f_22 (307 + j) ((f_22 (307 + j)) + b_23))))] H) (hD : va_D A [(a, .inl (cI, 323, .inl (upd f_22 (307 + j) ((f_22 (307 + j)) + b_23))))]) hS => ?_)
                    obtain ⟨f_24, ef_24⟩ : ∃ zz : Nat → Int32, zz = (upd f_22 (307 + j) ((f_22 (307 + j)) + b_23)) := ⟨_, rfl⟩
                    rw [← ef_24] at hP hD
                    have hok_24 : gok f_24 := by rw [ef_24]; exact gok_upd hok_22 (by omega)
                    have hbt_24 : gbt f_24 := by rw [ef_24]; exact gbt_upd hbt_22 (by omega)
                    refine lv_iload hx hb dX4_writes_236 (lv_at hl 6 rfl) ?_
                    refine z_cSi (As := [.int ((g (7 + k_3)) ^^^ (pWay (g (7 + k_3)) (nI v) (pst (gS g) k_3)))]) (rest := []) ⟨hx, hb, hml, hown, hts⟩ (k_X4_ones l dC dI ((g (7 + k_3)) ^^^ (pWay (g (7 + k_3)) (nI v) (pst (gS g) k_3))) (z13_xor (hbt _ (by omega)) (pWay_13 (by omega) hwy))) (va_cwS 1 hts gX4_writes_X4_ones rfl rfl rfl (by decide +kernel) ⟨Nat.le_of_ble_eq_true rfl, Nat.le_of_ble_eq_true rfl⟩) (hP.sub (ws' := []) [] rfl) (hK.sub (tys' := []) [] rfl) rfl hl.1 rfl (Nat.le_of_ble_eq_true rfl) dX4_writes_238 ⟨Nat.le_of_ble_eq_true rfl, Nat.le_of_ble_eq_true rfl⟩ (fun r_25 hr_25 => ?_)
                    subst hr_25
                    have e9 : pWst g j v = f_24 := by
                      rw [(pWst_some hEs).1]
                      subst ef_24
                      subst ef_22
                      subst ef_21
                      subst ef_20
                      subst ef_19
                      subst ef_17
                      subst ef_15
                      subst ef_13
                      subst ef_10
                      subst ef_8
                      try subst eb_5
                      try subst eb_14
                      try subst eb_16
                      try subst eb_23
                      try subst ex9
                      try subst eu
                      rfl
                    replace hP : va_P (dC, dI) vwCl [(a, .inl (cI, 323, .inl (pWst g j v)))] H := by rw [e9]; exact hP
                    replace hD : va_D A [(a, .inl (cI, 323, .inl (pWst g j v)))] := by rw [e9]; exact hD
                    exact hend _ () _ _ _ _ (((pWst_some hEs).2).symm) hP hD hS dX4_writes_241
                  refine z_ifeqB hx hb eb_5 (tgt := 233) dX4_writes_226 (by decide) (fun c_23 => ?_) (fun c_23 => ?_)
                  · refine lv_iconst (v := 0) hx hb dX4_writes_233 (by decide) ?_
                    exact hJ_23 _ (if_neg c_23).symm
                  · refine lv_iconst (v := 1) hx hb dX4_writes_229 (by decide) ?_
                    refine lv_goto (tgt := 234) hx hb dX4_writes_230 (by decide) ?_
                    exact hJ_23 _ (if_pos c_23).symm
                refine z_ifeqB hx hb eb_5 (tgt := 195) dX4_writes_188 (by decide) (fun c_26 => ?_) (fun c_26 => ?_)
                · skip
                  refine lv_aload_n hx hb dX4_writes_195 rfl (lv_at hl 0 rfl) ?_
                  refine lv_sipush (v := 275) hx hb dX4_writes_196 (by decide) ?_
                  refine lv_iload_n hx hb dX4_writes_199 rfl (lv_at hl 1 rfl) ?_
                  refine z_iadd hx hb 275 j dX4_writes_200 ?_
                  refine z_ald hx hb hK hP 0 0 (275 + j) (f := f_20) rfl rfl (by first | omega | decide) (by first | decide | omega) dX4_writes_201 ?_
                  refine lv_iconst (v := 1) hx hb dX4_writes_202 (by decide) ?_
                  refine lv_iadd hx hb dX4_writes_203 ?_
                  exact hC_204 ((f_20 (275 + j)) + 1) _ (lv_sub hl [0, 1, 2, 3, 4, 5, 6] rfl) (by simp only [hE_3, c_18, c_26, if_true, if_false, not_false_iff, ne_eq, not_true])
                · skip
                  refine lv_iconst (v := 0) hx hb dX4_writes_191 (by decide) ?_
                  refine lv_goto (tgt := 204) hx hb dX4_writes_192 (by decide) ?_
                  exact hC_204 0 _ (lv_sub hl [0, 1, 2, 3, 4, 5, 6] rfl) (by simp only [hE_3, c_18, c_26, if_true, if_false, not_false_iff, ne_eq, not_true])
              · skip
                refine lv_aload_n hx hb dX4_writes_136 rfl (lv_at hl 0 rfl) ?_
                refine lv_bipush (v := 25) hx hb dX4_writes_137 (by decide) ?_
                refine lv_bipush (v := 13) hx hb dX4_writes_139 (by decide) ?_
                refine lv_iload_n hx hb dX4_writes_141 rfl (lv_at hl 3 rfl) ?_
                refine z_imul hx hb 13 k_3 dX4_writes_142 ?_
                refine z_iadd hx hb 25 (13 * k_3) dX4_writes_143 ?_
                refine lv_iload hx hb dX4_writes_144 (lv_at hl 7 rfl) ?_
                refine z_iadd hx hb (25 + (13 * k_3)) c dX4_writes_146 ?_
                refine z_top (congrArg nI (show (25 + (13 * k_3)) + c = 25 + (k_3 * 13 + c) by omega)) ?_
                refine lv_dup2_11 hx hb dX4_writes_147 rfl rfl ?_
                refine z_ald hx hb hK hP 0 0 (25 + (k_3 * 13 + c)) (f := u) rfl rfl (by first | omega | decide) (by first | decide | omega) dX4_writes_148 ?_
                refine lv_iload hx hb dX4_writes_149 (lv_at hl 6 rfl) ?_
                refine lv_iload hx hb dX4_writes_151 (lv_at hl 7 rfl) ?_
                refine lv_ishr hx hb dX4_writes_153 ?_
                refine lv_iconst (v := 1) hx hb dX4_writes_154 (by decide) ?_
                refine lv_iand hx hb dX4_writes_155 ?_
                refine lv_iadd hx hb dX4_writes_156 ?_
                refine z_ast hx hb hK hP hD hS 0 0 (25 + (k_3 * 13 + c)) (f := u) rfl rfl (by first | omega | decide) (by first | decide | omega) dX4_writes_157 (fun H locs (hP : va_P (dC, dI) vwCl [(a, .inl (cI, 323, .inl (upd u (25 + (k_3 * 13 + c)) ((u (25 + (k_3 * 13 + c))) + ((((g (7 + k_3)) ^^^ (pWay (g (7 + k_3)) (nI v) (pst (gS g) k_3))) >>> ((nI c) &&& 31)) &&& 1)))))] H) (hD : va_D A [(a, .inl (cI, 323, .inl (upd u (25 + (k_3 * 13 + c)) ((u (25 + (k_3 * 13 + c))) + ((((g (7 + k_3)) ^^^ (pWay (g (7 + k_3)) (nI v) (pst (gS g) k_3))) >>> ((nI c) &&& 31)) &&& 1)))))]) hS => ?_)
                refine lv_iinc (v := nI (c + 1)) (lv' := [(7, .int (nI (c + 1))), (0, .ref a), (1, .int (nI j)), (2, .int (nI v)), (3, .int (nI k_3)), (4, .int b_5), (5, .int (pWay (g (7 + k_3)) (nI v) (pst (gS g) k_3))), (6, .int ((g (7 + k_3)) ^^^ (pWay (g (7 + k_3)) (nI v) (pst (gS g) k_3))))]) hx hb dX4_writes_158 hl (k := 7) rfl (z_inc1 _) (by decide) rfl (fun ls hl => ?_)
                refine lv_goto (tgt := 129) hx hb dX4_writes_161 (by decide) ?_
                exact ih_129 (upd u (25 + (k_3 * 13 + c)) ((u (25 + (k_3 * 13 + c))) + ((((g (7 + k_3)) ^^^ (pWay (g (7 + k_3)) (nI v) (pst (gS g) k_3))) >>> ((nI c) &&& 31)) &&& 1))) (c + 1) _ _ _ (by omega) (lv_sub hl [1, 2, 3, 4, 5, 6, 7, 0] rfl) (by omega) (by rw [eu]; rfl) hP hD hS
          exact hC_129 _ f_17 0 _ _ _ (Nat.lt_succ_self _) (lv_sub hl [5, 6, 7, 4, 3, 2, 1, 0] rfl) (by omega) (rfl) hP hD hS
        refine lv_icmp_ge (tgt := 123) hx hb dX4_writes_116 (by decide) (fun c_16 => ?_) (fun c_16 => ?_)
        · refine lv_iconst (v := 1) hx hb dX4_writes_123 (by decide) ?_
          exact hJ_16 _ (if_pos c_16).symm
        · refine lv_iconst (v := 0) hx hb dX4_writes_119 (by decide) ?_
          refine lv_goto (tgt := 124) hx hb dX4_writes_120 (by decide) ?_
          exact hJ_16 _ (if_neg c_16).symm
      refine z_ifeqB hx hb eb_5 (tgt := 103) dX4_writes_96 (by decide) (fun c_14 => ?_) (fun c_14 => ?_)
      · refine lv_iconst (v := 0) hx hb dX4_writes_103 (by decide) ?_
        exact hJ_14 _ (if_neg c_14).symm
      · refine lv_iconst (v := 1) hx hb dX4_writes_99 (by decide) ?_
        refine lv_goto (tgt := 104) hx hb dX4_writes_100 (by decide) ?_
        exact hJ_14 _ (if_pos c_14).symm
    refine z_eq hx hb k_3 (gpl g j) (by omega) (by omega) (tgt := 29) dX4_writes_22 (by decide) (fun c_5 => ?_) (fun c_5 => ?_)
    · refine lv_iconst (v := 0) hx hb dX4_writes_29 (by decide) ?_
      exact hJ_5 _ (if_neg (by omega)).symm
    · refine lv_iconst (v := 1) hx hb dX4_writes_25 (by decide) ?_
      refine lv_goto (tgt := 30) hx hb dX4_writes_26 (by decide) ?_
      exact hJ_5 _ (if_pos c_5).symm
  · skip
    have hE_3 := eo_2.symm.trans ho_3
    try rw [ho_3] at hl
    try rw [ho_3]
    replace hl : lv_has ls 8 [(3, .int (-1)), (0, .ref a), (1, .int (nI j)), (2, .int (nI v))] := hl
    refine lv_iconst (v := (-1)) hx hb dX4_writes_12 (by decide) ?_
    have e9 : pWst g j v = g := (pWst_none hE_3).1
    replace hP : va_P (dC, dI) vwCl [(a, .inl (cI, 323, .inl (pWst g j v)))] s.heap := by rw [e9]; exact hP
    replace hD : va_D A [(a, .inl (cI, 323, .inl (pWst g j v)))] := by rw [e9]; exact hD
    exact hend _ () _ _ _ _ (((pWst_none hE_3).2).symm) hP hD hS dX4_writes_13

abbrev rX4_hammers : Room := { frames := 6, cells := 0, slots := 0, locals := 148 }
set_option maxHeartbeats 4000000 in
set_option maxRecDepth 100000 in
theorem k_X4_hammers (l : Launch) (dC : Nat → ClassId) (dI : Nat → Nat → Nat) (a : Nat) (cI : ClassId) (g : Nat → Int32) (hok : gok g) (hbt : gbt g) (j : Nat) (hj : j < 16) (v : Nat) (hv : v < 4096) (tt : Nat) (htt : tt < 501) (sz : Nat) : zWi (S := Unit) l yX4_hammers wsX4_hammers rX4_hammers (dC, dI) [.ref a, .int (nI j), .int (nI v), .int (nI tt)] [(a, .inl (cI, 323, .inl g))] [(cI, .int)] sz (fun r (_ : Unit) => r = nI (pHam j v tt 0 g).2) (fun _ => [(a, .inl (cI, 323, .inl (pHam j v tt 0 g).1))]) 0 0 := by
  refine zWi_of (cc := cX4_hammers) (maxL := 5) (ty := .int) (by decide) rfl (Nat.le_of_ble_eq_true rfl) (fun _ _ _ => rfl) ?_
  intro p e s m args below meth cd Q ls A hat hP hK hD hA hend
  obtain ⟨hx, hb, hml, hown, hts, hl⟩ := hat
  replace hown : s.vm.findClass RX4 = some m.cls := hown
  replace hl : lv_has ls 5 [(0, .ref a), (1, .int (nI j)), (2, .int (nI v)), (3, .int (nI tt))] := hl
  replace hP : va_P (dC, dI) vwCl [(a, .inl (cI, 323, .inl g))] s.heap := hP
  replace hD : va_D A [(a, .inl (cI, 323, .inl g))] := hD
  have hS : va_S A s.heap s.heap [] := va_S.rf
  refine lv_iconst (v := 0) hx hb dX4_hammers_0 (by decide) ?_
  refine lv_istore (lv' := [(4, .int 0), (0, .ref a), (1, .int (nI j)), (2, .int (nI v)), (3, .int (nI tt))]) hx hb dX4_hammers_1 hl (by decide) rfl (fun ls hl => ?_)
  have hC_3 : ∀ (nf : Nat) (u : Nat → Int32) (c : Nat) (ls : Array Slot) (H : Heap) (locs : List Loc), tt - c < nf → lv_has ls 5 [(0, .ref a), (1, .int (nI j)), (2, .int (nI v)), (3, .int (nI tt)), (4, .int (nI c))] → (gok u) → (gbt u) → (c ≤ tt) → ((pHam j v tt 0 g).1 = (pHam j v (tt - c) c u).1) → ((pHam j v tt 0 g).2 = c + (pHam j v (tt - c) c u).2) → va_P (dC, dI) vwCl [(a, .inl (cI, 323, .inl u))] H → va_D A [(a, .inl (cI, 323, .inl u))] → va_S A s.heap H locs → W p l e rX4_hammers s m args below meth cd H locs 0 0 Q (F0 m 3 ls []) := by
    intro nf
    induction nf with
    | zero => intro u c ls H locs hm_3 hl hou hbu hc es en hP hD hS; exact absurd hm_3 (Nat.not_lt_zero _)
    | succ nf ih_3 =>
      intro u c ls H locs hm_3 hl hou hbu hc es en hP hD hS
      refine lv_iload hx hb dX4_hammers_3 (lv_at hl 4 rfl) ?_
      refine lv_iload_n hx hb dX4_hammers_5 rfl (lv_at hl 3 rfl) ?_
      refine z_ge hx hb c tt (by omega) (by omega) (tgt := 42) dX4_hammers_6 (by decide) (fun c_1 => ?_) (fun c_1 => ?_)
      · skip
        refine lv_iload hx hb dX4_hammers_42 (lv_at hl 4 rfl) ?_
        have e9 : (pHam j v tt 0 g).1 = u := by rw [es, show tt - c = 0 by omega]; rfl
        replace hP : va_P (dC, dI) vwCl [(a, .inl (cI, 323, .inl (pHam j v tt 0 g).1))] H := by rw [e9]; exact hP
        replace hD : va_D A [(a, .inl (cI, 323, .inl (pHam j v tt 0 g).1))] := by rw [e9]; exact hD
        exact hend _ () _ _ _ _ (by rw [en, show tt - c = 0 by omega]; rfl) hP hD hS dX4_hammers_44
      · skip
        refine lv_aload_n hx hb dX4_hammers_9 rfl (lv_at hl 0 rfl) ?_
        refine lv_iload_n hx hb dX4_hammers_10 rfl (lv_at hl 1 rfl) ?_
        refine lv_iload hx hb dX4_hammers_11 (lv_at hl 4 rfl) ?_
        refine lv_iconst (v := 2) hx hb dX4_hammers_13 (by decide) ?_
        refine z_irem hx hb c 2 (by omega) (by omega) (by omega) dX4_hammers_14 ?_
        refine z_ifne hx hb (c % 2) (by omega) (tgt := 22) dX4_hammers_15 (by decide) (fun c_2 => ?_) (fun c_2 => ?_)
        · skip
          refine lv_iload_n hx hb dX4_hammers_22 rfl (lv_at hl 2 rfl) ?_
          refine lv_iconst (v := (-1)) hx hb dX4_hammers_23 (by decide) ?_
          refine lv_ixor hx hb dX4_hammers_24 ?_
          refine lv_sipush (v := 4095) hx hb dX4_hammers_25 (by decide) ?_
          refine lv_iand hx hb dX4_hammers_28 ?_
          refine z_top (z_not12 (by omega)) ?_
          have hnx := z12_not hv
          have hAl : pAlt v c = v ^^^ 4095 := by unfold pAlt; rw [if_neg c_2]
          try clear hPq hDq
          refine z_cWSi (wr := []) (As := [.ref a, .int (nI j), .int (nI (v ^^^ 4095))]) (rest := []) ⟨hx, hb, hml, hown, hts⟩ (k_X4_writes l dC dI a cI u hou hbu j (by omega) (v ^^^ 4095) (by omega) H.size) (va_cwS 3 hts gX4_hammers_X4_writes rfl rfl rfl (by decide +kernel) ⟨Nat.le_of_ble_eq_true rfl, Nat.le_of_ble_eq_true rfl⟩) hP hD hS hA (hP.sub (ws' := [(a, .inl (cI, 323, .inl u))]) [0] rfl) (hD.sub (ws' := [(a, .inl (cI, 323, .inl u))]) [0] (by decide) rfl) (hK.sub (tys' := [(cI, .int)]) [0] rfl) [0] [] rfl rfl (by decide) (by decide) rfl hl.1 rfl (Nat.le_of_ble_eq_true rfl) dX4_hammers_29 ⟨Nat.le_of_ble_eq_true rfl, Nat.le_of_ble_eq_true rfl⟩ (fun r_3 _ H locs hr_3 (hP : va_P (dC, dI) vwCl [(a, .inl (cI, 323, .inl (pWst u j (v ^^^ 4095))))] H) (hD : va_D A [(a, .inl (cI, 323, .inl (pWst u j (v ^^^ 4095))))]) hS => ?_)
          subst hr_3
          refine lv_iconst (v := (-1)) hx hb dX4_hammers_32 (by decide) ?_
          refine lv_icmp_eq (tgt := 42) hx hb dX4_hammers_33 (by decide) (fun c_4 => ?_) (fun c_4 => ?_)
          · skip
            refine lv_iload hx hb dX4_hammers_42 (lv_at hl 4 rfl) ?_
            have hX : pWres u j (pAlt v c) = -1 := by rw [hAl]; exact c_4
            have e9 : (pHam j v tt 0 g).1 = (pWst u j (v ^^^ 4095)) := by rw [es, show tt - c = (tt - (c + 1)) + 1 by omega, pHam_end hX]; show pWst u j (pAlt v c) = _; rw [hAl]
            replace hP : va_P (dC, dI) vwCl [(a, .inl (cI, 323, .inl (pHam j v tt 0 g).1))] H := by rw [e9]; exact hP
            replace hD : va_D A [(a, .inl (cI, 323, .inl (pHam j v tt 0 g).1))] := by rw [e9]; exact hD
            exact hend _ () _ _ _ _ (by rw [en, show tt - c = (tt - (c + 1)) + 1 by omega, pHam_end hX]; rfl) hP hD hS dX4_hammers_44
          · skip
            refine lv_iinc (v := nI (c + 1)) (lv' := [(4, .int (nI (c + 1))), (0, .ref a), (1, .int (nI j)), (2, .int (nI v)), (3, .int (nI tt))]) hx hb dX4_hammers_36 hl (k := 4) rfl (z_inc1 _) (by decide) rfl (fun ls hl => ?_)
            refine lv_goto (tgt := 3) hx hb dX4_hammers_39 (by decide) ?_
            exact ih_3 (pWst u j (v ^^^ 4095)) (c + 1) _ _ _ (by omega) (lv_sub hl [1, 2, 3, 4, 0] rfl) ((pWst_ok hou (by omega))) ((pWst_bt hbu (by omega))) (by omega) (by rw [es, show tt - c = (tt - (c + 1)) + 1 by omega, pHam_go (by rw [hAl]; exact c_4)]; show (pHam j v _ _ (pWst u j (pAlt v c))).1 = _; rw [hAl]) (by rw [en, show tt - c = (tt - (c + 1)) + 1 by omega, pHam_go (by rw [hAl]; exact c_4)]; show c + ((pHam j v _ _ (pWst u j (pAlt v c))).2 + 1) = _; rw [hAl]; omega) hP hD hS
        · skip
          refine lv_iload_n hx hb dX4_hammers_18 rfl (lv_at hl 2 rfl) ?_
          refine lv_goto (tgt := 29) hx hb dX4_hammers_19 (by decide) ?_
          have hAl : pAlt v c = v := by unfold pAlt; rw [if_pos c_2]
          try clear hPq hDq
          refine z_cWSi (wr := []) (As := [.ref a, .int (nI j), .int (nI v)]) (rest := []) ⟨hx, hb, hml, hown, hts⟩ (k_X4_writes l dC dI a cI u hou hbu j (by omega) v (by omega) H.size) (va_cwS 3 hts gX4_hammers_X4_writes rfl rfl rfl (by decide +kernel) ⟨Nat.le_of_ble_eq_true rfl, Nat.le_of_ble_eq_true rfl⟩) hP hD hS hA (hP.sub (ws' := [(a, .inl (cI, 323, .inl u))]) [0] rfl) (hD.sub (ws' := [(a, .inl (cI, 323, .inl u))]) [0] (by decide) rfl) (hK.sub (tys' := [(cI, .int)]) [0] rfl) [0] [] rfl rfl (by decide) (by decide) rfl hl.1 rfl (Nat.le_of_ble_eq_true rfl) dX4_hammers_29 ⟨Nat.le_of_ble_eq_true rfl, Nat.le_of_ble_eq_true rfl⟩ (fun r_5 _ H locs hr_5 (hP : va_P (dC, dI) vwCl [(a, .inl (cI, 323, .inl (pWst u j v)))] H) (hD : va_D A [(a, .inl (cI, 323, .inl (pWst u j v)))]) hS => ?_)
          subst hr_5
          refine lv_iconst (v := (-1)) hx hb dX4_hammers_32 (by decide) ?_
          refine lv_icmp_eq (tgt := 42) hx hb dX4_hammers_33 (by decide) (fun c_6 => ?_) (fun c_6 => ?_)
          · skip
            refine lv_iload hx hb dX4_hammers_42 (lv_at hl 4 rfl) ?_
            have hX : pWres u j (pAlt v c) = -1 := by rw [hAl]; exact c_6
            have e9 : (pHam j v tt 0 g).1 = (pWst u j v) := by rw [es, show tt - c = (tt - (c + 1)) + 1 by omega, pHam_end hX]; show pWst u j (pAlt v c) = _; rw [hAl]
            replace hP : va_P (dC, dI) vwCl [(a, .inl (cI, 323, .inl (pHam j v tt 0 g).1))] H := by rw [e9]; exact hP
            replace hD : va_D A [(a, .inl (cI, 323, .inl (pHam j v tt 0 g).1))] := by rw [e9]; exact hD
            exact hend _ () _ _ _ _ (by rw [en, show tt - c = (tt - (c + 1)) + 1 by omega, pHam_end hX]; rfl) hP hD hS dX4_hammers_44
          · skip
            refine lv_iinc (v := nI (c + 1)) (lv' := [(4, .int (nI (c + 1))), (0, .ref a), (1, .int (nI j)), (2, .int (nI v)), (3, .int (nI tt))]) hx hb dX4_hammers_36 hl (k := 4) rfl (z_inc1 _) (by decide) rfl (fun ls hl => ?_)
            refine lv_goto (tgt := 3) hx hb dX4_hammers_39 (by decide) ?_
            exact ih_3 (pWst u j v) (c + 1) _ _ _ (by omega) (lv_sub hl [1, 2, 3, 4, 0] rfl) ((pWst_ok hou (by omega))) ((pWst_bt hbu (by omega))) (by omega) (by rw [es, show tt - c = (tt - (c + 1)) + 1 by omega, pHam_go (by rw [hAl]; exact c_6)]; show (pHam j v _ _ (pWst u j (pAlt v c))).1 = _; rw [hAl]) (by rw [en, show tt - c = (tt - (c + 1)) + 1 by omega, pHam_go (by rw [hAl]; exact c_6)]; show c + ((pHam j v _ _ (pWst u j (pAlt v c))).2 + 1) = _; rw [hAl]; omega) hP hD hS
  exact hC_3 _ g 0 _ _ _ (Nat.lt_succ_self _) (lv_sub hl [1, 2, 3, 4, 0] rfl) (hok) (hbt) (by omega) (by rw [Nat.sub_zero]) (by rw [Nat.sub_zero, Nat.zero_add]) hP hD hS
