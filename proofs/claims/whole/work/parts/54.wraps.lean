theorem cdSet_2 {x y : Int32} (h : inL x 0 1) (q : ¬ cdSet x y = 0) : cdSet x y = 2 := by
  unfold cdSet at q ⊢
  rw [if_pos h] at q ⊢
  by_cases q2 : iN x = 0
  · rw [if_pos q2] at q ⊢
    by_cases q3 : inL y 1 999
    · rw [if_pos q3] at q; exact absurd rfl q
    · rw [if_neg q3]
  · rw [if_neg q2] at q ⊢
    by_cases q3 : inL y 0 99
    · rw [if_pos q3] at q; exact absurd rfl q
    · rw [if_neg q3]
theorem cdSet_2h {x y : Int32} (h : inL x 0 1) (q : ¬ cdSet x y = 0) : if iN x = 0 then (y < 1 ∨ ¬ y ≤ 999) else (y < 0 ∨ ¬ y ≤ 99) := by
  unfold cdSet at q
  rw [if_pos h] at q
  by_cases q2 : iN x = 0
  · rw [if_pos q2] at q ⊢
    by_cases q3 : inL y 1 999
    · rw [if_pos q3] at q; exact absurd rfl q
    · exact out_or q3
  · rw [if_neg q2] at q ⊢
    by_cases q3 : inL y 0 99
    · rw [if_pos q3] at q; exact absurd rfl q
    · exact out_or q3
abbrev rL_write : Room := { frames := 9, cells := 1, slots := 6, locals := 125 }
set_option maxHeartbeats 4000000 in
theorem w_write (l : Launch) (hl0 : l.stackTraces = false) (n0 : Nat) (dC : Nat → ClassId) (dI : Nat → Nat → Nat) (c0 : Nat) (ad ae ah ax : Nat → Nat) (ar : Nat → Nat → Nat) (cI cS cL : ClassId) (oa : Nat) (κ : zK) (ho : uo κ < 6) (hn : un κ ≤ 6) (hok : zok (uS κ)) (f : Nat → Int64) (x : Int32) (y : Int32) (sz : Nat) : zLi (S := zK × (Nat → Int64)) l yL_write wsL_write rL_write n0 (dC, dI) [.ref c0, .int x, .int y, .ref oa] (zLW c0 ad ae ah ax ar cI cS cL oa κ f) [(cI, .int), (cS, .object RX1), (cL, .long)] sz (fun r u => r = cdWrite (uS κ) x y ∧ u = ((if cdWrite (uS κ) x y = 0 then (sWrite κ x y).1 else κ), (if cdWrite (uS κ) x y = 0 then vp_updL f 0 ((sWrite κ x y).2).toInt64 else f))) (fun u => zLW c0 ad ae ah ax ar cI cS cL oa u.1 u.2) 1 6 := by
  refine zLi_of (cc := cL_write) (maxL := 5) (by decide) rfl (Nat.le_of_ble_eq_true rfl) ?_
  intro p e s m args below meth cd Q ls A hat hP hK hE hNc hN htab hD hA hend
  obtain ⟨hx, hb, hml, hown, hts, hl⟩ := hat
  replace hown : s.vm.findClass RL = some m.cls := hown
  replace hl : lv_has ls 5 [(0, .ref c0), (1, .int x), (2, .int y), (3, .ref oa)] := hl
  have hS : va_S A s.heap s.heap [] := va_S.rf
  refine lv_aload_n hx hb dL_write_0 rfl (lv_at hl 3 rfl) ?_
  refine lv_iconst (v := 0) hx hb dL_write_1 (by decide) ?_
  refine lv_aload_n hx hb dL_write_2 rfl (lv_at hl 0 rfl) ?_
  refine lv_iload_n hx hb dL_write_3 rfl (lv_at hl 1 rfl) ?_
  refine lv_iload_n hx hb dL_write_4 rfl (lv_at hl 2 rfl) ?_
  by_cases q1 : inL x 0 15
  · obtain ⟨jx, ex⟩ := in_15 q1
    by_cases q2 : inL y 0 4095
    · obtain ⟨jy1, jy2, ey⟩ := in_b (lo := 0) (hi := 4095) (by decide) q2
      cases q3 : ptg (uS κ) (iN x) y with
      | none =>
        have e : cdWrite (uS κ) x y = 3 := by unfold cdWrite; rw [if_pos q1, if_pos q2, if_pos q3]
        have e0 : ¬ cdWrite (uS κ) x y = 0 := by rw [e]; decide
        have hM := x_X3_write_T l hl0 n0 dC dI c0 ad ae ah ax ar cI cS (uS κ) (uA κ) (uo κ) (un κ) ho hn (uh κ) (ut κ) hok (iN x) jx (iN y) (by omega) (by rw [← ey]; exact q3)
        rw [← ex, ← ey] at hM
        refine z_tVc (As := [.int x, .int y]) (rest := [.int 0, .ref oa]) ⟨hx, hb, hml, hown, hts⟩ hM (cwV 2 hts gL_write_X3_write rfl rfl rfl (by decide +kernel) ⟨Nat.le_of_ble_eq_true rfl, Nat.le_of_ble_eq_true rfl⟩) (va_recv hK hP (ci := 3) (q0 := 1) rfl rfl) (z_tailP hP hD) (hK.sub (tys' := [(cI, .int), (cS, .object RX1)]) [0, 1] rfl) hE rfl hl.1 rfl (Nat.le_of_ble_eq_true rfl) dL_write_5 ⟨Nat.le_of_ble_eq_true rfl, Nat.le_of_ble_eq_true rfl⟩ (fun H1 qa ce hz hk hce hcv hcl => ?_)
        refine vx_catch hown (tableOf [(0, 10, 13, 13), (0, 10, 17, 15)]) ⟨0, 10, 21, 17⟩ (tableOf []) (htab.trans rfl) (List.forall_mem_cons.mpr ⟨Or.inr ⟨by decide, XO, hts (.classLink RL 13 XO) (by decide +kernel), hNc.2.1⟩, List.forall_mem_cons.mpr ⟨Or.inr ⟨by decide, XA, hts (.classLink RL 15 XA) (by decide +kernel), hNc.2.2⟩, fun z hz9 => absurd hz9 List.not_mem_nil⟩⟩) (by decide) (by decide) (hts (.classLink RL 17 XT) (by decide +kernel)) (va_Nw.use rfl hE.2.2.1.2.2) hce hcv hcl ?_
        have hP1 := z_keepP hP hk
        have hS1 := z_keepS (A := A) hz hk
        refine lv_astore (lv' := (4, .ref qa) :: [(0, .ref c0), (1, .int x), (2, .int y), (3, .ref oa)]) hx hb dL_write_21 hl (by decide) rfl (fun ls hl => ?_)
        refine lv_iconst (v := 3) hx hb dL_write_23 (by decide) ?_
        exact hend 3 (κ, f) _ _ _ _ ⟨e.symm, by rw [if_neg e0, if_neg e0]⟩ hP1 hD hS1 dL_write_24
      | some t =>
        have e : cdWrite (uS κ) x y = 0 := by unfold cdWrite; rw [if_pos q1, if_pos q2, if_neg (by rw [q3]; exact fun z => nomatch z)]
        have hs : sWrite κ x y = (uKeep κ (pPlace (uS κ) (iN x) y t), pBC (pch (uS κ) t y)) := by unfold sWrite; rw [q3]
        have hM := k_X3_write l dC dI c0 ad ae ah ax ar cI cS (uS κ) (uA κ) (uo κ) (un κ) ho hn (uh κ) (ut κ) hok (iN x) jx (iN y) (by omega) t (by rw [← ey]; exact q3) s.heap.size
        rw [← ex, ← ey] at hM
        refine z_xWi (wr := [(oa, .inl (cL, 1, .inr (.inl f)))]) (As := [.int x, .int y]) (rest := [.int 0, .ref oa]) ⟨hx, hb, hml, hown, hts⟩ hM (cwV 2 hts gL_write_X3_write rfl rfl rfl (by decide +kernel) ⟨Nat.le_of_ble_eq_true rfl, Nat.le_of_ble_eq_true rfl⟩) (va_recv hK hP (ci := 3) (q0 := 1) rfl rfl) hP hD hS hA (hK.sub (tys' := [(cI, .int), (cS, .object RX1)]) [0, 1] rfl) rfl hl.1 rfl (Nat.le_of_ble_eq_true rfl) dL_write_5 ⟨Nat.le_of_ble_eq_true rfl, Nat.le_of_ble_eq_true rfl⟩ (fun r _ H locs hr hP hD hS => ?_)
        subst hr
        replace hP : va_P (dC, dI) vwCl (zLW c0 ad ae ah ax ar cI cS cL oa (sWrite κ x y).1 f) H := by rw [hs]; exact hP
        replace hD : va_D A (zLW c0 ad ae ah ax ar cI cS cL oa (sWrite κ x y).1 f) := by rw [hs]; exact hD
        refine W.widen (k := 1) (n := 6) (by decide) (by decide) ?_
        refine lv_i2l (v := ((sWrite κ x y).2).toInt64) hx hb dL_write_8 (by rw [hs]) ?_
        refine z_last hx hb hK hP hD hS 0 2 0 rfl rfl (by decide) (by decide) dL_write_9 (fun H locs hP hD hS => ?_)
        refine lv_goto (tgt := 25) hx hb dL_write_10 (by decide) ?_
        refine lv_iconst (v := 0) hx hb dL_write_25 (by decide) ?_
        exact hend 0 ((sWrite κ x y).1, vp_updL f 0 ((sWrite κ x y).2).toInt64) _ _ _ _ ⟨e.symm, by rw [if_pos e, if_pos e]⟩ hP hD hS dL_write_26
    · skip
      have e : cdWrite (uS κ) x y = 2 := by unfold cdWrite; rw [if_pos q1, if_neg q2]
      have e0 : ¬ cdWrite (uS κ) x y = 0 := by rw [e]; decide
      have hM := x_X3_write_A l hl0 n0 dC dI c0 ad ae ah ax ar cI cS (uS κ) (uA κ) (uo κ) (un κ) ho hn (uh κ) (ut κ) hok (iN x) jx y (out_or q2)
      rw [← ex] at hM
      refine z_tVc (As := [.int x, .int y]) (rest := [.int 0, .ref oa]) ⟨hx, hb, hml, hown, hts⟩ hM (cwV 2 hts gL_write_X3_write rfl rfl rfl (by decide +kernel) ⟨Nat.le_of_ble_eq_true rfl, Nat.le_of_ble_eq_true rfl⟩) (va_recv hK hP (ci := 3) (q0 := 1) rfl rfl) (z_tailP hP hD) (hK.sub (tys' := [(cI, .int), (cS, .object RX1)]) [0, 1] rfl) hE rfl hl.1 rfl (Nat.le_of_ble_eq_true rfl) dL_write_5 ⟨Nat.le_of_ble_eq_true rfl, Nat.le_of_ble_eq_true rfl⟩ (fun H1 qa ce hz hk hce hcv hcl => ?_)
      refine vx_catch hown (tableOf [(0, 10, 13, 13)]) ⟨0, 10, 17, 15⟩ (tableOf [(0, 10, 21, 17)]) (htab.trans rfl) (List.forall_mem_cons.mpr ⟨Or.inr ⟨by decide, XO, hts (.classLink RL 13 XO) (by decide +kernel), hNc.1⟩, fun z hz9 => absurd hz9 List.not_mem_nil⟩) (by decide) (by decide) (hts (.classLink RL 15 XA) (by decide +kernel)) (va_Nw.use rfl hE.2.2.1.2.1) hce hcv hcl ?_
      have hP1 := z_keepP hP hk
      have hS1 := z_keepS (A := A) hz hk
      refine lv_astore (lv' := (4, .ref qa) :: [(0, .ref c0), (1, .int x), (2, .int y), (3, .ref oa)]) hx hb dL_write_17 hl (by decide) rfl (fun ls hl => ?_)
      refine lv_iconst (v := 2) hx hb dL_write_19 (by decide) ?_
      exact hend 2 (κ, f) _ _ _ _ ⟨e.symm, by rw [if_neg e0, if_neg e0]⟩ hP1 hD hS1 dL_write_20
  · skip
    have e : cdWrite (uS κ) x y = 1 := by unfold cdWrite; rw [if_neg q1]
    have e0 : ¬ cdWrite (uS κ) x y = 0 := by rw [e]; decide
    have hM := x_X3_write_O l hl0 n0 dC dI c0 ad ae ah ax ar cI cS (uS κ) (uA κ) (uo κ) (un κ) ho hn (uh κ) (ut κ) hok x y (out_or q1)
    refine z_tVc (As := [.int x, .int y]) (rest := [.int 0, .ref oa]) ⟨hx, hb, hml, hown, hts⟩ hM (cwV 2 hts gL_write_X3_write rfl rfl rfl (by decide +kernel) ⟨Nat.le_of_ble_eq_true rfl, Nat.le_of_ble_eq_true rfl⟩) (va_recv hK hP (ci := 3) (q0 := 1) rfl rfl) (z_tailP hP hD) (hK.sub (tys' := [(cI, .int), (cS, .object RX1)]) [0, 1] rfl) hE rfl hl.1 rfl (Nat.le_of_ble_eq_true rfl) dL_write_5 ⟨Nat.le_of_ble_eq_true rfl, Nat.le_of_ble_eq_true rfl⟩ (fun H1 qa ce hz hk hce hcv hcl => ?_)
    refine vx_catch hown (tableOf []) ⟨0, 10, 13, 13⟩ (tableOf [(0, 10, 17, 15), (0, 10, 21, 17)]) (htab.trans rfl) (fun z hz9 => absurd hz9 List.not_mem_nil) (by decide) (by decide) (hts (.classLink RL 13 XO) (by decide +kernel)) (va_Nw.use rfl hE.2.2.1.1) hce hcv hcl ?_
    have hP1 := z_keepP hP hk
    have hS1 := z_keepS (A := A) hz hk
    refine lv_astore (lv' := (4, .ref qa) :: [(0, .ref c0), (1, .int x), (2, .int y), (3, .ref oa)]) hx hb dL_write_13 hl (by decide) rfl (fun ls hl => ?_)
    refine lv_iconst (v := 1) hx hb dL_write_15 (by decide) ?_
    exact hend 1 (κ, f) _ _ _ _ ⟨e.symm, by rw [if_neg e0, if_neg e0]⟩ hP1 hD hS1 dL_write_16
abbrev rL_hammer : Room := { frames := 9, cells := 1, slots := 6, locals := 150 }
set_option maxHeartbeats 4000000 in
theorem w_hammer (l : Launch) (hl0 : l.stackTraces = false) (n0 : Nat) (dC : Nat → ClassId) (dI : Nat → Nat → Nat) (c0 : Nat) (ad ae ah ax : Nat → Nat) (ar : Nat → Nat → Nat) (cI cS cL : ClassId) (oa : Nat) (κ : zK) (ho : uo κ < 6) (hn : un κ ≤ 6) (hok : zok (uS κ)) (f : Nat → Int64) (x : Int32) (y : Int32) (z : Int32) (sz : Nat) : zLi (S := zK × (Nat → Int64)) l yL_hammer wsL_hammer rL_hammer n0 (dC, dI) [.ref c0, .int x, .int y, .int z, .ref oa] (zLW c0 ad ae ah ax ar cI cS cL oa κ f) [(cI, .int), (cS, .object RX1), (cL, .long)] sz (fun r u => r = cdHammer x y z ∧ u = ((if cdHammer x y z = 0 then (sHammer κ x y z).1 else κ), (if cdHammer x y z = 0 then vp_updL f 0 ((sHammer κ x y z).2).toInt64 else f))) (fun u => zLW c0 ad ae ah ax ar cI cS cL oa u.1 u.2) 1 6 := by
  refine zLi_of (cc := cL_hammer) (maxL := 6) (by decide) rfl (Nat.le_of_ble_eq_true rfl) ?_
  intro p e s m args below meth cd Q ls A hat hP hK hE hNc hN htab hD hA hend
  obtain ⟨hx, hb, hml, hown, hts, hl⟩ := hat
  replace hown : s.vm.findClass RL = some m.cls := hown
  replace hl : lv_has ls 6 [(0, .ref c0), (1, .int x), (2, .int y), (3, .int z), (4, .ref oa)] := hl
  have hS : va_S A s.heap s.heap [] := va_S.rf
  refine lv_aload hx hb dL_hammer_0 (lv_at hl 4 rfl) ?_
  refine lv_iconst (v := 0) hx hb dL_hammer_2 (by decide) ?_
  refine lv_aload_n hx hb dL_hammer_3 rfl (lv_at hl 0 rfl) ?_
  refine lv_iload_n hx hb dL_hammer_4 rfl (lv_at hl 1 rfl) ?_
  refine lv_iload_n hx hb dL_hammer_5 rfl (lv_at hl 2 rfl) ?_
  refine lv_iload_n hx hb dL_hammer_6 rfl (lv_at hl 3 rfl) ?_
  by_cases q1 : inL x 0 15
  · obtain ⟨jx, ex⟩ := in_15 q1
    by_cases q2 : inL y 0 4095
    · obtain ⟨jy1, jy2, ey⟩ := in_b (lo := 0) (hi := 4095) (by decide) q2
      by_cases q3 : inL z 1 500
      · obtain ⟨jz1, jz2, ez⟩ := in_b (lo := 1) (hi := 500) (by decide) q3
        have e : cdHammer x y z = 0 := by unfold cdHammer; rw [if_pos q1, if_pos q2, if_pos q3]
        have hM := k_X3_hammer l dC dI c0 ad ae ah ax ar cI cS (uS κ) (uA κ) (uo κ) (un κ) ho hn (uh κ) (ut κ) hok (iN x) jx (iN y) (by omega) (iN z) jz1 jz2 s.heap.size
        rw [← ex, ← ey, ← ez] at hM
        refine z_xWi (wr := [(oa, .inl (cL, 1, .inr (.inl f)))]) (As := [.int x, .int y, .int z]) (rest := [.int 0, .ref oa]) ⟨hx, hb, hml, hown, hts⟩ hM (cwV 3 hts gL_hammer_X3_hammer rfl rfl rfl (by decide +kernel) ⟨Nat.le_of_ble_eq_true rfl, Nat.le_of_ble_eq_true rfl⟩) (va_recv hK hP (ci := 3) (q0 := 1) rfl rfl) hP hD hS hA (hK.sub (tys' := [(cI, .int), (cS, .object RX1)]) [0, 1] rfl) rfl hl.1 rfl (Nat.le_of_ble_eq_true rfl) dL_hammer_7 ⟨Nat.le_of_ble_eq_true rfl, Nat.le_of_ble_eq_true rfl⟩ (fun r _ H locs hr hP hD hS => ?_)
        subst hr
        replace hP : va_P (dC, dI) vwCl (zLW c0 ad ae ah ax ar cI cS cL oa (sHammer κ x y z).1 f) H := hP
        replace hD : va_D A (zLW c0 ad ae ah ax ar cI cS cL oa (sHammer κ x y z).1 f) := hD
        refine W.widen (k := 1) (n := 6) (by decide) (by decide) ?_
        refine lv_i2l (v := ((sHammer κ x y z).2).toInt64) hx hb dL_hammer_10 rfl ?_
        refine z_last hx hb hK hP hD hS 0 2 0 rfl rfl (by decide) (by decide) dL_hammer_11 (fun H locs hP hD hS => ?_)
        refine lv_goto (tgt := 23) hx hb dL_hammer_12 (by decide) ?_
        refine lv_iconst (v := 0) hx hb dL_hammer_23 (by decide) ?_
        exact hend 0 ((sHammer κ x y z).1, vp_updL f 0 ((sHammer κ x y z).2).toInt64) _ _ _ _ ⟨e.symm, by rw [if_pos e, if_pos e]⟩ hP hD hS dL_hammer_24
      · skip
        have e : cdHammer x y z = 2 := by unfold cdHammer; rw [if_pos q1, if_pos q2, if_neg q3]
        have e0 : ¬ cdHammer x y z = 0 := by rw [e]; decide
        have hM := x_X3_hammer_B l hl0 n0 dC dI c0 ad ae ah ax ar cI cS (uS κ) (uA κ) (uo κ) (un κ) ho hn (uh κ) (ut κ) hok (iN x) jx (iN y) (by omega) z (out_or q3)
        rw [← ex, ← ey] at hM
        refine z_tVc (As := [.int x, .int y, .int z]) (rest := [.int 0, .ref oa]) ⟨hx, hb, hml, hown, hts⟩ hM (cwV 3 hts gL_hammer_X3_hammer rfl rfl rfl (by decide +kernel) ⟨Nat.le_of_ble_eq_true rfl, Nat.le_of_ble_eq_true rfl⟩) (va_recv hK hP (ci := 3) (q0 := 1) rfl rfl) (z_tailP hP hD) (hK.sub (tys' := [(cI, .int), (cS, .object RX1)]) [0, 1] rfl) hE rfl hl.1 rfl (Nat.le_of_ble_eq_true rfl) dL_hammer_7 ⟨Nat.le_of_ble_eq_true rfl, Nat.le_of_ble_eq_true rfl⟩ (fun H1 qa ce hz hk hce hcv hcl => ?_)
        refine vx_catch hown (tableOf [(0, 12, 15, 13)]) ⟨0, 12, 19, 15⟩ (tableOf []) (htab.trans rfl) (List.forall_mem_cons.mpr ⟨Or.inr ⟨by decide, XO, hts (.classLink RL 13 XO) (by decide +kernel), hNc.1⟩, fun z hz9 => absurd hz9 List.not_mem_nil⟩) (by decide) (by decide) (hts (.classLink RL 15 XA) (by decide +kernel)) (va_Nw.use rfl hE.2.2.1.2.1) hce hcv hcl ?_
        have hP1 := z_keepP hP hk
        have hS1 := z_keepS (A := A) hz hk
        refine lv_astore (lv' := (5, .ref qa) :: [(0, .ref c0), (1, .int x), (2, .int y), (3, .int z), (4, .ref oa)]) hx hb dL_hammer_19 hl (by decide) rfl (fun ls hl => ?_)
        refine lv_iconst (v := 2) hx hb dL_hammer_21 (by decide) ?_
        exact hend 2 (κ, f) _ _ _ _ ⟨e.symm, by rw [if_neg e0, if_neg e0]⟩ hP1 hD hS1 dL_hammer_22
    · skip
      have e : cdHammer x y z = 2 := by unfold cdHammer; rw [if_pos q1, if_neg q2]
      have e0 : ¬ cdHammer x y z = 0 := by rw [e]; decide
      have hM := x_X3_hammer_A l hl0 n0 dC dI c0 ad ae ah ax ar cI cS (uS κ) (uA κ) (uo κ) (un κ) ho hn (uh κ) (ut κ) hok (iN x) jx y z (out_or q2)
      rw [← ex] at hM
      refine z_tVc (As := [.int x, .int y, .int z]) (rest := [.int 0, .ref oa]) ⟨hx, hb, hml, hown, hts⟩ hM (cwV 3 hts gL_hammer_X3_hammer rfl rfl rfl (by decide +kernel) ⟨Nat.le_of_ble_eq_true rfl, Nat.le_of_ble_eq_true rfl⟩) (va_recv hK hP (ci := 3) (q0 := 1) rfl rfl) (z_tailP hP hD) (hK.sub (tys' := [(cI, .int), (cS, .object RX1)]) [0, 1] rfl) hE rfl hl.1 rfl (Nat.le_of_ble_eq_true rfl) dL_hammer_7 ⟨Nat.le_of_ble_eq_true rfl, Nat.le_of_ble_eq_true rfl⟩ (fun H1 qa ce hz hk hce hcv hcl => ?_)
      refine vx_catch hown (tableOf [(0, 12, 15, 13)]) ⟨0, 12, 19, 15⟩ (tableOf []) (htab.trans rfl) (List.forall_mem_cons.mpr ⟨Or.inr ⟨by decide, XO, hts (.classLink RL 13 XO) (by decide +kernel), hNc.1⟩, fun z hz9 => absurd hz9 List.not_mem_nil⟩) (by decide) (by decide) (hts (.classLink RL 15 XA) (by decide +kernel)) (va_Nw.use rfl hE.2.2.1.2.1) hce hcv hcl ?_
      have hP1 := z_keepP hP hk
      have hS1 := z_keepS (A := A) hz hk
      refine lv_astore (lv' := (5, .ref qa) :: [(0, .ref c0), (1, .int x), (2, .int y), (3, .int z), (4, .ref oa)]) hx hb dL_hammer_19 hl (by decide) rfl (fun ls hl => ?_)
      refine lv_iconst (v := 2) hx hb dL_hammer_21 (by decide) ?_
      exact hend 2 (κ, f) _ _ _ _ ⟨e.symm, by rw [if_neg e0, if_neg e0]⟩ hP1 hD hS1 dL_hammer_22
  · skip
    have e : cdHammer x y z = 1 := by unfold cdHammer; rw [if_neg q1]
    have e0 : ¬ cdHammer x y z = 0 := by rw [e]; decide
    have hM := x_X3_hammer_O l hl0 n0 dC dI c0 ad ae ah ax ar cI cS (uS κ) (uA κ) (uo κ) (un κ) ho hn (uh κ) (ut κ) hok x y z (out_or q1)
    refine z_tVc (As := [.int x, .int y, .int z]) (rest := [.int 0, .ref oa]) ⟨hx, hb, hml, hown, hts⟩ hM (cwV 3 hts gL_hammer_X3_hammer rfl rfl rfl (by decide +kernel) ⟨Nat.le_of_ble_eq_true rfl, Nat.le_of_ble_eq_true rfl⟩) (va_recv hK hP (ci := 3) (q0 := 1) rfl rfl) (z_tailP hP hD) (hK.sub (tys' := [(cI, .int), (cS, .object RX1)]) [0, 1] rfl) hE rfl hl.1 rfl (Nat.le_of_ble_eq_true rfl) dL_hammer_7 ⟨Nat.le_of_ble_eq_true rfl, Nat.le_of_ble_eq_true rfl⟩ (fun H1 qa ce hz hk hce hcv hcl => ?_)
    refine vx_catch hown (tableOf []) ⟨0, 12, 15, 13⟩ (tableOf [(0, 12, 19, 15)]) (htab.trans rfl) (fun z hz9 => absurd hz9 List.not_mem_nil) (by decide) (by decide) (hts (.classLink RL 13 XO) (by decide +kernel)) (va_Nw.use rfl hE.2.2.1.1) hce hcv hcl ?_
    have hP1 := z_keepP hP hk
    have hS1 := z_keepS (A := A) hz hk
    refine lv_astore (lv' := (5, .ref qa) :: [(0, .ref c0), (1, .int x), (2, .int y), (3, .int z), (4, .ref oa)]) hx hb dL_hammer_15 hl (by decide) rfl (fun ls hl => ?_)
    refine lv_iconst (v := 1) hx hb dL_hammer_17 (by decide) ?_
    exact hend 1 (κ, f) _ _ _ _ ⟨e.symm, by rw [if_neg e0, if_neg e0]⟩ hP1 hD hS1 dL_hammer_18
abbrev rL_exchange : Room := { frames := 9, cells := 1, slots := 6, locals := 124 }
set_option maxHeartbeats 4000000 in
theorem w_exchange (l : Launch) (hl0 : l.stackTraces = false) (n0 : Nat) (dC : Nat → ClassId) (dI : Nat → Nat → Nat) (c0 : Nat) (ad ae ah ax : Nat → Nat) (ar : Nat → Nat → Nat) (cI cS cL : ClassId) (oa : Nat) (κ : zK) (ho : uo κ < 6) (hn : un κ ≤ 6) (hok : zok (uS κ)) (f : Nat → Int64) (x : Int32) (y : Int32) (sz : Nat) : zLi (S := zK × (Nat → Int64)) l yL_exchange wsL_exchange rL_exchange n0 (dC, dI) [.ref c0, .int x, .int y, .ref oa] (zLW c0 ad ae ah ax ar cI cS cL oa κ f) [(cI, .int), (cS, .object RX1), (cL, .long)] sz (fun r u => r = cd11 x 15 y 15 ∧ u = ((if cd11 x 15 y 15 = 0 then (sExch κ x y).1 else κ), (if cd11 x 15 y 15 = 0 then vp_updL f 0 ((sExch κ x y).2).toInt64 else f))) (fun u => zLW c0 ad ae ah ax ar cI cS cL oa u.1 u.2) 1 6 := by
  refine zLi_of (cc := cL_exchange) (maxL := 5) (by decide) rfl (Nat.le_of_ble_eq_true rfl) ?_
  intro p e s m args below meth cd Q ls A hat hP hK hE hNc hN htab hD hA hend
  obtain ⟨hx, hb, hml, hown, hts, hl⟩ := hat
  replace hown : s.vm.findClass RL = some m.cls := hown
  replace hl : lv_has ls 5 [(0, .ref c0), (1, .int x), (2, .int y), (3, .ref oa)] := hl
  have hS : va_S A s.heap s.heap [] := va_S.rf
  refine lv_aload_n hx hb dL_exchange_0 rfl (lv_at hl 3 rfl) ?_
  refine lv_iconst (v := 0) hx hb dL_exchange_1 (by decide) ?_
  refine lv_aload_n hx hb dL_exchange_2 rfl (lv_at hl 0 rfl) ?_
  refine lv_iload_n hx hb dL_exchange_3 rfl (lv_at hl 1 rfl) ?_
  refine lv_iload_n hx hb dL_exchange_4 rfl (lv_at hl 2 rfl) ?_
  by_cases q1 : inL x 0 15
  · obtain ⟨jx, ex⟩ := in_15 q1
    by_cases q2 : inL y 0 15
    · obtain ⟨jy, ey⟩ := in_15 q2
      have e : cd11 x 15 y 15 = 0 := by unfold cd11; rw [if_pos q1, if_pos q2]
      have hM := k_X3_exchange l dC dI c0 ad ae ah ax ar cI cS (uS κ) (uA κ) (uo κ) (un κ) ho hn (uh κ) (ut κ) hok (iN x) jx (iN y) jy s.heap.size
      rw [← ex, ← ey] at hM
      refine z_xWi (wr := [(oa, .inl (cL, 1, .inr (.inl f)))]) (As := [.int x, .int y]) (rest := [.int 0, .ref oa]) ⟨hx, hb, hml, hown, hts⟩ hM (cwV 2 hts gL_exchange_X3_exchange rfl rfl rfl (by decide +kernel) ⟨Nat.le_of_ble_eq_true rfl, Nat.le_of_ble_eq_true rfl⟩) (va_recv hK hP (ci := 3) (q0 := 1) rfl rfl) hP hD hS hA (hK.sub (tys' := [(cI, .int), (cS, .object RX1)]) [0, 1] rfl) rfl hl.1 rfl (Nat.le_of_ble_eq_true rfl) dL_exchange_5 ⟨Nat.le_of_ble_eq_true rfl, Nat.le_of_ble_eq_true rfl⟩ (fun r _ H locs hr hP hD hS => ?_)
      subst hr
      replace hP : va_P (dC, dI) vwCl (zLW c0 ad ae ah ax ar cI cS cL oa (sExch κ x y).1 f) H := hP
      replace hD : va_D A (zLW c0 ad ae ah ax ar cI cS cL oa (sExch κ x y).1 f) := hD
      refine W.widen (k := 1) (n := 6) (by decide) (by decide) ?_
      refine lv_i2l (v := ((sExch κ x y).2).toInt64) hx hb dL_exchange_8 rfl ?_
      refine z_last hx hb hK hP hD hS 0 2 0 rfl rfl (by decide) (by decide) dL_exchange_9 (fun H locs hP hD hS => ?_)
      refine lv_goto (tgt := 17) hx hb dL_exchange_10 (by decide) ?_
      refine lv_iconst (v := 0) hx hb dL_exchange_17 (by decide) ?_
      exact hend 0 ((sExch κ x y).1, vp_updL f 0 ((sExch κ x y).2).toInt64) _ _ _ _ ⟨e.symm, by rw [if_pos e, if_pos e]⟩ hP hD hS dL_exchange_18
    · skip
      have e : cd11 x 15 y 15 = 1 := by unfold cd11; rw [if_pos q1, if_neg q2]
      have e0 : ¬ cd11 x 15 y 15 = 0 := by rw [e]; decide
      have hM := x_X3_exchange_P l hl0 n0 dC dI c0 ad ae ah ax ar cI cS (uS κ) (uA κ) (uo κ) (un κ) ho hn (uh κ) (ut κ) hok (iN x) jx y (out_or q2)
      rw [← ex] at hM
      refine z_tVc (As := [.int x, .int y]) (rest := [.int 0, .ref oa]) ⟨hx, hb, hml, hown, hts⟩ hM (cwV 2 hts gL_exchange_X3_exchange rfl rfl rfl (by decide +kernel) ⟨Nat.le_of_ble_eq_true rfl, Nat.le_of_ble_eq_true rfl⟩) (va_recv hK hP (ci := 3) (q0 := 1) rfl rfl) (z_tailP hP hD) (hK.sub (tys' := [(cI, .int), (cS, .object RX1)]) [0, 1] rfl) hE rfl hl.1 rfl (Nat.le_of_ble_eq_true rfl) dL_exchange_5 ⟨Nat.le_of_ble_eq_true rfl, Nat.le_of_ble_eq_true rfl⟩ (fun H1 qa ce hz hk hce hcv hcl => ?_)
      refine vx_catch hown (tableOf []) ⟨0, 10, 13, 13⟩ (tableOf []) (htab.trans rfl) (fun z hz9 => absurd hz9 List.not_mem_nil) (by decide) (by decide) (hts (.classLink RL 13 XO) (by decide +kernel)) (va_Nw.use rfl hE.2.2.1.1) hce hcv hcl ?_
      have hP1 := z_keepP hP hk
      have hS1 := z_keepS (A := A) hz hk
      refine lv_astore (lv' := (4, .ref qa) :: [(0, .ref c0), (1, .int x), (2, .int y), (3, .ref oa)]) hx hb dL_exchange_13 hl (by decide) rfl (fun ls hl => ?_)
      refine lv_iconst (v := 1) hx hb dL_exchange_15 (by decide) ?_
      exact hend 1 (κ, f) _ _ _ _ ⟨e.symm, by rw [if_neg e0, if_neg e0]⟩ hP1 hD hS1 dL_exchange_16
  · skip
    have e : cd11 x 15 y 15 = 1 := by unfold cd11; rw [if_neg q1]
    have e0 : ¬ cd11 x 15 y 15 = 0 := by rw [e]; decide
    have hM := x_X3_exchange_O l hl0 n0 dC dI c0 ad ae ah ax ar cI cS (uS κ) (uA κ) (uo κ) (un κ) ho hn (uh κ) (ut κ) hok x y (out_or q1)
    refine z_tVc (As := [.int x, .int y]) (rest := [.int 0, .ref oa]) ⟨hx, hb, hml, hown, hts⟩ hM (cwV 2 hts gL_exchange_X3_exchange rfl rfl rfl (by decide +kernel) ⟨Nat.le_of_ble_eq_true rfl, Nat.le_of_ble_eq_true rfl⟩) (va_recv hK hP (ci := 3) (q0 := 1) rfl rfl) (z_tailP hP hD) (hK.sub (tys' := [(cI, .int), (cS, .object RX1)]) [0, 1] rfl) hE rfl hl.1 rfl (Nat.le_of_ble_eq_true rfl) dL_exchange_5 ⟨Nat.le_of_ble_eq_true rfl, Nat.le_of_ble_eq_true rfl⟩ (fun H1 qa ce hz hk hce hcv hcl => ?_)
    refine vx_catch hown (tableOf []) ⟨0, 10, 13, 13⟩ (tableOf []) (htab.trans rfl) (fun z hz9 => absurd hz9 List.not_mem_nil) (by decide) (by decide) (hts (.classLink RL 13 XO) (by decide +kernel)) (va_Nw.use rfl hE.2.2.1.1) hce hcv hcl ?_
    have hP1 := z_keepP hP hk
    have hS1 := z_keepS (A := A) hz hk
    refine lv_astore (lv' := (4, .ref qa) :: [(0, .ref c0), (1, .int x), (2, .int y), (3, .ref oa)]) hx hb dL_exchange_13 hl (by decide) rfl (fun ls hl => ?_)
    refine lv_iconst (v := 1) hx hb dL_exchange_15 (by decide) ?_
    exact hend 1 (κ, f) _ _ _ _ ⟨e.symm, by rw [if_neg e0, if_neg e0]⟩ hP1 hD hS1 dL_exchange_16
abbrev rL_wear : Room := { frames := 9, cells := 1, slots := 6, locals := 126 }
set_option maxHeartbeats 4000000 in
theorem w_wear (l : Launch) (hl0 : l.stackTraces = false) (n0 : Nat) (dC : Nat → ClassId) (dI : Nat → Nat → Nat) (c0 : Nat) (ad ae ah ax : Nat → Nat) (ar : Nat → Nat → Nat) (cI cS cL : ClassId) (oa : Nat) (κ : zK) (ho : uo κ < 6) (hn : un κ ≤ 6) (hok : zok (uS κ)) (f : Nat → Int64) (x : Int32) (y : Int32) (z : Int32) (sz : Nat) : zLi (S := zK × (Nat → Int64)) l yL_wear wsL_wear rL_wear n0 (dC, dI) [.ref c0, .int x, .int y, .int z, .ref oa] (zLW c0 ad ae ah ax ar cI cS cL oa κ f) [(cI, .int), (cS, .object RX1), (cL, .long)] sz (fun r u => r = cdWear (uS κ) x y z ∧ u = ((if cdWear (uS κ) x y z = 0 then (sWear κ x y z).1 else κ), (if cdWear (uS κ) x y z = 0 then vp_updL f 0 ((sWear κ x y z).2).toInt64 else f))) (fun u => zLW c0 ad ae ah ax ar cI cS cL oa u.1 u.2) 1 6 := by
  refine zLi_of (cc := cL_wear) (maxL := 6) (by decide) rfl (Nat.le_of_ble_eq_true rfl) ?_
  intro p e s m args below meth cd Q ls A hat hP hK hE hNc hN htab hD hA hend
  obtain ⟨hx, hb, hml, hown, hts, hl⟩ := hat
  replace hown : s.vm.findClass RL = some m.cls := hown
  replace hl : lv_has ls 6 [(0, .ref c0), (1, .int x), (2, .int y), (3, .int z), (4, .ref oa)] := hl
  have hS : va_S A s.heap s.heap [] := va_S.rf
  refine lv_aload hx hb dL_wear_0 (lv_at hl 4 rfl) ?_
  refine lv_iconst (v := 0) hx hb dL_wear_2 (by decide) ?_
  refine lv_aload_n hx hb dL_wear_3 rfl (lv_at hl 0 rfl) ?_
  refine lv_iload_n hx hb dL_wear_4 rfl (lv_at hl 1 rfl) ?_
  refine lv_iload_n hx hb dL_wear_5 rfl (lv_at hl 2 rfl) ?_
  refine lv_iload_n hx hb dL_wear_6 rfl (lv_at hl 3 rfl) ?_
  by_cases q1 : inL x 0 17
  · obtain ⟨jx, ex⟩ := in_17 q1
    by_cases q2 : inL y 0 12
    · obtain ⟨jy, ey⟩ := in_12 q2
      by_cases q3 : inL z 1 999
      · obtain ⟨jz1, jz2, ez⟩ := in_b (lo := 1) (hi := 999) (by decide) q3
        by_cases q4 : zwn (uS κ) (iN x * 13 + iN y) + z ≤ 99999
        · skip
          have e : cdWear (uS κ) x y z = 0 := by unfold cdWear; rw [if_pos q1, if_pos q2, if_pos q3, if_pos q4]
          have hM := k_X3_wear l dC dI c0 ad ae ah ax ar cI cS (uS κ) (uA κ) (uo κ) (un κ) ho hn (uh κ) (ut κ) hok (iN x) jx (iN y) jy (iN z) jz1 jz2 (by rw [← ez]; exact q4) s.heap.size
          rw [← ex, ← ey, ← ez] at hM
          refine z_xWi (wr := [(oa, .inl (cL, 1, .inr (.inl f)))]) (As := [.int x, .int y, .int z]) (rest := [.int 0, .ref oa]) ⟨hx, hb, hml, hown, hts⟩ hM (cwV 3 hts gL_wear_X3_wear rfl rfl rfl (by decide +kernel) ⟨Nat.le_of_ble_eq_true rfl, Nat.le_of_ble_eq_true rfl⟩) (va_recv hK hP (ci := 3) (q0 := 1) rfl rfl) hP hD hS hA (hK.sub (tys' := [(cI, .int), (cS, .object RX1)]) [0, 1] rfl) rfl hl.1 rfl (Nat.le_of_ble_eq_true rfl) dL_wear_7 ⟨Nat.le_of_ble_eq_true rfl, Nat.le_of_ble_eq_true rfl⟩ (fun r _ H locs hr hP hD hS => ?_)
          subst hr
          replace hP : va_P (dC, dI) vwCl (zLW c0 ad ae ah ax ar cI cS cL oa (sWear κ x y z).1 f) H := hP
          replace hD : va_D A (zLW c0 ad ae ah ax ar cI cS cL oa (sWear κ x y z).1 f) := hD
          refine W.widen (k := 1) (n := 6) (by decide) (by decide) ?_
          refine lv_i2l (v := ((sWear κ x y z).2).toInt64) hx hb dL_wear_10 rfl ?_
          refine z_last hx hb hK hP hD hS 0 2 0 rfl rfl (by decide) (by decide) dL_wear_11 (fun H locs hP hD hS => ?_)
          refine lv_goto (tgt := 27) hx hb dL_wear_12 (by decide) ?_
          refine lv_iconst (v := 0) hx hb dL_wear_27 (by decide) ?_
          exact hend 0 ((sWear κ x y z).1, vp_updL f 0 ((sWear κ x y z).2).toInt64) _ _ _ _ ⟨e.symm, by rw [if_pos e, if_pos e]⟩ hP hD hS dL_wear_28
        · skip
          have e : cdWear (uS κ) x y z = 3 := by unfold cdWear; rw [if_pos q1, if_pos q2, if_pos q3, if_neg q4]
          have e0 : ¬ cdWear (uS κ) x y z = 0 := by rw [e]; decide
          have hM := x_X3_wear_T l hl0 n0 dC dI c0 ad ae ah ax ar cI cS (uS κ) (uA κ) (uo κ) (un κ) ho hn (uh κ) (ut κ) hok (iN x) jx (iN y) jy (iN z) jz1 jz2 (by rw [← ez]; exact q4)
          rw [← ex, ← ey, ← ez] at hM
          refine z_tVc (As := [.int x, .int y, .int z]) (rest := [.int 0, .ref oa]) ⟨hx, hb, hml, hown, hts⟩ hM (cwV 3 hts gL_wear_X3_wear rfl rfl rfl (by decide +kernel) ⟨Nat.le_of_ble_eq_true rfl, Nat.le_of_ble_eq_true rfl⟩) (va_recv hK hP (ci := 3) (q0 := 1) rfl rfl) (z_tailP hP hD) (hK.sub (tys' := [(cI, .int), (cS, .object RX1)]) [0, 1] rfl) hE rfl hl.1 rfl (Nat.le_of_ble_eq_true rfl) dL_wear_7 ⟨Nat.le_of_ble_eq_true rfl, Nat.le_of_ble_eq_true rfl⟩ (fun H1 qa ce hz hk hce hcv hcl => ?_)
          refine vx_catch hown (tableOf [(0, 12, 15, 13), (0, 12, 19, 15)]) ⟨0, 12, 23, 17⟩ (tableOf []) (htab.trans rfl) (List.forall_mem_cons.mpr ⟨Or.inr ⟨by decide, XO, hts (.classLink RL 13 XO) (by decide +kernel), hNc.2.1⟩, List.forall_mem_cons.mpr ⟨Or.inr ⟨by decide, XA, hts (.classLink RL 15 XA) (by decide +kernel), hNc.2.2⟩, fun z hz9 => absurd hz9 List.not_mem_nil⟩⟩) (by decide) (by decide) (hts (.classLink RL 17 XT) (by decide +kernel)) (va_Nw.use rfl hE.2.2.1.2.2) hce hcv hcl ?_
          have hP1 := z_keepP hP hk
          have hS1 := z_keepS (A := A) hz hk
          refine lv_astore (lv' := (5, .ref qa) :: [(0, .ref c0), (1, .int x), (2, .int y), (3, .int z), (4, .ref oa)]) hx hb dL_wear_23 hl (by decide) rfl (fun ls hl => ?_)
          refine lv_iconst (v := 3) hx hb dL_wear_25 (by decide) ?_
          exact hend 3 (κ, f) _ _ _ _ ⟨e.symm, by rw [if_neg e0, if_neg e0]⟩ hP1 hD hS1 dL_wear_26
      · skip
        have e : cdWear (uS κ) x y z = 2 := by unfold cdWear; rw [if_pos q1, if_pos q2, if_neg q3]
        have e0 : ¬ cdWear (uS κ) x y z = 0 := by rw [e]; decide
        have hM := x_X3_wear_A l hl0 n0 dC dI c0 ad ae ah ax ar cI cS (uS κ) (uA κ) (uo κ) (un κ) ho hn (uh κ) (ut κ) hok (iN x) jx (iN y) jy z (out_or q3)
        rw [← ex, ← ey] at hM
        refine z_tVc (As := [.int x, .int y, .int z]) (rest := [.int 0, .ref oa]) ⟨hx, hb, hml, hown, hts⟩ hM (cwV 3 hts gL_wear_X3_wear rfl rfl rfl (by decide +kernel) ⟨Nat.le_of_ble_eq_true rfl, Nat.le_of_ble_eq_true rfl⟩) (va_recv hK hP (ci := 3) (q0 := 1) rfl rfl) (z_tailP hP hD) (hK.sub (tys' := [(cI, .int), (cS, .object RX1)]) [0, 1] rfl) hE rfl hl.1 rfl (Nat.le_of_ble_eq_true rfl) dL_wear_7 ⟨Nat.le_of_ble_eq_true rfl, Nat.le_of_ble_eq_true rfl⟩ (fun H1 qa ce hz hk hce hcv hcl => ?_)
        refine vx_catch hown (tableOf [(0, 12, 15, 13)]) ⟨0, 12, 19, 15⟩ (tableOf [(0, 12, 23, 17)]) (htab.trans rfl) (List.forall_mem_cons.mpr ⟨Or.inr ⟨by decide, XO, hts (.classLink RL 13 XO) (by decide +kernel), hNc.1⟩, fun z hz9 => absurd hz9 List.not_mem_nil⟩) (by decide) (by decide) (hts (.classLink RL 15 XA) (by decide +kernel)) (va_Nw.use rfl hE.2.2.1.2.1) hce hcv hcl ?_
        have hP1 := z_keepP hP hk
        have hS1 := z_keepS (A := A) hz hk
        refine lv_astore (lv' := (5, .ref qa) :: [(0, .ref c0), (1, .int x), (2, .int y), (3, .int z), (4, .ref oa)]) hx hb dL_wear_19 hl (by decide) rfl (fun ls hl => ?_)
        refine lv_iconst (v := 2) hx hb dL_wear_21 (by decide) ?_
        exact hend 2 (κ, f) _ _ _ _ ⟨e.symm, by rw [if_neg e0, if_neg e0]⟩ hP1 hD hS1 dL_wear_22
    · skip
      have e : cdWear (uS κ) x y z = 1 := by unfold cdWear; rw [if_pos q1, if_neg q2]
      have e0 : ¬ cdWear (uS κ) x y z = 0 := by rw [e]; decide
      have hM := x_X3_wear_P l hl0 n0 dC dI c0 ad ae ah ax ar cI cS (uS κ) (uA κ) (uo κ) (un κ) ho hn (uh κ) (ut κ) hok (iN x) jx y z (out_or q2)
      rw [← ex] at hM
      refine z_tVc (As := [.int x, .int y, .int z]) (rest := [.int 0, .ref oa]) ⟨hx, hb, hml, hown, hts⟩ hM (cwV 3 hts gL_wear_X3_wear rfl rfl rfl (by decide +kernel) ⟨Nat.le_of_ble_eq_true rfl, Nat.le_of_ble_eq_true rfl⟩) (va_recv hK hP (ci := 3) (q0 := 1) rfl rfl) (z_tailP hP hD) (hK.sub (tys' := [(cI, .int), (cS, .object RX1)]) [0, 1] rfl) hE rfl hl.1 rfl (Nat.le_of_ble_eq_true rfl) dL_wear_7 ⟨Nat.le_of_ble_eq_true rfl, Nat.le_of_ble_eq_true rfl⟩ (fun H1 qa ce hz hk hce hcv hcl => ?_)
      refine vx_catch hown (tableOf []) ⟨0, 12, 15, 13⟩ (tableOf [(0, 12, 19, 15), (0, 12, 23, 17)]) (htab.trans rfl) (fun z hz9 => absurd hz9 List.not_mem_nil) (by decide) (by decide) (hts (.classLink RL 13 XO) (by decide +kernel)) (va_Nw.use rfl hE.2.2.1.1) hce hcv hcl ?_
      have hP1 := z_keepP hP hk
      have hS1 := z_keepS (A := A) hz hk
      refine lv_astore (lv' := (5, .ref qa) :: [(0, .ref c0), (1, .int x), (2, .int y), (3, .int z), (4, .ref oa)]) hx hb dL_wear_15 hl (by decide) rfl (fun ls hl => ?_)
      refine lv_iconst (v := 1) hx hb dL_wear_17 (by decide) ?_
      exact hend 1 (κ, f) _ _ _ _ ⟨e.symm, by rw [if_neg e0, if_neg e0]⟩ hP1 hD hS1 dL_wear_18
  · skip
    have e : cdWear (uS κ) x y z = 1 := by unfold cdWear; rw [if_neg q1]
    have e0 : ¬ cdWear (uS κ) x y z = 0 := by rw [e]; decide
    have hM := x_X3_wear_O l hl0 n0 dC dI c0 ad ae ah ax ar cI cS (uS κ) (uA κ) (uo κ) (un κ) ho hn (uh κ) (ut κ) hok x y z (out_or q1)
    refine z_tVc (As := [.int x, .int y, .int z]) (rest := [.int 0, .ref oa]) ⟨hx, hb, hml, hown, hts⟩ hM (cwV 3 hts gL_wear_X3_wear rfl rfl rfl (by decide +kernel) ⟨Nat.le_of_ble_eq_true rfl, Nat.le_of_ble_eq_true rfl⟩) (va_recv hK hP (ci := 3) (q0 := 1) rfl rfl) (z_tailP hP hD) (hK.sub (tys' := [(cI, .int), (cS, .object RX1)]) [0, 1] rfl) hE rfl hl.1 rfl (Nat.le_of_ble_eq_true rfl) dL_wear_7 ⟨Nat.le_of_ble_eq_true rfl, Nat.le_of_ble_eq_true rfl⟩ (fun H1 qa ce hz hk hce hcv hcl => ?_)
    refine vx_catch hown (tableOf []) ⟨0, 12, 15, 13⟩ (tableOf [(0, 12, 19, 15), (0, 12, 23, 17)]) (htab.trans rfl) (fun z hz9 => absurd hz9 List.not_mem_nil) (by decide) (by decide) (hts (.classLink RL 13 XO) (by decide +kernel)) (va_Nw.use rfl hE.2.2.1.1) hce hcv hcl ?_
    have hP1 := z_keepP hP hk
    have hS1 := z_keepS (A := A) hz hk
    refine lv_astore (lv' := (5, .ref qa) :: [(0, .ref c0), (1, .int x), (2, .int y), (3, .int z), (4, .ref oa)]) hx hb dL_wear_15 hl (by decide) rfl (fun ls hl => ?_)
    refine lv_iconst (v := 1) hx hb dL_wear_17 (by decide) ?_
    exact hend 1 (κ, f) _ _ _ _ ⟨e.symm, by rw [if_neg e0, if_neg e0]⟩ hP1 hD hS1 dL_wear_18
abbrev rL_set : Room := { frames := 9, cells := 1, slots := 6, locals := 126 }
set_option maxHeartbeats 4000000 in
theorem w_set (l : Launch) (hl0 : l.stackTraces = false) (n0 : Nat) (dC : Nat → ClassId) (dI : Nat → Nat → Nat) (c0 : Nat) (ad ae ah ax : Nat → Nat) (ar : Nat → Nat → Nat) (cI cS cL : ClassId) (oa : Nat) (κ : zK) (ho : uo κ < 6) (hn : un κ ≤ 6) (hok : zok (uS κ)) (f : Nat → Int64) (x : Int32) (y : Int32) (sz : Nat) : zLi (S := zK × (Nat → Int64)) l yL_set wsL_set rL_set n0 (dC, dI) [.ref c0, .int x, .int y, .ref oa] (zLW c0 ad ae ah ax ar cI cS cL oa κ f) [(cI, .int), (cS, .object RX1), (cL, .long)] sz (fun r u => r = cdSet x y ∧ u = ((if cdSet x y = 0 then (sSet κ x y).1 else κ), (if cdSet x y = 0 then vp_updL f 0 ((sSet κ x y).2).toInt64 else f))) (fun u => zLW c0 ad ae ah ax ar cI cS cL oa u.1 u.2) 1 6 := by
  refine zLi_of (cc := cL_set) (maxL := 5) (by decide) rfl (Nat.le_of_ble_eq_true rfl) ?_
  intro p e s m args below meth cd Q ls A hat hP hK hE hNc hN htab hD hA hend
  obtain ⟨hx, hb, hml, hown, hts, hl⟩ := hat
  replace hown : s.vm.findClass RL = some m.cls := hown
  replace hl : lv_has ls 5 [(0, .ref c0), (1, .int x), (2, .int y), (3, .ref oa)] := hl
  have hS : va_S A s.heap s.heap [] := va_S.rf
  refine lv_aload_n hx hb dL_set_0 rfl (lv_at hl 3 rfl) ?_
  refine lv_iconst (v := 0) hx hb dL_set_1 (by decide) ?_
  refine lv_aload_n hx hb dL_set_2 rfl (lv_at hl 0 rfl) ?_
  refine lv_iload_n hx hb dL_set_3 rfl (lv_at hl 1 rfl) ?_
  refine lv_iload_n hx hb dL_set_4 rfl (lv_at hl 2 rfl) ?_
  by_cases q1 : inL x 0 1
  · obtain ⟨jx, ex⟩ := in_1 q1
    by_cases q2 : cdSet x y = 0
    · skip
      have e : cdSet x y = 0 := q2
      have hM := k_X3_set l dC dI c0 ad ae ah ax ar cI cS (uS κ) (uA κ) (uo κ) (un κ) ho hn (uh κ) (ut κ) hok (iN x) jx y (cdSet_0 q2).2 s.heap.size
      rw [← ex] at hM
      refine z_xWi (wr := [(oa, .inl (cL, 1, .inr (.inl f)))]) (As := [.int x, .int y]) (rest := [.int 0, .ref oa]) ⟨hx, hb, hml, hown, hts⟩ hM (cwV 2 hts gL_set_X3_set rfl rfl rfl (by decide +kernel) ⟨Nat.le_of_ble_eq_true rfl, Nat.le_of_ble_eq_true rfl⟩) (va_recv hK hP (ci := 3) (q0 := 1) rfl rfl) hP hD hS hA (hK.sub (tys' := [(cI, .int), (cS, .object RX1)]) [0, 1] rfl) rfl hl.1 rfl (Nat.le_of_ble_eq_true rfl) dL_set_5 ⟨Nat.le_of_ble_eq_true rfl, Nat.le_of_ble_eq_true rfl⟩ (fun r _ H locs hr hP hD hS => ?_)
      subst hr
      replace hP : va_P (dC, dI) vwCl (zLW c0 ad ae ah ax ar cI cS cL oa (sSet κ x y).1 f) H := hP
      replace hD : va_D A (zLW c0 ad ae ah ax ar cI cS cL oa (sSet κ x y).1 f) := hD
      refine W.widen (k := 1) (n := 6) (by decide) (by decide) ?_
      refine lv_i2l (v := ((sSet κ x y).2).toInt64) hx hb dL_set_8 rfl ?_
      refine z_last hx hb hK hP hD hS 0 2 0 rfl rfl (by decide) (by decide) dL_set_9 (fun H locs hP hD hS => ?_)
      refine lv_goto (tgt := 21) hx hb dL_set_10 (by decide) ?_
      refine lv_iconst (v := 0) hx hb dL_set_21 (by decide) ?_
      exact hend 0 ((sSet κ x y).1, vp_updL f 0 ((sSet κ x y).2).toInt64) _ _ _ _ ⟨e.symm, by rw [if_pos e, if_pos e]⟩ hP hD hS dL_set_22
    · skip
      have e : cdSet x y = 2 := cdSet_2 q1 q2
      have e0 : ¬ cdSet x y = 0 := by rw [e]; decide
      have hM := x_X3_set_A l hl0 n0 dC dI c0 ad ae ah ax ar cI cS (uS κ) (uA κ) (uo κ) (un κ) ho hn (uh κ) (ut κ) hok (iN x) jx y (cdSet_2h q1 q2)
      rw [← ex] at hM
      refine z_tVc (As := [.int x, .int y]) (rest := [.int 0, .ref oa]) ⟨hx, hb, hml, hown, hts⟩ hM (cwV 2 hts gL_set_X3_set rfl rfl rfl (by decide +kernel) ⟨Nat.le_of_ble_eq_true rfl, Nat.le_of_ble_eq_true rfl⟩) (va_recv hK hP (ci := 3) (q0 := 1) rfl rfl) (z_tailP hP hD) (hK.sub (tys' := [(cI, .int), (cS, .object RX1)]) [0, 1] rfl) hE rfl hl.1 rfl (Nat.le_of_ble_eq_true rfl) dL_set_5 ⟨Nat.le_of_ble_eq_true rfl, Nat.le_of_ble_eq_true rfl⟩ (fun H1 qa ce hz hk hce hcv hcl => ?_)
      refine vx_catch hown (tableOf [(0, 10, 13, 13)]) ⟨0, 10, 17, 15⟩ (tableOf []) (htab.trans rfl) (List.forall_mem_cons.mpr ⟨Or.inr ⟨by decide, XO, hts (.classLink RL 13 XO) (by decide +kernel), hNc.1⟩, fun z hz9 => absurd hz9 List.not_mem_nil⟩) (by decide) (by decide) (hts (.classLink RL 15 XA) (by decide +kernel)) (va_Nw.use rfl hE.2.2.1.2.1) hce hcv hcl ?_
      have hP1 := z_keepP hP hk
      have hS1 := z_keepS (A := A) hz hk
      refine lv_astore (lv' := (4, .ref qa) :: [(0, .ref c0), (1, .int x), (2, .int y), (3, .ref oa)]) hx hb dL_set_17 hl (by decide) rfl (fun ls hl => ?_)
      refine lv_iconst (v := 2) hx hb dL_set_19 (by decide) ?_
      exact hend 2 (κ, f) _ _ _ _ ⟨e.symm, by rw [if_neg e0, if_neg e0]⟩ hP1 hD hS1 dL_set_20
  · skip
    have e : cdSet x y = 1 := by unfold cdSet; rw [if_neg q1]
    have e0 : ¬ cdSet x y = 0 := by rw [e]; decide
    have hM := x_X3_set_O l hl0 n0 dC dI c0 ad ae ah ax ar cI cS (uS κ) (uA κ) (uo κ) (un κ) ho hn (uh κ) (ut κ) hok x y (out_or q1)
    refine z_tVc (As := [.int x, .int y]) (rest := [.int 0, .ref oa]) ⟨hx, hb, hml, hown, hts⟩ hM (cwV 2 hts gL_set_X3_set rfl rfl rfl (by decide +kernel) ⟨Nat.le_of_ble_eq_true rfl, Nat.le_of_ble_eq_true rfl⟩) (va_recv hK hP (ci := 3) (q0 := 1) rfl rfl) (z_tailP hP hD) (hK.sub (tys' := [(cI, .int), (cS, .object RX1)]) [0, 1] rfl) hE rfl hl.1 rfl (Nat.le_of_ble_eq_true rfl) dL_set_5 ⟨Nat.le_of_ble_eq_true rfl, Nat.le_of_ble_eq_true rfl⟩ (fun H1 qa ce hz hk hce hcv hcl => ?_)
    refine vx_catch hown (tableOf []) ⟨0, 10, 13, 13⟩ (tableOf [(0, 10, 17, 15)]) (htab.trans rfl) (fun z hz9 => absurd hz9 List.not_mem_nil) (by decide) (by decide) (hts (.classLink RL 13 XO) (by decide +kernel)) (va_Nw.use rfl hE.2.2.1.1) hce hcv hcl ?_
    have hP1 := z_keepP hP hk
    have hS1 := z_keepS (A := A) hz hk
    refine lv_astore (lv' := (4, .ref qa) :: [(0, .ref c0), (1, .int x), (2, .int y), (3, .ref oa)]) hx hb dL_set_13 hl (by decide) rfl (fun ls hl => ?_)
    refine lv_iconst (v := 1) hx hb dL_set_15 (by decide) ?_
    exact hend 1 (κ, f) _ _ _ _ ⟨e.symm, by rw [if_neg e0, if_neg e0]⟩ hP1 hD hS1 dL_set_16
abbrev rL_append : Room := { frames := 7, cells := 1, slots := 6, locals := 103 }
set_option maxHeartbeats 4000000 in
theorem w_append (l : Launch) (hl0 : l.stackTraces = false) (n0 : Nat) (dC : Nat → ClassId) (dI : Nat → Nat → Nat) (c0 : Nat) (ad ae ah ax : Nat → Nat) (ar : Nat → Nat → Nat) (cI cS cL : ClassId) (oa : Nat) (κ : zK) (ho : uo κ < 6) (hn : un κ ≤ 6) (hok : zok (uS κ)) (ht : tl (ut κ) ≤ 60) (f : Nat → Int64) (x : Int32) (sz : Nat) : zLi (S := zK × (Nat → Int64)) l yL_append wsL_append rL_append n0 (dC, dI) [.ref c0, .int x, .ref oa] (zLW c0 ad ae ah ax ar cI cS cL oa κ f) [(cI, .int), (cS, .object RX1), (cL, .long)] sz (fun r u => r = cdAppend (tl (ut κ)) x ∧ u = ((if cdAppend (tl (ut κ)) x = 0 then (sAppend κ x).1 else κ), (if cdAppend (tl (ut κ)) x = 0 then vp_updL f 0 ((sAppend κ x).2).toInt64 else f))) (fun u => zLW c0 ad ae ah ax ar cI cS cL oa u.1 u.2) 1 6 := by
  refine zLi_of (cc := cL_append) (maxL := 4) (by decide) rfl (Nat.le_of_ble_eq_true rfl) ?_
  intro p e s m args below meth cd Q ls A hat hP hK hE hNc hN htab hD hA hend
  obtain ⟨hx, hb, hml, hown, hts, hl⟩ := hat
  replace hown : s.vm.findClass RL = some m.cls := hown
  replace hl : lv_has ls 4 [(0, .ref c0), (1, .int x), (2, .ref oa)] := hl
  have hS : va_S A s.heap s.heap [] := va_S.rf
  refine lv_aload_n hx hb dL_append_0 rfl (lv_at hl 2 rfl) ?_
  refine lv_iconst (v := 0) hx hb dL_append_1 (by decide) ?_
  refine lv_aload_n hx hb dL_append_2 rfl (lv_at hl 0 rfl) ?_
  refine lv_iload_n hx hb dL_append_3 rfl (lv_at hl 1 rfl) ?_
  by_cases q1 : inL x 33 126
  · obtain ⟨jx1, jx2, ex⟩ := in_b (lo := 33) (hi := 126) (by decide) q1
    by_cases q2 : tl (ut κ) = 60
    · skip
      have e : cdAppend (tl (ut κ)) x = 2 := by unfold cdAppend; rw [if_pos q1, if_pos q2]
      have e0 : ¬ cdAppend (tl (ut κ)) x = 0 := by rw [e]; decide
      have hM := x_X3_append_T l hl0 n0 dC dI c0 ad ae ah ax ar cI cS (uS κ) (uA κ) (uo κ) (un κ) ho hn (uh κ) (ut κ) hok (iN x) jx1 jx2 ht (by omega)
      rw [← ex] at hM
      refine z_tVc (As := [.int x]) (rest := [.int 0, .ref oa]) ⟨hx, hb, hml, hown, hts⟩ hM (cwV 1 hts gL_append_X3_append rfl rfl rfl (by decide +kernel) ⟨Nat.le_of_ble_eq_true rfl, Nat.le_of_ble_eq_true rfl⟩) (va_recv hK hP (ci := 3) (q0 := 1) rfl rfl) (z_tailP hP hD) (hK.sub (tys' := [(cI, .int), (cS, .object RX1)]) [0, 1] rfl) hE rfl hl.1 rfl (Nat.le_of_ble_eq_true rfl) dL_append_4 ⟨Nat.le_of_ble_eq_true rfl, Nat.le_of_ble_eq_true rfl⟩ (fun H1 qa ce hz hk hce hcv hcl => ?_)
      refine vx_catch hown (tableOf [(0, 9, 12, 15)]) ⟨0, 9, 15, 17⟩ (tableOf []) (htab.trans rfl) (List.forall_mem_cons.mpr ⟨Or.inr ⟨by decide, XA, hts (.classLink RL 15 XA) (by decide +kernel), hNc.2.2⟩, fun z hz9 => absurd hz9 List.not_mem_nil⟩) (by decide) (by decide) (hts (.classLink RL 17 XT) (by decide +kernel)) (va_Nw.use rfl hE.2.2.1.2.2) hce hcv hcl ?_
      have hP1 := z_keepP hP hk
      have hS1 := z_keepS (A := A) hz hk
      refine lv_astore_n (lv' := (3, .ref qa) :: [(0, .ref c0), (1, .int x), (2, .ref oa)]) hx hb dL_append_15 rfl hl (by decide) rfl (fun ls hl => ?_)
      refine lv_iconst (v := 2) hx hb dL_append_16 (by decide) ?_
      exact hend 2 (κ, f) _ _ _ _ ⟨e.symm, by rw [if_neg e0, if_neg e0]⟩ hP1 hD hS1 dL_append_17
    · skip
      have e : cdAppend (tl (ut κ)) x = 0 := by unfold cdAppend; rw [if_pos q1, if_neg q2]
      have hM := k_X3_append l dC dI c0 ad ae ah ax ar cI cS (uS κ) (uA κ) (uo κ) (un κ) ho hn (uh κ) (ut κ) hok (iN x) jx1 jx2 (by omega) s.heap.size
      rw [← ex] at hM
      refine z_xWi (wr := [(oa, .inl (cL, 1, .inr (.inl f)))]) (As := [.int x]) (rest := [.int 0, .ref oa]) ⟨hx, hb, hml, hown, hts⟩ hM (cwV 1 hts gL_append_X3_append rfl rfl rfl (by decide +kernel) ⟨Nat.le_of_ble_eq_true rfl, Nat.le_of_ble_eq_true rfl⟩) (va_recv hK hP (ci := 3) (q0 := 1) rfl rfl) hP hD hS hA (hK.sub (tys' := [(cI, .int), (cS, .object RX1)]) [0, 1] rfl) rfl hl.1 rfl (Nat.le_of_ble_eq_true rfl) dL_append_4 ⟨Nat.le_of_ble_eq_true rfl, Nat.le_of_ble_eq_true rfl⟩ (fun r _ H locs hr hP hD hS => ?_)
      subst hr
      replace hP : va_P (dC, dI) vwCl (zLW c0 ad ae ah ax ar cI cS cL oa (sAppend κ x).1 f) H := hP
      replace hD : va_D A (zLW c0 ad ae ah ax ar cI cS cL oa (sAppend κ x).1 f) := hD
      refine W.widen (k := 1) (n := 6) (by decide) (by decide) ?_
      refine lv_i2l (v := ((sAppend κ x).2).toInt64) hx hb dL_append_7 rfl ?_
      refine z_last hx hb hK hP hD hS 0 2 0 rfl rfl (by decide) (by decide) dL_append_8 (fun H locs hP hD hS => ?_)
      refine lv_goto (tgt := 18) hx hb dL_append_9 (by decide) ?_
      refine lv_iconst (v := 0) hx hb dL_append_18 (by decide) ?_
      exact hend 0 ((sAppend κ x).1, vp_updL f 0 ((sAppend κ x).2).toInt64) _ _ _ _ ⟨e.symm, by rw [if_pos e, if_pos e]⟩ hP hD hS dL_append_19
  · skip
    have e : cdAppend (tl (ut κ)) x = 1 := by unfold cdAppend; rw [if_neg q1]
    have e0 : ¬ cdAppend (tl (ut κ)) x = 0 := by rw [e]; decide
    have hM := x_X3_append_A l hl0 n0 dC dI c0 ad ae ah ax ar cI cS (uS κ) (uA κ) (uo κ) (un κ) ho hn (uh κ) (ut κ) hok x (out_or q1)
    refine z_tVc (As := [.int x]) (rest := [.int 0, .ref oa]) ⟨hx, hb, hml, hown, hts⟩ hM (cwV 1 hts gL_append_X3_append rfl rfl rfl (by decide +kernel) ⟨Nat.le_of_ble_eq_true rfl, Nat.le_of_ble_eq_true rfl⟩) (va_recv hK hP (ci := 3) (q0 := 1) rfl rfl) (z_tailP hP hD) (hK.sub (tys' := [(cI, .int), (cS, .object RX1)]) [0, 1] rfl) hE rfl hl.1 rfl (Nat.le_of_ble_eq_true rfl) dL_append_4 ⟨Nat.le_of_ble_eq_true rfl, Nat.le_of_ble_eq_true rfl⟩ (fun H1 qa ce hz hk hce hcv hcl => ?_)
    refine vx_catch hown (tableOf []) ⟨0, 9, 12, 15⟩ (tableOf [(0, 9, 15, 17)]) (htab.trans rfl) (fun z hz9 => absurd hz9 List.not_mem_nil) (by decide) (by decide) (hts (.classLink RL 15 XA) (by decide +kernel)) (va_Nw.use rfl hE.2.2.1.2.1) hce hcv hcl ?_
    have hP1 := z_keepP hP hk
    have hS1 := z_keepS (A := A) hz hk
    refine lv_astore_n (lv' := (3, .ref qa) :: [(0, .ref c0), (1, .int x), (2, .ref oa)]) hx hb dL_append_12 rfl hl (by decide) rfl (fun ls hl => ?_)
    refine lv_iconst (v := 1) hx hb dL_append_13 (by decide) ?_
    exact hend 1 (κ, f) _ _ _ _ ⟨e.symm, by rw [if_neg e0, if_neg e0]⟩ hP1 hD hS1 dL_append_14
abbrev rL_undo : Room := { frames := 7, cells := 1, slots := 6, locals := 122 }
set_option maxHeartbeats 4000000 in
theorem w_undo (l : Launch) (hl0 : l.stackTraces = false) (n0 : Nat) (dC : Nat → ClassId) (dI : Nat → Nat → Nat) (c0 : Nat) (ad ae ah ax : Nat → Nat) (ar : Nat → Nat → Nat) (cI cS cL : ClassId) (oa : Nat) (κ : zK) (ho : uo κ < 6) (hn : un κ ≤ 6) (hok : zok (uS κ)) (f : Nat → Int64) (sz : Nat) : zLi (S := zK × (Nat → Int64)) l yL_undo wsL_undo rL_undo n0 (dC, dI) [.ref c0, .ref oa] (zLW c0 ad ae ah ax ar cI cS cL oa κ f) [(cI, .int), (cS, .object RX1), (cL, .long)] sz (fun r u => r = cdUndo (un κ) ∧ u = ((if cdUndo (un κ) = 0 then (sUndo κ).1 else κ), (if cdUndo (un κ) = 0 then vp_updL f 0 ((sUndo κ).2).toInt64 else f))) (fun u => zLW c0 ad ae ah ax ar cI cS cL oa u.1 u.2) 1 6 := by
  refine zLi_of (cc := cL_undo) (maxL := 3) (by decide) rfl (Nat.le_of_ble_eq_true rfl) ?_
  intro p e s m args below meth cd Q ls A hat hP hK hE hNc hN htab hD hA hend
  obtain ⟨hx, hb, hml, hown, hts, hl⟩ := hat
  replace hown : s.vm.findClass RL = some m.cls := hown
  replace hl : lv_has ls 3 [(0, .ref c0), (1, .ref oa)] := hl
  have hS : va_S A s.heap s.heap [] := va_S.rf
  refine lv_aload_n hx hb dL_undo_0 rfl (lv_at hl 1 rfl) ?_
  refine lv_iconst (v := 0) hx hb dL_undo_1 (by decide) ?_
  refine lv_aload_n hx hb dL_undo_2 rfl (lv_at hl 0 rfl) ?_
  by_cases q1 : un κ = 0
  · skip
    have e : cdUndo (un κ) = 1 := by unfold cdUndo; rw [if_pos q1]
    have e0 : ¬ cdUndo (un κ) = 0 := by rw [e]; decide
    have hM := x_X3_undo_T l hl0 n0 dC dI c0 ad ae ah ax ar cI cS (uS κ) (uA κ) (uo κ) (un κ) ho hn (uh κ) (ut κ) hok q1
    refine z_tVc (As := []) (rest := [.int 0, .ref oa]) ⟨hx, hb, hml, hown, hts⟩ hM (cwV 0 hts gL_undo_X3_undo rfl rfl rfl (by decide +kernel) ⟨Nat.le_of_ble_eq_true rfl, Nat.le_of_ble_eq_true rfl⟩) (va_recv hK hP (ci := 3) (q0 := 1) rfl rfl) (z_tailP hP hD) (hK.sub (tys' := [(cI, .int), (cS, .object RX1)]) [0, 1] rfl) hE rfl hl.1 rfl (Nat.le_of_ble_eq_true rfl) dL_undo_3 ⟨Nat.le_of_ble_eq_true rfl, Nat.le_of_ble_eq_true rfl⟩ (fun H1 qa ce hz hk hce hcv hcl => ?_)
    refine vx_catch hown (tableOf []) ⟨0, 8, 11, 17⟩ (tableOf []) (htab.trans rfl) (fun z hz9 => absurd hz9 List.not_mem_nil) (by decide) (by decide) (hts (.classLink RL 17 XT) (by decide +kernel)) (va_Nw.use rfl hE.2.2.1.2.2) hce hcv hcl ?_
    have hP1 := z_keepP hP hk
    have hS1 := z_keepS (A := A) hz hk
    refine lv_astore_n (lv' := (2, .ref qa) :: [(0, .ref c0), (1, .ref oa)]) hx hb dL_undo_11 rfl hl (by decide) rfl (fun ls hl => ?_)
    refine lv_iconst (v := 1) hx hb dL_undo_12 (by decide) ?_
    exact hend 1 (κ, f) _ _ _ _ ⟨e.symm, by rw [if_neg e0, if_neg e0]⟩ hP1 hD hS1 dL_undo_13
  · skip
    have e : cdUndo (un κ) = 0 := by unfold cdUndo; rw [if_neg q1]
    have hM := k_X3_undo l dC dI c0 ad ae ah ax ar cI cS (uS κ) (uA κ) (uo κ) (un κ) ho hn (uh κ) (ut κ) hok (by omega) s.heap.size
    refine z_xWi (wr := [(oa, .inl (cL, 1, .inr (.inl f)))]) (As := []) (rest := [.int 0, .ref oa]) ⟨hx, hb, hml, hown, hts⟩ hM (cwV 0 hts gL_undo_X3_undo rfl rfl rfl (by decide +kernel) ⟨Nat.le_of_ble_eq_true rfl, Nat.le_of_ble_eq_true rfl⟩) (va_recv hK hP (ci := 3) (q0 := 1) rfl rfl) hP hD hS hA (hK.sub (tys' := [(cI, .int), (cS, .object RX1)]) [0, 1] rfl) rfl hl.1 rfl (Nat.le_of_ble_eq_true rfl) dL_undo_3 ⟨Nat.le_of_ble_eq_true rfl, Nat.le_of_ble_eq_true rfl⟩ (fun r _ H locs hr hP hD hS => ?_)
    subst hr
    replace hP : va_P (dC, dI) vwCl (zLW c0 ad ae ah ax ar cI cS cL oa (sUndo κ).1 f) H := hP
    replace hD : va_D A (zLW c0 ad ae ah ax ar cI cS cL oa (sUndo κ).1 f) := hD
    refine W.widen (k := 1) (n := 6) (by decide) (by decide) ?_
    refine lv_i2l (v := ((sUndo κ).2).toInt64) hx hb dL_undo_6 rfl ?_
    refine z_last hx hb hK hP hD hS 0 2 0 rfl rfl (by decide) (by decide) dL_undo_7 (fun H locs hP hD hS => ?_)
    refine lv_goto (tgt := 14) hx hb dL_undo_8 (by decide) ?_
    refine lv_iconst (v := 0) hx hb dL_undo_14 (by decide) ?_
    exact hend 0 ((sUndo κ).1, vp_updL f 0 ((sUndo κ).2).toInt64) _ _ _ _ ⟨e.symm, by rw [if_pos e, if_pos e]⟩ hP hD hS dL_undo_15
abbrev rL_read : Room := { frames := 9, cells := 1, slots := 6, locals := 123 }
set_option maxHeartbeats 4000000 in
theorem w_read (l : Launch) (hl0 : l.stackTraces = false) (n0 : Nat) (dC : Nat → ClassId) (dI : Nat → Nat → Nat) (c0 : Nat) (ad ae ah ax : Nat → Nat) (ar : Nat → Nat → Nat) (cI cS cL : ClassId) (oa : Nat) (κ : zK) (ho : uo κ < 6) (hn : un κ ≤ 6) (hok : zok (uS κ)) (f : Nat → Int64) (x : Int32) (sz : Nat) : zLi (S := zK × (Nat → Int64)) l yL_read wsL_read rL_read n0 (dC, dI) [.ref c0, .int x, .ref oa] (zLW c0 ad ae ah ax ar cI cS cL oa κ f) [(cI, .int), (cS, .object RX1), (cL, .long)] sz (fun r u => r = cd1 x 15 ∧ u = (κ, (if cd1 x 15 = 0 then vp_updL f 0 (pnm (uS κ) (iN x)).toInt64 else f))) (fun u => zLW c0 ad ae ah ax ar cI cS cL oa u.1 u.2) 1 6 := by
  refine zLi_of (cc := cL_read) (maxL := 4) (by decide) rfl (Nat.le_of_ble_eq_true rfl) ?_
  intro p e s m args below meth cd Q ls A hat hP hK hE hNc hN htab hD hA hend
  obtain ⟨hx, hb, hml, hown, hts, hl⟩ := hat
  replace hown : s.vm.findClass RL = some m.cls := hown
  replace hl : lv_has ls 4 [(0, .ref c0), (1, .int x), (2, .ref oa)] := hl
  have hS : va_S A s.heap s.heap [] := va_S.rf
  refine lv_aload_n hx hb dL_read_0 rfl (lv_at hl 2 rfl) ?_
  refine lv_iconst (v := 0) hx hb dL_read_1 (by decide) ?_
  refine lv_aload_n hx hb dL_read_2 rfl (lv_at hl 0 rfl) ?_
  refine lv_iload_n hx hb dL_read_3 rfl (lv_at hl 1 rfl) ?_
  by_cases q1 : inL x 0 15
  · obtain ⟨jx, ex⟩ := in_15 q1
    have e : cd1 x 15 = 0 := by unfold cd1; rw [if_pos q1]
    have hM := k_X3_read l dC dI c0 ad ae ah ax cI (uS κ) hok (iN x) jx
    rw [← ex] at hM
    refine z_cVi (As := [.int x]) (rest := [.int 0, .ref oa]) ⟨hx, hb, hml, hown, hts⟩ hM (cwV 1 hts gL_read_X3_read rfl rfl rfl (by decide +kernel) ⟨Nat.le_of_ble_eq_true rfl, Nat.le_of_ble_eq_true rfl⟩) (va_recv hK hP (ci := 3) (q0 := 1) rfl rfl) (hP.sub (ws' := zCo c0 ad ae ah ax ++ zW ad cI (uS κ)) [1, 2, 3, 4, 5, 6, 7, 8, 9, 10] rfl) (hK.sub (tys' := [(cI, .int)]) [0] rfl) rfl hl.1 rfl (Nat.le_of_ble_eq_true rfl) dL_read_4 ⟨Nat.le_of_ble_eq_true rfl, Nat.le_of_ble_eq_true rfl⟩ (fun r hr => ?_)
    subst hr
    refine W.widen (k := 1) (n := 6) (by decide) (by decide) ?_
    refine lv_i2l (v := (pnm (uS κ) (iN x)).toInt64) hx hb dL_read_7 rfl ?_
    refine z_last hx hb hK hP hD hS 0 2 0 rfl rfl (by decide) (by decide) dL_read_8 (fun H locs hP hD hS => ?_)
    refine lv_goto (tgt := 15) hx hb dL_read_9 (by decide) ?_
    refine lv_iconst (v := 0) hx hb dL_read_15 (by decide) ?_
    exact hend 0 (κ, vp_updL f 0 (pnm (uS κ) (iN x)).toInt64) _ _ _ _ ⟨e.symm, by rw [if_pos e]⟩ hP hD hS dL_read_16
  · skip
    have e : cd1 x 15 = 1 := by unfold cd1; rw [if_neg q1]
    have e0 : ¬ cd1 x 15 = 0 := by rw [e]; decide
    have hM := x_X3_read_O l hl0 n0 dC dI c0 ad ae ah ax ar cI cS (uS κ) (uA κ) (uo κ) (un κ) ho hn (uh κ) (ut κ) hok x (out_or q1)
    refine z_tVc (As := [.int x]) (rest := [.int 0, .ref oa]) ⟨hx, hb, hml, hown, hts⟩ hM (cwV 1 hts gL_read_X3_read rfl rfl rfl (by decide +kernel) ⟨Nat.le_of_ble_eq_true rfl, Nat.le_of_ble_eq_true rfl⟩) (va_recv hK hP (ci := 3) (q0 := 1) rfl rfl) (z_tailP hP hD) (hK.sub (tys' := [(cI, .int), (cS, .object RX1)]) [0, 1] rfl) hE rfl hl.1 rfl (Nat.le_of_ble_eq_true rfl) dL_read_4 ⟨Nat.le_of_ble_eq_true rfl, Nat.le_of_ble_eq_true rfl⟩ (fun H1 qa ce hz hk hce hcv hcl => ?_)
    refine vx_catch hown (tableOf []) ⟨0, 9, 12, 13⟩ (tableOf []) (htab.trans rfl) (fun z hz9 => absurd hz9 List.not_mem_nil) (by decide) (by decide) (hts (.classLink RL 13 XO) (by decide +kernel)) (va_Nw.use rfl hE.2.2.1.1) hce hcv hcl ?_
    have hP1 := z_keepP hP hk
    have hS1 := z_keepS (A := A) hz hk
    refine lv_astore_n (lv' := (3, .ref qa) :: [(0, .ref c0), (1, .int x), (2, .ref oa)]) hx hb dL_read_12 rfl hl (by decide) rfl (fun ls hl => ?_)
    refine lv_iconst (v := 1) hx hb dL_read_13 (by decide) ?_
    exact hend 1 (κ, f) _ _ _ _ ⟨e.symm, by rw [if_neg e0]⟩ hP1 hD hS1 dL_read_14
abbrev rL_word : Room := { frames := 9, cells := 1, slots := 6, locals := 125 }
set_option maxHeartbeats 4000000 in
theorem w_word (l : Launch) (hl0 : l.stackTraces = false) (n0 : Nat) (dC : Nat → ClassId) (dI : Nat → Nat → Nat) (c0 : Nat) (ad ae ah ax : Nat → Nat) (ar : Nat → Nat → Nat) (cI cS cL : ClassId) (oa : Nat) (κ : zK) (ho : uo κ < 6) (hn : un κ ≤ 6) (hok : zok (uS κ)) (f : Nat → Int64) (x : Int32) (y : Int32) (sz : Nat) : zLi (S := zK × (Nat → Int64)) l yL_word wsL_word rL_word n0 (dC, dI) [.ref c0, .int x, .int y, .ref oa] (zLW c0 ad ae ah ax ar cI cS cL oa κ f) [(cI, .int), (cS, .object RX1), (cL, .long)] sz (fun r u => r = cd12 x 15 y 4 ∧ u = (κ, (if cd12 x 15 y 4 = 0 then vp_updL f 0 (vWord (uS κ) (iN x) (iN y)).toInt64 else f))) (fun u => zLW c0 ad ae ah ax ar cI cS cL oa u.1 u.2) 1 6 := by
  refine zLi_of (cc := cL_word) (maxL := 5) (by decide) rfl (Nat.le_of_ble_eq_true rfl) ?_
  intro p e s m args below meth cd Q ls A hat hP hK hE hNc hN htab hD hA hend
  obtain ⟨hx, hb, hml, hown, hts, hl⟩ := hat
  replace hown : s.vm.findClass RL = some m.cls := hown
  replace hl : lv_has ls 5 [(0, .ref c0), (1, .int x), (2, .int y), (3, .ref oa)] := hl
  have hS : va_S A s.heap s.heap [] := va_S.rf
  refine lv_aload_n hx hb dL_word_0 rfl (lv_at hl 3 rfl) ?_
  refine lv_iconst (v := 0) hx hb dL_word_1 (by decide) ?_
  refine lv_aload_n hx hb dL_word_2 rfl (lv_at hl 0 rfl) ?_
  refine lv_iload_n hx hb dL_word_3 rfl (lv_at hl 1 rfl) ?_
  refine lv_iload_n hx hb dL_word_4 rfl (lv_at hl 2 rfl) ?_
  by_cases q1 : inL x 0 15
  · obtain ⟨jx, ex⟩ := in_15 q1
    by_cases q2 : inL y 0 4
    · obtain ⟨jy1, jy2, ey⟩ := in_b (lo := 0) (hi := 4) (by decide) q2
      have e : cd12 x 15 y 4 = 0 := by unfold cd12; rw [if_pos q1, if_pos q2]
      have hM := k_X3_word l dC dI c0 ad ae ah ax cI (uS κ) hok (iN x) jx (iN y) (by omega)
      rw [← ex, ← ey] at hM
      refine z_cVi (As := [.int x, .int y]) (rest := [.int 0, .ref oa]) ⟨hx, hb, hml, hown, hts⟩ hM (cwV 2 hts gL_word_X3_word rfl rfl rfl (by decide +kernel) ⟨Nat.le_of_ble_eq_true rfl, Nat.le_of_ble_eq_true rfl⟩) (va_recv hK hP (ci := 3) (q0 := 1) rfl rfl) (hP.sub (ws' := zCo c0 ad ae ah ax ++ zW ad cI (uS κ)) [1, 2, 3, 4, 5, 6, 7, 8, 9, 10] rfl) (hK.sub (tys' := [(cI, .int)]) [0] rfl) rfl hl.1 rfl (Nat.le_of_ble_eq_true rfl) dL_word_5 ⟨Nat.le_of_ble_eq_true rfl, Nat.le_of_ble_eq_true rfl⟩ (fun r hr => ?_)
      subst hr
      refine W.widen (k := 1) (n := 6) (by decide) (by decide) ?_
      refine lv_i2l (v := (vWord (uS κ) (iN x) (iN y)).toInt64) hx hb dL_word_8 rfl ?_
      refine z_last hx hb hK hP hD hS 0 2 0 rfl rfl (by decide) (by decide) dL_word_9 (fun H locs hP hD hS => ?_)
      refine lv_goto (tgt := 21) hx hb dL_word_10 (by decide) ?_
      refine lv_iconst (v := 0) hx hb dL_word_21 (by decide) ?_
      exact hend 0 (κ, vp_updL f 0 (vWord (uS κ) (iN x) (iN y)).toInt64) _ _ _ _ ⟨e.symm, by rw [if_pos e]⟩ hP hD hS dL_word_22
    · skip
      have e : cd12 x 15 y 4 = 2 := by unfold cd12; rw [if_pos q1, if_neg q2]
      have e0 : ¬ cd12 x 15 y 4 = 0 := by rw [e]; decide
      have hM := x_X3_word_A l hl0 n0 dC dI c0 ad ae ah ax ar cI cS (uS κ) (uA κ) (uo κ) (un κ) ho hn (uh κ) (ut κ) hok (iN x) jx y (out_or q2)
      rw [← ex] at hM
      refine z_tVc (As := [.int x, .int y]) (rest := [.int 0, .ref oa]) ⟨hx, hb, hml, hown, hts⟩ hM (cwV 2 hts gL_word_X3_word rfl rfl rfl (by decide +kernel) ⟨Nat.le_of_ble_eq_true rfl, Nat.le_of_ble_eq_true rfl⟩) (va_recv hK hP (ci := 3) (q0 := 1) rfl rfl) (z_tailP hP hD) (hK.sub (tys' := [(cI, .int), (cS, .object RX1)]) [0, 1] rfl) hE rfl hl.1 rfl (Nat.le_of_ble_eq_true rfl) dL_word_5 ⟨Nat.le_of_ble_eq_true rfl, Nat.le_of_ble_eq_true rfl⟩ (fun H1 qa ce hz hk hce hcv hcl => ?_)
      refine vx_catch hown (tableOf [(0, 10, 13, 13)]) ⟨0, 10, 17, 15⟩ (tableOf []) (htab.trans rfl) (List.forall_mem_cons.mpr ⟨Or.inr ⟨by decide, XO, hts (.classLink RL 13 XO) (by decide +kernel), hNc.1⟩, fun z hz9 => absurd hz9 List.not_mem_nil⟩) (by decide) (by decide) (hts (.classLink RL 15 XA) (by decide +kernel)) (va_Nw.use rfl hE.2.2.1.2.1) hce hcv hcl ?_
      have hP1 := z_keepP hP hk
      have hS1 := z_keepS (A := A) hz hk
      refine lv_astore (lv' := (4, .ref qa) :: [(0, .ref c0), (1, .int x), (2, .int y), (3, .ref oa)]) hx hb dL_word_17 hl (by decide) rfl (fun ls hl => ?_)
      refine lv_iconst (v := 2) hx hb dL_word_19 (by decide) ?_
      exact hend 2 (κ, f) _ _ _ _ ⟨e.symm, by rw [if_neg e0]⟩ hP1 hD hS1 dL_word_20
  · skip
    have e : cd12 x 15 y 4 = 1 := by unfold cd12; rw [if_neg q1]
    have e0 : ¬ cd12 x 15 y 4 = 0 := by rw [e]; decide
    have hM := x_X3_word_O l hl0 n0 dC dI c0 ad ae ah ax ar cI cS (uS κ) (uA κ) (uo κ) (un κ) ho hn (uh κ) (ut κ) hok x y (out_or q1)
    refine z_tVc (As := [.int x, .int y]) (rest := [.int 0, .ref oa]) ⟨hx, hb, hml, hown, hts⟩ hM (cwV 2 hts gL_word_X3_word rfl rfl rfl (by decide +kernel) ⟨Nat.le_of_ble_eq_true rfl, Nat.le_of_ble_eq_true rfl⟩) (va_recv hK hP (ci := 3) (q0 := 1) rfl rfl) (z_tailP hP hD) (hK.sub (tys' := [(cI, .int), (cS, .object RX1)]) [0, 1] rfl) hE rfl hl.1 rfl (Nat.le_of_ble_eq_true rfl) dL_word_5 ⟨Nat.le_of_ble_eq_true rfl, Nat.le_of_ble_eq_true rfl⟩ (fun H1 qa ce hz hk hce hcv hcl => ?_)
    refine vx_catch hown (tableOf []) ⟨0, 10, 13, 13⟩ (tableOf [(0, 10, 17, 15)]) (htab.trans rfl) (fun z hz9 => absurd hz9 List.not_mem_nil) (by decide) (by decide) (hts (.classLink RL 13 XO) (by decide +kernel)) (va_Nw.use rfl hE.2.2.1.1) hce hcv hcl ?_
    have hP1 := z_keepP hP hk
    have hS1 := z_keepS (A := A) hz hk
    refine lv_astore (lv' := (4, .ref qa) :: [(0, .ref c0), (1, .int x), (2, .int y), (3, .ref oa)]) hx hb dL_word_13 hl (by decide) rfl (fun ls hl => ?_)
    refine lv_iconst (v := 1) hx hb dL_word_15 (by decide) ?_
    exact hend 1 (κ, f) _ _ _ _ ⟨e.symm, by rw [if_neg e0]⟩ hP1 hD hS1 dL_word_16
abbrev rL_slot : Room := { frames := 9, cells := 1, slots := 6, locals := 125 }
set_option maxHeartbeats 4000000 in
theorem w_slot (l : Launch) (hl0 : l.stackTraces = false) (n0 : Nat) (dC : Nat → ClassId) (dI : Nat → Nat → Nat) (c0 : Nat) (ad ae ah ax : Nat → Nat) (ar : Nat → Nat → Nat) (cI cS cL : ClassId) (oa : Nat) (κ : zK) (ho : uo κ < 6) (hn : un κ ≤ 6) (hok : zok (uS κ)) (f : Nat → Int64) (x : Int32) (y : Int32) (sz : Nat) : zLi (S := zK × (Nat → Int64)) l yL_slot wsL_slot rL_slot n0 (dC, dI) [.ref c0, .int x, .int y, .ref oa] (zLW c0 ad ae ah ax ar cI cS cL oa κ f) [(cI, .int), (cS, .object RX1), (cL, .long)] sz (fun r u => r = cd12 x 17 y 5 ∧ u = (κ, (if cd12 x 17 y 5 = 0 then vp_updL f 0 (vSlot (uS κ) (iN x) (iN y)).toInt64 else f))) (fun u => zLW c0 ad ae ah ax ar cI cS cL oa u.1 u.2) 1 6 := by
  refine zLi_of (cc := cL_slot) (maxL := 5) (by decide) rfl (Nat.le_of_ble_eq_true rfl) ?_
  intro p e s m args below meth cd Q ls A hat hP hK hE hNc hN htab hD hA hend
  obtain ⟨hx, hb, hml, hown, hts, hl⟩ := hat
  replace hown : s.vm.findClass RL = some m.cls := hown
  replace hl : lv_has ls 5 [(0, .ref c0), (1, .int x), (2, .int y), (3, .ref oa)] := hl
  have hS : va_S A s.heap s.heap [] := va_S.rf
  refine lv_aload_n hx hb dL_slot_0 rfl (lv_at hl 3 rfl) ?_
  refine lv_iconst (v := 0) hx hb dL_slot_1 (by decide) ?_
  refine lv_aload_n hx hb dL_slot_2 rfl (lv_at hl 0 rfl) ?_
  refine lv_iload_n hx hb dL_slot_3 rfl (lv_at hl 1 rfl) ?_
  refine lv_iload_n hx hb dL_slot_4 rfl (lv_at hl 2 rfl) ?_
  by_cases q1 : inL x 0 17
  · obtain ⟨jx, ex⟩ := in_17 q1
    by_cases q2 : inL y 0 5
    · obtain ⟨jy1, jy2, ey⟩ := in_b (lo := 0) (hi := 5) (by decide) q2
      have e : cd12 x 17 y 5 = 0 := by unfold cd12; rw [if_pos q1, if_pos q2]
      have hM := k_X3_slot l dC dI c0 ad ae ah ax cI (uS κ) hok (iN x) jx (iN y) (by omega)
      rw [← ex, ← ey] at hM
      refine z_cVi (As := [.int x, .int y]) (rest := [.int 0, .ref oa]) ⟨hx, hb, hml, hown, hts⟩ hM (cwV 2 hts gL_slot_X3_slot rfl rfl rfl (by decide +kernel) ⟨Nat.le_of_ble_eq_true rfl, Nat.le_of_ble_eq_true rfl⟩) (va_recv hK hP (ci := 3) (q0 := 1) rfl rfl) (hP.sub (ws' := zCo c0 ad ae ah ax ++ zW ad cI (uS κ)) [1, 2, 3, 4, 5, 6, 7, 8, 9, 10] rfl) (hK.sub (tys' := [(cI, .int)]) [0] rfl) rfl hl.1 rfl (Nat.le_of_ble_eq_true rfl) dL_slot_5 ⟨Nat.le_of_ble_eq_true rfl, Nat.le_of_ble_eq_true rfl⟩ (fun r hr => ?_)
      subst hr
      refine W.widen (k := 1) (n := 6) (by decide) (by decide) ?_
      refine lv_i2l (v := (vSlot (uS κ) (iN x) (iN y)).toInt64) hx hb dL_slot_8 rfl ?_
      refine z_last hx hb hK hP hD hS 0 2 0 rfl rfl (by decide) (by decide) dL_slot_9 (fun H locs hP hD hS => ?_)
      refine lv_goto (tgt := 21) hx hb dL_slot_10 (by decide) ?_
      refine lv_iconst (v := 0) hx hb dL_slot_21 (by decide) ?_
      exact hend 0 (κ, vp_updL f 0 (vSlot (uS κ) (iN x) (iN y)).toInt64) _ _ _ _ ⟨e.symm, by rw [if_pos e]⟩ hP hD hS dL_slot_22
    · skip
      have e : cd12 x 17 y 5 = 2 := by unfold cd12; rw [if_pos q1, if_neg q2]
      have e0 : ¬ cd12 x 17 y 5 = 0 := by rw [e]; decide
      have hM := x_X3_slot_A l hl0 n0 dC dI c0 ad ae ah ax ar cI cS (uS κ) (uA κ) (uo κ) (un κ) ho hn (uh κ) (ut κ) hok (iN x) jx y (out_or q2)
      rw [← ex] at hM
      refine z_tVc (As := [.int x, .int y]) (rest := [.int 0, .ref oa]) ⟨hx, hb, hml, hown, hts⟩ hM (cwV 2 hts gL_slot_X3_slot rfl rfl rfl (by decide +kernel) ⟨Nat.le_of_ble_eq_true rfl, Nat.le_of_ble_eq_true rfl⟩) (va_recv hK hP (ci := 3) (q0 := 1) rfl rfl) (z_tailP hP hD) (hK.sub (tys' := [(cI, .int), (cS, .object RX1)]) [0, 1] rfl) hE rfl hl.1 rfl (Nat.le_of_ble_eq_true rfl) dL_slot_5 ⟨Nat.le_of_ble_eq_true rfl, Nat.le_of_ble_eq_true rfl⟩ (fun H1 qa ce hz hk hce hcv hcl => ?_)
      refine vx_catch hown (tableOf [(0, 10, 13, 13)]) ⟨0, 10, 17, 15⟩ (tableOf []) (htab.trans rfl) (List.forall_mem_cons.mpr ⟨Or.inr ⟨by decide, XO, hts (.classLink RL 13 XO) (by decide +kernel), hNc.1⟩, fun z hz9 => absurd hz9 List.not_mem_nil⟩) (by decide) (by decide) (hts (.classLink RL 15 XA) (by decide +kernel)) (va_Nw.use rfl hE.2.2.1.2.1) hce hcv hcl ?_
      have hP1 := z_keepP hP hk
      have hS1 := z_keepS (A := A) hz hk
      refine lv_astore (lv' := (4, .ref qa) :: [(0, .ref c0), (1, .int x), (2, .int y), (3, .ref oa)]) hx hb dL_slot_17 hl (by decide) rfl (fun ls hl => ?_)
      refine lv_iconst (v := 2) hx hb dL_slot_19 (by decide) ?_
      exact hend 2 (κ, f) _ _ _ _ ⟨e.symm, by rw [if_neg e0]⟩ hP1 hD hS1 dL_slot_20
  · skip
    have e : cd12 x 17 y 5 = 1 := by unfold cd12; rw [if_neg q1]
    have e0 : ¬ cd12 x 17 y 5 = 0 := by rw [e]; decide
    have hM := x_X3_slot_O l hl0 n0 dC dI c0 ad ae ah ax ar cI cS (uS κ) (uA κ) (uo κ) (un κ) ho hn (uh κ) (ut κ) hok x y (out_or q1)
    refine z_tVc (As := [.int x, .int y]) (rest := [.int 0, .ref oa]) ⟨hx, hb, hml, hown, hts⟩ hM (cwV 2 hts gL_slot_X3_slot rfl rfl rfl (by decide +kernel) ⟨Nat.le_of_ble_eq_true rfl, Nat.le_of_ble_eq_true rfl⟩) (va_recv hK hP (ci := 3) (q0 := 1) rfl rfl) (z_tailP hP hD) (hK.sub (tys' := [(cI, .int), (cS, .object RX1)]) [0, 1] rfl) hE rfl hl.1 rfl (Nat.le_of_ble_eq_true rfl) dL_slot_5 ⟨Nat.le_of_ble_eq_true rfl, Nat.le_of_ble_eq_true rfl⟩ (fun H1 qa ce hz hk hce hcv hcl => ?_)
    refine vx_catch hown (tableOf []) ⟨0, 10, 13, 13⟩ (tableOf [(0, 10, 17, 15)]) (htab.trans rfl) (fun z hz9 => absurd hz9 List.not_mem_nil) (by decide) (by decide) (hts (.classLink RL 13 XO) (by decide +kernel)) (va_Nw.use rfl hE.2.2.1.1) hce hcv hcl ?_
    have hP1 := z_keepP hP hk
    have hS1 := z_keepS (A := A) hz hk
    refine lv_astore (lv' := (4, .ref qa) :: [(0, .ref c0), (1, .int x), (2, .int y), (3, .ref oa)]) hx hb dL_slot_13 hl (by decide) rfl (fun ls hl => ?_)
    refine lv_iconst (v := 1) hx hb dL_slot_15 (by decide) ?_
    exact hend 1 (κ, f) _ _ _ _ ⟨e.symm, by rw [if_neg e0]⟩ hP1 hD hS1 dL_slot_16
abbrev rL_wearOf : Room := { frames := 9, cells := 1, slots := 6, locals := 124 }
set_option maxHeartbeats 4000000 in
theorem w_wearOf (l : Launch) (hl0 : l.stackTraces = false) (n0 : Nat) (dC : Nat → ClassId) (dI : Nat → Nat → Nat) (c0 : Nat) (ad ae ah ax : Nat → Nat) (ar : Nat → Nat → Nat) (cI cS cL : ClassId) (oa : Nat) (κ : zK) (ho : uo κ < 6) (hn : un κ ≤ 6) (hok : zok (uS κ)) (f : Nat → Int64) (x : Int32) (y : Int32) (sz : Nat) : zLi (S := zK × (Nat → Int64)) l yL_wearOf wsL_wearOf rL_wearOf n0 (dC, dI) [.ref c0, .int x, .int y, .ref oa] (zLW c0 ad ae ah ax ar cI cS cL oa κ f) [(cI, .int), (cS, .object RX1), (cL, .long)] sz (fun r u => r = cd11 x 17 y 12 ∧ u = (κ, (if cd11 x 17 y 12 = 0 then vp_updL f 0 (zwn (uS κ) (iN x * 13 + iN y)).toInt64 else f))) (fun u => zLW c0 ad ae ah ax ar cI cS cL oa u.1 u.2) 1 6 := by
  refine zLi_of (cc := cL_wearOf) (maxL := 5) (by decide) rfl (Nat.le_of_ble_eq_true rfl) ?_
  intro p e s m args below meth cd Q ls A hat hP hK hE hNc hN htab hD hA hend
  obtain ⟨hx, hb, hml, hown, hts, hl⟩ := hat
  replace hown : s.vm.findClass RL = some m.cls := hown
  replace hl : lv_has ls 5 [(0, .ref c0), (1, .int x), (2, .int y), (3, .ref oa)] := hl
  have hS : va_S A s.heap s.heap [] := va_S.rf
  refine lv_aload_n hx hb dL_wearOf_0 rfl (lv_at hl 3 rfl) ?_
  refine lv_iconst (v := 0) hx hb dL_wearOf_1 (by decide) ?_
  refine lv_aload_n hx hb dL_wearOf_2 rfl (lv_at hl 0 rfl) ?_
  refine lv_iload_n hx hb dL_wearOf_3 rfl (lv_at hl 1 rfl) ?_
  refine lv_iload_n hx hb dL_wearOf_4 rfl (lv_at hl 2 rfl) ?_
  by_cases q1 : inL x 0 17
  · obtain ⟨jx, ex⟩ := in_17 q1
    by_cases q2 : inL y 0 12
    · obtain ⟨jy, ey⟩ := in_12 q2
      have e : cd11 x 17 y 12 = 0 := by unfold cd11; rw [if_pos q1, if_pos q2]
      have hM := k_X3_wearOf l dC dI c0 ad ae ah ax cI (uS κ) hok (iN x) jx (iN y) jy
      rw [← ex, ← ey] at hM
      refine z_cVi (As := [.int x, .int y]) (rest := [.int 0, .ref oa]) ⟨hx, hb, hml, hown, hts⟩ hM (cwV 2 hts gL_wearOf_X3_wearOf rfl rfl rfl (by decide +kernel) ⟨Nat.le_of_ble_eq_true rfl, Nat.le_of_ble_eq_true rfl⟩) (va_recv hK hP (ci := 3) (q0 := 1) rfl rfl) (hP.sub (ws' := zCo c0 ad ae ah ax ++ zW ad cI (uS κ)) [1, 2, 3, 4, 5, 6, 7, 8, 9, 10] rfl) (hK.sub (tys' := [(cI, .int)]) [0] rfl) rfl hl.1 rfl (Nat.le_of_ble_eq_true rfl) dL_wearOf_5 ⟨Nat.le_of_ble_eq_true rfl, Nat.le_of_ble_eq_true rfl⟩ (fun r hr => ?_)
      subst hr
      refine W.widen (k := 1) (n := 6) (by decide) (by decide) ?_
      refine lv_i2l (v := (zwn (uS κ) (iN x * 13 + iN y)).toInt64) hx hb dL_wearOf_8 rfl ?_
      refine z_last hx hb hK hP hD hS 0 2 0 rfl rfl (by decide) (by decide) dL_wearOf_9 (fun H locs hP hD hS => ?_)
      refine lv_goto (tgt := 17) hx hb dL_wearOf_10 (by decide) ?_
      refine lv_iconst (v := 0) hx hb dL_wearOf_17 (by decide) ?_
      exact hend 0 (κ, vp_updL f 0 (zwn (uS κ) (iN x * 13 + iN y)).toInt64) _ _ _ _ ⟨e.symm, by rw [if_pos e]⟩ hP hD hS dL_wearOf_18
    · skip
      have e : cd11 x 17 y 12 = 1 := by unfold cd11; rw [if_pos q1, if_neg q2]
      have e0 : ¬ cd11 x 17 y 12 = 0 := by rw [e]; decide
      have hM := x_X3_wearOf_P l hl0 n0 dC dI c0 ad ae ah ax ar cI cS (uS κ) (uA κ) (uo κ) (un κ) ho hn (uh κ) (ut κ) hok (iN x) jx y (out_or q2)
      rw [← ex] at hM
      refine z_tVc (As := [.int x, .int y]) (rest := [.int 0, .ref oa]) ⟨hx, hb, hml, hown, hts⟩ hM (cwV 2 hts gL_wearOf_X3_wearOf rfl rfl rfl (by decide +kernel) ⟨Nat.le_of_ble_eq_true rfl, Nat.le_of_ble_eq_true rfl⟩) (va_recv hK hP (ci := 3) (q0 := 1) rfl rfl) (z_tailP hP hD) (hK.sub (tys' := [(cI, .int), (cS, .object RX1)]) [0, 1] rfl) hE rfl hl.1 rfl (Nat.le_of_ble_eq_true rfl) dL_wearOf_5 ⟨Nat.le_of_ble_eq_true rfl, Nat.le_of_ble_eq_true rfl⟩ (fun H1 qa ce hz hk hce hcv hcl => ?_)
      refine vx_catch hown (tableOf []) ⟨0, 10, 13, 13⟩ (tableOf []) (htab.trans rfl) (fun z hz9 => absurd hz9 List.not_mem_nil) (by decide) (by decide) (hts (.classLink RL 13 XO) (by decide +kernel)) (va_Nw.use rfl hE.2.2.1.1) hce hcv hcl ?_
      have hP1 := z_keepP hP hk
      have hS1 := z_keepS (A := A) hz hk
      refine lv_astore (lv' := (4, .ref qa) :: [(0, .ref c0), (1, .int x), (2, .int y), (3, .ref oa)]) hx hb dL_wearOf_13 hl (by decide) rfl (fun ls hl => ?_)
      refine lv_iconst (v := 1) hx hb dL_wearOf_15 (by decide) ?_
      exact hend 1 (κ, f) _ _ _ _ ⟨e.symm, by rw [if_neg e0]⟩ hP1 hD hS1 dL_wearOf_16
  · skip
    have e : cd11 x 17 y 12 = 1 := by unfold cd11; rw [if_neg q1]
    have e0 : ¬ cd11 x 17 y 12 = 0 := by rw [e]; decide
    have hM := x_X3_wearOf_O l hl0 n0 dC dI c0 ad ae ah ax ar cI cS (uS κ) (uA κ) (uo κ) (un κ) ho hn (uh κ) (ut κ) hok x y (out_or q1)
    refine z_tVc (As := [.int x, .int y]) (rest := [.int 0, .ref oa]) ⟨hx, hb, hml, hown, hts⟩ hM (cwV 2 hts gL_wearOf_X3_wearOf rfl rfl rfl (by decide +kernel) ⟨Nat.le_of_ble_eq_true rfl, Nat.le_of_ble_eq_true rfl⟩) (va_recv hK hP (ci := 3) (q0 := 1) rfl rfl) (z_tailP hP hD) (hK.sub (tys' := [(cI, .int), (cS, .object RX1)]) [0, 1] rfl) hE rfl hl.1 rfl (Nat.le_of_ble_eq_true rfl) dL_wearOf_5 ⟨Nat.le_of_ble_eq_true rfl, Nat.le_of_ble_eq_true rfl⟩ (fun H1 qa ce hz hk hce hcv hcl => ?_)
    refine vx_catch hown (tableOf []) ⟨0, 10, 13, 13⟩ (tableOf []) (htab.trans rfl) (fun z hz9 => absurd hz9 List.not_mem_nil) (by decide) (by decide) (hts (.classLink RL 13 XO) (by decide +kernel)) (va_Nw.use rfl hE.2.2.1.1) hce hcv hcl ?_
    have hP1 := z_keepP hP hk
    have hS1 := z_keepS (A := A) hz hk
    refine lv_astore (lv' := (4, .ref qa) :: [(0, .ref c0), (1, .int x), (2, .int y), (3, .ref oa)]) hx hb dL_wearOf_13 hl (by decide) rfl (fun ls hl => ?_)
    refine lv_iconst (v := 1) hx hb dL_wearOf_15 (by decide) ?_
    exact hend 1 (κ, f) _ _ _ _ ⟨e.symm, by rw [if_neg e0]⟩ hP1 hD hS1 dL_wearOf_16
abbrev rL_count : Room := { frames := 9, cells := 1, slots := 6, locals := 124 }
set_option maxHeartbeats 4000000 in
theorem w_count (l : Launch) (hl0 : l.stackTraces = false) (n0 : Nat) (dC : Nat → ClassId) (dI : Nat → Nat → Nat) (c0 : Nat) (ad ae ah ax : Nat → Nat) (ar : Nat → Nat → Nat) (cI cS cL : ClassId) (oa : Nat) (κ : zK) (ho : uo κ < 6) (hn : un κ ≤ 6) (hok : zok (uS κ)) (f : Nat → Int64) (x : Int32) (sz : Nat) : zLi (S := zK × (Nat → Int64)) l yL_count wsL_count rL_count n0 (dC, dI) [.ref c0, .int x, .ref oa] (zLW c0 ad ae ah ax ar cI cS cL oa κ f) [(cI, .int), (cS, .object RX1), (cL, .long)] sz (fun r u => r = cd1 x 9 ∧ u = (κ, (if cd1 x 9 = 0 then vp_updL f 0 (vCount (uS κ) (un κ) (iN x)).toInt64 else f))) (fun u => zLW c0 ad ae ah ax ar cI cS cL oa u.1 u.2) 1 6 := by
  refine zLi_of (cc := cL_count) (maxL := 4) (by decide) rfl (Nat.le_of_ble_eq_true rfl) ?_
  intro p e s m args below meth cd Q ls A hat hP hK hE hNc hN htab hD hA hend
  obtain ⟨hx, hb, hml, hown, hts, hl⟩ := hat
  replace hown : s.vm.findClass RL = some m.cls := hown
  replace hl : lv_has ls 4 [(0, .ref c0), (1, .int x), (2, .ref oa)] := hl
  have hS : va_S A s.heap s.heap [] := va_S.rf
  refine lv_aload_n hx hb dL_count_0 rfl (lv_at hl 2 rfl) ?_
  refine lv_iconst (v := 0) hx hb dL_count_1 (by decide) ?_
  refine lv_aload_n hx hb dL_count_2 rfl (lv_at hl 0 rfl) ?_
  refine lv_iload_n hx hb dL_count_3 rfl (lv_at hl 1 rfl) ?_
  by_cases q1 : inL x 0 9
  · obtain ⟨jx1, jx2, ex⟩ := in_b (lo := 0) (hi := 9) (by decide) q1
    have e : cd1 x 9 = 0 := by unfold cd1; rw [if_pos q1]
    have hM := k_X3_count l dC dI c0 ad ae ah ax cI (uS κ) hok (uo κ) (un κ) (iN x) (by omega)
    rw [← ex] at hM
    refine z_cVi (As := [.int x]) (rest := [.int 0, .ref oa]) ⟨hx, hb, hml, hown, hts⟩ hM (cwV 1 hts gL_count_X3_count rfl rfl rfl (by decide +kernel) ⟨Nat.le_of_ble_eq_true rfl, Nat.le_of_ble_eq_true rfl⟩) (va_recv hK hP (ci := 3) (q0 := 1) rfl rfl) (hP.sub (ws' := zCo c0 ad ae ah ax ++ (zW ad cI (uS κ) ++ zHo ah (uo κ) (un κ))) [1, 2, 3, 4, 5, 6, 7, 8, 9, 10, 20] rfl) (hK.sub (tys' := [(cI, .int)]) [0] rfl) rfl hl.1 rfl (Nat.le_of_ble_eq_true rfl) dL_count_4 ⟨Nat.le_of_ble_eq_true rfl, Nat.le_of_ble_eq_true rfl⟩ (fun r hr => ?_)
    subst hr
    refine W.widen (k := 1) (n := 6) (by decide) (by decide) ?_
    refine lv_i2l (v := (vCount (uS κ) (un κ) (iN x)).toInt64) hx hb dL_count_7 rfl ?_
    refine z_last hx hb hK hP hD hS 0 2 0 rfl rfl (by decide) (by decide) dL_count_8 (fun H locs hP hD hS => ?_)
    refine lv_goto (tgt := 15) hx hb dL_count_9 (by decide) ?_
    refine lv_iconst (v := 0) hx hb dL_count_15 (by decide) ?_
    exact hend 0 (κ, vp_updL f 0 (vCount (uS κ) (un κ) (iN x)).toInt64) _ _ _ _ ⟨e.symm, by rw [if_pos e]⟩ hP hD hS dL_count_16
  · skip
    have e : cd1 x 9 = 1 := by unfold cd1; rw [if_neg q1]
    have e0 : ¬ cd1 x 9 = 0 := by rw [e]; decide
    have hM := x_X3_count_A l hl0 n0 dC dI c0 ad ae ah ax ar cI cS (uS κ) (uA κ) (uo κ) (un κ) ho hn (uh κ) (ut κ) hok x (out_or q1)
    refine z_tVc (As := [.int x]) (rest := [.int 0, .ref oa]) ⟨hx, hb, hml, hown, hts⟩ hM (cwV 1 hts gL_count_X3_count rfl rfl rfl (by decide +kernel) ⟨Nat.le_of_ble_eq_true rfl, Nat.le_of_ble_eq_true rfl⟩) (va_recv hK hP (ci := 3) (q0 := 1) rfl rfl) (z_tailP hP hD) (hK.sub (tys' := [(cI, .int), (cS, .object RX1)]) [0, 1] rfl) hE rfl hl.1 rfl (Nat.le_of_ble_eq_true rfl) dL_count_4 ⟨Nat.le_of_ble_eq_true rfl, Nat.le_of_ble_eq_true rfl⟩ (fun H1 qa ce hz hk hce hcv hcl => ?_)
    refine vx_catch hown (tableOf []) ⟨0, 9, 12, 15⟩ (tableOf []) (htab.trans rfl) (fun z hz9 => absurd hz9 List.not_mem_nil) (by decide) (by decide) (hts (.classLink RL 15 XA) (by decide +kernel)) (va_Nw.use rfl hE.2.2.1.2.1) hce hcv hcl ?_
    have hP1 := z_keepP hP hk
    have hS1 := z_keepS (A := A) hz hk
    refine lv_astore_n (lv' := (3, .ref qa) :: [(0, .ref c0), (1, .int x), (2, .ref oa)]) hx hb dL_count_12 rfl hl (by decide) rfl (fun ls hl => ?_)
    refine lv_iconst (v := 1) hx hb dL_count_13 (by decide) ?_
    exact hend 1 (κ, f) _ _ _ _ ⟨e.symm, by rw [if_neg e0]⟩ hP1 hD hS1 dL_count_14
abbrev rL_setting : Room := { frames := 9, cells := 1, slots := 6, locals := 123 }
set_option maxHeartbeats 4000000 in
theorem w_setting (l : Launch) (hl0 : l.stackTraces = false) (n0 : Nat) (dC : Nat → ClassId) (dI : Nat → Nat → Nat) (c0 : Nat) (ad ae ah ax : Nat → Nat) (ar : Nat → Nat → Nat) (cI cS cL : ClassId) (oa : Nat) (κ : zK) (ho : uo κ < 6) (hn : un κ ≤ 6) (hok : zok (uS κ)) (f : Nat → Int64) (x : Int32) (sz : Nat) : zLi (S := zK × (Nat → Int64)) l yL_setting wsL_setting rL_setting n0 (dC, dI) [.ref c0, .int x, .ref oa] (zLW c0 ad ae ah ax ar cI cS cL oa κ f) [(cI, .int), (cS, .object RX1), (cL, .long)] sz (fun r u => r = cd1 x 1 ∧ u = (κ, (if cd1 x 1 = 0 then vp_updL f 0 (zst (uS κ) (iN x)).toInt64 else f))) (fun u => zLW c0 ad ae ah ax ar cI cS cL oa u.1 u.2) 1 6 := by
  refine zLi_of (cc := cL_setting) (maxL := 4) (by decide) rfl (Nat.le_of_ble_eq_true rfl) ?_
  intro p e s m args below meth cd Q ls A hat hP hK hE hNc hN htab hD hA hend
  obtain ⟨hx, hb, hml, hown, hts, hl⟩ := hat
  replace hown : s.vm.findClass RL = some m.cls := hown
  replace hl : lv_has ls 4 [(0, .ref c0), (1, .int x), (2, .ref oa)] := hl
  have hS : va_S A s.heap s.heap [] := va_S.rf
  refine lv_aload_n hx hb dL_setting_0 rfl (lv_at hl 2 rfl) ?_
  refine lv_iconst (v := 0) hx hb dL_setting_1 (by decide) ?_
  refine lv_aload_n hx hb dL_setting_2 rfl (lv_at hl 0 rfl) ?_
  refine lv_iload_n hx hb dL_setting_3 rfl (lv_at hl 1 rfl) ?_
  by_cases q1 : inL x 0 1
  · obtain ⟨jx, ex⟩ := in_1 q1
    have e : cd1 x 1 = 0 := by unfold cd1; rw [if_pos q1]
    have hM := k_X3_setting l dC dI c0 ad ae ah ax cI (uS κ) hok (iN x) jx
    rw [← ex] at hM
    refine z_cVi (As := [.int x]) (rest := [.int 0, .ref oa]) ⟨hx, hb, hml, hown, hts⟩ hM (cwV 1 hts gL_setting_X3_setting rfl rfl rfl (by decide +kernel) ⟨Nat.le_of_ble_eq_true rfl, Nat.le_of_ble_eq_true rfl⟩) (va_recv hK hP (ci := 3) (q0 := 1) rfl rfl) (hP.sub (ws' := zCo c0 ad ae ah ax ++ zW ad cI (uS κ)) [1, 2, 3, 4, 5, 6, 7, 8, 9, 10] rfl) (hK.sub (tys' := [(cI, .int)]) [0] rfl) rfl hl.1 rfl (Nat.le_of_ble_eq_true rfl) dL_setting_4 ⟨Nat.le_of_ble_eq_true rfl, Nat.le_of_ble_eq_true rfl⟩ (fun r hr => ?_)
    subst hr
    refine W.widen (k := 1) (n := 6) (by decide) (by decide) ?_
    refine lv_i2l (v := (zst (uS κ) (iN x)).toInt64) hx hb dL_setting_7 rfl ?_
    refine z_last hx hb hK hP hD hS 0 2 0 rfl rfl (by decide) (by decide) dL_setting_8 (fun H locs hP hD hS => ?_)
    refine lv_goto (tgt := 15) hx hb dL_setting_9 (by decide) ?_
    refine lv_iconst (v := 0) hx hb dL_setting_15 (by decide) ?_
    exact hend 0 (κ, vp_updL f 0 (zst (uS κ) (iN x)).toInt64) _ _ _ _ ⟨e.symm, by rw [if_pos e]⟩ hP hD hS dL_setting_16
  · skip
    have e : cd1 x 1 = 1 := by unfold cd1; rw [if_neg q1]
    have e0 : ¬ cd1 x 1 = 0 := by rw [e]; decide
    have hM := x_X3_setting_O l hl0 n0 dC dI c0 ad ae ah ax ar cI cS (uS κ) (uA κ) (uo κ) (un κ) ho hn (uh κ) (ut κ) hok x (out_or q1)
    refine z_tVc (As := [.int x]) (rest := [.int 0, .ref oa]) ⟨hx, hb, hml, hown, hts⟩ hM (cwV 1 hts gL_setting_X3_setting rfl rfl rfl (by decide +kernel) ⟨Nat.le_of_ble_eq_true rfl, Nat.le_of_ble_eq_true rfl⟩) (va_recv hK hP (ci := 3) (q0 := 1) rfl rfl) (z_tailP hP hD) (hK.sub (tys' := [(cI, .int), (cS, .object RX1)]) [0, 1] rfl) hE rfl hl.1 rfl (Nat.le_of_ble_eq_true rfl) dL_setting_4 ⟨Nat.le_of_ble_eq_true rfl, Nat.le_of_ble_eq_true rfl⟩ (fun H1 qa ce hz hk hce hcv hcl => ?_)
    refine vx_catch hown (tableOf []) ⟨0, 9, 12, 13⟩ (tableOf []) (htab.trans rfl) (fun z hz9 => absurd hz9 List.not_mem_nil) (by decide) (by decide) (hts (.classLink RL 13 XO) (by decide +kernel)) (va_Nw.use rfl hE.2.2.1.1) hce hcv hcl ?_
    have hP1 := z_keepP hP hk
    have hS1 := z_keepS (A := A) hz hk
    refine lv_astore_n (lv' := (3, .ref qa) :: [(0, .ref c0), (1, .int x), (2, .ref oa)]) hx hb dL_setting_12 rfl hl (by decide) rfl (fun ls hl => ?_)
    refine lv_iconst (v := 1) hx hb dL_setting_13 (by decide) ?_
    exact hend 1 (κ, f) _ _ _ _ ⟨e.symm, by rw [if_neg e0]⟩ hP1 hD hS1 dL_setting_14
abbrev rL_cost : Room := { frames := 9, cells := 1, slots := 6, locals := 125 }
set_option maxHeartbeats 4000000 in
theorem w_cost (l : Launch) (hl0 : l.stackTraces = false) (n0 : Nat) (dC : Nat → ClassId) (dI : Nat → Nat → Nat) (c0 : Nat) (ad ae ah ax : Nat → Nat) (ar : Nat → Nat → Nat) (cI cS cL : ClassId) (oa : Nat) (κ : zK) (ho : uo κ < 6) (hn : un κ ≤ 6) (hok : zok (uS κ)) (f : Nat → Int64) (x : Int32) (y : Int32) (sz : Nat) : zLi (S := zK × (Nat → Int64)) l yL_cost wsL_cost rL_cost n0 (dC, dI) [.ref c0, .int x, .int y, .ref oa] (zLW c0 ad ae ah ax ar cI cS cL oa κ f) [(cI, .int), (cS, .object RX1), (cL, .long)] sz (fun r u => r = cd12 x 17 y 4095 ∧ u = (κ, (if cd12 x 17 y 4095 = 0 then vp_updL f 0 (pCost (zhd (uS κ) (iN x)) (nI (iN y)) (pst (uS κ) (iN x))).toInt64 else f))) (fun u => zLW c0 ad ae ah ax ar cI cS cL oa u.1 u.2) 1 6 := by
  refine zLi_of (cc := cL_cost) (maxL := 5) (by decide) rfl (Nat.le_of_ble_eq_true rfl) ?_
  intro p e s m args below meth cd Q ls A hat hP hK hE hNc hN htab hD hA hend
  obtain ⟨hx, hb, hml, hown, hts, hl⟩ := hat
  replace hown : s.vm.findClass RL = some m.cls := hown
  replace hl : lv_has ls 5 [(0, .ref c0), (1, .int x), (2, .int y), (3, .ref oa)] := hl
  have hS : va_S A s.heap s.heap [] := va_S.rf
  refine lv_aload_n hx hb dL_cost_0 rfl (lv_at hl 3 rfl) ?_
  refine lv_iconst (v := 0) hx hb dL_cost_1 (by decide) ?_
  refine lv_aload_n hx hb dL_cost_2 rfl (lv_at hl 0 rfl) ?_
  refine lv_iload_n hx hb dL_cost_3 rfl (lv_at hl 1 rfl) ?_
  refine lv_iload_n hx hb dL_cost_4 rfl (lv_at hl 2 rfl) ?_
  by_cases q1 : inL x 0 17
  · obtain ⟨jx, ex⟩ := in_17 q1
    by_cases q2 : inL y 0 4095
    · obtain ⟨jy1, jy2, ey⟩ := in_b (lo := 0) (hi := 4095) (by decide) q2
      have e : cd12 x 17 y 4095 = 0 := by unfold cd12; rw [if_pos q1, if_pos q2]
      have hM := k_X3_cost l dC dI c0 ad ae ah ax cI (uS κ) hok (iN x) jx (iN y) (by omega)
      rw [← ex, ← ey] at hM
      refine z_cVi (As := [.int x, .int y]) (rest := [.int 0, .ref oa]) ⟨hx, hb, hml, hown, hts⟩ hM (cwV 2 hts gL_cost_X3_cost rfl rfl rfl (by decide +kernel) ⟨Nat.le_of_ble_eq_true rfl, Nat.le_of_ble_eq_true rfl⟩) (va_recv hK hP (ci := 3) (q0 := 1) rfl rfl) (hP.sub (ws' := zCo c0 ad ae ah ax ++ zW ad cI (uS κ)) [1, 2, 3, 4, 5, 6, 7, 8, 9, 10] rfl) (hK.sub (tys' := [(cI, .int)]) [0] rfl) rfl hl.1 rfl (Nat.le_of_ble_eq_true rfl) dL_cost_5 ⟨Nat.le_of_ble_eq_true rfl, Nat.le_of_ble_eq_true rfl⟩ (fun r hr => ?_)
      subst hr
      refine W.widen (k := 1) (n := 6) (by decide) (by decide) ?_
      refine lv_i2l (v := (pCost (zhd (uS κ) (iN x)) (nI (iN y)) (pst (uS κ) (iN x))).toInt64) hx hb dL_cost_8 (by rw [← ey]; rfl) ?_
      refine z_last hx hb hK hP hD hS 0 2 0 rfl rfl (by decide) (by decide) dL_cost_9 (fun H locs hP hD hS => ?_)
      refine lv_goto (tgt := 21) hx hb dL_cost_10 (by decide) ?_
      refine lv_iconst (v := 0) hx hb dL_cost_21 (by decide) ?_
      exact hend 0 (κ, vp_updL f 0 (pCost (zhd (uS κ) (iN x)) (nI (iN y)) (pst (uS κ) (iN x))).toInt64) _ _ _ _ ⟨e.symm, by rw [if_pos e]⟩ hP hD hS dL_cost_22
    · skip
      have e : cd12 x 17 y 4095 = 2 := by unfold cd12; rw [if_pos q1, if_neg q2]
      have e0 : ¬ cd12 x 17 y 4095 = 0 := by rw [e]; decide
      have hM := x_X3_cost_A l hl0 n0 dC dI c0 ad ae ah ax ar cI cS (uS κ) (uA κ) (uo κ) (un κ) ho hn (uh κ) (ut κ) hok (iN x) jx y (out_or q2)
      rw [← ex] at hM
      refine z_tVc (As := [.int x, .int y]) (rest := [.int 0, .ref oa]) ⟨hx, hb, hml, hown, hts⟩ hM (cwV 2 hts gL_cost_X3_cost rfl rfl rfl (by decide +kernel) ⟨Nat.le_of_ble_eq_true rfl, Nat.le_of_ble_eq_true rfl⟩) (va_recv hK hP (ci := 3) (q0 := 1) rfl rfl) (z_tailP hP hD) (hK.sub (tys' := [(cI, .int), (cS, .object RX1)]) [0, 1] rfl) hE rfl hl.1 rfl (Nat.le_of_ble_eq_true rfl) dL_cost_5 ⟨Nat.le_of_ble_eq_true rfl, Nat.le_of_ble_eq_true rfl⟩ (fun H1 qa ce hz hk hce hcv hcl => ?_)
      refine vx_catch hown (tableOf [(0, 10, 13, 13)]) ⟨0, 10, 17, 15⟩ (tableOf []) (htab.trans rfl) (List.forall_mem_cons.mpr ⟨Or.inr ⟨by decide, XO, hts (.classLink RL 13 XO) (by decide +kernel), hNc.1⟩, fun z hz9 => absurd hz9 List.not_mem_nil⟩) (by decide) (by decide) (hts (.classLink RL 15 XA) (by decide +kernel)) (va_Nw.use rfl hE.2.2.1.2.1) hce hcv hcl ?_
      have hP1 := z_keepP hP hk
      have hS1 := z_keepS (A := A) hz hk
      refine lv_astore (lv' := (4, .ref qa) :: [(0, .ref c0), (1, .int x), (2, .int y), (3, .ref oa)]) hx hb dL_cost_17 hl (by decide) rfl (fun ls hl => ?_)
      refine lv_iconst (v := 2) hx hb dL_cost_19 (by decide) ?_
      exact hend 2 (κ, f) _ _ _ _ ⟨e.symm, by rw [if_neg e0]⟩ hP1 hD hS1 dL_cost_20
  · skip
    have e : cd12 x 17 y 4095 = 1 := by unfold cd12; rw [if_neg q1]
    have e0 : ¬ cd12 x 17 y 4095 = 0 := by rw [e]; decide
    have hM := x_X3_cost_O l hl0 n0 dC dI c0 ad ae ah ax ar cI cS (uS κ) (uA κ) (uo κ) (un κ) ho hn (uh κ) (ut κ) hok x y (out_or q1)
    refine z_tVc (As := [.int x, .int y]) (rest := [.int 0, .ref oa]) ⟨hx, hb, hml, hown, hts⟩ hM (cwV 2 hts gL_cost_X3_cost rfl rfl rfl (by decide +kernel) ⟨Nat.le_of_ble_eq_true rfl, Nat.le_of_ble_eq_true rfl⟩) (va_recv hK hP (ci := 3) (q0 := 1) rfl rfl) (z_tailP hP hD) (hK.sub (tys' := [(cI, .int), (cS, .object RX1)]) [0, 1] rfl) hE rfl hl.1 rfl (Nat.le_of_ble_eq_true rfl) dL_cost_5 ⟨Nat.le_of_ble_eq_true rfl, Nat.le_of_ble_eq_true rfl⟩ (fun H1 qa ce hz hk hce hcv hcl => ?_)
    refine vx_catch hown (tableOf []) ⟨0, 10, 13, 13⟩ (tableOf [(0, 10, 17, 15)]) (htab.trans rfl) (fun z hz9 => absurd hz9 List.not_mem_nil) (by decide) (by decide) (hts (.classLink RL 13 XO) (by decide +kernel)) (va_Nw.use rfl hE.2.2.1.1) hce hcv hcl ?_
    have hP1 := z_keepP hP hk
    have hS1 := z_keepS (A := A) hz hk
    refine lv_astore (lv' := (4, .ref qa) :: [(0, .ref c0), (1, .int x), (2, .int y), (3, .ref oa)]) hx hb dL_cost_13 hl (by decide) rfl (fun ls hl => ?_)
    refine lv_iconst (v := 1) hx hb dL_cost_15 (by decide) ?_
    exact hend 1 (κ, f) _ _ _ _ ⟨e.symm, by rw [if_neg e0]⟩ hP1 hD hS1 dL_cost_16
abbrev rL_ifWritten : Room := { frames := 9, cells := 1, slots := 6, locals := 124 }
set_option maxHeartbeats 4000000 in
theorem w_ifWritten (l : Launch) (hl0 : l.stackTraces = false) (n0 : Nat) (dC : Nat → ClassId) (dI : Nat → Nat → Nat) (c0 : Nat) (ad ae ah ax : Nat → Nat) (ar : Nat → Nat → Nat) (cI cS cL : ClassId) (oa : Nat) (κ : zK) (ho : uo κ < 6) (hn : un κ ≤ 6) (hok : zok (uS κ)) (f : Nat → Int64) (x : Int32) (y : Int32) (sz : Nat) : zLi (S := zK × (Nat → Int64)) l yL_ifWritten wsL_ifWritten rL_ifWritten n0 (dC, dI) [.ref c0, .int x, .int y, .ref oa] (zLW c0 ad ae ah ax ar cI cS cL oa κ f) [(cI, .int), (cS, .object RX1), (cL, .long)] sz (fun r u => r = cd12 x 15 y 4095 ∧ u = (κ, (if cd12 x 15 y 4095 = 0 then vp_updL f 0 (zo (ptg (uS κ) (iN x) (nI (iN y)))).toInt64 else f))) (fun u => zLW c0 ad ae ah ax ar cI cS cL oa u.1 u.2) 1 6 := by
  refine zLi_of (cc := cL_ifWritten) (maxL := 5) (by decide) rfl (Nat.le_of_ble_eq_true rfl) ?_
  intro p e s m args below meth cd Q ls A hat hP hK hE hNc hN htab hD hA hend
  obtain ⟨hx, hb, hml, hown, hts, hl⟩ := hat
  replace hown : s.vm.findClass RL = some m.cls := hown
  replace hl : lv_has ls 5 [(0, .ref c0), (1, .int x), (2, .int y), (3, .ref oa)] := hl
  have hS : va_S A s.heap s.heap [] := va_S.rf
  refine lv_aload_n hx hb dL_ifWritten_0 rfl (lv_at hl 3 rfl) ?_
  refine lv_iconst (v := 0) hx hb dL_ifWritten_1 (by decide) ?_
  refine lv_aload_n hx hb dL_ifWritten_2 rfl (lv_at hl 0 rfl) ?_
  refine lv_iload_n hx hb dL_ifWritten_3 rfl (lv_at hl 1 rfl) ?_
  refine lv_iload_n hx hb dL_ifWritten_4 rfl (lv_at hl 2 rfl) ?_
  by_cases q1 : inL x 0 15
  · obtain ⟨jx, ex⟩ := in_15 q1
    by_cases q2 : inL y 0 4095
    · obtain ⟨jy1, jy2, ey⟩ := in_b (lo := 0) (hi := 4095) (by decide) q2
      have e : cd12 x 15 y 4095 = 0 := by unfold cd12; rw [if_pos q1, if_pos q2]
      have hM := k_X3_ifWritten l dC dI c0 ad ae ah ax cI (uS κ) hok (iN x) jx (iN y) (by omega)
      rw [← ex, ← ey] at hM
      refine z_cVi (As := [.int x, .int y]) (rest := [.int 0, .ref oa]) ⟨hx, hb, hml, hown, hts⟩ hM (cwV 2 hts gL_ifWritten_X3_ifWritten rfl rfl rfl (by decide +kernel) ⟨Nat.le_of_ble_eq_true rfl, Nat.le_of_ble_eq_true rfl⟩) (va_recv hK hP (ci := 3) (q0 := 1) rfl rfl) (hP.sub (ws' := zCo c0 ad ae ah ax ++ zW ad cI (uS κ)) [1, 2, 3, 4, 5, 6, 7, 8, 9, 10] rfl) (hK.sub (tys' := [(cI, .int)]) [0] rfl) rfl hl.1 rfl (Nat.le_of_ble_eq_true rfl) dL_ifWritten_5 ⟨Nat.le_of_ble_eq_true rfl, Nat.le_of_ble_eq_true rfl⟩ (fun r hr => ?_)
      subst hr
      refine W.widen (k := 1) (n := 6) (by decide) (by decide) ?_
      refine lv_i2l (v := (zo (ptg (uS κ) (iN x) (nI (iN y)))).toInt64) hx hb dL_ifWritten_8 (by rw [← ey]) ?_
      refine z_last hx hb hK hP hD hS 0 2 0 rfl rfl (by decide) (by decide) dL_ifWritten_9 (fun H locs hP hD hS => ?_)
      refine lv_goto (tgt := 21) hx hb dL_ifWritten_10 (by decide) ?_
      refine lv_iconst (v := 0) hx hb dL_ifWritten_21 (by decide) ?_
      exact hend 0 (κ, vp_updL f 0 (zo (ptg (uS κ) (iN x) (nI (iN y)))).toInt64) _ _ _ _ ⟨e.symm, by rw [if_pos e]⟩ hP hD hS dL_ifWritten_22
    · skip
      have e : cd12 x 15 y 4095 = 2 := by unfold cd12; rw [if_pos q1, if_neg q2]
      have e0 : ¬ cd12 x 15 y 4095 = 0 := by rw [e]; decide
      have hM := x_X3_ifWritten_A l hl0 n0 dC dI c0 ad ae ah ax ar cI cS (uS κ) (uA κ) (uo κ) (un κ) ho hn (uh κ) (ut κ) hok (iN x) jx y (out_or q2)
      rw [← ex] at hM
      refine z_tVc (As := [.int x, .int y]) (rest := [.int 0, .ref oa]) ⟨hx, hb, hml, hown, hts⟩ hM (cwV 2 hts gL_ifWritten_X3_ifWritten rfl rfl rfl (by decide +kernel) ⟨Nat.le_of_ble_eq_true rfl, Nat.le_of_ble_eq_true rfl⟩) (va_recv hK hP (ci := 3) (q0 := 1) rfl rfl) (z_tailP hP hD) (hK.sub (tys' := [(cI, .int), (cS, .object RX1)]) [0, 1] rfl) hE rfl hl.1 rfl (Nat.le_of_ble_eq_true rfl) dL_ifWritten_5 ⟨Nat.le_of_ble_eq_true rfl, Nat.le_of_ble_eq_true rfl⟩ (fun H1 qa ce hz hk hce hcv hcl => ?_)
      refine vx_catch hown (tableOf [(0, 10, 13, 13)]) ⟨0, 10, 17, 15⟩ (tableOf []) (htab.trans rfl) (List.forall_mem_cons.mpr ⟨Or.inr ⟨by decide, XO, hts (.classLink RL 13 XO) (by decide +kernel), hNc.1⟩, fun z hz9 => absurd hz9 List.not_mem_nil⟩) (by decide) (by decide) (hts (.classLink RL 15 XA) (by decide +kernel)) (va_Nw.use rfl hE.2.2.1.2.1) hce hcv hcl ?_
      have hP1 := z_keepP hP hk
      have hS1 := z_keepS (A := A) hz hk
      refine lv_astore (lv' := (4, .ref qa) :: [(0, .ref c0), (1, .int x), (2, .int y), (3, .ref oa)]) hx hb dL_ifWritten_17 hl (by decide) rfl (fun ls hl => ?_)
      refine lv_iconst (v := 2) hx hb dL_ifWritten_19 (by decide) ?_
      exact hend 2 (κ, f) _ _ _ _ ⟨e.symm, by rw [if_neg e0]⟩ hP1 hD hS1 dL_ifWritten_20
  · skip
    have e : cd12 x 15 y 4095 = 1 := by unfold cd12; rw [if_neg q1]
    have e0 : ¬ cd12 x 15 y 4095 = 0 := by rw [e]; decide
    have hM := x_X3_ifWritten_O l hl0 n0 dC dI c0 ad ae ah ax ar cI cS (uS κ) (uA κ) (uo κ) (un κ) ho hn (uh κ) (ut κ) hok x y (out_or q1)
    refine z_tVc (As := [.int x, .int y]) (rest := [.int 0, .ref oa]) ⟨hx, hb, hml, hown, hts⟩ hM (cwV 2 hts gL_ifWritten_X3_ifWritten rfl rfl rfl (by decide +kernel) ⟨Nat.le_of_ble_eq_true rfl, Nat.le_of_ble_eq_true rfl⟩) (va_recv hK hP (ci := 3) (q0 := 1) rfl rfl) (z_tailP hP hD) (hK.sub (tys' := [(cI, .int), (cS, .object RX1)]) [0, 1] rfl) hE rfl hl.1 rfl (Nat.le_of_ble_eq_true rfl) dL_ifWritten_5 ⟨Nat.le_of_ble_eq_true rfl, Nat.le_of_ble_eq_true rfl⟩ (fun H1 qa ce hz hk hce hcv hcl => ?_)
    refine vx_catch hown (tableOf []) ⟨0, 10, 13, 13⟩ (tableOf [(0, 10, 17, 15)]) (htab.trans rfl) (fun z hz9 => absurd hz9 List.not_mem_nil) (by decide) (by decide) (hts (.classLink RL 13 XO) (by decide +kernel)) (va_Nw.use rfl hE.2.2.1.1) hce hcv hcl ?_
    have hP1 := z_keepP hP hk
    have hS1 := z_keepS (A := A) hz hk
    refine lv_astore (lv' := (4, .ref qa) :: [(0, .ref c0), (1, .int x), (2, .int y), (3, .ref oa)]) hx hb dL_ifWritten_13 hl (by decide) rfl (fun ls hl => ?_)
    refine lv_iconst (v := 1) hx hb dL_ifWritten_15 (by decide) ?_
    exact hend 1 (κ, f) _ _ _ _ ⟨e.symm, by rw [if_neg e0]⟩ hP1 hD hS1 dL_ifWritten_16
abbrev rL_costliest : Room := { frames := 9, cells := 1, slots := 6, locals := 123 }
set_option maxHeartbeats 4000000 in
theorem w_costliest (l : Launch) (hl0 : l.stackTraces = false) (n0 : Nat) (dC : Nat → ClassId) (dI : Nat → Nat → Nat) (c0 : Nat) (ad ae ah ax : Nat → Nat) (ar : Nat → Nat → Nat) (cI cS cL : ClassId) (oa : Nat) (κ : zK) (ho : uo κ < 6) (hn : un κ ≤ 6) (hok : zok (uS κ)) (hbt : zbt (uS κ)) (f : Nat → Int64) (x : Int32) (sz : Nat) : zLi (S := zK × (Nat → Int64)) l yL_costliest wsL_costliest rL_costliest n0 (dC, dI) [.ref c0, .int x, .ref oa] (zLW c0 ad ae ah ax ar cI cS cL oa κ f) [(cI, .int), (cS, .object RX1), (cL, .long)] sz (fun r u => r = cd1 x 15 ∧ u = (κ, (if cd1 x 15 = 0 then vp_updL f 0 (pDD (uS κ) (iN x)).toInt64 else f))) (fun u => zLW c0 ad ae ah ax ar cI cS cL oa u.1 u.2) 1 6 := by
  refine zLi_of (cc := cL_costliest) (maxL := 4) (by decide) rfl (Nat.le_of_ble_eq_true rfl) ?_
  intro p e s m args below meth cd Q ls A hat hP hK hE hNc hN htab hD hA hend
  obtain ⟨hx, hb, hml, hown, hts, hl⟩ := hat
  replace hown : s.vm.findClass RL = some m.cls := hown
  replace hl : lv_has ls 4 [(0, .ref c0), (1, .int x), (2, .ref oa)] := hl
  have hS : va_S A s.heap s.heap [] := va_S.rf
  refine lv_aload_n hx hb dL_costliest_0 rfl (lv_at hl 2 rfl) ?_
  refine lv_iconst (v := 0) hx hb dL_costliest_1 (by decide) ?_
  refine lv_aload_n hx hb dL_costliest_2 rfl (lv_at hl 0 rfl) ?_
  refine lv_iload_n hx hb dL_costliest_3 rfl (lv_at hl 1 rfl) ?_
  by_cases q1 : inL x 0 15
  · obtain ⟨jx, ex⟩ := in_15 q1
    have e : cd1 x 15 = 0 := by unfold cd1; rw [if_pos q1]
    have hM := k_X3_costliest l dC dI c0 ad ae ah ax cI (uS κ) hok (iN x) jx hbt
    rw [← ex] at hM
    refine z_cVi (As := [.int x]) (rest := [.int 0, .ref oa]) ⟨hx, hb, hml, hown, hts⟩ hM (cwV 1 hts gL_costliest_X3_costliest rfl rfl rfl (by decide +kernel) ⟨Nat.le_of_ble_eq_true rfl, Nat.le_of_ble_eq_true rfl⟩) (va_recv hK hP (ci := 3) (q0 := 1) rfl rfl) (hP.sub (ws' := zCo c0 ad ae ah ax ++ zW ad cI (uS κ)) [1, 2, 3, 4, 5, 6, 7, 8, 9, 10] rfl) (hK.sub (tys' := [(cI, .int)]) [0] rfl) rfl hl.1 rfl (Nat.le_of_ble_eq_true rfl) dL_costliest_4 ⟨Nat.le_of_ble_eq_true rfl, Nat.le_of_ble_eq_true rfl⟩ (fun r hr => ?_)
    subst hr
    refine W.widen (k := 1) (n := 6) (by decide) (by decide) ?_
    refine lv_i2l (v := (pDD (uS κ) (iN x)).toInt64) hx hb dL_costliest_7 rfl ?_
    refine z_last hx hb hK hP hD hS 0 2 0 rfl rfl (by decide) (by decide) dL_costliest_8 (fun H locs hP hD hS => ?_)
    refine lv_goto (tgt := 15) hx hb dL_costliest_9 (by decide) ?_
    refine lv_iconst (v := 0) hx hb dL_costliest_15 (by decide) ?_
    exact hend 0 (κ, vp_updL f 0 (pDD (uS κ) (iN x)).toInt64) _ _ _ _ ⟨e.symm, by rw [if_pos e]⟩ hP hD hS dL_costliest_16
  · skip
    have e : cd1 x 15 = 1 := by unfold cd1; rw [if_neg q1]
    have e0 : ¬ cd1 x 15 = 0 := by rw [e]; decide
    have hM := x_X3_costliest_O l hl0 n0 dC dI c0 ad ae ah ax ar cI cS (uS κ) (uA κ) (uo κ) (un κ) ho hn (uh κ) (ut κ) hok x (out_or q1)
    refine z_tVc (As := [.int x]) (rest := [.int 0, .ref oa]) ⟨hx, hb, hml, hown, hts⟩ hM (cwV 1 hts gL_costliest_X3_costliest rfl rfl rfl (by decide +kernel) ⟨Nat.le_of_ble_eq_true rfl, Nat.le_of_ble_eq_true rfl⟩) (va_recv hK hP (ci := 3) (q0 := 1) rfl rfl) (z_tailP hP hD) (hK.sub (tys' := [(cI, .int), (cS, .object RX1)]) [0, 1] rfl) hE rfl hl.1 rfl (Nat.le_of_ble_eq_true rfl) dL_costliest_4 ⟨Nat.le_of_ble_eq_true rfl, Nat.le_of_ble_eq_true rfl⟩ (fun H1 qa ce hz hk hce hcv hcl => ?_)
    refine vx_catch hown (tableOf []) ⟨0, 9, 12, 13⟩ (tableOf []) (htab.trans rfl) (fun z hz9 => absurd hz9 List.not_mem_nil) (by decide) (by decide) (hts (.classLink RL 13 XO) (by decide +kernel)) (va_Nw.use rfl hE.2.2.1.1) hce hcv hcl ?_
    have hP1 := z_keepP hP hk
    have hS1 := z_keepS (A := A) hz hk
    refine lv_astore_n (lv' := (3, .ref qa) :: [(0, .ref c0), (1, .int x), (2, .ref oa)]) hx hb dL_costliest_12 rfl hl (by decide) rfl (fun ls hl => ?_)
    refine lv_iconst (v := 1) hx hb dL_costliest_13 (by decide) ?_
    exact hend 1 (κ, f) _ _ _ _ ⟨e.symm, by rw [if_neg e0]⟩ hP1 hD hS1 dL_costliest_14
abbrev rL_life : Room := { frames := 9, cells := 1, slots := 6, locals := 149 }
set_option maxHeartbeats 4000000 in
theorem w_life (l : Launch) (hl0 : l.stackTraces = false) (n0 : Nat) (dC : Nat → ClassId) (dI : Nat → Nat → Nat) (c0 : Nat) (ad ae ah ax : Nat → Nat) (ar : Nat → Nat → Nat) (cI cS cL : ClassId) (oa : Nat) (κ : zK) (ho : uo κ < 6) (hn : un κ ≤ 6) (hok : zok (uS κ)) (f : Nat → Int64) (x : Int32) (y : Int32) (sz : Nat) : zLi (S := zK × (Nat → Int64)) l yL_life wsL_life rL_life n0 (dC, dI) [.ref c0, .int x, .int y, .ref oa] (zLW c0 ad ae ah ax ar cI cS cL oa κ f) [(cI, .int), (cS, .object RX1), (cL, .long)] sz (fun r u => r = cd12 x 15 y 4095 ∧ u = ((if cd12 x 15 y 4095 = 0 then (sLife κ x y).1 else κ), (if cd12 x 15 y 4095 = 0 then vp_updL f 0 ((sLife κ x y).2).toInt64 else f))) (fun u => zLW c0 ad ae ah ax ar cI cS cL oa u.1 u.2) 1 6 := by
  refine zLi_of (cc := cL_life) (maxL := 5) (by decide) rfl (Nat.le_of_ble_eq_true rfl) ?_
  intro p e s m args below meth cd Q ls A hat hP hK hE hNc hN htab hD hA hend
  obtain ⟨hx, hb, hml, hown, hts, hl⟩ := hat
  replace hown : s.vm.findClass RL = some m.cls := hown
  replace hl : lv_has ls 5 [(0, .ref c0), (1, .int x), (2, .int y), (3, .ref oa)] := hl
  have hS : va_S A s.heap s.heap [] := va_S.rf
  refine lv_aload_n hx hb dL_life_0 rfl (lv_at hl 3 rfl) ?_
  refine lv_iconst (v := 0) hx hb dL_life_1 (by decide) ?_
  refine lv_aload_n hx hb dL_life_2 rfl (lv_at hl 0 rfl) ?_
  refine lv_iload_n hx hb dL_life_3 rfl (lv_at hl 1 rfl) ?_
  refine lv_iload_n hx hb dL_life_4 rfl (lv_at hl 2 rfl) ?_
  by_cases q1 : inL x 0 15
  · obtain ⟨jx, ex⟩ := in_15 q1
    by_cases q2 : inL y 0 4095
    · obtain ⟨jy1, jy2, ey⟩ := in_b (lo := 0) (hi := 4095) (by decide) q2
      have e : cd12 x 15 y 4095 = 0 := by unfold cd12; rw [if_pos q1, if_pos q2]
      have hM := k_X3_life l dC dI c0 ad ae ah ax ar cI cS (uS κ) (uA κ) (uo κ) (un κ) ho hn (uh κ) (ut κ) hok (iN x) jx (iN y) (by omega) s.heap.size
      rw [← ex, ← ey] at hM
      refine z_xWi (wr := [(oa, .inl (cL, 1, .inr (.inl f)))]) (As := [.int x, .int y]) (rest := [.int 0, .ref oa]) ⟨hx, hb, hml, hown, hts⟩ hM (cwV 2 hts gL_life_X3_life rfl rfl rfl (by decide +kernel) ⟨Nat.le_of_ble_eq_true rfl, Nat.le_of_ble_eq_true rfl⟩) (va_recv hK hP (ci := 3) (q0 := 1) rfl rfl) hP hD hS hA (hK.sub (tys' := [(cI, .int), (cS, .object RX1)]) [0, 1] rfl) rfl hl.1 rfl (Nat.le_of_ble_eq_true rfl) dL_life_5 ⟨Nat.le_of_ble_eq_true rfl, Nat.le_of_ble_eq_true rfl⟩ (fun r _ H locs hr hP hD hS => ?_)
      subst hr
      replace hP : va_P (dC, dI) vwCl (zLW c0 ad ae ah ax ar cI cS cL oa (sLife κ x y).1 f) H := by unfold sLife; rw [← ey]; exact hP
      replace hD : va_D A (zLW c0 ad ae ah ax ar cI cS cL oa (sLife κ x y).1 f) := by unfold sLife; rw [← ey]; exact hD
      refine W.widen (k := 1) (n := 6) (by decide) (by decide) ?_
      refine lv_i2l (v := ((sLife κ x y).2).toInt64) hx hb dL_life_8 (by unfold sLife; rw [← ey]) ?_
      refine z_last hx hb hK hP hD hS 0 2 0 rfl rfl (by decide) (by decide) dL_life_9 (fun H locs hP hD hS => ?_)
      refine lv_goto (tgt := 21) hx hb dL_life_10 (by decide) ?_
      refine lv_iconst (v := 0) hx hb dL_life_21 (by decide) ?_
      exact hend 0 ((sLife κ x y).1, vp_updL f 0 ((sLife κ x y).2).toInt64) _ _ _ _ ⟨e.symm, by rw [if_pos e, if_pos e]⟩ hP hD hS dL_life_22
    · skip
      have e : cd12 x 15 y 4095 = 2 := by unfold cd12; rw [if_pos q1, if_neg q2]
      have e0 : ¬ cd12 x 15 y 4095 = 0 := by rw [e]; decide
      have hM := x_X3_life_A l hl0 n0 dC dI c0 ad ae ah ax ar cI cS (uS κ) (uA κ) (uo κ) (un κ) ho hn (uh κ) (ut κ) hok (iN x) jx y (out_or q2)
      rw [← ex] at hM
      refine z_tVc (As := [.int x, .int y]) (rest := [.int 0, .ref oa]) ⟨hx, hb, hml, hown, hts⟩ hM (cwV 2 hts gL_life_X3_life rfl rfl rfl (by decide +kernel) ⟨Nat.le_of_ble_eq_true rfl, Nat.le_of_ble_eq_true rfl⟩) (va_recv hK hP (ci := 3) (q0 := 1) rfl rfl) (z_tailP hP hD) (hK.sub (tys' := [(cI, .int), (cS, .object RX1)]) [0, 1] rfl) hE rfl hl.1 rfl (Nat.le_of_ble_eq_true rfl) dL_life_5 ⟨Nat.le_of_ble_eq_true rfl, Nat.le_of_ble_eq_true rfl⟩ (fun H1 qa ce hz hk hce hcv hcl => ?_)
      refine vx_catch hown (tableOf [(0, 10, 13, 13)]) ⟨0, 10, 17, 15⟩ (tableOf []) (htab.trans rfl) (List.forall_mem_cons.mpr ⟨Or.inr ⟨by decide, XO, hts (.classLink RL 13 XO) (by decide +kernel), hNc.1⟩, fun z hz9 => absurd hz9 List.not_mem_nil⟩) (by decide) (by decide) (hts (.classLink RL 15 XA) (by decide +kernel)) (va_Nw.use rfl hE.2.2.1.2.1) hce hcv hcl ?_
      have hP1 := z_keepP hP hk
      have hS1 := z_keepS (A := A) hz hk
      refine lv_astore (lv' := (4, .ref qa) :: [(0, .ref c0), (1, .int x), (2, .int y), (3, .ref oa)]) hx hb dL_life_17 hl (by decide) rfl (fun ls hl => ?_)
      refine lv_iconst (v := 2) hx hb dL_life_19 (by decide) ?_
      exact hend 2 (κ, f) _ _ _ _ ⟨e.symm, by rw [if_neg e0, if_neg e0]⟩ hP1 hD hS1 dL_life_20
  · skip
    have e : cd12 x 15 y 4095 = 1 := by unfold cd12; rw [if_neg q1]
    have e0 : ¬ cd12 x 15 y 4095 = 0 := by rw [e]; decide
    have hM := x_X3_life_O l hl0 n0 dC dI c0 ad ae ah ax ar cI cS (uS κ) (uA κ) (uo κ) (un κ) ho hn (uh κ) (ut κ) hok x y (out_or q1)
    refine z_tVc (As := [.int x, .int y]) (rest := [.int 0, .ref oa]) ⟨hx, hb, hml, hown, hts⟩ hM (cwV 2 hts gL_life_X3_life rfl rfl rfl (by decide +kernel) ⟨Nat.le_of_ble_eq_true rfl, Nat.le_of_ble_eq_true rfl⟩) (va_recv hK hP (ci := 3) (q0 := 1) rfl rfl) (z_tailP hP hD) (hK.sub (tys' := [(cI, .int), (cS, .object RX1)]) [0, 1] rfl) hE rfl hl.1 rfl (Nat.le_of_ble_eq_true rfl) dL_life_5 ⟨Nat.le_of_ble_eq_true rfl, Nat.le_of_ble_eq_true rfl⟩ (fun H1 qa ce hz hk hce hcv hcl => ?_)
    refine vx_catch hown (tableOf []) ⟨0, 10, 13, 13⟩ (tableOf [(0, 10, 17, 15)]) (htab.trans rfl) (fun z hz9 => absurd hz9 List.not_mem_nil) (by decide) (by decide) (hts (.classLink RL 13 XO) (by decide +kernel)) (va_Nw.use rfl hE.2.2.1.1) hce hcv hcl ?_
    have hP1 := z_keepP hP hk
    have hS1 := z_keepS (A := A) hz hk
    refine lv_astore (lv' := (4, .ref qa) :: [(0, .ref c0), (1, .int x), (2, .int y), (3, .ref oa)]) hx hb dL_life_13 hl (by decide) rfl (fun ls hl => ?_)
    refine lv_iconst (v := 1) hx hb dL_life_15 (by decide) ?_
    exact hend 1 (κ, f) _ _ _ _ ⟨e.symm, by rw [if_neg e0, if_neg e0]⟩ hP1 hD hS1 dL_life_16
