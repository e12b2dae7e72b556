abbrev rX3_bitsOf : Room := { frames := 0, cells := 0, slots := 0, locals := 0 }
set_option maxHeartbeats 4000000 in
set_option maxRecDepth 100000 in
theorem k_X3_bitsOf (l : Launch) (dC : Nat → ClassId) (dI : Nat → Nat → Nat) (k t : Nat) (hk : k < 2047) (ht : t < 2 ^ 52) (h0 : k = 0 → t = 0) : zRl l yX3_bitsOf wsX3_bitsOf rX3_bitsOf (dC, dI) [.double (zD k t)] [] [] (fun r => r = Int64.ofNat (k * 2 ^ 52 + t)) := by
  refine zRl_of (cc := cX3_bitsOf) (maxL := 8) (by decide) rfl (Nat.le_of_ble_eq_true rfl) ?_
  intro p e s m args below meth cd Q ls hat hP hK hend
  obtain ⟨hx, hb, hml, hown, hts, hl⟩ := hat
  replace hown : s.vm.findClass RX3 = some m.cls := hown
  replace hl : lv_has ls 8 [(0, .double (zD k t))] := hl
  replace hP : va_P (dC, dI) vwCl [] s.heap := hP
  have hc259 := hts (.constantLong RX3 259 (1023)) (by decide +kernel)
  have hc263 := hts (.constantDouble RX3 263 (4841369599423283200)) (by decide +kernel)
  have hc261 := hts (.constantDouble RX3 261 (4611686018427387904)) (by decide +kernel)
  refine lv_dload_n hx hb dX3_bitsOf_0 rfl (lv_at hl 0 rfl) ?_
  refine lv_dconst0 hx hb dX3_bitsOf_1 ?_
  refine lv_dcmp hx hb dX3_bitsOf_2 ?_
  refine lv_if_gt (tgt := 8) hx hb dX3_bitsOf_3 (by decide) (fun c_1 => ?_) (fun c_1 => ?_)
  · skip
    have hnz := (zD_gt0 hk ht).mp c_1
    have hk1 : 1 ≤ k := by omega
    refine lv_ldc2 hx hb hown hc259 dX3_bitsOf_8 ?_
    refine lv_lstore_n (lv' := [(2, .long 1023), (0, .double (zD k t))]) hx hb dX3_bitsOf_11 rfl hl (by decide) rfl (fun ls hl => ?_)
    refine lv_dload_n hx hb dX3_bitsOf_12 rfl (lv_at hl 1 rfl) ?_
    refine lv_dstore (lv' := [(4, .double (zD k t)), (2, .long 1023), (0, .double (zD k t))]) hx hb dX3_bitsOf_13 hl (by decide) rfl (fun ls hl => ?_)
    refine lv_iconst (v := 0) hx hb dX3_bitsOf_15 (by decide) ?_
    refine lv_istore (lv' := [(6, .int 0), (4, .double (zD k t)), (2, .long 1023), (0, .double (zD k t))]) hx hb dX3_bitsOf_16 hl (by decide) rfl (fun ls hl => ?_)
    have hC_18 : ∀ (nf : Nat) (y : Int64) (z : UInt64) (k1 : Nat) (i : Nat) (ls : Array Slot), k1 < nf → lv_has ls 8 [(2, .long y), (4, .double z), (6, .int (nI i))] → (y = Int64.ofNat (1023 + k - k1)) → (z = zD k1 t) → (1 ≤ k1) → (i + k1 = k) → (1023 ≤ k1 ∨ k1 = k) → W p l e rX3_bitsOf s m args below meth cd s.heap [] 0 0 Q (F0 m 18 ls []) := by
      intro nf
      induction nf with
      | zero => intro y z k1 i ls hm_18 hl ey ez hk2 hi1 hor; exact absurd hm_18 (Nat.not_lt_zero _)
      | succ nf ih_18 =>
        intro y z k1 i ls hm_18 hl ey ez hk2 hi1 hor
        have hC_53 : ∀ (y2 : Int64) (z2 : UInt64) (k2 : Nat) (ls : Array Slot), lv_has ls 8 [(2, .long y2), (4, .double z2)] → (y2 = Int64.ofNat (1023 + k - k2)) → (z2 = zD k2 t) → (1 ≤ k2) → (k2 ≤ 1023) → W p l e rX3_bitsOf s m args below meth cd s.heap [] 0 0 Q (F0 m 53 ls []) := by
          intro y2 z2 k2 ls hl ey2 ez2 hk3 hk4
          refine lv_iconst (v := 0) hx hb dX3_bitsOf_53 (by decide) ?_
          refine lv_istore (lv' := [(6, .int 0), (2, .long y2), (4, .double z2)]) hx hb dX3_bitsOf_54 hl (by decide) rfl (fun ls hl => ?_)
          have hC_56 : ∀ (nf : Nat) (y3 : Int64) (z3 : UInt64) (k3 : Nat) (i : Nat) (ls : Array Slot), 1023 - k3 < nf → lv_has ls 8 [(2, .long y3), (4, .double z3), (6, .int (nI i))] → (y3 = Int64.ofNat (1023 + k - k3)) → (z3 = zD k3 t) → (1 ≤ k3) → (k3 ≤ 1023) → (i + k2 = k3) → W p l e rX3_bitsOf s m args below meth cd s.heap [] 0 0 Q (F0 m 56 ls []) := by
            intro nf
            induction nf with
            | zero => intro y3 z3 k3 i ls hm_56 hl ey3 ez3 hk5 hk6 hi3; exact absurd hm_56 (Nat.not_lt_zero _)
            | succ nf ih_56 =>
              intro y3 z3 k3 i ls hm_56 hl ey3 ez3 hk5 hk6 hi3
              have hC_89 : ∀ (y4 : Int64) (z4 : UInt64) (ls : Array Slot), lv_has ls 8 [(2, .long y4), (4, .double z4)] → (y4 = Int64.ofNat k) → (z4 = zD 1023 t) → W p l e rX3_bitsOf s m args below meth cd s.heap [] 0 0 Q (F0 m 89 ls []) := by
                intro y4 z4 ls hl ey4 ez4
                refine lv_dload hx hb dX3_bitsOf_89 (lv_at hl 1 rfl) ?_
                refine lv_dconst1 hx hb dX3_bitsOf_91 ?_
                refine lv_dsub hx hb dX3_bitsOf_92 (by rw [ez4]; exact zD_sub_nn ht) ?_
                refine lv_ldc2d hx hb hown hc263 dX3_bitsOf_93 ?_
                refine lv_dmul hx hb dX3_bitsOf_96 (by rw [ez4]; exact zD_frac_nn ht) ?_
                refine lv_d2l hx hb dX3_bitsOf_97 ?_
                refine lv_lstore (lv' := [(6, .long (FP.d2l (FP.dmul (FP.dsub z4 FP.dconst1) 4841369599423283200))), (2, .long y4), (4, .double z4)]) hx hb dX3_bitsOf_98 hl (by decide) rfl (fun ls hl => ?_)
                refine lv_lload_n hx hb dX3_bitsOf_100 rfl (lv_at hl 1 rfl) ?_
                refine lv_bipush (v := 52) hx hb dX3_bitsOf_101 (by decide) ?_
                refine lv_lshl (v := y4 <<< ((52 : Int32).toInt64 &&& 63)) hx hb dX3_bitsOf_103 rfl ?_
                refine lv_lload hx hb dX3_bitsOf_104 (lv_at hl 0 rfl) ?_
                refine lv_lor hx hb dX3_bitsOf_106 ?_
                exact hend _ _ _ (by rw [ey4, ez4, zD_frac ht]; exact zL_bits (by omega) ht) dX3_bitsOf_107
              refine lv_iload hx hb dX3_bitsOf_56 (lv_at hl 2 rfl) ?_
              refine lv_sipush (v := 1100) hx hb dX3_bitsOf_58 (by decide) ?_
              refine z_ge hx hb i 1100 (by omega) (by omega) (tgt := 89) dX3_bitsOf_61 (by decide) (fun c_2 => ?_) (fun c_2 => ?_)
              · skip
                exact hC_89 y3 z3 _ (lv_sub hl [0, 1] rfl) (by have h9 : k3 = 1023 := (by first | omega | (rw [ez3] at c_2; have h8 := (zD_ge1 (by omega) ht).mp c_2; omega)); rw [ey3]; exact congrArg Int64.ofNat (by omega)) (by have h9 : k3 = 1023 := (by first | omega | (rw [ez3] at c_2; have h8 := (zD_ge1 (by omega) ht).mp c_2; omega)); rw [ez3, h9])
              · skip
                refine lv_dload hx hb dX3_bitsOf_64 (lv_at hl 1 rfl) ?_
                refine lv_dconst1 hx hb dX3_bitsOf_66 ?_
                refine lv_dcmp hx hb dX3_bitsOf_67 ?_
                refine lv_if_ge (tgt := 89) hx hb dX3_bitsOf_68 (by decide) (fun c_3 => ?_) (fun c_3 => ?_)
                · skip
                  exact hC_89 y3 z3 _ (lv_sub hl [0, 1] rfl) (by have h9 : k3 = 1023 := (by first | omega | (rw [ez3] at c_3; have h8 := (zD_ge1 (by omega) ht).mp c_3; omega)); rw [ey3]; exact congrArg Int64.ofNat (by omega)) (by have h9 : k3 = 1023 := (by first | omega | (rw [ez3] at c_3; have h8 := (zD_ge1 (by omega) ht).mp c_3; omega)); rw [ez3, h9])
                · skip
                  rw [ez3] at c_3
                  have hge3 : k3 < 1023 := Nat.not_le.mp (fun q => c_3 ((zD_ge1 (by omega) ht).mpr q))
                  refine lv_dload hx hb dX3_bitsOf_71 (lv_at hl 1 rfl) ?_
                  refine lv_ldc2d hx hb hown hc261 dX3_bitsOf_73 ?_
                  refine lv_dmul hx hb dX3_bitsOf_76 (by rw [ez3, zD_twice (by omega) (by omega) ht]; exact zD_nn (by omega) ht) ?_
                  refine lv_dstore (lv' := [(4, .double (FP.dmul z3 4611686018427387904)), (2, .long y3), (6, .int (nI i))]) hx hb dX3_bitsOf_77 hl (by decide) rfl (fun ls hl => ?_)
                  refine lv_lload_n hx hb dX3_bitsOf_79 rfl (lv_at hl 1 rfl) ?_
                  refine lv_lconst (v := 1) hx hb dX3_bitsOf_80 rfl ?_
                  refine lv_lsub hx hb dX3_bitsOf_81 ?_
                  refine lv_lstore_n (lv' := [(2, .long (y3 - 1)), (4, .double (FP.dmul z3 4611686018427387904)), (6, .int (nI i))]) hx hb dX3_bitsOf_82 rfl hl (by decide) rfl (fun ls hl => ?_)
                  refine lv_iinc (v := nI (i + 1)) (lv' := [(6, .int (nI (i + 1))), (2, .long (y3 - 1)), (4, .double (FP.dmul z3 4611686018427387904))]) hx hb dX3_bitsOf_83 hl (k := 2) rfl (z_inc1 _) (by decide) rfl (fun ls hl => ?_)
                  refine lv_goto (tgt := 56) hx hb dX3_bitsOf_86 (by decide) ?_
                  exact ih_56 (y3 - 1) (FP.dmul z3 4611686018427387904) (k3 + 1) (i + 1) _ (by omega) (lv_sub hl [1, 2, 0] rfl) (by rw [ey3, zL_sub1 (by omega)]; exact congrArg Int64.ofNat (by omega)) (by rw [ez3]; exact zD_twice (by omega) (by omega) ht) (by omega) (by omega) (by omega)
          exact hC_56 _ y2 z2 k2 0 _ (Nat.lt_succ_self _) (lv_sub hl [1, 2, 0] rfl) (ey2) (ez2) (by omega) (by omega) (by omega)
        refine lv_iload hx hb dX3_bitsOf_18 (lv_at hl 2 rfl) ?_
        refine lv_sipush (v := 1100) hx hb dX3_bitsOf_20 (by decide) ?_
        refine z_ge hx hb i 1100 (by omega) (by omega) (tgt := 53) dX3_bitsOf_23 (by decide) (fun c_4 => ?_) (fun c_4 => ?_)
        · skip
          exact hC_53 y z k1 _ (lv_sub hl [0, 1] rfl) (ey) (ez) (by omega) (by first | omega | (rw [ez] at c_4; have h8 := (zD_lt2 (by omega) ht).mp c_4; omega))
        · skip
          refine lv_dload hx hb dX3_bitsOf_26 (lv_at hl 1 rfl) ?_
          refine lv_ldc2d hx hb hown hc261 dX3_bitsOf_28 ?_
          refine lv_dcmp hx hb dX3_bitsOf_31 ?_
          refine lv_if_lt (tgt := 53) hx hb dX3_bitsOf_32 (by decide) (fun c_5 => ?_) (fun c_5 => ?_)
          · skip
            exact hC_53 y z k1 _ (lv_sub hl [0, 1] rfl) (ey) (ez) (by omega) (by first | omega | (rw [ez] at c_5; have h8 := (zD_lt2 (by omega) ht).mp c_5; omega))
          · skip
            rw [ez] at c_5
            have hge : 1024 ≤ k1 := Nat.not_lt.mp (fun q => c_5 ((zD_lt2 (by omega) ht).mpr q))
            refine lv_dload hx hb dX3_bitsOf_35 (lv_at hl 1 rfl) ?_
            refine lv_ldc2d hx hb hown hc261 dX3_bitsOf_37 ?_
            refine lv_ddiv hx hb dX3_bitsOf_40 (by rw [ez, zD_half2 (by omega) (by omega) ht]; exact zD_nn (by omega) ht) ?_
            refine lv_dstore (lv' := [(4, .double (FP.ddiv z 4611686018427387904)), (2, .long y), (6, .int (nI i))]) hx hb dX3_bitsOf_41 hl (by decide) rfl (fun ls hl => ?_)
            refine lv_lload_n hx hb dX3_bitsOf_43 rfl (lv_at hl 1 rfl) ?_
            refine lv_lconst (v := 1) hx hb dX3_bitsOf_44 rfl ?_
            refine lv_ladd hx hb dX3_bitsOf_45 ?_
            refine lv_lstore_n (lv' := [(2, .long (y + 1)), (4, .double (FP.ddiv z 4611686018427387904)), (6, .int (nI i))]) hx hb dX3_bitsOf_46 rfl hl (by decide) rfl (fun ls hl => ?_)
            refine lv_iinc (v := nI (i + 1)) (lv' := [(6, .int (nI (i + 1))), (2, .long (y + 1)), (4, .double (FP.ddiv z 4611686018427387904))]) hx hb dX3_bitsOf_47 hl (k := 2) rfl (z_inc1 _) (by decide) rfl (fun ls hl => ?_)
            refine lv_goto (tgt := 18) hx hb dX3_bitsOf_50 (by decide) ?_
            exact ih_18 (y + 1) (FP.ddiv z 4611686018427387904) (k1 - 1) (i + 1) _ (by omega) (lv_sub hl [1, 2, 0] rfl) (by rw [ey, zL_add1]; exact congrArg Int64.ofNat (by omega)) (by rw [ez]; exact zD_half2 (by omega) (by omega) ht) (by omega) (by omega) (by omega)
    exact hC_18 _ 1023 (zD k t) k 0 _ (Nat.lt_succ_self _) (lv_sub hl [2, 1, 0] rfl) (by rw [show 1023 + k - k = 1023 by omega]; rfl) (rfl) (by omega) (by omega) (by omega)
  · skip
    have hz := Classical.not_not.mp (fun z => c_1 ((zD_gt0 hk ht).mpr z))
    refine lv_lconst (v := 0) hx hb dX3_bitsOf_6 rfl ?_
    exact hend _ _ _ (by rw [hz.1, hz.2]; rfl) dX3_bitsOf_7

theorem k_X3_bitsOf_x (l : Launch) (dC : Nat → ClassId) (dI : Nat → Nat → Nat) (x : UInt64) (h : zNorm x) : zRl l yX3_bitsOf wsX3_bitsOf rX3_bitsOf (dC, dI) [.double x] [] [] (fun r => r = x.toInt64) := by
  obtain ⟨k, t, rfl, ht, hk, h0⟩ := h
  exact k_X3_bitsOf l dC dI k t hk ht h0

abbrev rX3_share : Room := { frames := 0, cells := 0, slots := 0, locals := 0 }
set_option maxHeartbeats 4000000 in
set_option maxRecDepth 100000 in
theorem k_X3_share (l : Launch) (dC : Nat → ClassId) (dI : Nat → Nat → Nat) (c0 : Nat) (ad ae ah ax : Nat → Nat) (cI : ClassId) (σ : zS) (hok : zok σ) : zRd l yX3_share wsX3_share rX3_share (dC, dI) [.ref c0] (zCo c0 ad ae ah ax ++ zW ad cI σ) [(cI, .int)] (fun r => r = pShare (zc1 σ) (zc2 σ)) := by
  refine zRd_of (cc := cX3_share) (maxL := 2) (by decide) rfl (Nat.le_of_ble_eq_true rfl) ?_
  intro p e s m args below meth cd Q ls hat hP hK hend
  obtain ⟨hx, hb, hml, hown, hts, hl⟩ := hat
  replace hown : s.vm.findClass RX3 = some m.cls := hown
  replace hl : lv_has ls 2 [(0, .ref c0)] := hl
  replace hP : va_P (dC, dI) vwCl [(c0, .inr (3, [.ref (ad 0), .ref (ae 0), .ref (ah 0), .ref (ax 0)])), ((ad 0), .inr (1, [.ref (ad 1), .ref (ad 2), .ref (ad 3), .ref (ad 4), .ref (ad 5), .ref (ad 6), .ref (ad 7), .ref (ad 8), .int (zc0 σ), .int (zc1 σ), .int (zc2 σ), .int (zc3 σ), .int (zc4 σ)])), ((ad 1), .inl (cI, 18, .inl (zhd σ))), ((ad 2), .inl (cI, 234, .inl (zwn σ))), ((ad 3), .inl (cI, 18, .inl (zwi σ))), ((ad 4), .inl (cI, 16, .inl (fun w => nI (zpl σ w)))), ((ad 5), .inl (cI, 16, .inl (zwh σ))), ((ad 6), .inl (cI, 16, .inl (zwo σ))), ((ad 7), .inl (cI, 16, .inl (zmo σ))), ((ad 8), .inl (cI, 2, .inl (zst σ)))] s.heap := hP
  have hf10 := hts (.fieldLink RX3 10 "InsideOutWords" "now" "LInsideOutWords$State;") (by decide +kernel)
  have hnX3 : ∀ w ∈ u_ws RX3 TX3 4, w ∈ wsX3_share := by decide +kernel
  have hf177 := hts (.fieldLink RX3 177 "InsideOutWords$State" "plainChanges" "I") (by decide +kernel)
  have hnX1 : ∀ w ∈ u_ws RX1 TX1 13, w ∈ wsX3_share := by decide +kernel
  have hf174 := hts (.fieldLink RX3 174 "InsideOutWords$State" "changes" "I") (by decide +kernel)
  refine lv_aload_n hx hb dX3_share_0 rfl (lv_at hl 0 rfl) ?_
  refine va_get (D := (dC, dI)) (ci := 3) (v := .ref (ad 0)) (C := RX3) (T := TX3) (N := 4) hx hb hts hnX3 hown hK hP 0 rfl rfl 0 (by decide) hf10 (fun _ h9 => h9) rfl dX3_share_1 ?_
  refine va_get (D := (dC, dI)) (ci := 1) (v := .int (zc2 σ)) (C := RX1) (T := TX1) (N := 13) hx hb hts hnX1 hown hK hP 1 rfl rfl 10 (by decide) hf177 (fun _ h9 => h9) rfl dX3_share_4 ?_
  refine lv_istore_n (lv' := [(1, .int (zc2 σ)), (0, .ref c0)]) hx hb dX3_share_7 rfl hl (by decide) rfl (fun ls hl => ?_)
  refine lv_iload_n hx hb dX3_share_8 rfl (lv_at hl 0 rfl) ?_
  refine lv_if_ne (tgt := 16) hx hb dX3_share_9 (by decide) (fun c_1 => ?_) (fun c_1 => ?_)
  · skip
    refine lv_aload_n hx hb dX3_share_16 rfl (lv_at hl 1 rfl) ?_
    refine va_get (D := (dC, dI)) (ci := 3) (v := .ref (ad 0)) (C := RX3) (T := TX3) (N := 4) hx hb hts hnX3 hown hK hP 0 rfl rfl 0 (by decide) hf10 (fun _ h9 => h9) rfl dX3_share_17 ?_
    refine va_get (D := (dC, dI)) (ci := 1) (v := .int (zc1 σ)) (C := RX1) (T := TX1) (N := 13) hx hb hts hnX1 hown hK hP 1 rfl rfl 9 (by decide) hf174 (fun _ h9 => h9) rfl dX3_share_20 ?_
    refine lv_i2d hx hb dX3_share_23 ?_
    refine lv_iload_n hx hb dX3_share_24 rfl (lv_at hl 0 rfl) ?_
    refine lv_i2d hx hb dX3_share_25 ?_
    refine lv_ddiv hx hb dX3_share_26 (i2d_nn0 _ c_1) ?_
    exact hend _ _ _ (by unfold pShare; rw [if_neg c_1]) dX3_share_27
  · skip
    refine lv_dconst1 hx hb dX3_share_12 ?_
    refine lv_goto (tgt := 27) hx hb dX3_share_13 (by decide) ?_
    exact hend _ _ _ (by unfold pShare; rw [if_pos c_1]) dX3_share_27
