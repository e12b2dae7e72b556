/-! doubles: the positive normal ones by their fields; a share's bits -/
def zD (k t : Nat) : UInt64 := UInt64.ofNat (k * 2 ^ 52 + t)
theorem zD_nat {k t : Nat} (hk : k < 2048) (ht : t < 2 ^ 52) : (zD k t).toNat = k * 2 ^ 52 + t := by
  unfold zD
  rw [UInt64.toNat_ofNat_of_lt' (by show k * 2 ^ 52 + t < 18446744073709551616; omega)]
theorem zD_val {k t : Nat} (h1 : 1 ≤ k) (hk : k < 2047) (ht : t < 2 ^ 52) : FP.Core.val64 (zD k t) = .fin false (2 ^ 52 + t) ((k : Int) - 1075) := by
  have e : k * 2 ^ 52 + t = FP.Core.assemble FP.Core.b64 false k t := by
    unfold FP.Core.assemble
    rw [FP.Core.tails_b64]
    show _ = (0 * _ + k) * 2 ^ 52 + t
    rw [Nat.zero_mul, Nat.zero_add]
  unfold FP.Core.val64
  rw [zD_nat (by omega) ht, e, FP.Core.decode_assemble _ _ _ _ (by show k < 2 ^ 11; omega) (by rw [FP.Core.tails_b64]; exact ht), if_neg (by rw [FP.Core.exps_b64]; omega), if_neg (by omega), FP.Core.tails_b64, FP.Core.qmin_b64, show (-1074 : Int) + ((k : Int) - 1) = (k : Int) - 1075 by omega]
theorem zD_ne {k t : Nat} (hk : k < 2047) (ht : t < 2 ^ 52) : FP.Core.val64 (zD k t) ≠ .nan := by
  rw [FP.Core.ne_nan, zD_nat (by omega) ht]
  omega
theorem zD_fits {k t : Nat} (h1 : 1 ≤ k) (hk : k < 2047) (ht : t < 2 ^ 52) : FP.Core.fits FP.Core.b64 (.fin false (2 ^ 52 + t) ((k : Int) - 1075)) :=
  zD_val h1 hk ht ▸ FP.Core.val64_fits (zD k t)
abbrev d2c : UInt64 := 4611686018427387904
theorem d2_val : FP.Core.val64 d2c = .fin false (2 ^ 52) (-51) := by decide +kernel
theorem quot_fin {s t : Bool} {c d : Nat} {q r : Int} (h : d ≠ 0) : FP.Core.quotient FP.Core.b64 (.fin s c q) (.fin t d r) = FP.Core.roundRatio FP.Core.b64 (s != t) c d (q - r) := by
  unfold FP.Core.quotient
  exact if_neg h
theorem zD_half {k t : Nat} (h1 : 1 ≤ k) (hk : k + 1 < 2047) (ht : t < 2 ^ 52) : FP.ddiv (zD (k + 1) t) d2c = zD k t := by
  have e := FP.Core.val64_ddiv (zD (k + 1) t) d2c
  rw [zD_val (by omega) hk ht, d2_val] at e
  have e2 : FP.Core.quotient FP.Core.b64 (.fin false (2 ^ 52 + t) (((k + 1 : Nat) : Int) - 1075)) (.fin false (2 ^ 52) (-51)) = .fin false (2 ^ 52 + t) ((k : Int) - 1075) := by
    have a1 : ((((k + 1 : Nat) : Int) - 1075) - (-51) - ((k : Int) - 1075)).toNat = 52 := by omega
    have a2 : (((k : Int) - 1075) - ((((k + 1 : Nat) : Int) - 1075) - (-51))).toNat = 0 := by omega
    rw [quot_fin (by decide)]
    show FP.Core.roundRatio FP.Core.b64 false (2 ^ 52 + t) (2 ^ 52) ((((k + 1 : Nat) : Int) - 1075) - (-51)) = _
    exact FP.Core.roundRatio_exact FP.Core.good_b64 (by decide) (zD_fits h1 (by omega) ht) (by rw [a1, a2, Nat.pow_zero, Nat.mul_one])
  rw [e2, ← zD_val h1 (by omega) ht] at e
  exact FP.Core.val64_inj (by rw [e]; exact zD_ne (by omega) ht) e
theorem zD_twice {k t : Nat} (h1 : 1 ≤ k) (hk : k + 1 < 2047) (ht : t < 2 ^ 52) : FP.dmul (zD k t) d2c = zD (k + 1) t := by
  have e := FP.Core.val64_dmul (zD k t) d2c
  rw [zD_val h1 (by omega) ht, d2_val] at e
  have e2 : FP.Core.round FP.Core.b64 (FP.Core.exactProduct (.fin false (2 ^ 52 + t) ((k : Int) - 1075)) (.fin false (2 ^ 52) (-51))) = .fin false (2 ^ 52 + t) (((k + 1 : Nat) : Int) - 1075) := by
    have a1 : (((k : Int) - 1075) + (-51) - (((k + 1 : Nat) : Int) - 1075)).toNat = 0 := by omega
    have a2 : ((((k + 1 : Nat) : Int) - 1075) - (((k : Int) - 1075) + (-51))).toNat = 52 := by omega
    show FP.Core.roundRatio FP.Core.b64 false ((2 ^ 52 + t) * 2 ^ 52) 1 (((k : Int) - 1075) + (-51)) = _
    exact FP.Core.roundRatio_exact FP.Core.good_b64 (by decide) (zD_fits (by omega) hk ht) (by rw [a1, a2, Nat.pow_zero, Nat.mul_one, Nat.mul_one])
  rw [e2, ← zD_val (by omega) hk ht] at e
  exact FP.Core.val64_inj (by rw [e]; exact zD_ne (by omega) ht) e
theorem zD_cmp {k t k' t' : Nat} (hk : k < 2047) (ht : t < 2 ^ 52) (hk' : k' < 2047) (ht' : t' < 2 ^ 52) : FP.dcmp (zD k t) (zD k' t') = some (compare ((k * 2 ^ 52 + t : Nat) : Int) ((k' * 2 ^ 52 + t' : Nat) : Int)) := by
  have e := FP.Core.dcmp_key (zD_ne hk ht) (zD_ne hk' ht')
  unfold FP.Core.dkey at e
  rw [zD_nat (by omega) ht, zD_nat (by omega) ht', if_neg (by omega), if_neg (by omega)] at e
  exact e
theorem cmpV_lt {a b : Int} {op : CmpOp} : Op.cmpValue (some (compare a b)) op < 0 ↔ a < b := by
  rw [FP.Core.compare_ite]
  by_cases h : a < b
  · rw [if_pos h]; exact ⟨fun _ => h, fun _ => by show (-1 : Int32) < 0; decide⟩
  · rw [if_neg h]
    refine ⟨fun q => absurd q ?_, fun q => absurd q h⟩
    by_cases h2 : a = b
    · rw [if_pos h2]; show ¬ (0 : Int32) < 0; decide
    · rw [if_neg h2]; show ¬ (1 : Int32) < 0; decide
theorem cmpV_gt {a b : Int} {op : CmpOp} : 0 < Op.cmpValue (some (compare a b)) op ↔ b < a := by
  rw [FP.Core.compare_ite]
  by_cases h : a < b
  · rw [if_pos h]; refine ⟨fun q => absurd q ?_, fun q => by omega⟩; show ¬ (0 : Int32) < -1; decide
  · rw [if_neg h]
    by_cases h2 : a = b
    · rw [if_pos h2]; refine ⟨fun q => absurd q ?_, fun q => by omega⟩; show ¬ (0 : Int32) < 0; decide
    · rw [if_neg h2]; exact ⟨fun _ => by omega, fun _ => by show (0 : Int32) < 1; decide⟩
theorem cmpV_ge {a b : Int} {op : CmpOp} : 0 ≤ Op.cmpValue (some (compare a b)) op ↔ b ≤ a := by
  rw [← Int32.not_lt, cmpV_lt]; omega
theorem zD_gt0 {k t : Nat} {op : CmpOp} (hk : k < 2047) (ht : t < 2 ^ 52) : 0 < Op.cmpValue (FP.dcmp (zD k t) FP.dconst0) op ↔ ¬ (k = 0 ∧ t = 0) := by
  rw [show FP.dconst0 = zD 0 0 from rfl, zD_cmp hk ht (by decide) (by decide), cmpV_gt]
  omega
theorem zD_lt2 {k t : Nat} {op : CmpOp} (hk : k < 2047) (ht : t < 2 ^ 52) : Op.cmpValue (FP.dcmp (zD k t) d2c) op < 0 ↔ k < 1024 := by
  rw [show d2c = zD 1024 0 from rfl, zD_cmp hk ht (by decide) (by decide), cmpV_lt]
  omega
theorem zD_ge1 {k t : Nat} {op : CmpOp} (hk : k < 2047) (ht : t < 2 ^ 52) : 0 ≤ Op.cmpValue (FP.dcmp (zD k t) FP.dconst1) op ↔ 1023 ≤ k := by
  rw [show FP.dconst1 = zD 1023 0 from rfl, zD_cmp hk ht (by decide) (by decide), cmpV_ge]
  omega
theorem nn_of {a : UInt64} (h : FP.Core.val64 a ≠ .nan) : vf_n64 a := by
  have h1 := (FP.Core.ne_nan a).mp h
  unfold vf_n64
  rw [UInt64.le_iff_toNat_le, UInt64.toNat_and]
  show a.toNat &&& (2 ^ 63 - 1) ≤ 9218868437227405312
  rw [Nat.and_two_pow_sub_one_eq_mod]
  exact h1
theorem zD_nn {k t : Nat} (hk : k < 2047) (ht : t < 2 ^ 52) : vf_n64 (zD k t) := nn_of (zD_ne hk ht)
abbrev d52c : UInt64 := 4841369599423283200
theorem d52_val : FP.Core.val64 d52c = .fin false (2 ^ 52) 0 := by decide +kernel
theorem d1_val : FP.Core.val64 FP.dconst1 = .fin false (2 ^ 52) (-52) := by decide +kernel
/-- what is behind the point -/
theorem zD_sub {t : Nat} (ht : t < 2 ^ 52) : ∃ c q, FP.Core.val64 (FP.dsub (zD 1023 t) FP.dconst1) = .fin false c q ∧ FP.Core.inUnits c q (-1074) = t * 2 ^ 1022 ∧ -1074 ≤ q := by
  have e := FP.Core.val64_dsub (zD 1023 t) FP.dconst1
  rw [zD_val (by decide) (by decide) ht, d1_val] at e
  have e2 : FP.Core.exactSum (.fin false (2 ^ 52 + t) (((1023 : Nat) : Int) - 1075)) (FP.Core.negate (.fin false (2 ^ 52) (-52))) = .fin false t (-52) := by
    have e3 : FP.Core.sumUnits false (2 ^ 52 + t) (-52) true (2 ^ 52) (-52) (-52) = (t : Int) := by
      show (((2 ^ 52 + t) * 2 ^ 0 : Nat) : Int) + -((2 ^ 52 * 2 ^ 0 : Nat) : Int) = t
      omega
    show Jvm.FP.Core.Datum.fin (FP.Core.sumSign false true (FP.Core.sumUnits false (2 ^ 52 + t) (-52) true (2 ^ 52) (-52) (-52))) (FP.Core.sumUnits false (2 ^ 52 + t) (-52) true (2 ^ 52) (-52) (-52)).natAbs (-52) = _
    rw [e3]
    have e4 : FP.Core.sumSign false true (t : Int) = false := by
      unfold FP.Core.sumSign
      split
      · rfl
      · exact decide_eq_false (by omega)
    rw [e4, Int.natAbs_natCast]
  rw [e2] at e
  obtain ⟨c, q, h1, h2⟩ := FP.Core.round_exact FP.Core.good_b64 false (c := t) (q := -52) (show t < 2 ^ 53 by omega) (by decide) (by decide)
  have h3 : FP.Core.val64 (FP.dsub (zD 1023 t) FP.dconst1) = .fin false c q := e.trans h1
  have h4 := FP.Core.val64_fits (FP.dsub (zD 1023 t) FP.dconst1)
  rw [h3] at h4
  exact ⟨c, q, h3, h2, h4.2.1⟩
theorem zD_sub_nn {t : Nat} (ht : t < 2 ^ 52) : vf_n64 (FP.dsub (zD 1023 t) FP.dconst1) := by
  obtain ⟨c, q, h, -⟩ := zD_sub ht
  exact nn_of (by rw [h]; exact fun z => nomatch z)
theorem whole_frac {t c : Nat} {q : Int} (hq : -1074 ≤ q) (h : FP.Core.inUnits c q (-1074) = t * 2 ^ 1022) : FP.Core.Whole (t : Int) (.fin false (c * 2 ^ 52) (q + 0)) := by
  show (((c * 2 ^ 52) * 2 ^ (q + 0).toNat : Nat) : Int) = (t : Int) * ((2 ^ (-(q + 0)).toNat : Nat) : Int)
  rw [Int.add_zero, ← Int.natCast_mul]
  congr 1
  have h1 : c * 2 ^ (q - -1074).toNat = t * 2 ^ 1022 := h
  have p0 : 0 < 2 ^ (1022 : Nat) := Nat.two_pow_pos _
  refine Nat.eq_of_mul_eq_mul_right p0 ?_
  have a : 52 + q.toNat + 1022 = (q - -1074).toNat + (-q).toNat := by omega
  calc c * 2 ^ 52 * 2 ^ q.toNat * 2 ^ 1022 = c * 2 ^ (52 + q.toNat + 1022) := by rw [Nat.mul_assoc, Nat.mul_assoc, ← Nat.pow_add, ← Nat.pow_add, Nat.add_assoc]
    _ = c * 2 ^ (q - -1074).toNat * 2 ^ (-q).toNat := by rw [a, Nat.pow_add, Nat.mul_assoc]
    _ = t * 2 ^ (-q).toNat * 2 ^ 1022 := by rw [h1, Nat.mul_assoc, Nat.mul_comm (2 ^ 1022), ← Nat.mul_assoc]
theorem zD_frac_int {t : Nat} (ht : t < 2 ^ 52) : FP.Core.DInt (t : Int) (FP.dmul (FP.dsub (zD 1023 t) FP.dconst1) d52c) := by
  obtain ⟨c, q, h, h2, h3⟩ := zD_sub ht
  have e := FP.Core.val64_dmul (FP.dsub (zD 1023 t) FP.dconst1) d52c
  rw [h, d52_val] at e
  unfold FP.Core.DInt
  show FP.Core.Whole (t : Int) (FP.Core.val64 (FP.Core.dmul (FP.dsub (zD 1023 t) FP.dconst1) d52c))
  rw [e]
  exact FP.Core.whole_round FP.Core.good_b64 FP.Core.wide_b64 (show _ ≤ 2 ^ 53 by omega) (whole_frac h3 h2)
theorem zD_frac_nn {t : Nat} (ht : t < 2 ^ 52) : vf_n64 (FP.dmul (FP.dsub (zD 1023 t) FP.dconst1) d52c) := nn_of (FP.Core.Whole.ne_nan (zD_frac_int ht))
theorem zD_frac {t : Nat} (ht : t < 2 ^ 52) : FP.d2l (FP.dmul (FP.dsub (zD 1023 t) FP.dconst1) d52c) = Int64.ofNat t := by
  refine FP.Core.d2l_int ?_
  rw [Int64.toInt_ofNat_of_lt (by omega)]
  exact zD_frac_int ht
theorem zL_add1 (n : Nat) : Int64.ofNat n + 1 = Int64.ofNat (n + 1) := (Int64.ofNat_add n 1).symm
theorem zL_sub1 {n : Nat} (h : 1 ≤ n) : Int64.ofNat n - 1 = Int64.ofNat (n - 1) := by
  obtain ⟨j, rfl⟩ : ∃ j, n = j + 1 := ⟨n - 1, by omega⟩
  rw [← zL_add1, Int64.add_sub_cancel, Nat.add_sub_cancel]
theorem zL_bits {k t : Nat} (hk : k < 2048) (ht : t < 2 ^ 52) : (Int64.ofNat k <<< ((52 : Int32).toInt64 &&& 63)) ||| Int64.ofNat t = Int64.ofNat (k * 2 ^ 52 + t) := by
  rw [show ((52 : Int32).toInt64 &&& 63 : Int64) = 52 from by decide]
  apply Int64.toBitVec.inj
  show (BitVec.ofNat 64 k <<< (52 : Nat)) ||| BitVec.ofNat 64 t = BitVec.ofNat 64 (k * 2 ^ 52 + t)
  apply BitVec.eq_of_toNat_eq
  rw [BitVec.toNat_or, BitVec.toNat_shiftLeft, BitVec.toNat_ofNat, BitVec.toNat_ofNat, BitVec.toNat_ofNat, Nat.shiftLeft_eq, Nat.mod_eq_of_lt (show k < 2 ^ 64 by omega), Nat.mod_eq_of_lt (show t < 2 ^ 64 by omega), Nat.mod_eq_of_lt (show k * 2 ^ 52 < 2 ^ 64 by omega), Nat.mod_eq_of_lt (show k * 2 ^ 52 + t < 2 ^ 64 by omega), Nat.mul_comm k, Nat.two_pow_add_eq_or_of_lt ht]
/-- a share is 0.0, or a positive normal one -/
def zNorm (x : UInt64) : Prop := ∃ k t, x = zD k t ∧ t < 2 ^ 52 ∧ k < 2047 ∧ (k = 0 → t = 0)
theorem zNorm_nn {x : UInt64} (h : zNorm x) : vf_n64 x := by
  obtain ⟨k, t, rfl, ht, hk, -⟩ := h
  exact zD_nn hk ht
theorem i2d_nn0 {b : Int32} (a : Int32) (h : ¬ b = 0) : vf_n64 (FP.ddiv (FP.i2d a) (FP.i2d b)) := by
  refine nn_of ((FP.Core.notNaN_iff _).mp (FP.Core.ddiv_out ((FP.Core.notNaN_iff _).mpr (FP.Core.DFin.ne_nan (FP.Core.i2d_fin a))) (FP.Core.i2d_fin b) ?_))
  rw [FP.Core.zero_bits2]
  exact FP.Core.i2d_ne_zero h
theorem int_units {i : Int32} {s : Bool} {c : Nat} {q : Int} (w : Nat) (hw0 : w = 1074) (h : FP.Core.val64 (FP.i2d i) = .fin s c q) : c * 2 ^ (q + w).toNat = i.toInt.natAbs * 2 ^ w ∧ -1074 ≤ q := by
  have hw : FP.Core.Whole i.toInt (FP.Core.val64 (FP.i2d i)) := FP.Core.i2d_int i
  have h2 := FP.Core.val64_fits (FP.i2d i)
  rw [h] at hw h2
  have h1 := FP.Core.whole_natAbs hw
  have h3 : FP.Core.b64.qmin ≤ q := h2.2.1
  rw [FP.Core.qmin_b64] at h3
  refine ⟨?_, h3⟩
  have a : (q + w).toNat + (-q).toNat = q.toNat + w := by omega
  refine Nat.eq_of_mul_eq_mul_right (Nat.two_pow_pos (-q).toNat) ?_
  calc c * 2 ^ (q + w).toNat * 2 ^ (-q).toNat = c * 2 ^ ((q + w).toNat + (-q).toNat) := by rw [Nat.pow_add, Nat.mul_assoc]
    _ = c * 2 ^ q.toNat * 2 ^ w := by rw [a, Nat.pow_add, Nat.mul_assoc]
    _ = i.toInt.natAbs * 2 ^ w * 2 ^ (-q).toNat := by rw [h1]; ac_rfl
theorem share_norm {a b : Int32} (ha : 0 ≤ a.toInt) (hb : 0 < b.toInt) : zNorm (FP.ddiv (FP.i2d a) (FP.i2d b)) := by
  obtain ⟨s, c, q, x1⟩ := FP.Core.i2d_fin a
  obtain ⟨t, d, r, y1⟩ := FP.Core.i2d_fin b
  have hwx : FP.Core.Whole a.toInt (FP.Core.val64 (FP.Core.i2d a)) := FP.Core.i2d_int a
  have hwy : FP.Core.Whole b.toInt (FP.Core.val64 (FP.Core.i2d b)) := FP.Core.i2d_int b
  rw [x1] at hwx
  rw [y1] at hwy
  have hd0 : d ≠ 0 := fun z => by have := (FP.Core.whole_zero hwy).mp z; omega
  have ht : t = false := by rw [FP.Core.whole_sign hwy (by omega)]; exact decide_eq_false (by omega)
  subst ht
  have e := FP.Core.val64_ddiv (FP.Core.i2d a) (FP.Core.i2d b)
  rw [x1, y1] at e
  have e2 : FP.Core.val64 (FP.Core.ddiv (FP.Core.i2d a) (FP.Core.i2d b)) = FP.Core.roundRatio FP.Core.b64 (s != false) c d (q - r) := by
    exact e.trans (quot_fin hd0)
  by_cases h0 : a.toInt = 0
  · have ea : a = 0 := Int32.toInt_inj.mp (by rw [h0]; rfl)
    subst ea
    rw [show FP.Core.val64 (FP.Core.i2d 0) = .fin false 0 (-1074) by decide +kernel] at x1
    cases x1
    have e3 : FP.Core.val64 (FP.Core.ddiv (FP.Core.i2d 0) (FP.Core.i2d b)) = .fin false 0 FP.Core.b64.qmin := e2.trans (by unfold FP.Core.roundRatio; rw [if_pos rfl]; rfl)
    refine ⟨0, 0, ?_, by decide, by decide, fun _ => rfl⟩
    refine FP.Core.val64_inj (by rw [e3]; exact fun z => nomatch z) (e3.trans ?_)
    decide +kernel
  · have hs : s = false := by rw [FP.Core.whole_sign hwx h0]; exact decide_eq_false (by omega)
    subst hs
    obtain ⟨w, hw⟩ : ∃ w : Nat, w = 1074 := ⟨_, rfl⟩
    obtain ⟨hx, hq⟩ := int_units w hw x1
    obtain ⟨hy, hr⟩ := int_units w hw y1
    generalize hX : FP.Core.ddiv (FP.Core.i2d a) (FP.Core.i2d b) = X at e2 ⊢
    have hXX : FP.ddiv (FP.i2d a) (FP.i2d b) = X := hX
    have hnn : FP.Core.val64 X ≠ .nan := by rw [e2]; exact FP.Core.roundRatio_ne_nan _ _ _ _ _
    have hsg := FP.Core.sgn_bits hnn
    rw [e2, FP.Core.sgn_roundRatio] at hsg
    have hlt : ¬ 2 ^ 63 ≤ X.toNat := of_decide_eq_false hsg.symm
    have e1 : FP.Core.inUnits c (q - r) (-(2 * (w : Int)) - r) = a.toInt.natAbs * 2 ^ w * 2 ^ w := by
      show c * 2 ^ (q - r - (-(2 * (w : Int)) - r)).toNat = _
      rw [show (q - r - (-(2 * (w : Int)) - r)).toNat = (q + w).toNat + w by omega, Nat.pow_add, ← Nat.mul_assoc, hx]
    have e3 : 2 ^ (FP.Core.b64.qmin - (-(2 * (w : Int)) - r)).toNat * d = b.toInt.natAbs * 2 ^ w := by
      rw [FP.Core.qmin_b64, show (-1074 - (-(2 * (w : Int)) - r)).toNat = (r + w).toNat by omega, Nat.mul_comm, hy]
    have na := FP.Core.int32_abs a
    have nb := FP.Core.int32_abs b
    have na1 : 1 ≤ a.toInt.natAbs := by omega
    have nb1 : 1 ≤ b.toInt.natAbs := by omega
    have up := FP.Core.mag_le FP.Core.good_b64 (n := X.toNat) (m := 1054 * FP.Core.b64.tails) (s := false != false) (A := c) (B := d) (e := q - r) (e0 := -(2 * (w : Int)) - r) e2 (Nat.pos_of_ne_zero hd0) (by rw [FP.Core.qmin_b64]; omega) (by omega) (by
      rw [e1, FP.Core.unitsOf_start (by decide), Nat.mul_assoc _ _ d, e3, ← Nat.mul_assoc]
      refine Nat.mul_le_mul_right _ ?_
      calc a.toInt.natAbs * 2 ^ w ≤ 2 ^ 31 * 2 ^ w := Nat.mul_le_mul_right _ na
        _ = 2 ^ 52 * 2 ^ (1054 - 1) := by rw [hw, ← Nat.pow_add, ← Nat.pow_add]
        _ ≤ FP.Core.b64.tails * 2 ^ (1054 - 1) * b.toInt.natAbs := by rw [FP.Core.tails_b64]; exact Nat.le_mul_of_pos_right _ nb1)
    have lo := FP.Core.mag_ge FP.Core.good_b64 (n := X.toNat) (m := 992 * FP.Core.b64.tails) (s := false != false) (A := c) (B := d) (e := q - r) (e0 := -(2 * (w : Int)) - r) e2 (Nat.pos_of_ne_zero hd0) (by rw [FP.Core.qmin_b64]; omega) (by omega) (by rw [FP.Core.infBits_b64, FP.Core.tails_b64]; omega) (by
      rw [e1, FP.Core.unitsOf_start (by decide), Nat.mul_assoc _ _ d, e3, ← Nat.mul_assoc]
      refine Nat.mul_le_mul_right _ ?_
      calc FP.Core.b64.tails * 2 ^ (992 - 1) * b.toInt.natAbs ≤ 2 ^ 52 * 2 ^ (992 - 1) * 2 ^ 31 := by rw [FP.Core.tails_b64]; exact Nat.mul_le_mul_left _ nb
        _ = 2 ^ w := by rw [hw, ← Nat.pow_add, ← Nat.pow_add]
        _ ≤ a.toInt.natAbs * 2 ^ w := Nat.le_mul_of_pos_left _ na1)
    rw [FP.Core.mag_toNat64, FP.Core.tails_b64] at up lo
    rw [hXX]
    refine ⟨X.toNat / 2 ^ 52, X.toNat % 2 ^ 52, ?_, Nat.mod_lt _ (Nat.two_pow_pos _), by omega, fun z => absurd z (by omega)⟩
    unfold zD
    rw [show X.toNat / 2 ^ 52 * 2 ^ 52 + X.toNat % 2 ^ 52 = X.toNat by omega, UInt64.ofNat_toNat]
theorem zD_half2 {k t : Nat} (h1 : 2 ≤ k) (hk : k < 2047) (ht : t < 2 ^ 52) : FP.ddiv (zD k t) d2c = zD (k - 1) t := by
  obtain ⟨j, rfl⟩ : ∃ j, k = j + 1 := ⟨k - 1, by omega⟩
  rw [Nat.add_sub_cancel]
  exact zD_half (by omega) hk ht
/-- the hash of a whole state -/
def pFold (f : Nat → Int64 → Int64) : Nat → Int64 → Int64
  | 0, h => h
  | n + 1, h => f n (pFold f n h)
def pDgW (σ : zS) (D : Nat → Int32) (j : Nat) (h : Int64) : Int64 := 31 * (31 * pHs (vWord σ j) 5 (31 * h + (pnm σ j).toInt64) + (zo (ptg σ j (nI 1365))).toInt64) + (D j).toInt64
def pDgS (σ : zS) (j : Nat) (h : Int64) : Int64 := 31 * pHs (vSlot σ j) 6 h + (pCost (zhd σ j) (nI 2730) (pst σ j)).toInt64
def pDg1 (σ : zS) (hn : Nat) : Int64 := pHs (zst σ) 2 (pHs (vCount σ hn) 10 2969)
def pDg2 (σ : zS) (hn : Nat) (D : Nat → Int32) : Int64 := pHs (fun c => zwn σ (0 * 13 + c)) 13 (pFold (pDgS σ) 18 (pFold (pDgW σ D) 16 (pDg1 σ hn)))
def pDg (σ : zS) (hn : Nat) (D : Nat → Int32) (L : Int32) (x : UInt64) (f : Nat → Nat) (m : Nat) : Int64 := pHashA f m (31 * (31 * (31 * pDg2 σ hn D + L.toInt64) + x.toInt64) + (nI m).toInt64)
abbrev pDD (σ : zS) (j : Nat) : Int32 := pDi (iN (pNum (zhd σ (zpl σ j)))) (pst σ (zpl σ j))
theorem pFold_s {f : Nat → Int64 → Int64} {n : Nat} {h : Int64} : f n (pFold f n h) = pFold f (n + 1) h := rfl
