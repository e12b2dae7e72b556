/-! the start -/
abbrev κ0 : zK := (pS0, pS0, 0, 0, fun _ => pS0, pT00)
theorem pG0_p : ∀ x, x < 16 → pG0 16 (259 + x) = nI x := by decide +kernel
theorem rel_0 : kRel 0 κ0 pM0 := by
  have h1 : ∀ k, k < 18 → zhd pS0 k = zhd (gS (pG0 16)) k := by decide +kernel
  have h2 : ∀ k, k < 234 → zwn pS0 k = zwn (gS (pG0 16)) k := by decide +kernel
  have h3 : ∀ k, k < 18 → zwi pS0 k = zwi (gS (pG0 16)) k := by decide +kernel
  have h4 : ∀ k, k < 16 → zpl pS0 k = zpl (gS (pG0 16)) k := by decide +kernel
  have h5 : ∀ k, k < 16 → zwh pS0 k = zwh (gS (pG0 16)) k := by decide +kernel
  have h6 : ∀ k, k < 16 → zwo pS0 k = zwo (gS (pG0 16)) k := by decide +kernel
  have h7 : ∀ k, k < 16 → zmo pS0 k = zmo (gS (pG0 16)) k := by decide +kernel
  have h8 : ∀ k, k < 2 → zst pS0 k = zst (gS (pG0 16)) k := by decide +kernel
  have g1 : ∀ w, w < 16 → gpl (pG0 16) w < 18 ∧ pG0 16 (259 + w) = nI (gpl (pG0 16) w) := by decide +kernel
  have g2 : ∀ k, k < 18 → pG0 16 (7 + k) = nI 0 := by decide +kernel
  refine ⟨⟨⟨h1, h2, h3, h4⟩, ⟨h5, h6, h7, h8⟩, by decide +kernel, by decide +kernel, by decide +kernel, by decide +kernel, by decide +kernel⟩, ⟨g1, fun k hk => ⟨0, by decide, g2 k hk⟩, fun x y hx hy q => ?_, ⟨0, 0, Nat.le_refl _, Nat.le_refl _, by decide +kernel, by decide +kernel⟩⟩, by decide, rfl, by decide, fun i hi => absurd hi (Nat.not_lt_zero _), rfl, rfl, by decide, fun i hi => absurd hi (Nat.not_lt_zero _)⟩
  have q' : pG0 16 (259 + x) = pG0 16 (259 + y) := q
  rw [pG0_p x hx, pG0_p y hy] at q'
  exact (nI_eq (by omega) (by omega)).mp q'
theorem z_arrI {args : Array Value} {s : State} (h : (Cond.arrayClass .int).before args s = true) : ∃ cA : ClassId, ArrOfT s cA .int ∧ va_RA s cA .int := by
  obtain ⟨cA, kA, comp, h1, h2, h3⟩ := Cond.arrayClass_spec h
  exact ⟨cA, fun n z => ⟨fun k h => (by cases h), kA, h2, comp, h3⟩, h1⟩
theorem z_arrO {C : String} {s : State} (h : va_AO C s) : ∃ cA : ClassId, ArrOfT s cA (.object C) ∧ va_RA s cA (.object C) := by
  obtain ⟨comp, cA, kA, h1, h2, h3, h4, h5⟩ := Cond.arrayOver_spec h
  exact ⟨cA, fun n z => ⟨fun k h => (by cases h), kA, h3, comp, h4⟩, kA, comp, h3, h4, h1, h5⟩
theorem z_str {own tx : String} {k cur : Nat} {s : State} {args : Array Value} (hcur : s.vm.findClass own = some cur) (h : (Cond.stringRef own k tx).before args s = true) : ∃ sa, vk_R own k tx sa s := by
  obtain ⟨-, -, -, a, -, -, -, -, -, he⟩ := Cond.stringRef_spec hcur h
  exact ⟨a, vk_R.of h he⟩
theorem z_enE {args : Array Value} {s : State} (hts : ∀ w ∈ lw_tbl, w.before args s = true) (hgv : (Jvm.Cond.and given_1 narrow_1).before args s = true) : zE s.heap.size s ∧ zNc s := by
  have hs := flat_of_before _ hgv
  have h1 : (Cond.isRef (.static Bundle.tN "UNASSIGNED_STACK" Bundle.steD)).before args s = true := hs _ (by decide +kernel)
  have h2 : (Cond.isRef (.static Bundle.tN "SUPPRESSED_SENTINEL" Bundle.listD)).before args s = true := hs _ (by decide +kernel)
  have hA : ∀ a : Nat, a < s.heap.size → ¬ s.heap.size ≤ a := fun a h => Nat.not_le.mpr h
  have hR : ∃ cur, s.vm.findClass RX3 = some cur := by
    obtain ⟨cC, kC, hfc, -⟩ := Cond.instantiable_spec (hts (.instantiable RX3 4) (by decide +kernel))
    exact ⟨cC, hfc⟩
  obtain ⟨cur, hcur⟩ := hR
  refine ⟨⟨vx_Zqof (hts (.laysStatic Bundle.tN "UNASSIGNED_STACK" Bundle.steD) (by decide +kernel)) (hts (.initialized Bundle.tN) (by decide +kernel)) h1 hA, vx_Zqof (hts (.laysStatic Bundle.tN "SUPPRESSED_SENTINEL" Bundle.listD) (by decide +kernel)) (hts (.initialized Bundle.tN) (by decide +kernel)) h2 hA, ⟨va_Nw.of rfl (hts (.castable XO XO) (by decide +kernel)), va_Nw.of rfl (hts (.castable XA XA) (by decide +kernel)), va_Nw.of rfl (hts (.castable XT XT) (by decide +kernel))⟩, ⟨va_Nw.of rfl (hts _ (by decide +kernel)), va_Nw.of rfl (hts _ (by decide +kernel)), va_Nw.of rfl (hts _ (by decide +kernel))⟩, ?_⟩, va_Nc.of (hs _ (by decide +kernel)), va_Nc.of (hs _ (by decide +kernel)), va_Nc.of (hs _ (by decide +kernel))⟩
  have hall : ∀ it ∈ xStr, Cond.stringRef RX3 it.1 it.2 ∈ lw_tbl := by decide +kernel
  exact fun it hi => z_str hcur (hts _ (hall it hi))
