/-- the class's writeAll, where it throws: the text is read, and nothing else is written -/
def zTXw (D : va_G) (Wd Wn : va_W) (sz : Nat) (E : String) : String → State → State → Prop := fun E' st t => E' = E ∧ (va_P D vwCl Wn t.heap ∧ va_D (va_A Wd sz) Wn) ∧ va_F (va_A Wd sz) st t
theorem va_S.up {A B : Nat → Prop} {H0 H : Heap} {locs : List Loc} (h : va_S A H0 H locs) (hAB : ∀ q, A q → B q) : va_S B H0 H locs := ⟨h.1, fun q h1 h2 => h.2.1 q h1 (fun z => h2 (hAB q z)), fun z hz => hAB _ (h.2.2 z hz)⟩
abbrev tX3_writeAll_A : Room := { frames := 8, cells := 1, slots := 6, locals := 200 }
set_option maxHeartbeats 4000000 in
set_option maxRecDepth 100000 in
theorem x_X3_writeAll_A (l : Launch) (hl0 : l.stackTraces = false) (n0 : Nat) (dC : Nat → ClassId) (dI : Nat → Nat → Nat) (c0 : Nat) (ad ae ah ax : Nat → Nat) (ar : Nat → Nat → Nat) (cI cS : ClassId) (σ τ : zS) (o n : Nat) (hs : Nat → zS) (ω : zT) (ht9 : tl ω ≤ 60) (hf : ∀ i, i < tl ω → tx ω i < 128) (hY : ¬ ((pParse ω).1 = tl ω ∧ ts (pParse ω).2 = 3)) (sz : Nat) (hA0 : ∀ q, va_A (zCW c0 ad ae ah ax ar cI cS σ τ o n hs ω) sz q → n0 ≤ q) :
    vx_Met l yX3_writeAll wsX3_writeAll tX3_writeAll_A (zPx n0 (dC, dI) [.ref c0] (zCW c0 ad ae ah ax ar cI cS σ τ o n hs ω) [(cI, .int), (cS, .object RX1)] sz) zQF (zTXw (dC, dI) (zCW c0 ad ae ah ax ar cI cS σ τ o n hs ω) (zCW c0 ad ae ah ax ar cI cS σ τ o n hs (pParse ω).2) sz XA) 1 6 (va_A (zCW c0 ad ae ah ax ar cI cS σ τ o n hs ω) sz) := by
  refine vx_ofW (cc := cX3_writeAll) (maxL := 1) (ret := some .int) (by decide) rfl ?_
  intro p e s m args below meth cd s₁ B hml htab hv
  obtain ⟨rfl, ⟨hsz, hP, hK, hD0⟩, hE, hNc, hN⟩ := hv
  subst hsz
  have hD := hD0.self (sz := s.heap.size)
  have hl := lv_entry [.ref c0] (n := 1) (Nat.le_of_ble_eq_true rfl)
  rw [lg_entry_eq]
  generalize (lg_sl [.ref c0] ++ List.replicate (1 - (lg_sl [.ref c0]).length) Slot.unset).toArray = ls at hl ⊢
  have hx := B.exec
  have hb := B.bytes
  have hown : s.vm.findClass RX3 = some m.cls := findClass_of_methodNamed B.named
  have hts := atoms_spec (ws := wsX3_writeAll) B.pre
  have hlocks := B.notSynchronized
  replace hl : lv_has ls 1 [(0, .ref c0)] := hl
  have hA : ∀ q, s.heap.size ≤ q → va_A (zCW c0 ad ae ah ax ar cI cS σ τ o n hs ω) s.heap.size q := fun q h => Or.inr h
  have hS : va_S (va_A (zCW c0 ad ae ah ax ar cI cS σ τ o n hs ω) s.heap.size) s.heap s.heap [] := va_S.rf
  generalize hAq : va_A (zCW c0 ad ae ah ax ar cI cS σ τ o n hs ω) s.heap.size = A at hD hS hA hA0
  generalize hQ : vx_MQ below zQF (zTXw (dC, dI) (zCW c0 ad ae ah ax ar cI cS σ τ o n hs ω) (zCW c0 ad ae ah ax ar cI cS σ τ o n hs (pParse ω).2) s.heap.size XA) _ s 1 6 _ = Q
  replace hP : va_P (dC, dI) vwCl (zCo c0 ad ae ah ax ++ (zW ad cI σ ++ (zW ae cI τ ++ (zHW ah ar cI cS o n hs ++ zTW ax cI ω)))) s.heap := hP
  replace hD : va_D A (zCo c0 ad ae ah ax ++ (zW ad cI σ ++ (zW ae cI τ ++ (zHW ah ar cI cS o n hs ++ zTW ax cI ω)))) := hD
  have hf29 := hts (.fieldLink RX3 29 "InsideOutWords" "text" "LInsideOutWords$Text;") (by decide +kernel)
  have hnX3 : ∀ w ∈ u_ws RX3 TX3 4, w ∈ wsX3_writeAll := by decide +kernel
  have hf22 := hts (.fieldLink RX3 22 "InsideOutWords" "history" "LInsideOutWords$History;") (by decide +kernel)
  have hf10 := hts (.fieldLink RX3 10 "InsideOutWords" "now" "LInsideOutWords$State;") (by decide +kernel)
  have hf106 := hts (.fieldLink RX3 106 "InsideOutWords$Text" "length" "I") (by decide +kernel)
  have hnX2 : ∀ w ∈ u_ws RX2 TX2 7, w ∈ wsX3_writeAll := by decide +kernel
  refine lv_aload_n hx hb dX3_writeAll_0 rfl (lv_at hl 0 rfl) ?_
  refine va_get (D := (dC, dI)) (ci := 3) (v := .ref (ax 0)) (C := RX3) (T := TX3) (N := 4) hx hb hts hnX3 hown hK hP 0 rfl rfl 3 (by decide) hf29 (fun _ h9 => h9) rfl dX3_writeAll_1 ?_
  replace hP := z_reord (ws' := ((zCo c0 ad ae ah ax ++ (zW ad cI σ ++ (zW ae cI τ ++ zHW ah ar cI cS o n hs))) ++ zTW ax cI ω)) (fun q h => (List.mem_append.mp h).elim (fun h => (List.mem_append.mp h).elim (fun h => List.mem_append_left _ h) (fun h => (List.mem_append.mp h).elim (fun h => List.mem_append_right _ (List.mem_append_left _ h)) (fun h => (List.mem_append.mp h).elim (fun h => List.mem_append_right _ (List.mem_append_right _ (List.mem_append_left _ h))) (fun h => List.mem_append_right _ (List.mem_append_right _ (List.mem_append_right _ (List.mem_append_left _ h))))))) (fun h => List.mem_append_right _ (List.mem_append_right _ (List.mem_append_right _ (List.mem_append_right _ h))))) (fun a => by simp only [List.map_append, List.count_append, List.map_nil, List.count_nil]; omega) hP hD
  obtain ⟨hP, hD⟩ := hP
  refine z_xWiN (wr := (zCo c0 ad ae ah ax ++ (zW ad cI σ ++ (zW ae cI τ ++ zHW ah ar cI cS o n hs)))) (As := []) (rest := []) ⟨hx, hb, hml, hown, hts⟩ (k_X2_isComplete l dC dI ax cI ω ht9 hf (s.heap).size) (cwV 0 hts gX3_writeAll_X2_isComplete rfl rfl rfl (by decide +kernel) ⟨Nat.le_of_ble_eq_true rfl, Nat.le_of_ble_eq_true rfl⟩) (va_recv hK hP (ci := 2) (q0 := 75) rfl rfl) hP hD hS hA (hK.sub (tys' := [(cI, .int)]) [0] rfl) hN rfl hl.1 rfl (Nat.le_of_ble_eq_true rfl) dX3_writeAll_4 ⟨Nat.le_of_ble_eq_true rfl, Nat.le_of_ble_eq_true rfl⟩ (fun r_1 _ H locs hr_1 (hP : va_P (dC, dI) vwCl ((zCo c0 ad ae ah ax ++ (zW ad cI σ ++ (zW ae cI τ ++ zHW ah ar cI cS o n hs))) ++ zTW ax cI ((pParse ω).2)) H) (hD : va_D A ((zCo c0 ad ae ah ax ++ (zW ad cI σ ++ (zW ae cI τ ++ zHW ah ar cI cS o n hs))) ++ zTW ax cI ((pParse ω).2))) hS => ?_)
  refine z_ifneB hx hb hr_1 (tgt := 20) dX3_writeAll_7 (by decide) (fun c_2 => ?_) (fun c_2 => ?_)
  · exact absurd c_2 hY
  · skip
    replace hP := z_reord (ws' := zCW c0 ad ae ah ax ar cI cS σ τ o n hs (pParse ω).2) (fun q h => (List.mem_append.mp h).elim (fun h => List.mem_append_left _ (List.mem_append_left _ h)) (fun h => (List.mem_append.mp h).elim (fun h => List.mem_append_left _ (List.mem_append_right _ (List.mem_append_left _ h))) (fun h => (List.mem_append.mp h).elim (fun h => List.mem_append_left _ (List.mem_append_right _ (List.mem_append_right _ (List.mem_append_left _ h)))) (fun h => (List.mem_append.mp h).elim (fun h => List.mem_append_left _ (List.mem_append_right _ (List.mem_append_right _ (List.mem_append_right _ h)))) (fun h => List.mem_append_right _ h))))) (fun a => by simp only [List.map_append, List.count_append, List.map_nil, List.count_nil]; omega) hP hD
    obtain ⟨hP, hD⟩ := hP
    rw [← hQ]
    obtain ⟨sa, hsa⟩ := hE.2.2.2.2 (123, "the buffer is not complete writes") (by decide)
    exact vx_throwS (cls := XA) (text := "the buffer is not complete writes") (names := xNames) (ik := 63) (is := 123) (ic := 67) (sa := sa) (A := fun q => n0 ≤ q) hx hb hl0 hown (by decide +kernel) (by decide +kernel) (hts (.classLink RX3 63 XA) (by decide +kernel)) (hts (.initialized XA) (by decide +kernel)) hsa (vx_hat (fun w hw => hts w (by first | exact List.mem_cons_of_mem _ (List.mem_append_right _ hw) | exact List.mem_cons_of_mem _ (List.mem_append_left _ (List.mem_append_right _ hw)) | exact List.mem_cons_of_mem _ (List.mem_append_left _ (List.mem_append_left _ (List.mem_append_right _ hw))))) xc_A (vx_c (va_Nw.use rfl hE.2.2.1.2.1) (vx_c (va_Nw.use rfl hE.2.2.2.1.1) (vx_c (va_Nw.use rfl hE.2.2.2.1.2.1) (vx_c (va_Nw.use rfl hE.2.2.2.1.2.2) vx_n))))) (by decide +kernel) hE.1 hE.2.1 (hS.up hA0) (hl.1.trans hml.symm) dX3_writeAll_10 dX3_writeAll_13 dX3_writeAll_14 dX3_writeAll_16 dX3_writeAll_19 (fun x hx9 => (htab x hx9).elim) (Nat.le_of_ble_eq_true rfl) (Nat.le_of_ble_eq_true rfl) (Nat.le_of_ble_eq_true rfl) (Nat.le_of_ble_eq_true rfl) hlocks (fun t _ h1 h2 => ⟨rfl, ⟨z_keepP hP h2, by rw [hAq]; exact hD⟩, by rw [hAq]; exact ⟨Nat.le_trans hS.1 h1, fun q k1 k2 => (h2 q (Nat.lt_of_lt_of_le k1 hS.1)).trans (hS.2.1 q k1 k2)⟩⟩) (fun z hz => hS.2.2 z hz) (Nat.le_refl _) (Nat.le_refl _)
theorem zLi_of2 {l : Launch} {y : MethodName} {ws ws' : List Cond} {rm : Room} {n0 : Nat} {D : va_G} {av : List Value} {Wd : va_W} {tys : List (ClassId × FieldType)} {cc : ByteArray} {maxL : Nat} {hh : List (Nat × Nat × Nat × Nat)} {S : Type} {Wn : S → va_W} {mc ms sz : Nat} {post : Int32 → S → Prop} (hy : plainName y.cls = true) (hw : ws = Cond.codeWith y cc maxL (some .int) hh :: ws') (hle : (lg_sl av).length ≤ maxL)
    (body : ∀ (p : Program) (e : Env) (s : State) (m : MethodId) (args : Array Value) (below : List Frame) (meth : Method) (c : Code) (Q : State → Prop) (ls : Array Slot) (A : Nat → Prop), zAt p s m c args cc maxL y.cls ws av ls → va_P D vwCl Wd s.heap → va_K D vwCl tys s → zE n0 s → zNc s → zN s → s.heap.size = sz → c.exceptionTable.toList = tableOf hh → va_D A Wd → (∀ q, s.heap.size ≤ q → A q) →
      (∀ (v : Int32) (u : S) (pc : Nat) (ls : Array Slot) (H : Heap) (locs : List Loc), post v u → va_P D vwCl (Wn u) H → va_D A (Wn u) → va_S A s.heap H locs → decode cc pc = .ok (.ireturn, 1) → W p l e rm s m args below meth c H locs mc ms Q (F0 m pc ls [.int v])) →
      W p l e rm s m args below meth c s.heap [] 0 0 Q (F0 m 0 ls [])) : zLi l y ws rm n0 D av Wd tys sz post Wn mc ms := by
  refine va_MetW (cc := cc) (maxL := maxL) (ret := some .int) (hh := hh) hy hw ?_
  intro p e s m args below meth c s₁ B hml hv
  obtain ⟨rfl, ⟨hsz, hP, hK, hD0⟩, hE, hNc, hN⟩ := hv
  subst hsz
  have hD := hD0.self (sz := s.heap.size)
  have hl := lv_entry av (n := maxL) hle
  rw [lg_entry_eq]
  generalize (lg_sl av ++ List.replicate (maxL - (lg_sl av).length) Slot.unset).toArray = ls at hl ⊢
  have hlocks := B.notSynchronized
  have hts : ∀ w ∈ ws, w.before _ s = true := atoms_spec (ws := ws) B.pre
  have ht := vx_table (x := y) B (hts _ (by rw [hw]; exact List.mem_cons_self))
  exact body p e s m _ below meth c _ ls (va_A Wd s.heap.size) ⟨B.exec, B.bytes, hml, findClass_of_methodNamed B.named, hts, hl⟩ hP hK hE hNc hN rfl ht hD (fun q h => Or.inr h) (fun v u pc ls H locs hp hP1 hD1 hS1 hdg => W.zret B.exec B.bytes B.returns rfl (fun t ht _ => ⟨⟨v, u, rfl, hp, by rw [ht]; exact hP1, hD1⟩, hS1.F ht⟩) hS1.2.2 hdg hlocks)
section ZW
variable {p : Program} {l : Launch} {e : Env} {R : Room} {s : State} {m : MethodId} {args : Array Value} {below : List Frame} {meth : Method} {c : Code} {Q : State → Prop}
variable {cc : ByteArray} {pc : Nat} {ls : Array Slot} {rest st0 : List Value} {D : va_G} {Wd Wn wr : va_W} {tysC : List (ClassId × FieldType)} {A0 : Nat → Prop}
variable {y : MethodName} {bytes : ByteArray} {maxL nL n index n0 : Nat} {ret : Option FieldType} {wsY : List Cond} {rm : Room} {Ts : List Cond} {own C : String} {As : List Value} {E : String} {b : Addr}
/-- a call of the class that throws, with the callee's cells changed -/
theorem z_tVw (S : CallFix p m c cc nL s args Ts own) (hM : vx_Met l y wsY rm (zPx n0 D (.ref b :: As) Wd tysC s.heap.size) zQF (zTXw D Wd Wn s.heap.size E) 1 6 (va_A Wd s.heap.size)) (cw : CallW R s args own C index y bytes maxL ret wsY rm 1 6 n) (hv : ∃ cellB : Cell, s.heap[b]? = some cellB ∧ cellB.vm.isStatics = false ∧ s.vm.findClass C = some cellB.cls) (hP : va_P D vwCl (wr ++ Wd) s.heap) (hD : va_D A0 (wr ++ Wd)) (hA : ∀ q, s.heap.size ≤ q → A0 q) (hK : va_K D vwCl tysC s) (hE : zE n0 s) (hNc : zNc s) (hN : zN s) (hn : As.length = n) (hsize : ls.size = nL) (hstack : st0 = As.reverse ++ .ref b :: rest) (hW : (rest.map fun v => v.category).sum ≤ 8) (hdg : decode cc pc = .ok (.invokevirtual index, 3)) (hf : 0 + 1 ≤ R.cells ∧ 0 + 6 ≤ R.slots)
    (kx : ∀ (H1 : Heap) (locs1 : List Loc) (q : Addr) (ce : Cell), va_P D vwCl (wr ++ Wn) H1 → va_D A0 (wr ++ Wn) → va_S A0 s.heap H1 locs1 → H1[q]? = some ce → ce.vm = .none → s.vm.findClass E = some ce.cls → vx_W p l e R s m args below meth c H1 locs1 1 6 Q (F0 m pc ls rest) q) :
    W p l e R s m args below meth c s.heap [] 0 0 Q (F0 m pc ls st0) := by
  have hS : va_S A0 s.heap s.heap [] := va_S.rf
  have hPc : va_P D vwCl Wd s.heap := z_tailP hP hD
  have hDc : va_D A0 Wd := (z_reord (ws' := Wd) (fun q h => List.mem_append_right _ h) (fun a => by rw [List.map_append, List.count_append]; omega) hP hD).2
  have hFc := va_free (wc := Wd) hD hS hA ((List.range Wd.length).map (fun i => i + wr.length)) z_plC
  have hr := vx_runV (As := As) (rest := rest) (g := F0 m pc ls st0) (H := s.heap) (locs := []) (cells := 0) (slots := 0) (e := e) (below := below) (meth := meth) S hM cw ⟨zPx_blind, hv, fun U hU hW => ⟨rfl, ⟨by rw [hU], by rw [hU]; exact hPc, va_K.moved hW.alike hK, hDc.weaken (fun _ _ _ _ => trivial)⟩, hE.warm hW hU, hNc.at hW, va_Nw.warmM hW hN⟩⟩ rfl hn hsize hstack (lv_room hW) hdg hf
  intro T hT X
  rcases hr T hT X with ⟨v, st₀, t, T', L, h0, X', hL, e1, e2, hF, st⟩ | ⟨q, st₀, t, T', L, E', ce, h0, X', hL, e1, e2, ⟨rfl, ⟨hP1, hD1⟩, hz, hk⟩, hce, hcv, hcl, st⟩
  · exact hF.elim
  · rw [h0] at hz hk
    obtain ⟨hP2, hD2⟩ := z_join2 (wr := wr) hP hD hk hFc hP1 hD1
    obtain ⟨t2, a1, b1⟩ := kx T'.heap ([] ++ L) q ce (by rw [e1]; exact hP2) hD2 ⟨by rw [e1]; exact hz, fun a h1 h2 => by rw [e1]; exact hk a h1 (fun z => h2 (hFc a z)), fun z hz => hFc _ (hL z (by simpa using hz))⟩ (by rw [e1]; exact hce) hcv hcl T' rfl X'
    exact ⟨t2, st.trans a1, b1⟩
end ZW
abbrev rL_writeAll : Room := { frames := 9, cells := 1, slots := 6, locals := 220 }
set_option maxHeartbeats 4000000 in
theorem w_writeAll (l : Launch) (hl0 : l.stackTraces = false) (n0 : Nat) (dC : Nat → ClassId) (dI : Nat → Nat → Nat) (c0 : Nat) (ad ae ah ax : Nat → Nat) (ar : Nat → Nat → Nat) (cI cS cL : ClassId) (oa : Nat) (κ : zK) (ho : uo κ < 6) (hn : un κ ≤ 6) (hok : zok (uS κ)) (ht : tl (ut κ) ≤ 60) (hf : ∀ i, i < tl (ut κ) → tx (ut κ) i < 128) (f : Nat → Int64) (sz : Nat) (hA0 : ∀ q, va_A (zCW c0 ad ae ah ax ar cI cS (uS κ) (uA κ) (uo κ) (un κ) (uh κ) (ut κ)) sz q → n0 ≤ q) : zLi (S := zK × (Nat → Int64)) l yL_writeAll wsL_writeAll rL_writeAll n0 (dC, dI) [.ref c0, .ref oa] (zLW c0 ad ae ah ax ar cI cS cL oa κ f) [(cI, .int), (cS, .object RX1), (cL, .long)] sz (fun r u => r = cdWriteAll (ut κ) ∧ u = ((sWriteAll κ).1, if cdWriteAll (ut κ) = 0 then vp_updL f 0 (sWriteAll κ).2.toInt64 else f)) (fun u => zLW c0 ad ae ah ax ar cI cS cL oa u.1 u.2) 1 6 := by
  refine zLi_of2 (cc := cL_writeAll) (maxL := 3) (by decide) rfl (Nat.le_of_ble_eq_true rfl) ?_
  intro p e s m args below meth cd Q ls A hat hP hK hE hNc hN hsz htab hD hA hend
  obtain ⟨hx, hb, hml, hown, hts, hl⟩ := hat
  replace hown : s.vm.findClass RL = some m.cls := hown
  replace hl : lv_has ls 3 [(0, .ref c0), (1, .ref oa)] := hl
  have hS : va_S A s.heap s.heap [] := va_S.rf
  refine lv_aload_n hx hb dL_writeAll_0 rfl (lv_at hl 1 rfl) ?_
  refine lv_iconst (v := 0) hx hb dL_writeAll_1 (by decide) ?_
  refine lv_aload_n hx hb dL_writeAll_2 rfl (lv_at hl 0 rfl) ?_
  by_cases q1 : (pParse (ut κ)).1 = tl (ut κ) ∧ ts (pParse (ut κ)).2 = 3
  · have e : cdWriteAll (ut κ) = 0 := by unfold cdWriteAll; rw [if_pos q1]
    have hs : sWriteAll κ = (uText (uKeep κ (pPP (pWA (ut κ)) (tc (pWA (ut κ))) 0 (uS κ)).2) (pWA (ut κ)), nI (pPP (pWA (ut κ)) (tc (pWA (ut κ))) 0 (uS κ)).1) := by unfold sWriteAll; rw [if_pos q1]
    have hM := k_X3_writeAll l dC dI c0 ad ae ah ax ar cI cS (uS κ) (uA κ) (uo κ) (un κ) ho hn (uh κ) (ut κ) hok ht hf q1 s.heap.size
    refine z_xWiN (wr := [(oa, .inl (cL, 1, .inr (.inl f)))]) (As := []) (rest := [.int 0, .ref oa]) ⟨hx, hb, hml, hown, hts⟩ hM (cwV 0 hts gL_writeAll_X3_writeAll rfl rfl rfl (by decide +kernel) ⟨Nat.le_of_ble_eq_true rfl, Nat.le_of_ble_eq_true rfl⟩) (va_recv hK hP (ci := 3) (q0 := 1) rfl rfl) hP hD hS hA (hK.sub (tys' := [(cI, .int), (cS, .object RX1)]) [0, 1] rfl) hN rfl hl.1 rfl (Nat.le_of_ble_eq_true rfl) dL_writeAll_3 ⟨Nat.le_of_ble_eq_true rfl, Nat.le_of_ble_eq_true rfl⟩ (fun r _ H locs hr hP hD hS => ?_)
    subst hr
    replace hP : va_P (dC, dI) vwCl (zLW c0 ad ae ah ax ar cI cS cL oa (sWriteAll κ).1 f) H := by rw [hs]; exact hP
    replace hD : va_D A (zLW c0 ad ae ah ax ar cI cS cL oa (sWriteAll κ).1 f) := by rw [hs]; exact hD
    refine W.widen (k := 1) (n := 6) (by decide) (by decide) ?_
    refine lv_i2l (v := ((sWriteAll κ).2).toInt64) hx hb dL_writeAll_6 (by rw [hs]) ?_
    refine z_last hx hb hK hP hD hS 0 2 0 rfl rfl (by decide) (by decide) dL_writeAll_7 (fun H locs hP hD hS => ?_)
    refine lv_goto (tgt := 14) hx hb dL_writeAll_8 (by decide) ?_
    refine lv_iconst (v := 0) hx hb dL_writeAll_14 (by decide) ?_
    exact hend 0 ((sWriteAll κ).1, vp_updL f 0 ((sWriteAll κ).2).toInt64) _ _ _ _ ⟨e.symm, by rw [if_pos e]⟩ hP hD hS dL_writeAll_15
  · have e : cdWriteAll (ut κ) = 1 := by unfold cdWriteAll; rw [if_neg q1]
    have e0 : ¬ cdWriteAll (ut κ) = 0 := by rw [e]; decide
    have hs : sWriteAll κ = (uText κ (pParse (ut κ)).2, 0) := by unfold sWriteAll; rw [if_neg q1]
    have hM := x_X3_writeAll_A l hl0 n0 dC dI c0 ad ae ah ax ar cI cS (uS κ) (uA κ) (uo κ) (un κ) (uh κ) (ut κ) ht hf q1 s.heap.size (by rw [hsz]; exact hA0)
    refine z_tVw (wr := [(oa, .inl (cL, 1, .inr (.inl f)))]) (As := []) (rest := [.int 0, .ref oa]) ⟨hx, hb, hml, hown, hts⟩ hM (cwV 0 hts gL_writeAll_X3_writeAll rfl rfl rfl (by decide +kernel) ⟨Nat.le_of_ble_eq_true rfl, Nat.le_of_ble_eq_true rfl⟩) (va_recv hK hP (ci := 3) (q0 := 1) rfl rfl) hP hD hA (hK.sub (tys' := [(cI, .int), (cS, .object RX1)]) [0, 1] rfl) hE hNc hN rfl hl.1 rfl (Nat.le_of_ble_eq_true rfl) dL_writeAll_3 ⟨Nat.le_of_ble_eq_true rfl, Nat.le_of_ble_eq_true rfl⟩ (fun H1 locs1 qa ce hP1 hD1 hS1 hce hcv hcl => ?_)
    refine vx_catch hown (tableOf []) ⟨0, 8, 11, 15⟩ (tableOf []) (htab.trans rfl) (fun z hz9 => absurd hz9 List.not_mem_nil) (by decide) (by decide) (hts (.classLink RL 15 XA) (by decide +kernel)) (va_Nw.use rfl hE.2.2.1.2.1) hce hcv hcl ?_
    refine lv_astore_n (lv' := (2, .ref qa) :: [(0, .ref c0), (1, .ref oa)]) hx hb dL_writeAll_11 rfl hl (by decide) rfl (fun ls hl => ?_)
    refine lv_iconst (v := 1) hx hb dL_writeAll_12 (by decide) ?_
    exact hend 1 ((sWriteAll κ).1, f) _ _ _ _ ⟨e.symm, by rw [if_neg e0]⟩ (by rw [hs]; exact hP1) (by rw [hs]; exact hD1) hS1 dL_writeAll_13
