section ZN
/-- a nest mate's private member, as the text's parser asks for it -/
abbrev zN (U : State) : Prop := va_Nw (.methodLinkNest RX2 42 yX3_isOutside RX3) U
def zPwN (D : va_G) (av : List Value) (Wd : va_W) (tys : List (ClassId × FieldType)) (sz : Nat) : Array Value → State → Prop := va_Pc av (fun U => (U.heap.size = sz ∧ va_P D vwCl Wd U.heap ∧ va_K D vwCl tys U ∧ va_D (fun _ => True) Wd) ∧ zN U)
theorem zPwN_blind {D : va_G} {av : List Value} {Wd : va_W} {tys : List (ClassId × FieldType)} {sz : Nat} : FrameBlind (zPwN D av Wd tys sz) := by
  intro a U g mk q
  obtain ⟨q0, ⟨q1, qP, qK, qD⟩, qN⟩ := q
  exact ⟨q0, ⟨q1, qP, va_K.moved (u := U) (U := U.calling g mk a) (Vm.Alike.refl U.vm) qK, qD⟩, va_Nw.same rfl rfl qN⟩
abbrev zWiN {S : Type} (l : Launch) (y : MethodName) (ws : List Cond) (rm : Room) (D : va_G) (av : List Value) (Wd : va_W) (tys : List (ClassId × FieldType)) (sz : Nat) (post : Int32 → S → Prop) (Wn : S → va_W) (mc ms : Nat) : Prop := Met l y ws rm (zPwN D av Wd tys sz) (va_Qi post (zB D Wn (va_A Wd sz)) (va_A Wd sz)) mc ms (va_A Wd sz)
abbrev zWlN {S : Type} (l : Launch) (y : MethodName) (ws : List Cond) (rm : Room) (D : va_G) (av : List Value) (Wd : va_W) (tys : List (ClassId × FieldType)) (sz : Nat) (post : Int64 → S → Prop) (Wn : S → va_W) (mc ms : Nat) : Prop := Met l y ws rm (zPwN D av Wd tys sz) (va_Ql post (zB D Wn (va_A Wd sz)) (va_A Wd sz)) mc ms (va_A Wd sz)
abbrev zWvN {S : Type} (l : Launch) (y : MethodName) (ws : List Cond) (rm : Room) (D : va_G) (av : List Value) (Wd : va_W) (tys : List (ClassId × FieldType)) (sz : Nat) (post : S → Prop) (Wn : S → va_W) (mc ms : Nat) : Prop := Met l y ws rm (zPwN D av Wd tys sz) (va_Qv post (zB D Wn (va_A Wd sz)) (va_A Wd sz)) mc ms (va_A Wd sz)
variable {l : Launch} {y : MethodName} {ws ws' : List Cond} {rm : Room} {D : va_G} {av : List Value} {Wd : va_W} {tys : List (ClassId × FieldType)} {cc : ByteArray} {maxL : Nat} {ty : FieldType}
variable {S : Type} {Wn : S → va_W} {mc ms sz : Nat}
theorem zWiN_of {post : Int32 → S → Prop} (hy : plainName y.cls = true) (hw : ws = Cond.code y cc maxL (some ty) :: ws') (hle : (lg_sl av).length ≤ maxL) (hn : ∀ v u, post v u → narrow ty (.int v) = .int v)
    (body : ∀ (p : Program) (e : Env) (s : State) (m : MethodId) (args : Array Value) (below : List Frame) (meth : Method) (c : Code) (Q : State → Prop) (ls : Array Slot) (A : Nat → Prop), zAt p s m c args cc maxL y.cls ws av ls → va_P D vwCl Wd s.heap → va_K D vwCl tys s → zN s → va_D A Wd → (∀ q, s.heap.size ≤ q → A q) →
      (∀ (v : Int32) (u : S) (pc : Nat) (ls : Array Slot) (H : Heap) (locs : List Loc), post v u → va_P D vwCl (Wn u) H → va_D A (Wn u) → va_S A s.heap H locs → decode cc pc = .ok (.ireturn, 1) → W p l e rm s m args below meth c H locs mc ms Q (F0 m pc ls [.int v])) →
      W p l e rm s m args below meth c s.heap [] 0 0 Q (F0 m 0 ls [])) : zWiN l y ws rm D av Wd tys sz post Wn mc ms := by
  refine Met.ofW (cc := cc) (maxL := maxL) (ret := some ty) hy hw ?_
  intro p e s m args below meth c s₁ B hml hv
  obtain ⟨rfl, ⟨hsz, hP, hK, hD0⟩, hN⟩ := hv
  subst hsz
  have hD := hD0.self (sz := s.heap.size)
  have hl := lv_entry av (n := maxL) hle
  rw [lg_entry_eq]
  generalize (lg_sl av ++ List.replicate (maxL - (lg_sl av).length) Slot.unset).toArray = ls at hl ⊢
  have hlocks := B.notSynchronized
  exact body p e s m _ below meth c _ ls (va_A Wd s.heap.size) ⟨B.exec, B.bytes, hml, findClass_of_methodNamed B.named, atoms_spec (ws := ws) B.pre, hl⟩ hP hK hN hD (fun q h => Or.inr h) (fun v u pc ls H locs hp hP1 hD1 hS1 hdg => W.zret B.exec B.bytes B.returns (hn v u hp) (fun t ht _ => ⟨⟨v, u, rfl, hp, by rw [ht]; exact hP1, hD1⟩, hS1.F ht⟩) hS1.2.2 hdg hlocks)
theorem zWvN_of {post : S → Prop} (hy : plainName y.cls = true) (hw : ws = Cond.code y cc maxL none :: ws') (hle : (lg_sl av).length ≤ maxL)
    (body : ∀ (p : Program) (e : Env) (s : State) (m : MethodId) (args : Array Value) (below : List Frame) (meth : Method) (c : Code) (Q : State → Prop) (ls : Array Slot) (A : Nat → Prop), zAt p s m c args cc maxL y.cls ws av ls → meth.name = y.name → va_P D vwCl Wd s.heap → va_K D vwCl tys s → zN s → va_D A Wd → (∀ q, s.heap.size ≤ q → A q) →
      (∀ (u : S) (pc : Nat) (ls : Array Slot) (H : Heap) (locs : List Loc), post u → va_P D vwCl (Wn u) H → va_D A (Wn u) → va_S A s.heap H locs → decode cc pc = .ok (.return_, 1) → W p l e rm s m args below meth c H locs mc ms Q (F0 m pc ls [])) →
      W p l e rm s m args below meth c s.heap [] 0 0 Q (F0 m 0 ls [])) : zWvN l y ws rm D av Wd tys sz post Wn mc ms := by
  refine Met.ofW (cc := cc) (maxL := maxL) (ret := none) hy hw ?_
  intro p e s m args below meth c s₁ B hml hv
  obtain ⟨rfl, ⟨hsz, hP, hK, hD0⟩, hN⟩ := hv
  subst hsz
  have hD := hD0.self (sz := s.heap.size)
  have hl := lv_entry av (n := maxL) hle
  rw [lg_entry_eq]
  generalize (lg_sl av ++ List.replicate (maxL - (lg_sl av).length) Slot.unset).toArray = ls at hl ⊢
  have hlocks := B.notSynchronized
  exact body p e s m _ below meth c _ ls (va_A Wd s.heap.size) ⟨B.exec, B.bytes, hml, findClass_of_methodNamed B.named, atoms_spec (ws := ws) B.pre, hl⟩ (name_of_methodNamed B.named B.method).1 hP hK hN hD (fun q h => Or.inr h) (fun u pc ls H locs hp hP1 hD1 hS1 hdg => W.vret B.exec B.bytes B.returns (fun t ht _ => ⟨⟨u, rfl, hp, by rw [ht]; exact hP1, hD1⟩, hS1.F ht⟩) hS1.2.2 hdg hlocks)
end ZN
section ZNC
variable {p : Program} {l : Launch} {e : Env} {R : Room} {s : State} {m : MethodId} {args : Array Value} {below : List Frame} {meth : Method} {c : Code} {H : Heap} {locs : List Loc} {cells slots : Nat} {Q : State → Prop}
variable {cc : ByteArray} {pc : Nat} {ls : Array Slot} {rest st0 : List Value} {D : va_G} {Wd ws : va_W} {tys tysC : List (ClassId × FieldType)} {A0 : Nat → Prop} {H0 : Heap}
variable {y : MethodName} {bytes : ByteArray} {maxL nL mc ms n index : Nat} {ret : Option FieldType} {wsY : List Cond} {rm : Room} {Ts : List Cond} {own C host : String} {b : Addr} {As : List Value}
theorem z_cWiN {S' : Type} {post : Int32 → S' → Prop} {Wn : S' → va_W} {wr : va_W} (S : CallFix p m c cc nL s args Ts own) (hM : zWiN l y wsY rm D (.ref b :: As) Wd tysC H.size post Wn mc ms) (cw : CallW R s args own C index y bytes maxL ret wsY rm mc ms n) (hv : ∃ cellB : Cell, H[b]? = some cellB ∧ cellB.vm.isStatics = false ∧ s.vm.findClass C = some cellB.cls)
    (hP : va_P D vwCl ws H) (hD : va_D A0 ws) (hS : va_S A0 H0 H locs) (hA : ∀ q, H0.size ≤ q → A0 q) (hPc : va_P D vwCl Wd H) (hDc : va_D A0 Wd) (hK : va_K D vwCl tysC s) (hN : zN s) (isC isR : List Nat) (hC : isC.map (fun i => ws[i]?) = Wd.map some) (hR : isR.map (fun i => ws[i]?) = wr.map some) (hnd : va_nd isR = true) (hdis : ∀ i ∈ isR, i ∉ isC)
    (hn : As.length = n) (hsize : ls.size = nL) (hstack : st0 = As.reverse ++ .ref b :: rest) (hW : (rest.map fun v => v.category).sum ≤ 8) (hdg : decode cc pc = .ok (.invokevirtual index, 3)) (hf : cells + mc ≤ R.cells ∧ slots + ms ≤ R.slots)
    (kk : ∀ (r : Int32) (u : S') (H1 : Heap) (locs1 : List Loc), post r u → va_P D vwCl (wr ++ Wn u) H1 → va_D A0 (wr ++ Wn u) → va_S A0 H0 H1 locs1 → W p l e R s m args below meth c H1 locs1 (cells + mc) (slots + ms) Q (F0 m (pc + 3) ls (.int r :: rest))) : W p l e R s m args below meth c H locs cells slots Q (F0 m pc ls st0) := by
  have hFc := va_free (wc := Wd) hD hS hA isC hC
  refine va_calli (va_runV (As := As) (rest := rest) S hM cw ⟨zPwN_blind, hv, fun U hU hW => ⟨rfl, ⟨by rw [hU], by rw [hU]; exact hPc, va_K.moved hW.alike hK, hDc.weaken (fun _ _ _ _ => trivial)⟩, va_Nw.warmM hW hN⟩⟩ rfl hn hsize hstack (lv_room hW) hdg hf) hS (fun q _ h => hFc q h) hFc (fun r u t H1 locs1 ht hvm hw hB hz1 hk1 hS1 => ?_)
  obtain ⟨hP1, hD1⟩ := hB
  rw [ht] at hP1
  obtain ⟨hP2, hD2⟩ := va_join (wr := wr) hP hD isC isR hC hR hnd hdis hk1 hFc hP1 hD1
  exact kk r u H1 locs1 hw hP2 hD2 hS1
theorem z_cWvN {S' : Type} {post : S' → Prop} {Wn : S' → va_W} {wr : va_W} (S : CallFix p m c cc nL s args Ts own) (hM : zWvN l y wsY rm D (.ref b :: As) Wd tysC H.size post Wn mc ms) (cw : CallW R s args own C index y bytes maxL ret wsY rm mc ms n) (hv : ∃ cellB : Cell, H[b]? = some cellB ∧ cellB.vm.isStatics = false ∧ s.vm.findClass C = some cellB.cls)
    (hP : va_P D vwCl ws H) (hD : va_D A0 ws) (hS : va_S A0 H0 H locs) (hA : ∀ q, H0.size ≤ q → A0 q) (hPc : va_P D vwCl Wd H) (hDc : va_D A0 Wd) (hK : va_K D vwCl tysC s) (hN : zN s) (isC isR : List Nat) (hC : isC.map (fun i => ws[i]?) = Wd.map some) (hR : isR.map (fun i => ws[i]?) = wr.map some) (hnd : va_nd isR = true) (hdis : ∀ i ∈ isR, i ∉ isC)
    (hn : As.length = n) (hsize : ls.size = nL) (hstack : st0 = As.reverse ++ .ref b :: rest) (hW : (rest.map fun v => v.category).sum ≤ 8) (hdg : decode cc pc = .ok (.invokevirtual index, 3)) (hf : cells + mc ≤ R.cells ∧ slots + ms ≤ R.slots)
    (kk : ∀ (u : S') (H1 : Heap) (locs1 : List Loc), post u → va_P D vwCl (wr ++ Wn u) H1 → va_D A0 (wr ++ Wn u) → va_S A0 H0 H1 locs1 → W p l e R s m args below meth c H1 locs1 (cells + mc) (slots + ms) Q (F0 m (pc + 3) ls rest)) : W p l e R s m args below meth c H locs cells slots Q (F0 m pc ls st0) := by
  have hFc := va_free (wc := Wd) hD hS hA isC hC
  refine va_callv (va_runV (As := As) (rest := rest) S hM cw ⟨zPwN_blind, hv, fun U hU hW => ⟨rfl, ⟨by rw [hU], by rw [hU]; exact hPc, va_K.moved hW.alike hK, hDc.weaken (fun _ _ _ _ => trivial)⟩, va_Nw.warmM hW hN⟩⟩ rfl hn hsize hstack (lv_room hW) hdg hf) hS (fun q _ h => hFc q h) hFc (fun u t H1 locs1 ht hvm hw hB hz1 hk1 hS1 => ?_)
  obtain ⟨hP1, hD1⟩ := hB
  rw [ht] at hP1
  obtain ⟨hP2, hD2⟩ := va_join (wr := wr) hP hD isC isR hC hR hnd hdis hk1 hFc hP1 hD1
  exact kk u H1 locs1 hw hP2 hD2 hS1
theorem z_xWiN {S' : Type} {post : Int32 → S' → Prop} {Wn : S' → va_W} {wr : va_W} (S : CallFix p m c cc nL s args Ts own) (hM : zWiN l y wsY rm D (.ref b :: As) Wd tysC H.size post Wn mc ms) (cw : CallW R s args own C index y bytes maxL ret wsY rm mc ms n) (hv : ∃ cellB : Cell, H[b]? = some cellB ∧ cellB.vm.isStatics = false ∧ s.vm.findClass C = some cellB.cls)
    (hP : va_P D vwCl (wr ++ Wd) H) (hD : va_D A0 (wr ++ Wd)) (hS : va_S A0 H0 H locs) (hA : ∀ q, H0.size ≤ q → A0 q) (hK : va_K D vwCl tysC s) (hN : zN s)
    (hn : As.length = n) (hsize : ls.size = nL) (hstack : st0 = As.reverse ++ .ref b :: rest) (hW : (rest.map fun v => v.category).sum ≤ 8) (hdg : decode cc pc = .ok (.invokevirtual index, 3)) (hf : cells + mc ≤ R.cells ∧ slots + ms ≤ R.slots)
    (kk : ∀ (r : Int32) (u : S') (H1 : Heap) (locs1 : List Loc), post r u → va_P D vwCl (wr ++ Wn u) H1 → va_D A0 (wr ++ Wn u) → va_S A0 H0 H1 locs1 → W p l e R s m args below meth c H1 locs1 (cells + mc) (slots + ms) Q (F0 m (pc + 3) ls (.int r :: rest))) : W p l e R s m args below meth c H locs cells slots Q (F0 m pc ls st0) := by
  have hPc : va_P D vwCl Wd H := (z_reord (ws' := Wd) (fun q h => List.mem_append_right _ h) (fun a => by rw [List.map_append, List.count_append]; omega) hP hD).1
  have hDc : va_D A0 Wd := (z_reord (ws' := Wd) (fun q h => List.mem_append_right _ h) (fun a => by rw [List.map_append, List.count_append]; omega) hP hD).2
  have hFc := va_free (wc := Wd) hD hS hA ((List.range Wd.length).map (fun i => i + wr.length)) z_plC
  refine va_calli (va_runV (As := As) (rest := rest) S hM cw ⟨zPwN_blind, hv, fun U hU hW => ⟨rfl, ⟨by rw [hU], by rw [hU]; exact hPc, va_K.moved hW.alike hK, hDc.weaken (fun _ _ _ _ => trivial)⟩, va_Nw.warmM hW hN⟩⟩ rfl hn hsize hstack (lv_room hW) hdg hf) hS (fun q _ h => hFc q h) hFc (fun r u t H1 locs1 ht hvm hw hB hz1 hk1 hS1 => ?_)
  obtain ⟨hP1, hD1⟩ := hB
  rw [ht] at hP1
  obtain ⟨hP2, hD2⟩ := z_join2 (wr := wr) hP hD hk1 hFc hP1 hD1
  exact kk r u H1 locs1 hw hP2 hD2 hS1
theorem z_xWvN {S' : Type} {post : S' → Prop} {Wn : S' → va_W} {wr : va_W} (S : CallFix p m c cc nL s args Ts own) (hM : zWvN l y wsY rm D (.ref b :: As) Wd tysC H.size post Wn mc ms) (cw : CallW R s args own C index y bytes maxL ret wsY rm mc ms n) (hv : ∃ cellB : Cell, H[b]? = some cellB ∧ cellB.vm.isStatics = false ∧ s.vm.findClass C = some cellB.cls)
    (hP : va_P D vwCl (wr ++ Wd) H) (hD : va_D A0 (wr ++ Wd)) (hS : va_S A0 H0 H locs) (hA : ∀ q, H0.size ≤ q → A0 q) (hK : va_K D vwCl tysC s) (hN : zN s)
    (hn : As.length = n) (hsize : ls.size = nL) (hstack : st0 = As.reverse ++ .ref b :: rest) (hW : (rest.map fun v => v.category).sum ≤ 8) (hdg : decode cc pc = .ok (.invokevirtual index, 3)) (hf : cells + mc ≤ R.cells ∧ slots + ms ≤ R.slots)
    (kk : ∀ (u : S') (H1 : Heap) (locs1 : List Loc), post u → va_P D vwCl (wr ++ Wn u) H1 → va_D A0 (wr ++ Wn u) → va_S A0 H0 H1 locs1 → W p l e R s m args below meth c H1 locs1 (cells + mc) (slots + ms) Q (F0 m (pc + 3) ls rest)) : W p l e R s m args below meth c H locs cells slots Q (F0 m pc ls st0) := by
  have hPc : va_P D vwCl Wd H := (z_reord (ws' := Wd) (fun q h => List.mem_append_right _ h) (fun a => by rw [List.map_append, List.count_append]; omega) hP hD).1
  have hDc : va_D A0 Wd := (z_reord (ws' := Wd) (fun q h => List.mem_append_right _ h) (fun a => by rw [List.map_append, List.count_append]; omega) hP hD).2
  have hFc := va_free (wc := Wd) hD hS hA ((List.range Wd.length).map (fun i => i + wr.length)) z_plC
  refine va_callv (va_runV (As := As) (rest := rest) S hM cw ⟨zPwN_blind, hv, fun U hU hW => ⟨rfl, ⟨by rw [hU], by rw [hU]; exact hPc, va_K.moved hW.alike hK, hDc.weaken (fun _ _ _ _ => trivial)⟩, va_Nw.warmM hW hN⟩⟩ rfl hn hsize hstack (lv_room hW) hdg hf) hS (fun q _ h => hFc q h) hFc (fun u t H1 locs1 ht hvm hw hB hz1 hk1 hS1 => ?_)
  obtain ⟨hP1, hD1⟩ := hB
  rw [ht] at hP1
  obtain ⟨hP2, hD2⟩ := z_join2 (wr := wr) hP hD hk1 hFc hP1 hD1
  exact kk u H1 locs1 hw hP2 hD2 hS1
theorem z_xWSiN {S' : Type} {post : Int32 → S' → Prop} {Wn : S' → va_W} {wr : va_W} (S : CallFix p m c cc nL s args Ts own) (hM : zWiN l y wsY rm D As Wd tysC H.size post Wn mc ms) (cw : CallB R s args own index y bytes maxL ret wsY rm mc ms n ∧ (Cond.static y).before args s = true)
    (hP : va_P D vwCl (wr ++ Wd) H) (hD : va_D A0 (wr ++ Wd)) (hS : va_S A0 H0 H locs) (hA : ∀ q, H0.size ≤ q → A0 q) (hK : va_K D vwCl tysC s) (hN : zN s)
    (hn : As.length = n) (hsize : ls.size = nL) (hstack : st0 = As.reverse ++ rest) (hW : (rest.map fun v => v.category).sum ≤ 8) (hdg : decode cc pc = .ok (.invokestatic index, 3)) (hf : cells + mc ≤ R.cells ∧ slots + ms ≤ R.slots)
    (kk : ∀ (r : Int32) (u : S') (H1 : Heap) (locs1 : List Loc), post r u → va_P D vwCl (wr ++ Wn u) H1 → va_D A0 (wr ++ Wn u) → va_S A0 H0 H1 locs1 → W p l e R s m args below meth c H1 locs1 (cells + mc) (slots + ms) Q (F0 m (pc + 3) ls (.int r :: rest))) : W p l e R s m args below meth c H locs cells slots Q (F0 m pc ls st0) := by
  have hPc : va_P D vwCl Wd H := (z_reord (ws' := Wd) (fun q h => List.mem_append_right _ h) (fun a => by rw [List.map_append, List.count_append]; omega) hP hD).1
  have hDc : va_D A0 Wd := (z_reord (ws' := Wd) (fun q h => List.mem_append_right _ h) (fun a => by rw [List.map_append, List.count_append]; omega) hP hD).2
  have hFc := va_free (wc := Wd) hD hS hA ((List.range Wd.length).map (fun i => i + wr.length)) z_plC
  refine va_calli (va_runS (As := As) (rest := rest) S hM cw ⟨zPwN_blind, fun U hU hW => ⟨rfl, ⟨by rw [hU], by rw [hU]; exact hPc, va_K.moved hW.alike hK, hDc.weaken (fun _ _ _ _ => trivial)⟩, va_Nw.warmM hW hN⟩⟩ rfl hn hsize hstack (lv_room hW) hdg hf) hS (fun q _ h => hFc q h) hFc (fun r u t H1 locs1 ht hvm hw hB hz1 hk1 hS1 => ?_)
  obtain ⟨hP1, hD1⟩ := hB
  rw [ht] at hP1
  obtain ⟨hP2, hD2⟩ := z_join2 (wr := wr) hP hD hk1 hFc hP1 hD1
  exact kk r u H1 locs1 hw hP2 hD2 hS1
end ZNC
