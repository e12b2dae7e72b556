/-! calls that throw -/
abbrev XO : String := "java/lang/IndexOutOfBoundsException"
abbrev XA : String := "java/lang/IllegalArgumentException"
abbrev XT : String := "java/lang/IllegalStateException"
abbrev xNames : List String := ["java/lang/RuntimeException", "java/lang/Exception"]
def xStr : List (Nat × String) := [(46, "the write is refused"), (65, "times is out of range"), (85, "by is out of range"), (91, "the wear would be too great"), (99, "value is out of range"), (104, "code is not 33 to 126"), (110, "the buffer is full"), (123, "the buffer is not complete writes"), (131, "no state is saved"), (276, "there is no such word"), (279, "there is no such slot"), (281, "there is no such cell"), (283, "there is no such setting"), (285, "number is out of range"), (287, "what is out of range")]
def zE (n0 : Nat) (U : State) : Prop := vx_Zq Bundle.tN "UNASSIGNED_STACK" Bundle.steD (fun q => n0 ≤ q) U U.heap ∧ vx_Zq Bundle.tN "SUPPRESSED_SENTINEL" Bundle.listD (fun q => n0 ≤ q) U U.heap ∧ (va_Nw (.castable XO XO) U ∧ va_Nw (.castable XA XA) U ∧ va_Nw (.castable XT XT) U) ∧ (va_Nw (.declares (⟨"java/lang/RuntimeException", "<init>", "(Ljava/lang/String;)V"⟩ : MethodName)) U ∧ va_Nw (.declares (⟨"java/lang/Exception", "<init>", "(Ljava/lang/String;)V"⟩ : MethodName)) U ∧ va_Nw (.declares (⟨Bundle.tN, "<init>", "(Ljava/lang/String;)V"⟩ : MethodName)) U) ∧ ∀ it ∈ xStr, ∃ sa, vk_R RX3 it.1 it.2 sa U
theorem zE.warm {n0 : Nat} {s U : State} (h : zE n0 s) (hW : s.WarmedH U.vm) (hH : U.heap = s.heap) : zE n0 U := by
  obtain ⟨h1, h2, ⟨h3, h4, h5⟩, ⟨k1, k2, k3⟩, h6⟩ := h
  refine ⟨?_, ?_, ⟨va_Nw.warmC hW h3, va_Nw.warmC hW h4, va_Nw.warmC hW h5⟩, ⟨va_Nw.warmD hW k1, va_Nw.warmD hW k2, va_Nw.warmD hW k3⟩, fun it hi => ?_⟩
  · rw [hH]; exact vx_Zq.moved hW.alike h1
  · rw [hH]; exact vx_Zq.moved hW.alike h2
  · obtain ⟨sa, h⟩ := h6 it hi
    exact ⟨sa, vk_R.warm hW h⟩
def zPt (n0 : Nat) (D : va_G) (av : List Value) (Wd : va_W) (tys : List (ClassId × FieldType)) : Array Value → State → Prop := va_Pc av (fun U => (va_P D vwCl Wd U.heap ∧ va_K D vwCl tys U) ∧ zE n0 U)
theorem zPt_blind {n0 : Nat} {D : va_G} {av : List Value} {Wd : va_W} {tys : List (ClassId × FieldType)} : FrameBlind (zPt n0 D av Wd tys) := by
  intro a U g mk q
  obtain ⟨q0, ⟨qP, qK⟩, h1, h2, ⟨h3, h4, h5⟩, ⟨k1, k2, k3⟩, h6⟩ := q
  refine ⟨q0, ⟨qP, va_K.moved (u := U) (U := U.calling g mk a) (Vm.Alike.refl U.vm) qK⟩, vx_Zq.moved (u := U) (U := U.calling g mk a) (Vm.Alike.refl U.vm) h1, vx_Zq.moved (u := U) (U := U.calling g mk a) (Vm.Alike.refl U.vm) h2, ⟨va_Nw.same rfl rfl h3, va_Nw.same rfl rfl h4, va_Nw.same rfl rfl h5⟩, ⟨va_Nw.same rfl rfl k1, va_Nw.same rfl rfl k2, va_Nw.same rfl rfl k3⟩, fun it hi => ?_⟩
  obtain ⟨sa, h⟩ := h6 it hi
  exact ⟨sa, vk_R.same (u := U) (U := U.calling g mk a) rfl h⟩
def zTX (E : String) : String → State → State → Prop := fun E' st t => E' = E ∧ st.heap.size ≤ t.heap.size ∧ ∀ q : Nat, q < st.heap.size → t.heap[q]? = st.heap[q]?
abbrev zQF : Array Value → State → Outcome → State → Prop := fun _ _ _ _ => False
abbrev zTh (l : Launch) (y : MethodName) (ws : List Cond) (rm : Room) (n0 : Nat) (D : va_G) (av : List Value) (Wd : va_W) (tys : List (ClassId × FieldType)) (E : String) : Prop := vx_Met l y ws rm (zPt n0 D av Wd tys) zQF (zTX E) 1 6 (fun _ => False)
theorem zTh_of {l : Launch} {y : MethodName} {ws ws' : List Cond} {rm : Room} {n0 : Nat} {D : va_G} {av : List Value} {Wd : va_W} {tys : List (ClassId × FieldType)} {E : String} {cc : ByteArray} {maxL : Nat} {ret : Option FieldType} (hy : plainName y.cls = true) (hw : ws = Cond.code y cc maxL ret :: ws') (hle : (lg_sl av).length ≤ maxL)
    (body : ∀ (p : Program) (e : Env) (s : State) (m : MethodId) (args : Array Value) (below : List Frame) (meth : Method) (c : Code) (ls : Array Slot), zAt p s m c args cc maxL y.cls ws av ls → va_P D vwCl Wd s.heap → va_K D vwCl tys s → zE n0 s → (∀ x ∈ c.exceptionTable.toList, False) → meth.locks = false →
      W p l e rm s m args below meth c s.heap [] 0 0 (vx_MQ below zQF (zTX E) args s 1 6 (fun _ => False)) (F0 m 0 ls [])) : zTh l y ws rm n0 D av Wd tys E := by
  refine vx_ofW (cc := cc) (maxL := maxL) (ret := ret) hy hw ?_
  intro p e s m args below meth c s₁ B hml ht hv
  obtain ⟨rfl, ⟨hP, hK⟩, hE⟩ := hv
  have hl := lv_entry av (n := maxL) hle
  rw [lg_entry_eq]
  generalize (lg_sl av ++ List.replicate (maxL - (lg_sl av).length) Slot.unset).toArray = ls at hl ⊢
  exact body p e s m _ below meth c ls ⟨B.exec, B.bytes, hml, findClass_of_methodNamed B.named, atoms_spec (ws := ws) B.pre, hl⟩ hP hK hE ht B.notSynchronized
section ZT
variable {p : Program} {l : Launch} {e : Env} {R : Room} {s : State} {m : MethodId} {args : Array Value} {below : List Frame} {meth : Method} {c : Code}
variable {cc : ByteArray} {pc : Nat} {ls : Array Slot} {rest st0 : List Value} {D : va_G} {Wd : va_W} {tysC : List (ClassId × FieldType)}
variable {y : MethodName} {bytes : ByteArray} {maxL nL n index n0 : Nat} {ret : Option FieldType} {wsY : List Cond} {rm : Room} {Ts : List Cond} {own : String} {As : List Value} {E : String}
theorem z_callT {Qa : State → Outcome → State → Prop} (hQ : ∀ a b d, ¬ Qa a b d) (hr : vx_Run p l e R s m args below meth c s.heap [] 0 0 1 6 (F0 m pc ls st0) rest Qa (zTX E) (fun _ => False)) (ht : ∀ x ∈ c.exceptionTable.toList, False) (hlocks : meth.locks = false) :
    W p l e R s m args below meth c s.heap [] 0 0 (vx_MQ below zQF (zTX E) args s 1 6 (fun _ => False)) (F0 m pc ls st0) := by
  intro T hT X
  rcases hr T hT X with ⟨v, st₀, t, T', L, h0, X', hL, e1, e2, hF, st⟩ | ⟨q, st₀, t, T', L, E', ce, h0, X', hL, e1, e2, ⟨rfl, hz, hk⟩, hce, hcv, hcl, st⟩
  · exact (hQ _ _ _ hF).elim
  · rw [h0] at hz hk
    have hv := vx_out (l := l) (p := p) (e := e) (R := R) (s := s) (m := m) (args := args) (below := below) (meth := meth) (c := c) (H := T'.heap) (locs := [] ++ L) (cells := 0 + 1) (slots := 0 + 6) (Qc := zQF) (XC := zTX E') (free := fun _ => False) (rest := rest) (ls := ls) (pc := pc) (mc := 1) (ms := 6) (fun x hx => (ht x hx).elim) hlocks (ce := ce) (q := q) (by rw [e1]; exact hce) hcv hcl (fun t1 h1 _ => ⟨rfl, by rw [h1, e1]; exact hz, fun q hq => by rw [h1, e1]; exact hk q hq⟩) (fun z hz => hL z (by simpa using hz)) (Nat.le_refl _) (Nat.le_refl _)
    obtain ⟨t2, a1, b1⟩ := hv T' rfl X'
    exact ⟨t2, st.trans a1, b1⟩
theorem z_tS (S : CallFix p m c cc nL s args Ts own) (hM : zTh l y wsY rm n0 D As Wd tysC E) (cw : CallB R s args own index y bytes maxL ret wsY rm 1 6 n ∧ (Cond.static y).before args s = true) (hP : va_P D vwCl Wd s.heap) (hK : va_K D vwCl tysC s) (hE : zE n0 s) (hn : As.length = n) (hsize : ls.size = nL) (hstack : st0 = As.reverse ++ rest) (hW : (rest.map fun v => v.category).sum ≤ 8) (hdg : decode cc pc = .ok (.invokestatic index, 3)) (hf : 0 + 1 ≤ R.cells ∧ 0 + 6 ≤ R.slots) (ht : ∀ x ∈ c.exceptionTable.toList, False) (hlocks : meth.locks = false) :
    W p l e R s m args below meth c s.heap [] 0 0 (vx_MQ below zQF (zTX E) args s 1 6 (fun _ => False)) (F0 m pc ls st0) :=
  z_callT (fun _ _ _ h => h) (vx_runS (As := As) (rest := rest) S hM cw ⟨zPt_blind, fun U hU hW => ⟨rfl, ⟨by rw [hU]; exact hP, va_K.moved hW.alike hK⟩, hE.warm hW hU⟩⟩ rfl hn hsize hstack (lv_room hW) hdg hf) ht hlocks
end ZT
theorem xc_O : ∀ w ∈ (vx_atS RX3 278 XO xNames).filter (fun w => !goodWord w), w ∈ [Cond.castable XO XO, .declares (⟨"java/lang/RuntimeException", "<init>", "(Ljava/lang/String;)V"⟩ : MethodName), .declares (⟨"java/lang/Exception", "<init>", "(Ljava/lang/String;)V"⟩ : MethodName), .declares (⟨Bundle.tN, "<init>", "(Ljava/lang/String;)V"⟩ : MethodName)] := fun w hw => of_decide_eq_true (List.all_eq_true.mp (show ((vx_atS RX3 278 XO xNames).filter (fun w => !goodWord w)).all (fun w => decide (w ∈ [Cond.castable XO XO, .declares (⟨"java/lang/RuntimeException", "<init>", "(Ljava/lang/String;)V"⟩ : MethodName), .declares (⟨"java/lang/Exception", "<init>", "(Ljava/lang/String;)V"⟩ : MethodName), .declares (⟨Bundle.tN, "<init>", "(Ljava/lang/String;)V"⟩ : MethodName)])) = true by decide +kernel) w hw)
theorem xc_A : ∀ w ∈ (vx_atS RX3 67 XA xNames).filter (fun w => !goodWord w), w ∈ [Cond.castable XA XA, .declares (⟨"java/lang/RuntimeException", "<init>", "(Ljava/lang/String;)V"⟩ : MethodName), .declares (⟨"java/lang/Exception", "<init>", "(Ljava/lang/String;)V"⟩ : MethodName), .declares (⟨Bundle.tN, "<init>", "(Ljava/lang/String;)V"⟩ : MethodName)] := fun w hw => of_decide_eq_true (List.all_eq_true.mp (show ((vx_atS RX3 67 XA xNames).filter (fun w => !goodWord w)).all (fun w => decide (w ∈ [Cond.castable XA XA, .declares (⟨"java/lang/RuntimeException", "<init>", "(Ljava/lang/String;)V"⟩ : MethodName), .declares (⟨"java/lang/Exception", "<init>", "(Ljava/lang/String;)V"⟩ : MethodName), .declares (⟨Bundle.tN, "<init>", "(Ljava/lang/String;)V"⟩ : MethodName)])) = true by decide +kernel) w hw)
theorem xc_T : ∀ w ∈ (vx_atS RX3 48 XT xNames).filter (fun w => !goodWord w), w ∈ [Cond.castable XT XT, .declares (⟨"java/lang/RuntimeException", "<init>", "(Ljava/lang/String;)V"⟩ : MethodName), .declares (⟨"java/lang/Exception", "<init>", "(Ljava/lang/String;)V"⟩ : MethodName), .declares (⟨Bundle.tN, "<init>", "(Ljava/lang/String;)V"⟩ : MethodName)] := fun w hw => of_decide_eq_true (List.all_eq_true.mp (show ((vx_atS RX3 48 XT xNames).filter (fun w => !goodWord w)).all (fun w => decide (w ∈ [Cond.castable XT XT, .declares (⟨"java/lang/RuntimeException", "<init>", "(Ljava/lang/String;)V"⟩ : MethodName), .declares (⟨"java/lang/Exception", "<init>", "(Ljava/lang/String;)V"⟩ : MethodName), .declares (⟨Bundle.tN, "<init>", "(Ljava/lang/String;)V"⟩ : MethodName)])) = true by decide +kernel) w hw)
