/-! a writer that answers a double; calls for the law -/
abbrev zWd {S : Type} (l : Launch) (y : MethodName) (ws : List Cond) (rm : Room) (D : va_G) (av : List Value) (Wd : va_W) (tys : List (ClassId × FieldType)) (sz : Nat) (post : UInt64 → S → Prop) (Wn : S → va_W) (mc ms : Nat) : Prop := Met l y ws rm (zPw D av Wd tys sz) (va_Qd post (zB D Wn (va_A Wd sz)) (va_A Wd sz)) mc ms (va_A Wd sz)
theorem zWd_of {l : Launch} {y : MethodName} {ws ws' : List Cond} {rm : Room} {D : va_G} {av : List Value} {Wd : va_W} {tys : List (ClassId × FieldType)} {cc : ByteArray} {maxL : Nat} {S : Type} {Wn : S → va_W} {mc ms sz : Nat} {post : UInt64 → S → Prop} (hy : plainName y.cls = true) (hw : ws = Cond.code y cc maxL (some .double) :: ws') (hle : (lg_sl av).length ≤ maxL)
    (body : ∀ (p : Program) (e : Env) (s : State) (m : MethodId) (args : Array Value) (below : List Frame) (meth : Method) (c : Code) (Q : State → Prop) (ls : Array Slot) (A : Nat → Prop), zAt p s m c args cc maxL y.cls ws av ls → va_P D vwCl Wd s.heap → va_K D vwCl tys s → va_D A Wd → (∀ q, s.heap.size ≤ q → A q) →
      (∀ (v : UInt64) (u : S) (pc : Nat) (ls : Array Slot) (H : Heap) (locs : List Loc), post v u → va_P D vwCl (Wn u) H → va_D A (Wn u) → va_S A s.heap H locs → decode cc pc = .ok (.dreturn, 1) → W p l e rm s m args below meth c H locs mc ms Q (F0 m pc ls [.double v])) →
      W p l e rm s m args below meth c s.heap [] 0 0 Q (F0 m 0 ls [])) : zWd l y ws rm D av Wd tys sz post Wn mc ms := by
  refine Met.ofW (cc := cc) (maxL := maxL) (ret := some .double) hy hw ?_
  intro p e s m args below meth c s₁ B hml hv
  obtain ⟨rfl, hsz, hP, hK, hD0⟩ := hv
  subst hsz
  have hD := hD0.self (sz := s.heap.size)
  have hl := lv_entry av (n := maxL) hle
  rw [lg_entry_eq]
  generalize (lg_sl av ++ List.replicate (maxL - (lg_sl av).length) Slot.unset).toArray = ls at hl ⊢
  have hlocks := B.notSynchronized
  exact body p e s m _ below meth c _ ls (va_A Wd s.heap.size) ⟨B.exec, B.bytes, hml, findClass_of_methodNamed B.named, atoms_spec (ws := ws) B.pre, hl⟩ hP hK hD (fun q h => Or.inr h) (fun v u pc ls H locs hp hP1 hD1 hS1 hdg => W.dret B.exec B.bytes B.returns (fun t ht _ => ⟨⟨v, u, rfl, hp, by rw [ht]; exact hP1, hD1⟩, hS1.F ht⟩) hS1.2.2 hdg hlocks)
section ZY
variable {p : Program} {l : Launch} {e : Env} {R : Room} {s : State} {m : MethodId} {args : Array Value} {below : List Frame} {meth : Method} {c : Code} {H : Heap} {locs : List Loc} {cells slots : Nat} {Q : State → Prop}
variable {cc : ByteArray} {pc : Nat} {ls : Array Slot} {rest st0 : List Value} {D : va_G} {Wd ws : va_W} {tys tysC : List (ClassId × FieldType)} {A0 : Nat → Prop} {H0 : Heap}
variable {y : MethodName} {bytes : ByteArray} {maxL nL mc ms n index : Nat} {ret : Option FieldType} {wsY : List Cond} {rm : Room} {Ts : List Cond} {own C host : String} {b : Addr} {As : List Value}
theorem z_xWl {S' : Type} {post : Int64 → S' → Prop} {Wn : S' → va_W} {wr : va_W} (S : CallFix p m c cc nL s args Ts own) (hM : zWl l y wsY rm D (.ref b :: As) Wd tysC H.size post Wn mc ms) (cw : CallW R s args own C index y bytes maxL ret wsY rm mc ms n) (hv : ∃ cellB : Cell, H[b]? = some cellB ∧ cellB.vm.isStatics = false ∧ s.vm.findClass C = some cellB.cls)
    (hP : va_P D vwCl (wr ++ Wd) H) (hD : va_D A0 (wr ++ Wd)) (hS : va_S A0 H0 H locs) (hA : ∀ q, H0.size ≤ q → A0 q) (hK : va_K D vwCl tysC s)
    (hn : As.length = n) (hsize : ls.size = nL) (hstack : st0 = As.reverse ++ .ref b :: rest) (hW : (rest.map fun v => v.category).sum ≤ 8) (hdg : decode cc pc = .ok (.invokevirtual index, 3)) (hf : cells + mc ≤ R.cells ∧ slots + ms ≤ R.slots)
    (kk : ∀ (r : Int64) (u : S') (H1 : Heap) (locs1 : List Loc), post r u → va_P D vwCl (wr ++ Wn u) H1 → va_D A0 (wr ++ Wn u) → va_S A0 H0 H1 locs1 → W p l e R s m args below meth c H1 locs1 (cells + mc) (slots + ms) Q (F0 m (pc + 3) ls (.long r :: rest))) : W p l e R s m args below meth c H locs cells slots Q (F0 m pc ls st0) := by
  have hPc : va_P D vwCl Wd H := (z_reord (ws' := Wd) (fun q h => List.mem_append_right _ h) (fun a => by rw [List.map_append, List.count_append]; omega) hP hD).1
  have hDc : va_D A0 Wd := (z_reord (ws' := Wd) (fun q h => List.mem_append_right _ h) (fun a => by rw [List.map_append, List.count_append]; omega) hP hD).2
  have hFc := va_free (wc := Wd) hD hS hA ((List.range Wd.length).map (fun i => i + wr.length)) z_plC
  refine va_calll (va_runV (As := As) (rest := rest) S hM cw ⟨zPw_blind, hv, fun U hU hW => ⟨rfl, by rw [hU], by rw [hU]; exact hPc, va_K.moved hW.alike hK, hDc.weaken (fun _ _ _ _ => trivial)⟩⟩ rfl hn hsize hstack (lv_room hW) hdg hf) hS (fun q _ h => hFc q h) hFc (fun r u t H1 locs1 ht hvm hw hB hz1 hk1 hS1 => ?_)
  obtain ⟨hP1, hD1⟩ := hB
  rw [ht] at hP1
  obtain ⟨hP2, hD2⟩ := z_join2 (wr := wr) hP hD hk1 hFc hP1 hD1
  exact kk r u H1 locs1 hw hP2 hD2 hS1
theorem z_xWd {S' : Type} {post : UInt64 → S' → Prop} {Wn : S' → va_W} {wr : va_W} (S : CallFix p m c cc nL s args Ts own) (hM : zWd l y wsY rm D (.ref b :: As) Wd tysC H.size post Wn mc ms) (cw : CallW R s args own C index y bytes maxL ret wsY rm mc ms n) (hv : ∃ cellB : Cell, H[b]? = some cellB ∧ cellB.vm.isStatics = false ∧ s.vm.findClass C = some cellB.cls)
    (hP : va_P D vwCl (wr ++ Wd) H) (hD : va_D A0 (wr ++ Wd)) (hS : va_S A0 H0 H locs) (hA : ∀ q, H0.size ≤ q → A0 q) (hK : va_K D vwCl tysC s)
    (hn : As.length = n) (hsize : ls.size = nL) (hstack : st0 = As.reverse ++ .ref b :: rest) (hW : (rest.map fun v => v.category).sum ≤ 8) (hdg : decode cc pc = .ok (.invokevirtual index, 3)) (hf : cells + mc ≤ R.cells ∧ slots + ms ≤ R.slots)
    (kk : ∀ (r : UInt64) (u : S') (H1 : Heap) (locs1 : List Loc), post r u → va_P D vwCl (wr ++ Wn u) H1 → va_D A0 (wr ++ Wn u) → va_S A0 H0 H1 locs1 → W p l e R s m args below meth c H1 locs1 (cells + mc) (slots + ms) Q (F0 m (pc + 3) ls (.double r :: rest))) : W p l e R s m args below meth c H locs cells slots Q (F0 m pc ls st0) := by
  have hPc : va_P D vwCl Wd H := (z_reord (ws' := Wd) (fun q h => List.mem_append_right _ h) (fun a => by rw [List.map_append, List.count_append]; omega) hP hD).1
  have hDc : va_D A0 Wd := (z_reord (ws' := Wd) (fun q h => List.mem_append_right _ h) (fun a => by rw [List.map_append, List.count_append]; omega) hP hD).2
  have hFc := va_free (wc := Wd) hD hS hA ((List.range Wd.length).map (fun i => i + wr.length)) z_plC
  refine va_calld (va_runV (As := As) (rest := rest) S hM cw ⟨zPw_blind, hv, fun U hU hW => ⟨rfl, by rw [hU], by rw [hU]; exact hPc, va_K.moved hW.alike hK, hDc.weaken (fun _ _ _ _ => trivial)⟩⟩ rfl hn hsize hstack (lv_room hW) hdg hf) hS (fun q _ h => hFc q h) hFc (fun r u t H1 locs1 ht hvm hw hB hz1 hk1 hS1 => ?_)
  obtain ⟨hP1, hD1⟩ := hB
  rw [ht] at hP1
  obtain ⟨hP2, hD2⟩ := z_join2 (wr := wr) hP hD hk1 hFc hP1 hD1
  exact kk r u H1 locs1 hw hP2 hD2 hS1
end ZY
theorem dlb_ok {x : UInt64} (h : zNorm x) : Op.cmpValue (FP.dcmp x x) .l = 0 := by
  obtain ⟨k, t, rfl, ht, hk, -⟩ := h
  rw [zD_cmp hk ht hk ht, FP.Core.compare_ite, if_neg (Int.lt_irrefl _), if_pos rfl]
  rfl
theorem pFold_0 {f : Nat → Int64 → Int64} {h : Int64} : pFold f 0 h = h := rfl
theorem pHs_0 {f : Nat → Int32} {h : Int64} : pHs f 0 h = h := rfl
theorem pHs2 {f : Nat → Int32} {h : Int64} : 31 * (31 * h + (f 0).toInt64) + (f 1).toInt64 = pHs f 2 h := rfl
