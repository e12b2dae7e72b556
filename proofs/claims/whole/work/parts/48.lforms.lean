/-! the law's wrappers: they catch what the class throws -/
abbrev zNc (U : State) : Prop := va_Nc XA XO U ∧ va_Nc XT XO U ∧ va_Nc XT XA U
def zPx (n0 : Nat) (D : va_G) (av : List Value) (Wd : va_W) (tys : List (ClassId × FieldType)) (sz : Nat) : Array Value → State → Prop := va_Pc av (fun U => (U.heap.size = sz ∧ va_P D vwCl Wd U.heap ∧ va_K D vwCl tys U ∧ va_D (fun _ => True) Wd) ∧ zE n0 U ∧ zNc U ∧ zN U)
theorem zPx_blind {n0 : Nat} {D : va_G} {av : List Value} {Wd : va_W} {tys : List (ClassId × FieldType)} {sz : Nat} : FrameBlind (zPx n0 D av Wd tys sz) := by
  intro a U g mk q
  obtain ⟨q0, ⟨q1, qP, qK, qD⟩, ⟨h1, h2, ⟨h3, h4, h5⟩, ⟨k1, k2, k3⟩, h6⟩, ⟨n1, n2, n3⟩, qN⟩ := q
  have hal : U.vm.Alike (U.calling g mk a).vm := Vm.Alike.refl U.vm
  refine ⟨q0, ⟨q1, qP, va_K.moved (u := U) (U := U.calling g mk a) hal qK, qD⟩, ⟨vx_Zq.moved (u := U) (U := U.calling g mk a) hal h1, vx_Zq.moved (u := U) (U := U.calling g mk a) hal h2, ⟨va_Nw.same rfl rfl h3, va_Nw.same rfl rfl h4, va_Nw.same rfl rfl h5⟩, ⟨va_Nw.same rfl rfl k1, va_Nw.same rfl rfl k2, va_Nw.same rfl rfl k3⟩, fun it hi => ?_⟩, ⟨va_Nc.moved (u := U) (U := U.calling g mk a) hal n1, va_Nc.moved (u := U) (U := U.calling g mk a) hal n2, va_Nc.moved (u := U) (U := U.calling g mk a) hal n3⟩, va_Nw.same rfl rfl qN⟩
  obtain ⟨sa, h⟩ := h6 it hi
  exact ⟨sa, vk_R.same (u := U) (U := U.calling g mk a) rfl h⟩
abbrev zLi {S : Type} (l : Launch) (y : MethodName) (ws : List Cond) (rm : Room) (n0 : Nat) (D : va_G) (av : List Value) (Wd : va_W) (tys : List (ClassId × FieldType)) (sz : Nat) (post : Int32 → S → Prop) (Wn : S → va_W) (mc ms : Nat) : Prop := Met l y ws rm (zPx n0 D av Wd tys sz) (va_Qi post (zB D Wn (va_A Wd sz)) (va_A Wd sz)) mc ms (va_A Wd sz)
theorem zLi_of {l : Launch} {y : MethodName} {ws ws' : List Cond} {rm : Room} {n0 : Nat} {D : va_G} {av : List Value} {Wd : va_W} {tys : List (ClassId × FieldType)} {cc : ByteArray} {maxL : Nat} {hh : List (Nat × Nat × Nat × Nat)} {S : Type} {Wn : S → va_W} {mc ms sz : Nat} {post : Int32 → S → Prop} (hy : plainName y.cls = true) (hw : ws = Cond.codeWith y cc maxL (some .int) hh :: ws') (hle : (lg_sl av).length ≤ maxL)
    (body : ∀ (p : Program) (e : Env) (s : State) (m : MethodId) (args : Array Value) (below : List Frame) (meth : Method) (c : Code) (Q : State → Prop) (ls : Array Slot) (A : Nat → Prop), zAt p s m c args cc maxL y.cls ws av ls → va_P D vwCl Wd s.heap → va_K D vwCl tys s → zE n0 s → zNc s → zN s → c.exceptionTable.toList = tableOf hh → va_D A Wd → (∀ q, s.heap.size ≤ q → A q) →
      (∀ (v : Int32) (u : S) (pc : Nat) (ls : Array Slot) (H : Heap) (locs : List Loc), post v u → va_P D vwCl (Wn u) H → va_D A (Wn u) → va_S A s.heap H locs → decode cc pc = .ok (.ireturn, 1) → W p l e rm s m args below meth c H locs mc ms Q (F0 m pc ls [.int v])) →
      W p l e rm s m args below meth c s.heap [] 0 0 Q (F0 m 0 ls [])) : zLi l y ws rm n0 D av Wd tys sz post Wn mc ms := by
  refine va_MetW (cc := cc) (maxL := maxL) (ret := some .int) (hh := hh) hy hw ?_
  intro p e s m args below meth c s₁ B hml hv
  obtain ⟨rfl, ⟨hsz, hP, hK, hD0⟩, hE, hNc, hN⟩ := hv
  subst hsz
  have hD := hD0.self (sz := s.heap.size)
  have hl := lv_entry av (n := maxL) hle
  rw [lg_entry_eq]
  generalize (lg_sl av ++ List.replicate (maxL - (lg_sl av).length) Slot.unset).toArray = ls at hl ⊢
  have hlocks := B.notSynchronized
  have hts : ∀ w ∈ ws, w.before _ s = true := atoms_spec (ws := ws) B.pre
  have ht := vx_table (x := y) B (hts _ (by rw [hw]; exact List.mem_cons_self))
  exact body p e s m _ below meth c _ ls (va_A Wd s.heap.size) ⟨B.exec, B.bytes, hml, findClass_of_methodNamed B.named, hts, hl⟩ hP hK hE hNc hN ht hD (fun q h => Or.inr h) (fun v u pc ls H locs hp hP1 hD1 hS1 hdg => W.zret B.exec B.bytes B.returns rfl (fun t ht _ => ⟨⟨v, u, rfl, hp, by rw [ht]; exact hP1, hD1⟩, hS1.F ht⟩) hS1.2.2 hdg hlocks)
theorem z_keepP {D : va_G} {cl : List vw_C} {ws : va_W} {H H1 : Heap} (hP : va_P D cl ws H) (hk : ∀ a : Nat, a < H.size → H1[a]? = H[a]?) : va_P D cl ws H1 := hP.kept (fun k q h => hk _ (vx_lt hP h))
section ZC
variable {p : Program} {l : Launch} {e : Env} {R : Room} {s : State} {m : MethodId} {args : Array Value} {below : List Frame} {meth : Method} {c : Code} {Q : State → Prop}
variable {cc : ByteArray} {pc : Nat} {ls : Array Slot} {rest st0 : List Value} {D : va_G} {Wd : va_W} {tysC : List (ClassId × FieldType)}
variable {y : MethodName} {bytes : ByteArray} {maxL nL n index n0 : Nat} {ret : Option FieldType} {wsY : List Cond} {rm : Room} {Ts : List Cond} {own C : String} {As : List Value} {E : String} {b : Addr}
theorem z_callC {Qa : State → Outcome → State → Prop} (hQ : ∀ a b d, ¬ Qa a b d) (hr : vx_Run p l e R s m args below meth c s.heap [] 0 0 1 6 (F0 m pc ls st0) rest Qa (zTX E) (fun _ => False))
    (kx : ∀ (H1 : Heap) (q : Addr) (ce : Cell), s.heap.size ≤ H1.size → (∀ a : Nat, a < s.heap.size → H1[a]? = s.heap[a]?) → H1[q]? = some ce → ce.vm = .none → s.vm.findClass E = some ce.cls → vx_W p l e R s m args below meth c H1 [] 1 6 Q (F0 m pc ls rest) q) :
    W p l e R s m args below meth c s.heap [] 0 0 Q (F0 m pc ls st0) := by
  intro T hT X
  rcases hr T hT X with ⟨v, st₀, t, T', L, h0, X', hL, e1, e2, hF, st⟩ | ⟨q, st₀, t, T', L, E', ce, h0, X', hL, e1, e2, ⟨rfl, hz, hk⟩, hce, hcv, hcl, st⟩
  · exact (hQ _ _ _ hF).elim
  · rw [h0] at hz hk
    have hL0 : L = [] := List.eq_nil_iff_forall_not_mem.mpr (fun z hz => hL z hz)
    subst hL0
    obtain ⟨t2, a1, b1⟩ := kx T'.heap q ce (by rw [e1]; exact hz) (fun a ha => by rw [e1]; exact hk a ha) (by rw [e1]; exact hce) hcv hcl T' rfl X'
    exact ⟨t2, st.trans a1, b1⟩
/-- a call of the class that throws -/
theorem z_tVc (S : CallFix p m c cc nL s args Ts own) (hM : zTh l y wsY rm n0 D (.ref b :: As) Wd tysC E) (cw : CallW R s args own C index y bytes maxL ret wsY rm 1 6 n) (hv : ∃ cellB : Cell, s.heap[b]? = some cellB ∧ cellB.vm.isStatics = false ∧ s.vm.findClass C = some cellB.cls) (hP : va_P D vwCl Wd s.heap) (hK : va_K D vwCl tysC s) (hE : zE n0 s) (hn : As.length = n) (hsize : ls.size = nL) (hstack : st0 = As.reverse ++ .ref b :: rest) (hW : (rest.map fun v => v.category).sum ≤ 8) (hdg : decode cc pc = .ok (.invokevirtual index, 3)) (hf : 0 + 1 ≤ R.cells ∧ 0 + 6 ≤ R.slots)
    (kx : ∀ (H1 : Heap) (q : Addr) (ce : Cell), s.heap.size ≤ H1.size → (∀ a : Nat, a < s.heap.size → H1[a]? = s.heap[a]?) → H1[q]? = some ce → ce.vm = .none → s.vm.findClass E = some ce.cls → vx_W p l e R s m args below meth c H1 [] 1 6 Q (F0 m pc ls rest) q) :
    W p l e R s m args below meth c s.heap [] 0 0 Q (F0 m pc ls st0) :=
  z_callC (fun _ _ _ h => h) (vx_runV (As := As) (rest := rest) S hM cw ⟨zPt_blind, hv, fun U hU hW => ⟨rfl, ⟨by rw [hU]; exact hP, va_K.moved hW.alike hK⟩, hE.warm hW hU⟩⟩ rfl hn hsize hstack (lv_room hW) hdg hf) kx
end ZC
theorem z_keepS {A : Nat → Prop} {s : State} {H1 : Heap} (hz : s.heap.size ≤ H1.size) (hk : ∀ a : Nat, a < s.heap.size → H1[a]? = s.heap[a]?) : va_S A s.heap H1 [] := ⟨hz, fun q hq _ => hk q hq, fun _ h => nomatch h⟩
section ZL
variable {p : Program} {l : Launch} {e : Env} {R : Room} {s : State} {m : MethodId} {args : Array Value} {below : List Frame} {meth : Method} {c : Code} {H : Heap} {locs : List Loc} {cells slots : Nat} {Q : State → Prop}
variable {cc : ByteArray} {pc : Nat} {ls : Array Slot} {rest st0 : List Value} {D : va_G} {cl : List vw_C} {Wd ws : va_W} {tys tysC : List (ClassId × FieldType)} {A A0 : Nat → Prop} {H0 : Heap} {a : Nat}
theorem z_last (hx : p.tables.exec = Jvm.exec) (hb : c.code = cc) (hK : va_K D cl tys s) (hP : va_P D cl ws H) (hD : va_D A ws) (hS : va_S A H0 H locs) (q0 t0 k : Nat) {cA : ClassId} {n : Nat} {f : Nat → Int64} (ha : ws[q0]? = some (a, .inl (cA, n, .inr (.inl f)))) (ht : tys[t0]? = some (cA, .long)) (hk : k < n) (hn : n < 2 ^ 31) {x : Int64} (hdg : decode cc pc = .ok (.lastore, 1))
    (kk : ∀ (H1 : Heap) (locs1 : List Loc), va_P D cl (ws.set q0 (a, .inl (cA, n, .inr (.inl (vp_updL f k x))))) H1 → va_D A (ws.set q0 (a, .inl (cA, n, .inr (.inl (vp_updL f k x))))) → va_S A H0 H1 locs1 → W p l e R s m args below meth c H1 locs1 cells slots Q (F0 m (pc + 1) ls rest)) : W p l e R s m args below meth c H locs cells slots Q (F0 m pc ls (.long x :: .int (nI k) :: .ref a :: rest)) :=
  va_last hx hb hK hP hD hS q0 t0 ha ht (vp_in_nI hk hn) hdg (by rw [nI_clamp (Nat.lt_trans hk hn)]; exact kk)
theorem z_lald (hx : p.tables.exec = Jvm.exec) (hb : c.code = cc) (hK : va_K D cl tys s) (hP : va_P D cl ws H) (q0 t0 k : Nat) {cA : ClassId} {n : Nat} {f : Nat → Int64} (ha : ws[q0]? = some (a, .inl (cA, n, .inr (.inl f)))) (ht : tys[t0]? = some (cA, .long)) (hk : k < n) (hn : n < 2 ^ 31) (hdg : decode cc pc = .ok (.laload, 1))
    (kk : W p l e R s m args below meth c H locs cells slots Q (F0 m (pc + 1) ls (.long (f k) :: rest))) : W p l e R s m args below meth c H locs cells slots Q (F0 m pc ls (.int (nI k) :: .ref a :: rest)) :=
  va_lald hx hb hK hP q0 t0 ha ht (vp_in_nI hk hn) hdg (by rw [nI_clamp (Nat.lt_trans hk hn)]; exact kk)
variable {y : MethodName} {bytes : ByteArray} {maxL nL mc ms n index n0 : Nat} {ret : Option FieldType} {wsY : List Cond} {rm : Room} {Ts : List Cond} {own C host : String} {b : Addr} {As : List Value} {hh : List (Nat × Nat × Nat × Nat)}
/-- the law calls a wrapper -/
theorem z_xWSx {S' : Type} {post : Int32 → S' → Prop} {Wn : S' → va_W} {wr : va_W} (S : CallFix p m c cc nL s args Ts own) (hM : zLi l y wsY rm n0 D As Wd tysC H.size post Wn mc ms) (cw : vx_CSW R s args own index y bytes maxL ret hh wsY rm mc ms n) (hE : ∀ U : State, U.heap = H → s.WarmedH U.vm → zE n0 U ∧ zNc U ∧ zN U)
    (hP : va_P D vwCl (wr ++ Wd) H) (hD : va_D A0 (wr ++ Wd)) (hS : va_S A0 H0 H locs) (hA : ∀ q, H0.size ≤ q → A0 q) (hK : va_K D vwCl tysC s)
    (hn : As.length = n) (hsize : ls.size = nL) (hstack : st0 = As.reverse ++ rest) (hW : (rest.map fun v => v.category).sum ≤ 8) (hdg : decode cc pc = .ok (.invokestatic index, 3)) (hf : cells + mc ≤ R.cells ∧ slots + ms ≤ R.slots)
    (kk : ∀ (r : Int32) (u : S') (H1 : Heap) (locs1 : List Loc), post r u → va_P D vwCl (wr ++ Wn u) H1 → va_D A0 (wr ++ Wn u) → va_S A0 H0 H1 locs1 → W p l e R s m args below meth c H1 locs1 (cells + mc) (slots + ms) Q (F0 m (pc + 3) ls (.int r :: rest))) : W p l e R s m args below meth c H locs cells slots Q (F0 m pc ls st0) := by
  have hPc : va_P D vwCl Wd H := (z_reord (ws' := Wd) (fun q h => List.mem_append_right _ h) (fun a => by rw [List.map_append, List.count_append]; omega) hP hD).1
  have hDc : va_D A0 Wd := (z_reord (ws' := Wd) (fun q h => List.mem_append_right _ h) (fun a => by rw [List.map_append, List.count_append]; omega) hP hD).2
  have hFc := va_free (wc := Wd) hD hS hA ((List.range Wd.length).map (fun i => i + wr.length)) z_plC
  refine va_calli (vx_runSW (As := As) (rest := rest) S hM cw ⟨zPx_blind, fun U hU hW => ⟨rfl, ⟨by rw [hU], by rw [hU]; exact hPc, va_K.moved hW.alike hK, hDc.weaken (fun _ _ _ _ => trivial)⟩, (hE U hU hW).1, (hE U hU hW).2.1, (hE U hU hW).2.2⟩⟩ rfl hn hsize hstack (lv_room hW) hdg hf) hS (fun q _ h => hFc q h) hFc (fun r u t H1 locs1 ht hvm hw hB hz1 hk1 hS1 => ?_)
  obtain ⟨hP1, hD1⟩ := hB
  rw [ht] at hP1
  obtain ⟨hP2, hD2⟩ := z_join2 (wr := wr) hP hD hk1 hFc hP1 hD1
  exact kk r u H1 locs1 hw hP2 hD2 hS1
end ZL
theorem zE.at {n0 : Nat} {s U : State} {H : Heap} {locs : List Loc} (h : zE n0 s) (hn : n0 ≤ s.heap.size) (hS : va_S (fun q => n0 ≤ q) s.heap H locs) (hW : s.WarmedH U.vm) (hH : U.heap = H) : zE n0 U := by
  obtain ⟨h1, h2, ⟨h3, h4, h5⟩, ⟨k1, k2, k3⟩, h6⟩ := h
  refine ⟨?_, ?_, ⟨va_Nw.warmC hW h3, va_Nw.warmC hW h4, va_Nw.warmC hW h5⟩, ⟨va_Nw.warmD hW k1, va_Nw.warmD hW k2, va_Nw.warmD hW k3⟩, fun it hi => ?_⟩
  · rw [hH]; exact vx_Zq.moved hW.alike (h1.kept (fun a ha hn => hS.2.1 a ha hn))
  · rw [hH]; exact vx_Zq.moved hW.alike (h2.kept (fun a ha hn => hS.2.1 a ha hn))
  · obtain ⟨sa, h⟩ := h6 it hi
    exact ⟨sa, vk_R.warm hW h⟩
theorem zNc.at {s U : State} (h : zNc s) (hW : s.WarmedH U.vm) : zNc U := ⟨va_Nc.moved hW.alike h.1, va_Nc.moved hW.alike h.2.1, va_Nc.moved hW.alike h.2.2⟩
