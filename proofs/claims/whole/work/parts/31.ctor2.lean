section ZM3
theorem z_exq {D : va_G} {cl : List vw_C} {H : Heap} {ob : Nat × va_E} {a : Nat} {cA : ClassId} {n : Nat} {f g : Nat → Option Nat} {ws : va_W} (h : ∀ k, k < n → f k = g k) (hP : va_P D cl ([ob, (a, .inl (cA, n, .inr (.inr (.inr (.inr f)))))] ++ ws) H) : va_P D cl ([ob, (a, .inl (cA, n, .inr (.inr (.inr (.inr g)))))] ++ ws) H := by
  have e : vp_cell cA (n, .inr (.inr (.inr (.inr f)))) = vp_cell cA (n, .inr (.inr (.inr (.inr g)))) := by
    show arrV cA n (fun j => va_rf (f j)) = arrV cA n (fun j => va_rf (g j))
    unfold arrV
    refine congrArg (fun x : Array Value => ({ cls := cA, slots := x, vm := .none } : Cell)) (congrArg (fun x : Fin n → Value => Array.ofFn x) (funext fun j => ?_))
    show va_rf (f j.1) = va_rf (g j.1)
    rw [h j.1 j.2]
  intro k q hk
  match k with
  | 0 => exact hP 0 q hk
  | 1 =>
    have hq : (a, .inl (cA, n, .inr (.inr (.inr (.inr g))))) = q := Option.some.inj hk
    subst hq
    have := hP 1 _ rfl
    show H[a]? = some (vp_cell cA (n, .inr (.inr (.inr (.inr g)))))
    rw [← e]
    exact this
  | k + 2 => exact hP (k + 2) q hk
theorem z_exD {A : Nat → Prop} {ws ws' : va_W} (h : ws'.map Prod.fst = ws.map Prod.fst) (hD : va_D A ws) : va_D A ws' := by
  have key : ∀ (i : Nat) (p : Nat × va_E), ws'[i]? = some p → ∃ p0, ws[i]? = some p0 ∧ p0.1 = p.1 := by
    intro i p hi
    have e1 : (ws'.map Prod.fst)[i]? = some p.1 := by rw [List.getElem?_map, hi]; rfl
    rw [h, List.getElem?_map] at e1
    cases hw : ws[i]? with
    | none => rw [hw] at e1; cases e1
    | some p0 => rw [hw] at e1; exact ⟨p0, rfl, Option.some.inj e1⟩
  refine ⟨fun i j p q hi hj e => ?_, fun k q hk => ?_⟩
  · obtain ⟨p0, h1, h2⟩ := key i p hi
    obtain ⟨q0, h3, h4⟩ := key j q hj
    exact hD.1 i j p0 q0 h1 h3 (h2.trans (e.trans h4.symm))
  · obtain ⟨p0, h1, h2⟩ := key k q hk
    rw [← h2]
    exact hD.2 k p0 h1
/-- what the constructors ask for beside their words -/
abbrev zM3 (U : State) : Prop := va_AO RX1 U ∧ va_Nw (.methodLinkNest RX3 28 yX2_init RX3) U
def zPwM (D : va_G) (av : List Value) (Wd : va_W) (tys : List (ClassId × FieldType)) (sz : Nat) : Array Value → State → Prop := va_Pc av (fun U => (U.heap.size = sz ∧ va_P D vwCl Wd U.heap ∧ va_K D vwCl tys U ∧ va_D (fun _ => True) Wd) ∧ zM3 U)
theorem zPwM_blind {D : va_G} {av : List Value} {Wd : va_W} {tys : List (ClassId × FieldType)} {sz : Nat} : FrameBlind (zPwM D av Wd tys sz) := by
  intro a U g mk q
  obtain ⟨q0, ⟨q1, qP, qK, qD⟩, qN⟩ := q
  exact ⟨q0, ⟨q1, qP, va_K.moved (u := U) (U := U.calling g mk a) (Vm.Alike.refl U.vm) qK, qD⟩, va_AO.moved (u := U) (U := U.calling g mk a) (Vm.Alike.refl U.vm) qN.1, va_Nw.same rfl rfl qN.2⟩
abbrev zWvM {S : Type} (l : Launch) (y : MethodName) (ws : List Cond) (rm : Room) (D : va_G) (av : List Value) (Wd : va_W) (tys : List (ClassId × FieldType)) (sz : Nat) (post : S → Prop) (Wn : S → va_W) (mc ms : Nat) : Prop := Met l y ws rm (zPwM D av Wd tys sz) (va_Qv post (zB D Wn (va_A Wd sz)) (va_A Wd sz)) mc ms (va_A Wd sz)
variable {l : Launch} {y : MethodName} {ws ws' : List Cond} {rm : Room} {D : va_G} {av : List Value} {Wd : va_W} {tys : List (ClassId × FieldType)} {cc : ByteArray} {maxL : Nat} {ty : FieldType}
variable {S : Type} {Wn : S → va_W} {mc ms sz : Nat}
theorem zWvM_of {post : S → Prop} (hy : plainName y.cls = true) (hw : ws = Cond.code y cc maxL none :: ws') (hle : (lg_sl av).length ≤ maxL)
    (body : ∀ (p : Program) (e : Env) (s : State) (m : MethodId) (args : Array Value) (below : List Frame) (meth : Method) (c : Code) (Q : State → Prop) (ls : Array Slot) (A : Nat → Prop), zAt p s m c args cc maxL y.cls ws av ls → meth.name = y.name → va_P D vwCl Wd s.heap → va_K D vwCl tys s → zM3 s → va_D A Wd → (∀ q, s.heap.size ≤ q → A q) →
      (∀ (u : S) (pc : Nat) (ls : Array Slot) (H : Heap) (locs : List Loc), post u → va_P D vwCl (Wn u) H → va_D A (Wn u) → va_S A s.heap H locs → decode cc pc = .ok (.return_, 1) → W p l e rm s m args below meth c H locs mc ms Q (F0 m pc ls [])) →
      W p l e rm s m args below meth c s.heap [] 0 0 Q (F0 m 0 ls [])) : zWvM l y ws rm D av Wd tys sz post Wn mc ms := by
  refine Met.ofW (cc := cc) (maxL := maxL) (ret := none) hy hw ?_
  intro p e s m args below meth c s₁ B hml hv
  obtain ⟨rfl, ⟨hsz, hP, hK, hD0⟩, hN⟩ := hv
  subst hsz
  have hD := hD0.self (sz := s.heap.size)
  have hl := lv_entry av (n := maxL) hle
  rw [lg_entry_eq]
  generalize (lg_sl av ++ List.replicate (maxL - (lg_sl av).length) Slot.unset).toArray = ls at hl ⊢
  have hlocks := B.notSynchronized
  exact body p e s m _ below meth c _ ls (va_A Wd s.heap.size) ⟨B.exec, B.bytes, hml, findClass_of_methodNamed B.named, atoms_spec (ws := ws) B.pre, hl⟩ (name_of_methodNamed B.named B.method).1 hP hK hN hD (fun q h => Or.inr h) (fun u pc ls H locs hp hP1 hD1 hS1 hdg => W.vret B.exec B.bytes B.returns (fun t ht _ => ⟨⟨u, rfl, hp, by rw [ht]; exact hP1, hD1⟩, hS1.F ht⟩) hS1.2.2 hdg hlocks)
end ZM3
section ZMC
variable {p : Program} {l : Launch} {e : Env} {R : Room} {s : State} {m : MethodId} {args : Array Value} {below : List Frame} {meth : Method} {c : Code} {H : Heap} {locs : List Loc} {cells slots : Nat} {Q : State → Prop}
variable {cc : ByteArray} {pc : Nat} {ls : Array Slot} {rest st0 : List Value} {D : va_G} {Wd ws : va_W} {tys tysC : List (ClassId × FieldType)} {A0 : Nat → Prop} {H0 : Heap}
variable {y : MethodName} {bytes : ByteArray} {maxL nL mc ms n index : Nat} {ret : Option FieldType} {wsY : List Cond} {rm : Room} {Ts : List Cond} {own C host : String} {b : Addr} {As : List Value}
theorem z_xWIM {S' : Type} {post : S' → Prop} {Wn : S' → va_W} {wr : va_W} (S : CallFix p m c cc nL s args Ts own) (hM : zWvM l y wsY rm D (.ref b :: As) Wd tysC H.size post Wn mc ms) (cw : CallB R s args own index y bytes maxL none wsY rm mc ms n ∧ y.name = "<init>" ∧ (Cond.instanceMethod y).before args s = true)
    (hP : va_P D vwCl (wr ++ Wd) H) (hD : va_D A0 (wr ++ Wd)) (hS : va_S A0 H0 H locs) (hA : ∀ q, H0.size ≤ q → A0 q) (hK : va_K D vwCl tysC s) (hN : zM3 s)
    (hn : As.length = n) (hsize : ls.size = nL) (hstack : st0 = As.reverse ++ .ref b :: rest) (hW : (rest.map fun v => v.category).sum ≤ 8) (hdg : decode cc pc = .ok (.invokespecial index, 3)) (hf : cells + mc ≤ R.cells ∧ slots + ms ≤ R.slots)
    (kk : ∀ (u : S') (H1 : Heap) (locs1 : List Loc), post u → va_P D vwCl (wr ++ Wn u) H1 → va_D A0 (wr ++ Wn u) → va_S A0 H0 H1 locs1 → W p l e R s m args below meth c H1 locs1 (cells + mc) (slots + ms) Q (F0 m (pc + 3) ls rest)) : W p l e R s m args below meth c H locs cells slots Q (F0 m pc ls st0) := by
  have hPc : va_P D vwCl Wd H := (z_reord (ws' := Wd) (fun q h => List.mem_append_right _ h) (fun a => by rw [List.map_append, List.count_append]; omega) hP hD).1
  have hDc : va_D A0 Wd := (z_reord (ws' := Wd) (fun q h => List.mem_append_right _ h) (fun a => by rw [List.map_append, List.count_append]; omega) hP hD).2
  have hFc := va_free (wc := Wd) hD hS hA ((List.range Wd.length).map (fun i => i + wr.length)) z_plC
  refine va_callv (va_runI (As := As) (rest := rest) S hM cw ⟨zPwM_blind, fun U hU hW => ⟨rfl, ⟨by rw [hU], by rw [hU]; exact hPc, va_K.moved hW.alike hK, hDc.weaken (fun _ _ _ _ => trivial)⟩, va_AO.moved hW.alike hN.1, va_Nw.warmM hW hN.2⟩⟩ rfl hn hsize hstack (lv_room hW) hdg hf) hS (fun q _ h => hFc q h) hFc (fun u t H1 locs1 ht hvm hw hB hz1 hk1 hS1 => ?_)
  obtain ⟨hP1, hD1⟩ := hB
  rw [ht] at hP1
  obtain ⟨hP2, hD2⟩ := z_join2 (wr := wr) hP hD hk1 hFc hP1 hD1
  exact kk u H1 locs1 hw hP2 hD2 hS1
theorem z_xWIN0 {S' : Type} {post : S' → Prop} {Wn : S' → va_W} {wr : va_W} (S : CallFix p m c cc nL s args Ts own) (hM : zWv l y wsY rm D (.ref b :: As) Wd tysC H.size post Wn mc ms) (cw : va_CN R s args own index y host bytes maxL none wsY rm mc ms n ∧ y.name = "<init>" ∧ (Cond.instanceMethod y).before args s = true)
    (hP : va_P D vwCl (wr ++ Wd) H) (hD : va_D A0 (wr ++ Wd)) (hS : va_S A0 H0 H locs) (hA : ∀ q, H0.size ≤ q → A0 q) (hK : va_K D vwCl tysC s)
    (hn : As.length = n) (hsize : ls.size = nL) (hstack : st0 = As.reverse ++ .ref b :: rest) (hW : (rest.map fun v => v.category).sum ≤ 8) (hdg : decode cc pc = .ok (.invokespecial index, 3)) (hf : cells + mc ≤ R.cells ∧ slots + ms ≤ R.slots)
    (kk : ∀ (u : S') (H1 : Heap) (locs1 : List Loc), post u → va_P D vwCl (wr ++ Wn u) H1 → va_D A0 (wr ++ Wn u) → va_S A0 H0 H1 locs1 → W p l e R s m args below meth c H1 locs1 (cells + mc) (slots + ms) Q (F0 m (pc + 3) ls rest)) : W p l e R s m args below meth c H locs cells slots Q (F0 m pc ls st0) := by
  have hPc : va_P D vwCl Wd H := (z_reord (ws' := Wd) (fun q h => List.mem_append_right _ h) (fun a => by rw [List.map_append, List.count_append]; omega) hP hD).1
  have hDc : va_D A0 Wd := (z_reord (ws' := Wd) (fun q h => List.mem_append_right _ h) (fun a => by rw [List.map_append, List.count_append]; omega) hP hD).2
  have hFc := va_free (wc := Wd) hD hS hA ((List.range Wd.length).map (fun i => i + wr.length)) z_plC
  refine va_callv (va_runIN (As := As) (rest := rest) S hM cw ⟨zPw_blind, fun U hU hW => ⟨rfl, by rw [hU], by rw [hU]; exact hPc, va_K.moved hW.alike hK, hDc.weaken (fun _ _ _ _ => trivial)⟩⟩ rfl hn hsize hstack (lv_room hW) hdg hf) hS (fun q _ h => hFc q h) hFc (fun u t H1 locs1 ht hvm hw hB hz1 hk1 hS1 => ?_)
  obtain ⟨hP1, hD1⟩ := hB
  rw [ht] at hP1
  obtain ⟨hP2, hD2⟩ := z_join2 (wr := wr) hP hD hk1 hFc hP1 hD1
  exact kk u H1 locs1 hw hP2 hD2 hS1
theorem z_newq {own C0 : String} (hx : p.tables.exec = Jvm.exec) (hb : c.code = cc) (hown : s.vm.findClass own = some m.cls) (hcl : (Cond.classLink own index C0).before args s = true) (hover : va_AO C0 s) (hK : va_K D vwCl tys s) (hP : va_P D vwCl ws H) (hD : va_D A0 ws) (hS : va_S A0 H0 H locs) (hA : ∀ q, H0.size ≤ q → A0 q) (t0 : Nat) {cQ : ClassId} (ht : tys[t0]? = some (cQ, .object C0))
    (N : Nat) (hN : N < 2 ^ 20) (hcells : cells + 1 ≤ R.cells) (hslots : slots + N ≤ R.slots) (hdg : decode cc pc = .ok (.anewarray index, 3))
    (kk : ∀ (q : Nat) (H1 : Heap), va_P D vwCl (ws ++ [(q, .inl (cQ, N, .inr (.inr (.inr (.inr (fun _ => none))))))]) H1 → va_D A0 (ws ++ [(q, .inl (cQ, N, .inr (.inr (.inr (.inr (fun _ => none))))))]) → va_S A0 H0 H1 locs →
      W p l e R s m args below meth c H1 locs (cells + 1) (slots + N) Q (F0 m (pc + 3) ls (.ref q :: rest))) : W p l e R s m args below meth c H locs cells slots Q (F0 m pc ls (.int (nI N) :: rest)) := by
  refine va_newq (N' := N) hx hb hown hcl hover hK hP hD hS hA (nI_pos (by omega)) (nI_clamp (by omega)) (by omega) hcells hslots hdg (fun q cA H1 hK1 hP1 hD1 hS1 => ?_)
  obtain ⟨k1, c1, -, -, -, e1⟩ := (hK.2 t0 _ ht).2
  obtain ⟨k2, c2, -, -, -, e2⟩ := (hK1.2 tys.length (cA, .object C0) (by simp)).2
  have h3 : cA = cQ := Option.some.inj (e2.symm.trans e1)
  subst h3
  exact kk q H1 hP1 hD1 hS1
theorem z_astq (hx : p.tables.exec = Jvm.exec) (hb : c.code = cc) (hK : va_K D vwCl tys s) (hP : va_P D vwCl ws H) (hD : va_D A0 ws) (hS : va_S A0 H0 H locs) (q0 t0 qk ci k : Nat) {a : Nat} {cA : ClassId} {r : vw_C} {N v : Nat} {vs : List Value} {f : Nat → Option Nat} (ha : ws[q0]? = some (a, .inl (cA, N, .inr (.inr (.inr (.inr f)))))) (ht : tys[t0]? = some (cA, .object r.1)) (hv : ws[qk]? = some (v, .inr (ci, vs))) (hc : vwCl[ci]? = some r) (hk : k < N) (hN : N < 2 ^ 31) (hdg : decode cc pc = .ok (.aastore, 1))
    (kk : ∀ (H1 : Heap) (locs1 : List Loc), va_P D vwCl (ws.set q0 (a, .inl (cA, N, .inr (.inr (.inr (.inr (va_up f k (some v)))))))) H1 → va_D A0 (ws.set q0 (a, .inl (cA, N, .inr (.inr (.inr (.inr (va_up f k (some v)))))))) → va_S A0 H0 H1 locs1 → W p l e R s m args below meth c H1 locs1 cells slots Q (F0 m (pc + 1) ls rest)) : W p l e R s m args below meth c H locs cells slots Q (F0 m pc ls (.ref v :: .int (nI k) :: .ref a :: rest)) :=
  va_astq hx hb hK hP hD hS q0 t0 qk ci ha ht hv hc (vp_in_nI hk hN) hdg (by rw [nI_clamp (Nat.lt_trans hk hN)]; exact kk)
end ZMC
