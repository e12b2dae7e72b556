/-! the saved states: a ring of rows -/
section ZQ
variable {p : Program} {l : Launch} {e : Env} {R : Room} {s : State} {m : MethodId} {args : Array Value} {below : List Frame} {meth : Method} {c : Code} {H : Heap} {locs : List Loc} {cells slots : Nat} {Q : State → Prop}
variable {cc : ByteArray} {pc : Nat} {ls : Array Slot} {rest : List Value} {D : va_G} {cl : List vw_C} {ws : va_W} {tys : List (ClassId × FieldType)} {a : Nat}
theorem z_aldq {C : String} (hx : p.tables.exec = Jvm.exec) (hb : c.code = cc) (hK : va_K D cl tys s) (hP : va_P D cl ws H) (q0 t0 k : Nat) {cA : ClassId} {n v : Nat} {f : Nat → Option Nat} (ha : ws[q0]? = some (a, .inl (cA, n, .inr (.inr (.inr (.inr f)))))) (ht : tys[t0]? = some (cA, .object C)) (hf : f k = some v) (hk : k < n) (hn : n < 2 ^ 31) (hdg : decode cc pc = .ok (.aaload, 1))
    (kk : W p l e R s m args below meth c H locs cells slots Q (F0 m (pc + 1) ls (.ref v :: rest))) : W p l e R s m args below meth c H locs cells slots Q (F0 m pc ls (.int (nI k) :: .ref a :: rest)) :=
  va_aldq hx hb hK hP q0 t0 ha ht (vp_in_nI hk hn) hdg (by rw [nI_clamp (Nat.lt_trans hk hn), hf]; exact kk)
end ZQ
theorem z_reord {D : va_G} {cl : List vw_C} {ws ws' : va_W} {H : Heap} {A : Nat → Prop} (hm : ∀ q, q ∈ ws' → q ∈ ws) (hc : ∀ a : Nat, (ws'.map Prod.fst).count a ≤ (ws.map Prod.fst).count a) (hP : va_P D cl ws H) (hD : va_D A ws) : va_P D cl ws' H ∧ va_D A ws' := by
  have nod : (ws.map Prod.fst).Nodup := by
    refine List.pairwise_iff_getElem.mpr fun i j hi hj hij => ?_
    rw [List.length_map] at hi hj
    rw [List.getElem_map, List.getElem_map]
    intro q
    have := hD.1 i j _ _ (List.getElem?_eq_getElem hi) (List.getElem?_eq_getElem hj) q
    omega
  have nod' : (ws'.map Prod.fst).Nodup := List.nodup_iff_count.mpr fun a => Nat.le_trans (hc a) (List.nodup_iff_count.mp nod a)
  have key : ∀ (i j : Nat) (p q : Nat × va_E), i < j → ws'[i]? = some p → ws'[j]? = some q → ¬ p.1 = q.1 := by
    intro i j p q hij hi hj e
    obtain ⟨li, ei⟩ := List.getElem?_eq_some_iff.mp hi
    obtain ⟨lj, ej⟩ := List.getElem?_eq_some_iff.mp hj
    have := List.pairwise_iff_getElem.mp nod' i j (by rw [List.length_map]; exact li) (by rw [List.length_map]; exact lj) hij
    rw [List.getElem_map, List.getElem_map, ei, ej] at this
    exact this e
  refine ⟨fun k q hk => ?_, fun i j p q hi hj e => ?_, fun k q hk => ?_⟩
  · obtain ⟨i, hi⟩ := List.getElem?_of_mem (hm q (List.mem_of_getElem? hk))
    exact hP i q hi
  · rcases Nat.lt_trichotomy i j with h | h | h
    · exact absurd e (key i j p q h hi hj)
    · exact h
    · exact absurd e.symm (key j i q p h hj hi)
  · obtain ⟨i, hi⟩ := List.getElem?_of_mem (hm q (List.mem_of_getElem? hk))
    exact hD.2 i q hi
theorem va_nd_of : ∀ {l : List Nat}, l.Nodup → va_nd l = true
  | [], _ => rfl
  | a :: l, h => by
    rw [List.nodup_cons] at h
    unfold va_nd
    simp [h.1, va_nd_of h.2]
theorem z_plC {wr wc : va_W} : ((List.range wc.length).map (fun i => i + wr.length)).map (fun i => (wr ++ wc)[i]?) = wc.map some := by
  apply List.ext_getElem
  · simp
  · intro i h1 h2
    simp at h1
    simp [List.getElem?_append_right]
theorem z_plR {wr wc : va_W} : (List.range wr.length).map (fun i => (wr ++ wc)[i]?) = wr.map some := by
  apply List.ext_getElem
  · simp
  · intro i h1 h2
    simp at h1
    simp [List.getElem?_append_left h1, h1]
theorem va_nd_range (n : Nat) : va_nd (List.range n) = true := va_nd_of List.nodup_range
theorem z_join2 {A0 : Nat → Prop} {D : va_G} {cl : List vw_C} {wc wr w1 : va_W} {H H1 : Heap} (hP : va_P D cl (wr ++ wc) H) (hD : va_D A0 (wr ++ wc)) (hk : ∀ q : Nat, q < H.size → ¬ va_A wc H.size q → H1[q]? = H[q]?) (hF : ∀ q, va_A wc H.size q → A0 q) (hP1 : va_P D cl w1 H1) (hD1 : va_D (va_A wc H.size) w1) : va_P D cl (wr ++ w1) H1 ∧ va_D A0 (wr ++ w1) :=
  va_join hP hD ((List.range wc.length).map (fun i => i + wr.length)) (List.range wr.length) z_plC z_plR (va_nd_range _) (fun i hi hj => by
    obtain ⟨j, -, e⟩ := List.mem_map.mp hj
    have := List.mem_range.mp hi
    omega) hk hF hP1 hD1
section ZX
variable {p : Program} {l : Launch} {e : Env} {R : Room} {s : State} {m : MethodId} {args : Array Value} {below : List Frame} {meth : Method} {c : Code} {H : Heap} {locs : List Loc} {cells slots : Nat} {Q : State → Prop}
variable {cc : ByteArray} {pc : Nat} {ls : Array Slot} {rest st0 : List Value} {D : va_G} {Wd ws : va_W} {tys tysC : List (ClassId × FieldType)} {A0 : Nat → Prop} {H0 : Heap}
variable {y : MethodName} {bytes : ByteArray} {maxL nL mc ms n index : Nat} {ret : Option FieldType} {wsY : List Cond} {rm : Room} {Ts : List Cond} {own C host : String} {b : Addr} {As : List Value}
theorem z_xWi {S' : Type} {post : Int32 → S' → Prop} {Wn : S' → va_W} {wr : va_W} (S : CallFix p m c cc nL s args Ts own) (hM : zWi l y wsY rm D (.ref b :: As) Wd tysC H.size post Wn mc ms) (cw : CallW R s args own C index y bytes maxL ret wsY rm mc ms n) (hv : ∃ cellB : Cell, H[b]? = some cellB ∧ cellB.vm.isStatics = false ∧ s.vm.findClass C = some cellB.cls)
    (hP : va_P D vwCl (wr ++ Wd) H) (hD : va_D A0 (wr ++ Wd)) (hS : va_S A0 H0 H locs) (hA : ∀ q, H0.size ≤ q → A0 q) (hK : va_K D vwCl tysC s)
    (hn : As.length = n) (hsize : ls.size = nL) (hstack : st0 = As.reverse ++ .ref b :: rest) (hW : (rest.map fun v => v.category).sum ≤ 8) (hdg : decode cc pc = .ok (.invokevirtual index, 3)) (hf : cells + mc ≤ R.cells ∧ slots + ms ≤ R.slots)
    (kk : ∀ (r : Int32) (u : S') (H1 : Heap) (locs1 : List Loc), post r u → va_P D vwCl (wr ++ Wn u) H1 → va_D A0 (wr ++ Wn u) → va_S A0 H0 H1 locs1 → W p l e R s m args below meth c H1 locs1 (cells + mc) (slots + ms) Q (F0 m (pc + 3) ls (.int r :: rest))) : W p l e R s m args below meth c H locs cells slots Q (F0 m pc ls st0) := by
  have hPc : va_P D vwCl Wd H := (z_reord (ws' := Wd) (fun q h => List.mem_append_right _ h) (fun a => by rw [List.map_append, List.count_append]; omega) hP hD).1
  have hDc : va_D A0 Wd := (z_reord (ws' := Wd) (fun q h => List.mem_append_right _ h) (fun a => by rw [List.map_append, List.count_append]; omega) hP hD).2
  have hFc := va_free (wc := Wd) hD hS hA ((List.range Wd.length).map (fun i => i + wr.length)) z_plC
  refine va_calli (va_runV (As := As) (rest := rest) S hM cw ⟨zPw_blind, hv, fun U hU hW => ⟨rfl, by rw [hU], by rw [hU]; exact hPc, va_K.moved hW.alike hK, hDc.weaken (fun _ _ _ _ => trivial)⟩⟩ rfl hn hsize hstack (lv_room hW) hdg hf) hS (fun q _ h => hFc q h) hFc (fun r u t H1 locs1 ht hvm hw hB hz1 hk1 hS1 => ?_)
  obtain ⟨hP1, hD1⟩ := hB
  rw [ht] at hP1
  obtain ⟨hP2, hD2⟩ := z_join2 (wr := wr) hP hD hk1 hFc hP1 hD1
  exact kk r u H1 locs1 hw hP2 hD2 hS1
theorem z_xWv {S' : Type} {post : S' → Prop} {Wn : S' → va_W} {wr : va_W} (S : CallFix p m c cc nL s args Ts own) (hM : zWv l y wsY rm D (.ref b :: As) Wd tysC H.size post Wn mc ms) (cw : CallW R s args own C index y bytes maxL ret wsY rm mc ms n) (hv : ∃ cellB : Cell, H[b]? = some cellB ∧ cellB.vm.isStatics = false ∧ s.vm.findClass C = some cellB.cls)
    (hP : va_P D vwCl (wr ++ Wd) H) (hD : va_D A0 (wr ++ Wd)) (hS : va_S A0 H0 H locs) (hA : ∀ q, H0.size ≤ q → A0 q) (hK : va_K D vwCl tysC s)
    (hn : As.length = n) (hsize : ls.size = nL) (hstack : st0 = As.reverse ++ .ref b :: rest) (hW : (rest.map fun v => v.category).sum ≤ 8) (hdg : decode cc pc = .ok (.invokevirtual index, 3)) (hf : cells + mc ≤ R.cells ∧ slots + ms ≤ R.slots)
    (kk : ∀ (u : S') (H1 : Heap) (locs1 : List Loc), post u → va_P D vwCl (wr ++ Wn u) H1 → va_D A0 (wr ++ Wn u) → va_S A0 H0 H1 locs1 → W p l e R s m args below meth c H1 locs1 (cells + mc) (slots + ms) Q (F0 m (pc + 3) ls rest)) : W p l e R s m args below meth c H locs cells slots Q (F0 m pc ls st0) := by
  have hPc : va_P D vwCl Wd H := (z_reord (ws' := Wd) (fun q h => List.mem_append_right _ h) (fun a => by rw [List.map_append, List.count_append]; omega) hP hD).1
  have hDc : va_D A0 Wd := (z_reord (ws' := Wd) (fun q h => List.mem_append_right _ h) (fun a => by rw [List.map_append, List.count_append]; omega) hP hD).2
  have hFc := va_free (wc := Wd) hD hS hA ((List.range Wd.length).map (fun i => i + wr.length)) z_plC
  refine va_callv (va_runV (As := As) (rest := rest) S hM cw ⟨zPw_blind, hv, fun U hU hW => ⟨rfl, by rw [hU], by rw [hU]; exact hPc, va_K.moved hW.alike hK, hDc.weaken (fun _ _ _ _ => trivial)⟩⟩ rfl hn hsize hstack (lv_room hW) hdg hf) hS (fun q _ h => hFc q h) hFc (fun u t H1 locs1 ht hvm hw hB hz1 hk1 hS1 => ?_)
  obtain ⟨hP1, hD1⟩ := hB
  rw [ht] at hP1
  obtain ⟨hP2, hD2⟩ := z_join2 (wr := wr) hP hD hk1 hFc hP1 hD1
  exact kk u H1 locs1 hw hP2 hD2 hS1
theorem z_xWI {S' : Type} {post : S' → Prop} {Wn : S' → va_W} {wr : va_W} (S : CallFix p m c cc nL s args Ts own) (hM : zWv l y wsY rm D (.ref b :: As) Wd tysC H.size post Wn mc ms) (cw : CallB R s args own index y bytes maxL none wsY rm mc ms n ∧ y.name = "<init>" ∧ (Cond.instanceMethod y).before args s = true)
    (hP : va_P D vwCl (wr ++ Wd) H) (hD : va_D A0 (wr ++ Wd)) (hS : va_S A0 H0 H locs) (hA : ∀ q, H0.size ≤ q → A0 q) (hK : va_K D vwCl tysC s)
    (hn : As.length = n) (hsize : ls.size = nL) (hstack : st0 = As.reverse ++ .ref b :: rest) (hW : (rest.map fun v => v.category).sum ≤ 8) (hdg : decode cc pc = .ok (.invokespecial index, 3)) (hf : cells + mc ≤ R.cells ∧ slots + ms ≤ R.slots)
    (kk : ∀ (u : S') (H1 : Heap) (locs1 : List Loc), post u → va_P D vwCl (wr ++ Wn u) H1 → va_D A0 (wr ++ Wn u) → va_S A0 H0 H1 locs1 → W p l e R s m args below meth c H1 locs1 (cells + mc) (slots + ms) Q (F0 m (pc + 3) ls rest)) : W p l e R s m args below meth c H locs cells slots Q (F0 m pc ls st0) := by
  have hPc : va_P D vwCl Wd H := (z_reord (ws' := Wd) (fun q h => List.mem_append_right _ h) (fun a => by rw [List.map_append, List.count_append]; omega) hP hD).1
  have hDc : va_D A0 Wd := (z_reord (ws' := Wd) (fun q h => List.mem_append_right _ h) (fun a => by rw [List.map_append, List.count_append]; omega) hP hD).2
  have hFc := va_free (wc := Wd) hD hS hA ((List.range Wd.length).map (fun i => i + wr.length)) z_plC
  refine va_callv (va_runI (As := As) (rest := rest) S hM cw ⟨zPw_blind, fun U hU hW => ⟨rfl, by rw [hU], by rw [hU]; exact hPc, va_K.moved hW.alike hK, hDc.weaken (fun _ _ _ _ => trivial)⟩⟩ rfl hn hsize hstack (lv_room hW) hdg hf) hS (fun q _ h => hFc q h) hFc (fun u t H1 locs1 ht hvm hw hB hz1 hk1 hS1 => ?_)
  obtain ⟨hP1, hD1⟩ := hB
  rw [ht] at hP1
  obtain ⟨hP2, hD2⟩ := z_join2 (wr := wr) hP hD hk1 hFc hP1 hD1
  exact kk u H1 locs1 hw hP2 hD2 hS1
theorem z_xWSi {S' : Type} {post : Int32 → S' → Prop} {Wn : S' → va_W} {wr : va_W} (S : CallFix p m c cc nL s args Ts own) (hM : zWi l y wsY rm D As Wd tysC H.size post Wn mc ms) (cw : CallB R s args own index y bytes maxL ret wsY rm mc ms n ∧ (Cond.static y).before args s = true)
    (hP : va_P D vwCl (wr ++ Wd) H) (hD : va_D A0 (wr ++ Wd)) (hS : va_S A0 H0 H locs) (hA : ∀ q, H0.size ≤ q → A0 q) (hK : va_K D vwCl tysC s)
    (hn : As.length = n) (hsize : ls.size = nL) (hstack : st0 = As.reverse ++ rest) (hW : (rest.map fun v => v.category).sum ≤ 8) (hdg : decode cc pc = .ok (.invokestatic index, 3)) (hf : cells + mc ≤ R.cells ∧ slots + ms ≤ R.slots)
    (kk : ∀ (r : Int32) (u : S') (H1 : Heap) (locs1 : List Loc), post r u → va_P D vwCl (wr ++ Wn u) H1 → va_D A0 (wr ++ Wn u) → va_S A0 H0 H1 locs1 → W p l e R s m args below meth c H1 locs1 (cells + mc) (slots + ms) Q (F0 m (pc + 3) ls (.int r :: rest))) : W p l e R s m args below meth c H locs cells slots Q (F0 m pc ls st0) := by
  have hPc : va_P D vwCl Wd H := (z_reord (ws' := Wd) (fun q h => List.mem_append_right _ h) (fun a => by rw [List.map_append, List.count_append]; omega) hP hD).1
  have hDc : va_D A0 Wd := (z_reord (ws' := Wd) (fun q h => List.mem_append_right _ h) (fun a => by rw [List.map_append, List.count_append]; omega) hP hD).2
  have hFc := va_free (wc := Wd) hD hS hA ((List.range Wd.length).map (fun i => i + wr.length)) z_plC
  refine va_calli (va_runS (As := As) (rest := rest) S hM cw ⟨zPw_blind, fun U hU hW => ⟨rfl, by rw [hU], by rw [hU]; exact hPc, va_K.moved hW.alike hK, hDc.weaken (fun _ _ _ _ => trivial)⟩⟩ rfl hn hsize hstack (lv_room hW) hdg hf) hS (fun q _ h => hFc q h) hFc (fun r u t H1 locs1 ht hvm hw hB hz1 hk1 hS1 => ?_)
  obtain ⟨hP1, hD1⟩ := hB
  rw [ht] at hP1
  obtain ⟨hP2, hD2⟩ := z_join2 (wr := wr) hP hD hk1 hFc hP1 hD1
  exact kk r u H1 locs1 hw hP2 hD2 hS1
theorem z_xWSv {S' : Type} {post : S' → Prop} {Wn : S' → va_W} {wr : va_W} (S : CallFix p m c cc nL s args Ts own) (hM : zWv l y wsY rm D As Wd tysC H.size post Wn mc ms) (cw : CallB R s args own index y bytes maxL ret wsY rm mc ms n ∧ (Cond.static y).before args s = true)
    (hP : va_P D vwCl (wr ++ Wd) H) (hD : va_D A0 (wr ++ Wd)) (hS : va_S A0 H0 H locs) (hA : ∀ q, H0.size ≤ q → A0 q) (hK : va_K D vwCl tysC s)
    (hn : As.length = n) (hsize : ls.size = nL) (hstack : st0 = As.reverse ++ rest) (hW : (rest.map fun v => v.category).sum ≤ 8) (hdg : decode cc pc = .ok (.invokestatic index, 3)) (hf : cells + mc ≤ R.cells ∧ slots + ms ≤ R.slots)
    (kk : ∀ (u : S') (H1 : Heap) (locs1 : List Loc), post u → va_P D vwCl (wr ++ Wn u) H1 → va_D A0 (wr ++ Wn u) → va_S A0 H0 H1 locs1 → W p l e R s m args below meth c H1 locs1 (cells + mc) (slots + ms) Q (F0 m (pc + 3) ls rest)) : W p l e R s m args below meth c H locs cells slots Q (F0 m pc ls st0) := by
  have hPc : va_P D vwCl Wd H := (z_reord (ws' := Wd) (fun q h => List.mem_append_right _ h) (fun a => by rw [List.map_append, List.count_append]; omega) hP hD).1
  have hDc : va_D A0 Wd := (z_reord (ws' := Wd) (fun q h => List.mem_append_right _ h) (fun a => by rw [List.map_append, List.count_append]; omega) hP hD).2
  have hFc := va_free (wc := Wd) hD hS hA ((List.range Wd.length).map (fun i => i + wr.length)) z_plC
  refine va_callv (va_runS (As := As) (rest := rest) S hM cw ⟨zPw_blind, fun U hU hW => ⟨rfl, by rw [hU], by rw [hU]; exact hPc, va_K.moved hW.alike hK, hDc.weaken (fun _ _ _ _ => trivial)⟩⟩ rfl hn hsize hstack (lv_room hW) hdg hf) hS (fun q _ h => hFc q h) hFc (fun u t H1 locs1 ht hvm hw hB hz1 hk1 hS1 => ?_)
  obtain ⟨hP1, hD1⟩ := hB
  rw [ht] at hP1
  obtain ⟨hP2, hD2⟩ := z_join2 (wr := wr) hP hD hk1 hFc hP1 hD1
  exact kk u H1 locs1 hw hP2 hD2 hS1
end ZX
def zHW (ah : Nat → Nat) (ar : Nat → Nat → Nat) (cI cS : ClassId) (o n : Nat) (hs : Nat → zS) : va_W := [(ah 0, .inr (0, [.ref (ah 1), .int (nI o), .int (nI n)])), (ah 1, .inl (cS, 6, .inr (.inr (.inr (.inr (fun k => some (ar k 0)))))))] ++ (zW (ar 0) cI (hs 0) ++ (zW (ar 1) cI (hs 1) ++ (zW (ar 2) cI (hs 2) ++ (zW (ar 3) cI (hs 3) ++ (zW (ar 4) cI (hs 4) ++ zW (ar 5) cI (hs 5))))))
abbrev zHI : Type := Nat × Nat × (Nat → zS)
def hKeepO (o n : Nat) : Nat := if n = 6 then (o + 1) % 6 else o
def hKeepN (n : Nat) : Nat := if n = 6 then 6 else n + 1
def hKeepH (o n : Nat) (hs : Nat → zS) (σ : zS) : Nat → zS := va_up hs ((hKeepO o n + hKeepN n - 1) % 6) σ
