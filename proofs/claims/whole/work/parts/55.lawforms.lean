/-! the law's loop: forms -/
theorem z_swp {D : va_G} {cl : List vw_C} {wa wb : va_W} {H : Heap} {A : Nat → Prop} (hP : va_P D cl (wa ++ wb) H) (hD : va_D A (wa ++ wb)) : va_P D cl (wb ++ wa) H ∧ va_D A (wb ++ wa) :=
  z_reord (fun q h => (List.mem_append.mp h).elim (fun h => List.mem_append_right _ h) (fun h => List.mem_append_left _ h)) (fun x => by simp only [List.map_append, List.count_append]; omega) hP hD
abbrev lCx (l : Launch) (p : Program) (s : State) (m : MethodId) (args : Array Value) (c : Code) (b L : Nat) (xs : Nat → Int32) (dC : Nat → ClassId) (dI : Nat → Nat → Nat) (cI cS cL : ClassId) : Prop :=
  (p.tables.exec = Jvm.exec) ∧ (c.code = cL_law) ∧ (c.maxLocals = 9) ∧ (s.vm.findClass RL = some m.cls) ∧ (∀ w ∈ wsL_law, w.before args s = true) ∧ (va_K (dC, dI) vwCl [(cI, .int), (cS, .object RX1), (cL, .long)] s) ∧ (zE s.heap.size s) ∧ (zNc s) ∧ (zN s) ∧ (va_X b L xs s s.heap) ∧ (b < s.heap.size) ∧ (l.stackTraces = false) ∧ (L ≤ 2048)
abbrev zLM (c0 : Nat) (am ad ae ah ax : Nat → Nat) (ar : Nat → Nat → Nat) (cI cS cL : ClassId) (oa : Nat) (κ : zK) (μ : zM) (f : Nat → Int64) : va_W := zMW am cI μ ++ zLW c0 ad ae ah ax ar cI cS cL oa κ f
section ZSL
variable {p : Program} {l : Launch} {e : Env} {R : Room} {s : State} {m : MethodId} {args : Array Value} {below : List Frame} {meth : Method} {c : Code} {H : Heap} {locs : List Loc} {cells slots : Nat} {Q : State → Prop}
variable {cc : ByteArray} {pc : Nat} {ls : Array Slot} {rest : List Value}
theorem z_sld (hx : p.tables.exec = Jvm.exec) (hb : c.code = cc) {b L : Nat} {xs : Nat → Int32} (hX : va_X b L xs s s.heap) (hbl : b < s.heap.size) (hS : va_S (fun q => s.heap.size ≤ q) s.heap H locs) (i : Nat) (hi : i < L) (hL : L ≤ 2048) (hdg : decode cc pc = .ok (.iaload, 1))
    (kk : W p l e R s m args below meth c H locs cells slots Q (F0 m (pc + 1) ls (.int (xs i) :: rest))) : W p l e R s m args below meth c H locs cells slots Q (F0 m pc ls (.int (nI i) :: .ref b :: rest)) :=
  va_sld hx hb hX hbl (Nat.not_le.mpr hbl) hS (vp_in_nI hi (by omega)) hdg (by rw [nI_clamp (show i < 2 ^ 31 by omega)]; exact kk)
end ZSL
theorem va_A_n0 {A0 : Nat → Prop} {wr wc : va_W} {H : Heap} {n0 : Nat} (hD : va_D (fun q => n0 ≤ q) (wr ++ wc)) (hn : n0 ≤ H.size) : ∀ q, va_A wc H.size q → n0 ≤ q := by
  intro q h
  rcases h with ⟨k, e, h⟩ | h
  · exact hD.2 (wr.length + k) (q, e) (by rw [List.getElem?_append_right (Nat.le_add_right _ _), Nat.add_sub_cancel_left]; exact h)
  · exact Nat.le_trans hn h
