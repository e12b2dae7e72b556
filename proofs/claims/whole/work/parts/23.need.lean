/-! a reader without a result; the object of the class -/
def zSv : Array Value → State → Outcome → State → Prop := fun _ st o t => o = .returned none ∧ t.heap = st.heap
abbrev zRv (l : Launch) (y : MethodName) (ws : List Cond) (rm : Room) (D : va_G) (av : List Value) (Wd : va_W) (tys : List (ClassId × FieldType)) : Prop := Met l y ws rm (zPr D av Wd tys) zSv 0 0 (fun _ => False)
theorem zRv_of {l : Launch} {y : MethodName} {ws ws' : List Cond} {rm : Room} {D : va_G} {av : List Value} {Wd : va_W} {tys : List (ClassId × FieldType)} {cc : ByteArray} {maxL : Nat} (hy : plainName y.cls = true) (hw : ws = Cond.code y cc maxL none :: ws') (hle : (lg_sl av).length ≤ maxL)
    (body : ∀ (p : Program) (e : Env) (s : State) (m : MethodId) (args : Array Value) (below : List Frame) (meth : Method) (c : Code) (Q : State → Prop) (ls : Array Slot), zAt p s m c args cc maxL y.cls ws av ls → va_P D vwCl Wd s.heap → va_K D vwCl tys s →
      (∀ (pc : Nat) (ls : Array Slot), decode cc pc = .ok (.return_, 1) → W p l e rm s m args below meth c s.heap [] 0 0 Q (F0 m pc ls [])) →
      W p l e rm s m args below meth c s.heap [] 0 0 Q (F0 m 0 ls [])) : zRv l y ws rm D av Wd tys := by
  refine Met.ofW (cc := cc) (maxL := maxL) (ret := none) hy hw ?_
  intro p e s m args below meth c s₁ B hml hv
  obtain ⟨rfl, hP, hK⟩ := hv
  have hl := lv_entry av (n := maxL) hle
  rw [lg_entry_eq]
  generalize (lg_sl av ++ List.replicate (maxL - (lg_sl av).length) Slot.unset).toArray = ls at hl ⊢
  have hlocks := B.notSynchronized
  exact body p e s m _ below meth c _ ls ⟨B.exec, B.bytes, hml, findClass_of_methodNamed B.named, atoms_spec (ws := ws) B.pre, hl⟩ hP hK (fun pc ls hdg => W.vret B.exec B.bytes B.returns (fun t ht _ => ⟨rfl, ht⟩) (fun _ h => nomatch h) hdg hlocks)
theorem nI_io {j b : Nat} (h : j ≤ b) (hb : b < 2 ^ 31) : ¬ (nI j < 0 ∨ ¬ nI j ≤ nI b) := by
  intro q
  rcases q with q | q
  · have e : (0 : Int32) = nI 0 := rfl
    rw [e] at q
    exact absurd ((nI_ltI (a := j) (b := 0) (by omega) (by omega)).mp q) (by omega)
  · exact q ((nI_leI (by omega) hb).mpr h)
section ZN3
variable {p : Program} {l : Launch} {e : Env} {R : Room} {s : State} {m : MethodId} {args : Array Value} {below : List Frame} {meth : Method} {c : Code} {H : Heap} {locs : List Loc} {cells slots : Nat} {Q : State → Prop}
variable {cc : ByteArray} {pc : Nat} {ls : Array Slot} {rest st0 : List Value} {D : va_G} {Wd ws : va_W} {tys tysC : List (ClassId × FieldType)}
variable {y : MethodName} {bytes : ByteArray} {maxL nL mc ms n index : Nat} {ret : Option FieldType} {wsY : List Cond} {rm : Room} {Ts : List Cond} {own : String} {As : List Value}
theorem z_callSv {a : Array Value} {st0 : List Value} (hr : CallRun p l e R s m args below meth c H locs cells slots 0 0 (F0 m pc ls st0) rest (zSv a) (fun _ => False))
    (kk : W p l e R s m args below meth c H locs cells slots Q (F0 m (pc + 3) ls rest)) : W p l e R s m args below meth c H locs cells slots Q (F0 m pc ls st0) := by
  intro T hT X
  obtain ⟨v, st₀, t, T', L, h0, X', hL, e1, ⟨hv, hh⟩, st⟩ := hr T hT X
  cases hv
  obtain ⟨t2, a1, b1⟩ := kk T' (by rw [e1, hh, h0]) (Stand.forget X' (fun q h => (hL q h).elim))
  exact ⟨t2, st t2 a1, b1⟩
theorem z_cSv (S : CallFix p m c cc nL s args Ts own) (hM : zRv l y wsY rm D As Wd tysC) (cw : CallB R s args own index y bytes maxL ret wsY rm 0 0 n ∧ (Cond.static y).before args s = true) (hP : va_P D vwCl Wd H) (hK : va_K D vwCl tysC s) (hn : As.length = n) (hsize : ls.size = nL) (hstack : st0 = As.reverse ++ rest) (hW : (rest.map fun v => v.category).sum ≤ 8) (hdg : decode cc pc = .ok (.invokestatic index, 3)) (hf : cells ≤ R.cells ∧ slots ≤ R.slots)
    (kk : W p l e R s m args below meth c H locs cells slots Q (F0 m (pc + 3) ls rest)) : W p l e R s m args below meth c H locs cells slots Q (F0 m pc ls st0) :=
  z_callSv (W.runS (As := As) (rest := rest) S hM cw ⟨zPr_blind, fun U hU hW => ⟨rfl, by rw [hU]; exact hP, va_K.moved hW.alike hK⟩⟩ rfl hn hsize hstack (lv_room hW) hdg hf) kk
end ZN3
/-- the object's own cell -/
abbrev zCo (c0 : Nat) (ad ae ah ax : Nat → Nat) : va_W := [(c0, .inr (3, [.ref (ad 0), .ref (ae 0), .ref (ah 0), .ref (ax 0)]))]
abbrev zHo (ah : Nat → Nat) (o n : Nat) : va_W := [(ah 0, .inr (0, [.ref (ah 1), .int (nI o), .int (nI n)]))]
theorem z_ite_not {P : Prop} [Decidable P] : (if ¬ P then (1 : Int32) else 0) = if P then 0 else 1 := by
  by_cases h : P
  · rw [if_neg (not_not_intro h), if_pos h]
  · rw [if_pos h, if_neg h]
theorem num13_t : (List.range 8192).all (fun n => decide (pNum (nI n) = nI (if n < 4096 then n else 8191 - n))) = true := by decide +kernel
theorem zbt_num {σ : zS} {k : Nat} (h : zbt σ) (hk : k < 18) : ∃ h, h < 4096 ∧ pNum (zhd σ k) = nI h := by
  obtain ⟨n, hn, e⟩ := h k hk
  refine ⟨if n < 4096 then n else 8191 - n, ?_, ?_⟩
  · split <;> omega
  · rw [e]; exact of_decide_eq_true (z_all num13_t hn)
def pHs (f : Nat → Int32) : Nat → Int64 → Int64
  | 0, h => h
  | n + 1, h => 31 * pHs f n h + (f n).toInt64
