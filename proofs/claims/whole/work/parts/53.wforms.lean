/-! the law's wrappers: forms -/
abbrev zLW (c0 : Nat) (ad ae ah ax : Nat → Nat) (ar : Nat → Nat → Nat) (cI cS cL : ClassId) (oa : Nat) (κ : zK) (f : Nat → Int64) : va_W := [(oa, .inl (cL, 1, .inr (.inl f)))] ++ zCW c0 ad ae ah ax ar cI cS (uS κ) (uA κ) (uo κ) (un κ) (uh κ) (ut κ)
theorem out_or {x lo hi : Int32} (h : ¬ inL x lo hi) : x < lo ∨ ¬ x ≤ hi := by
  by_cases q : x < lo
  · exact Or.inl q
  · exact Or.inr (fun z => h ⟨q, Int32.not_lt.mpr z⟩)
theorem z_tailP {D : va_G} {cl : List vw_C} {wr Wd : va_W} {H : Heap} {A : Nat → Prop} (hP : va_P D cl (wr ++ Wd) H) (hD : va_D A (wr ++ Wd)) : va_P D cl Wd H := (z_reord (ws' := Wd) (fun q h => List.mem_append_right _ h) (fun a => by rw [List.map_append, List.count_append]; omega) hP hD).1
