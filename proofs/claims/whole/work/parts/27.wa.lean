/-- the buffer behind writeAll -/
abbrev pWA (ω : zT) : zT := (tx (pParse ω).2, 0, tw (pParse ω).2, tn (pParse ω).2, tc (pParse ω).2, ts (pParse ω).2, td (pParse ω).2)
theorem pWA_f {ω : zT} (ht : tl ω ≤ 60) (hf : ∀ i, i < tl ω → tx ω i < 128) (hE : (pParse ω).1 = tl ω) : tc (pParse ω).2 ≤ 60 ∧ ∀ i, i < tc (pParse ω).2 → tw (pParse ω).2 i < 16 := by
  obtain ⟨-, -, q3, -, q, q6⟩ := (pParse_f hf).2.2.2.2 hE
  exact ⟨by omega, fun i hi => (q6 i hi).2⟩
theorem hKeep_b {o n : Nat} (ho : o < 6) (hn : n ≤ 6) : hKeepO o n < 6 ∧ hKeepN n ≤ 6 := by
  unfold hKeepO hKeepN
  split <;> omega
