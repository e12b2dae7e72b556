/-! the looks -/
section RN
variable {B : Nat} {κ : zK} {μ : zM} {σ τ : zS}
theorem sq_vWord (h : sEq σ τ) {w : Nat} (hw : w < 16) : ∀ q, vWord σ w q = vWord τ w q
  | 0 => congrArg nI (h.pl hw)
  | 1 => h.wh hw
  | 2 => h.wo hw
  | 3 => h.mo hw
  | _ + 4 => by
    show (if pht σ w then (1 : Int32) else 0) = if pht τ w then 1 else 0
    by_cases q : pht σ w
    · rw [if_pos q, if_pos ((sq_ht h hw).mp q)]
    · rw [if_neg q, if_neg (fun z => q ((sq_ht h hw).mpr z))]
theorem sq_vSlot (h : sEq σ τ) {k : Nat} (hk : k < 18) : ∀ q, vSlot σ k q = vSlot τ k q
  | 0 => h.wi hk
  | 1 => congrArg (· &&& 4095) (h.hd hk)
  | 2 => by
    show (if zhd σ k &&& 4096 = 0 then (0 : Int32) else 1) = if zhd τ k &&& 4096 = 0 then 0 else 1
    rw [h.hd hk]
  | 3 => sq_wr h hk
  | 4 => sq_st h hk
  | _ + 5 => sq_mw h hk
theorem sq_sh (h : sEq σ τ) : pSum (fun k => pBC (pst σ k)) 18 = pSum (fun k => pBC (pst τ k)) 18 := pSum_cg (fun k hk => congrArg pBC (sq_st h hk))
theorem sq_hot (h : sEq σ τ) : pSum (fun w => if pht σ w then 1 else 0) 16 = pSum (fun w => if pht τ w then 1 else 0) 16 := pSum_cg (fun w hw => by
    by_cases q : pht σ w
    · rw [if_pos q, if_pos ((sq_ht h hw).mp q)]
    · rw [if_neg q, if_neg (fun z => q ((sq_ht h hw).mpr z))])
theorem sq_sn (h : sEq σ τ) (hok : zok τ) : pSum (pnm σ) 16 = pSum (pnm τ) 16 := pSum_cg (fun w hw => sq_nm h hok hw)
theorem sq_vCount (h : sEq σ τ) (hok : zok τ) {n : Nat} (q : Nat) : vCount σ n q = vCount τ n q := by
  unfold vCount
  split
  · exact h.c0
  · exact h.c1
  · exact h.c2
  · exact h.c3
  · exact h.c4
  · exact sq_sh h
  · exact congrArg zo (sq_fr h)
  · exact sq_hot h
  · exact sq_sn h hok
  · rfl
theorem rel_look {c a b : Int32} (h : kRel B κ μ) (k : c = 0 → a = b) : c = mth (mset_th μ c) ∧ (c = 0 → a = if c = 0 then b else 0) ∧ kRel (B + 6500) κ (mset_th μ c) :=
  ⟨rfl, fun q => by rw [if_pos q]; exact k q, h.same c⟩
theorem rel_Read (h : kRel B κ μ) (x : Int32) : cd1 x 15 = mth (rRead μ x).1 ∧ (cd1 x 15 = 0 → pnm (uS κ) (iN x) = (rRead μ x).2) ∧ kRel (B + 6500) κ (rRead μ x).1 :=
  rel_look h (fun q => sq_nm h.se (fun w hw => (h.al.1 w hw).1) (in_15 (cd1_0 q)).1)
theorem rel_Word (h : kRel B κ μ) (x y : Int32) : cd12 x 15 y 4 = mth (rWord μ x y).1 ∧ (cd12 x 15 y 4 = 0 → vWord (uS κ) (iN x) (iN y) = (rWord μ x y).2) ∧ kRel (B + 6500) κ (rWord μ x y).1 :=
  rel_look h (fun q => sq_vWord h.se (in_15 (cd12_0 q).1).1 _)
theorem rel_Slot (h : kRel B κ μ) (x y : Int32) : cd12 x 17 y 5 = mth (rSlot μ x y).1 ∧ (cd12 x 17 y 5 = 0 → vSlot (uS κ) (iN x) (iN y) = (rSlot μ x y).2) ∧ kRel (B + 6500) κ (rSlot μ x y).1 :=
  rel_look h (fun q => sq_vSlot h.se (in_17 (cd12_0 q).1).1 _)
theorem rel_WearOf (h : kRel B κ μ) (x y : Int32) : cd11 x 17 y 12 = mth (rWearOf μ x y).1 ∧ (cd11 x 17 y 12 = 0 → zwn (uS κ) (iN x * 13 + iN y) = (rWearOf μ x y).2) ∧ kRel (B + 6500) κ (rWearOf μ x y).1 :=
  rel_look h (fun q => by
    have a := (in_17 (cd11_0 q).1).1
    have b := (in_12 (cd11_0 q).2).1
    exact h.se.wn (by omega))
theorem rel_Count (h : kRel B κ μ) (x : Int32) : cd1 x 9 = mth (rCount μ x).1 ∧ (cd1 x 9 = 0 → vCount (uS κ) (un κ) (iN x) = (rCount μ x).2) ∧ kRel (B + 6500) κ (rCount μ x).1 :=
  rel_look h (fun q => by rw [h.nk]; exact sq_vCount h.se (fun w hw => (h.al.1 w hw).1) _)
theorem rel_Setting (h : kRel B κ μ) (x : Int32) : cd1 x 1 = mth (rSetting μ x).1 ∧ (cd1 x 1 = 0 → zst (uS κ) (iN x) = (rSetting μ x).2) ∧ kRel (B + 6500) κ (rSetting μ x).1 :=
  rel_look h (fun q => h.se.st (in_1 (cd1_0 q)).1)
theorem rel_Cost (h : kRel B κ μ) (x y : Int32) : cd12 x 17 y 4095 = mth (rCost μ x y).1 ∧ (cd12 x 17 y 4095 = 0 → pCost (zhd (uS κ) (iN x)) (nI (iN y)) (pst (uS κ) (iN x)) = (rCost μ x y).2) ∧ kRel (B + 6500) κ (rCost μ x y).1 :=
  rel_look h (fun q => by
    have a := (in_17 (cd12_0 q).1).1
    rw [sq_st h.se a, h.se.hd a])
theorem rel_IfW (h : kRel B κ μ) (x y : Int32) : cd12 x 15 y 4095 = mth (rIfW μ x y).1 ∧ (cd12 x 15 y 4095 = 0 → zo (ptg (uS κ) (iN x) (nI (iN y))) = (rIfW μ x y).2) ∧ kRel (B + 6500) κ (rIfW μ x y).1 :=
  rel_look h (fun q => congrArg zo (sq_tg h.se (fun w hw => (h.al.1 w hw).1) (in_15 (cd12_0 q).1).1))
theorem sq_dd (h : sEq σ τ) (hok : zok τ) (hbt : zbt τ) {j : Nat} (hj : j < 16) : pDD σ j = pdr τ (zpl τ j) := by
  have hk := hok j hj
  have e : pDD σ j = pDD τ j := by
    show pDi (iN (pNum (zhd σ (zpl σ j)))) (pst σ (zpl σ j)) = pDi (iN (pNum (zhd τ (zpl τ j)))) (pst τ (zpl τ j))
    rw [h.pl hj, h.hd hk, sq_st h hk]
  rw [e]
  exact (dear_eq hbt hk).symm
theorem rel_Dear (h : kRel B κ μ) (x : Int32) : cd1 x 15 = mth (rDear μ x).1 ∧ (cd1 x 15 = 0 → pDD (uS κ) (iN x) = (rDear μ x).2) ∧ kRel (B + 6500) κ (rDear μ x).1 :=
  rel_look h (fun q => sq_dd h.se (fun w hw => (h.al.1 w hw).1) (fun k hk => h.al.2.1 k hk) (in_15 (cd1_0 q)).1)
abbrev uSpare (κ : zK) (τ : zS) : zK := (uS κ, τ, uo κ, un κ, uh κ, ut κ)
def sLife (κ : zK) (x y : Int32) : zK × Int32 := (uSpare κ (pTurns (iN x) 500 (uS κ) (nI (iN y))).1, nI (pTurns (iN x) 500 (uS κ) (nI (iN y))).2)
theorem kRel.spare (h : kRel B κ μ) (τ : zS) (g : Nat → Int32) : kRel (B + 6500) (uSpare κ τ) (mset_h (mset_th μ 0) g) := by
  have hm := h.mono (C := B + 6500) (by omega)
  exact ⟨hm.se, hm.al, hm.o6, hm.nk, hm.k6, hm.hh, hm.tt⟩
theorem rel_Life (h : kRel B κ μ) (x y : Int32) : cd12 x 15 y 4095 = mth (rLife μ x y).1 ∧ (cd12 x 15 y 4095 = 0 → (sLife κ x y).2 = (rLife μ x y).2) ∧ kRel (B + 6500) (if cd12 x 15 y 4095 = 0 then (sLife κ x y).1 else κ) (rLife μ x y).1 := by
  unfold rLife sLife
  generalize (500 : Nat) = K
  refine rel_if (s := (uSpare κ (pTurns (iN x) K (uS κ) (nI (iN y))).1, nI (pTurns (iN x) K (uS κ) (nI (iN y))).2)) h rfl (fun q => ⟨?_, h.spare _ _⟩)
  have hw := (in_15 (cd12_0 q).1).1
  have hv := in_b (lo := 0) (hi := 4095) (by decide) (cd12_0 q).2
  have hr := rel_turns (w := iN x) (v := iN y) hw (by omega) (k := K) (c := 0) h.se h.al
  rw [show pAlt (iN y) 0 = iN y from if_pos rfl] at hr
  exact congrArg nI hr.2.1
/-! share and digest -/
theorem rel_share (h : kRel B κ μ) : pShare (zc1 (uS κ)) (zc2 (uS κ)) = pShare (mg μ 3) (mg μ 4) := by
  rw [h.se.c1, h.se.c2]
theorem nI_toI {a : Nat} (h : a < 2 ^ 31) : (nI a).toInt = (a : Int) := nI_toInt h
theorem rel_norm (h : kRel B κ μ) (hB : B < 2 ^ 31) : zNorm (pShare (mg μ 3) (mg μ 4)) := by
  obtain ⟨a, b, ha, hb, h3, h4⟩ := h.al.2.2.2
  unfold pShare
  by_cases q : mg μ 4 = 0
  · rw [if_pos q]
    exact ⟨1023, 0, rfl, by decide, by decide, fun _ => rfl⟩
  · rw [if_neg q]
    refine share_norm ?_ ?_
    · rw [h3, nI_toI (by omega)]
      omega
    · rw [h4] at q ⊢
      rw [nI_toI (by omega)]
      have : b ≠ 0 := fun z => q (by rw [z]; rfl)
      omega
theorem rel_norm' (h : kRel B κ μ) (hB : B < 2 ^ 31) : zNorm (pShare (zc1 (uS κ)) (zc2 (uS κ))) := by
  rw [rel_share h]
  exact rel_norm h hB
def sDigest (κ : zK) : Int64 := pDg (uS κ) (un κ) (pDD (uS κ)) (nI (pTurns 0 500 (uS κ) (nI 819)).2) (pShare (zc1 (uS κ)) (zc2 (uS κ))) (tx (ut κ)) (tl (ut κ))
theorem pDgW_cg (h : sEq σ τ) (hok : zok τ) {D E : Nat → Int32} {j : Nat} (hj : j < 16) (e : D j = E j) (z : Int64) : pDgW σ D j z = pDgW τ E j z := by
  unfold pDgW
  rw [sq_nm h hok hj, sq_tg h hok hj, e, pHs_cg (f := vWord σ j) (g := vWord τ j) (fun c _ => sq_vWord h hj c)]
theorem pDgS_cg (h : sEq σ τ) {j : Nat} (hj : j < 18) (z : Int64) : pDgS σ j z = pDgS τ j z := by
  unfold pDgS
  rw [pHs_cg (f := vSlot σ j) (g := vSlot τ j) (fun c _ => sq_vSlot h hj c), h.hd hj, sq_st h hj]
theorem pDg1_cg (h : sEq σ τ) (hok : zok τ) {n : Nat} : pDg1 σ n = pDg1 τ n := by
  unfold pDg1
  rw [pHs_cg (f := vCount σ n) (g := vCount τ n) (fun c _ => sq_vCount h hok c), pHs_cg (f := zst σ) (g := zst τ) (fun c hc => h.st hc)]
theorem pDg2_cg (h : sEq σ τ) (hok : zok τ) {n : Nat} {D E : Nat → Int32} (e : ∀ j, j < 16 → D j = E j) : pDg2 σ n D = pDg2 τ n E := by
  unfold pDg2
  have e1 : pFold (pDgW σ D) 16 (pDg1 σ n) = pFold (pDgW τ E) 16 (pDg1 τ n) := pFold_cg (pDg1_cg h hok) (fun c hc z => pDgW_cg h hok hc (e c hc) z)
  have e2 : pFold (pDgS σ) 18 (pFold (pDgW σ D) 16 (pDg1 σ n)) = pFold (pDgS τ) 18 (pFold (pDgW τ E) 16 (pDg1 τ n)) := pFold_cg e1 (fun c hc z => pDgS_cg h hc z)
  rw [e2]
  exact pHs_cg (fun c hc => h.wn (by omega))
theorem rel_Digest (h : kRel B κ μ) : sDigest κ = pDg (gS (mg μ)) (mk μ) (fun j => pdr (gS (mg μ)) (zpl (gS (mg μ)) j)) (nI (pHam 0 819 500 0 (mg μ)).2) (pShare (mg μ 3) (mg μ 4)) (mx μ) (my μ) := by
  have hok : zok (gS (mg μ)) := fun w hw => (h.al.1 w hw).1
  have hbt : zbt (gS (mg μ)) := fun k hk => h.al.2.1 k hk
  have e2 := pDg2_cg (σ := uS κ) (n := mk μ) (D := pDD (uS κ)) (E := fun j => pdr (gS (mg μ)) (zpl (gS (mg μ)) j)) h.se hok (fun j hj => sq_dd h.se hok hbt hj)
  have hr := rel_turns (w := 0) (v := 819) (by omega) (by omega) (k := 500) (c := 0) h.se h.al
  rw [show pAlt 819 0 = 819 from if_pos rfl] at hr
  unfold sDigest pDg
  rw [h.nk, e2, hr.2.1, rel_share h, h.tt.1, h.tt.2.1]
end RN
