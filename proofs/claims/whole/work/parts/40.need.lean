/-! ===== the checks ahead of an answer, on both sides ===== -/
theorem RInv.thr {D : DT} {M : MS} {x : Int} (h : RInv D M) : RInv (sF D 73 0 x) M := h.keep (fun a _ => rfl) (fun k hk => by
  simp only [List.mem_cons, List.not_mem_nil, or_false] at hk
  rw [sF1, if_neg (by omega)])
theorem sFF (D : DT) (a k : Nat) (x y : Int) : sF (sF D a k x) a k y = sF D a k y := by
  refine Prod.ext ?_ rfl
  funext a' k'
  rw [sF1, sF1, sF1]
  by_cases q : a' = a ∧ k' = k
  · rw [if_pos q, if_pos q]
  · rw [if_neg q, if_neg q, if_neg q]
theorem ClsX.same {X : DT → Option ((Int ⊕ Nat) × DT)} {D : DT} {sp : Int ⊕ Nat} {M : MS} (hC : CInv D M) (h : X D = some (sp, D)) : ClsX X D sp M := ⟨D, h, hC, FrC.rfl⟩
theorem RefX.same {X : DT → Option (Int × DT)} {cd : Int ⊕ Nat → Int} {M : MS} {sp : Int ⊕ Nat} {c : Int} (b : Int) (hc : c = cd sp) (hb : ∀ v, sp = .inl v → b = v) (h : ∀ D, RInv D M → X D = some (b, sF D 73 0 c)) : RefX X cd M sp M := fun D r => ⟨b, _, h D r, r.thr, FrR.f (by omega), by rw [sF1, if_pos ⟨rfl, rfl⟩, hc], hb⟩
theorem gd_T {α : Type} [Decidable True] {X : Option α} : gd True X = X := if_pos trivial
theorem nCb {M : MS} (O : MOK M) : nC M ≤ 384 := wh384 O.2.1.1 O.2.1.2
section Need
variable {D : DT} {M : MS} {v : Int}
theorem cn_zone_t (O : MOK M) (C : CBase D M) (hv : InR v) (h : 0 ≤ v ∧ v < (mZ M : Int)) : m_X10_needZone v D = some (.inl ()) := by
  have e := C.1.2.1.1
  have b := O.2.2.1
  simp (disch := omega) only [m_X10_needZone, gd_t, e, if_t, if_f]
theorem cn_zone_f (O : MOK M) (C : CBase D M) (hv : InR v) (h : ¬ (0 ≤ v ∧ v < (mZ M : Int))) : m_X10_needZone v D = some (.inr 0) := by
  have e := C.1.2.1.1
  have b := O.2.2.1
  by_cases q : 0 ≤ v
  · simp (disch := omega) only [m_X10_needZone, gd_t, e, if_t]
  · simp (disch := omega) only [m_X10_needZone, gd_t, e, if_f]
theorem cn_group_t (O : MOK M) (C : CBase D M) (hv : InR v) (h : 0 ≤ v ∧ v < (mG M : Int)) : m_X10_needGroup v D = some (.inl ()) := by
  have e := C.1.2.1.2
  have b := O.2.2.2.1
  simp (disch := omega) only [m_X10_needGroup, gd_t, e, if_t, if_f]
theorem cn_group_f (O : MOK M) (C : CBase D M) (hv : InR v) (h : ¬ (0 ≤ v ∧ v < (mG M : Int))) : m_X10_needGroup v D = some (.inr 0) := by
  have e := C.1.2.1.2
  have b := O.2.2.2.1
  by_cases q : 0 ≤ v
  · simp (disch := omega) only [m_X10_needGroup, gd_t, e, if_t]
  · simp (disch := omega) only [m_X10_needGroup, gd_t, e, if_f]
theorem cn_row_t (O : MOK M) (C : CBase D M) (hv : InR v) (h : 0 ≤ v ∧ v < (mH M : Int)) : m_X10_needRow v D = some (.inl ()) := by
  have e := C.1.1.1.2
  have b := O.2.1
  simp (disch := omega) only [m_X10_needRow, gd_t, e, if_t, if_f]
theorem cn_row_f (O : MOK M) (C : CBase D M) (hv : InR v) (h : ¬ (0 ≤ v ∧ v < (mH M : Int))) : m_X10_needRow v D = some (.inr 0) := by
  have e := C.1.1.1.2
  have b := O.2.1
  by_cases q : 0 ≤ v
  · simp (disch := omega) only [m_X10_needRow, gd_t, e, if_t]
  · simp (disch := omega) only [m_X10_needRow, gd_t, e, if_f]
theorem cn_cell_t (O : MOK M) (C : CBase D M) (hv : InR v) (h : 0 ≤ v ∧ v < (nC M : Int)) : m_X10_needCell v D = some (.inl ()) := by
  have e : m_X1_cells 2 D = some (nC M : Int) := X1_cells C.1.1
  have b := nCb O
  simp (disch := omega) only [m_X10_needCell, gd_t, e, ob_some, if_t, if_f]
theorem cn_cell_f (O : MOK M) (C : CBase D M) (hv : InR v) (h : ¬ (0 ≤ v ∧ v < (nC M : Int))) : m_X10_needCell v D = some (.inr 0) := by
  have e : m_X1_cells 2 D = some (nC M : Int) := X1_cells C.1.1
  have b := nCb O
  by_cases q : 0 ≤ v
  · simp (disch := omega) only [m_X10_needCell, gd_t, e, ob_some, if_t]
  · simp (disch := omega) only [m_X10_needCell, gd_t, e, if_f]
theorem cn_level_t (hv : InR v) (h : 0 ≤ v ∧ v < 5) : m_X10_needLevel v D = some (.inl ()) := by
  simp (disch := omega) only [m_X10_needLevel, gd_t, if_t, if_f]
theorem cn_level_f (hv : InR v) (h : ¬ (0 ≤ v ∧ v < 5)) : m_X10_needLevel v D = some (.inr 0) := by
  by_cases q : 0 ≤ v
  · simp (disch := omega) only [m_X10_needLevel, gd_t, if_t]
  · simp (disch := omega) only [m_X10_needLevel, gd_t, if_f]
theorem cn_measure_t (hv : InR v) (h : 0 ≤ v ∧ v < 5) : m_X10_needMeasure v D = some (.inl ()) := by
  simp (disch := omega) only [m_X10_needMeasure, gd_t, if_t, if_f]
theorem cn_measure_f (hv : InR v) (h : ¬ (0 ≤ v ∧ v < 5)) : m_X10_needMeasure v D = some (.inr 1) := by
  by_cases q : 0 ≤ v
  · simp (disch := omega) only [m_X10_needMeasure, gd_t, if_t]
  · simp (disch := omega) only [m_X10_needMeasure, gd_t, if_f]
theorem cn_far_t (hv : InR v) (h : 0 ≤ v ∧ v ≤ 999) : m_X10_needFar v D = some (.inl ()) := by
  simp (disch := omega) only [m_X10_needFar, gd_t, if_t, if_f]
theorem cn_far_f (hv : InR v) (h : ¬ (0 ≤ v ∧ v ≤ 999)) : m_X10_needFar v D = some (.inr 2) := by
  by_cases q : 0 ≤ v
  · simp (disch := omega) only [m_X10_needFar, gd_t, if_t]
  · simp (disch := omega) only [m_X10_needFar, gd_t, if_f]
theorem cn_groupN_t (O : MOK M) (C : CBase D M) (hv : InR v) (h : v = -1 ∨ 0 ≤ v ∧ v < (mG M : Int)) : m_X10_needGroupOrNone v D = some (.inl ()) := by
  by_cases q : v = -1
  · simp (disch := omega) only [m_X10_needGroupOrNone, gd_t, if_t]
  · have e := cn_group_t O C hv (by omega)
    simp (disch := omega) only [m_X10_needGroupOrNone, gd_t, if_f, e, bndM_inl]
theorem cn_groupN_f (O : MOK M) (C : CBase D M) (hv : InR v) (h : ¬ (v = -1 ∨ 0 ≤ v ∧ v < (mG M : Int))) : m_X10_needGroupOrNone v D = some (.inr 0) := by
  have e := cn_group_f O C hv (by omega)
  simp (disch := omega) only [m_X10_needGroupOrNone, gd_t, if_f, e, bndM_inr]
theorem cn_two_t {w : Int} (hv : InR v) (hw : InR w) (h : v ≠ w) : m_X10_needTwo v w D = some (.inl ()) := by
  simp (disch := omega) only [m_X10_needTwo, gd_t, if_f]
theorem cn_two_f {w : Int} (hv : InR v) (hw : InR w) (h : v = w) : m_X10_needTwo v w D = some (.inr 2) := by
  simp (disch := omega) only [m_X10_needTwo, gd_t, if_t]
/-! the reference -/
theorem rn_in_t {a b : Int} (hv : InR v) (ha : InR a) (hb : InR b) (h : a ≤ v ∧ v ≤ b) : m_X11_in v a b D = some 1 := by
  simp (disch := omega) only [m_X11_in, gd_t, if_t]
theorem rn_in_f {a b : Int} (hv : InR v) (ha : InR a) (hb : InR b) (h : ¬ (a ≤ v ∧ v ≤ b)) : m_X11_in v a b D = some 0 := by
  by_cases q : a ≤ v
  · simp (disch := omega) only [m_X11_in, gd_t, if_t, if_f]
  · simp (disch := omega) only [m_X11_in, gd_t, if_f]
theorem rn_th_0 {x : Int} : m_X11_throwsIf 0 x D = some (0, D) := by
  simp (disch := omega) only [m_X11_throwsIf, gd_t, ↓reduceIte, true_or, gd_T]
theorem rn_th_1 {x : Int} : m_X11_throwsIf 1 x D = some (1, sF D 73 0 x) := by
  simp (disch := omega) only [m_X11_throwsIf, gd_t, if_f, sq_eq, or_true, gd_T]
theorem rn_zone_t (R : RInv D M) (hv : InR v) (h : 0 ≤ v ∧ v < (mZ M : Int)) : m_X11_noZone v D = some (0, D) := by
  have e := R.2.1.2.1
  have b := R.1.2.2.1
  have i := rn_in_t (D := D) (a := 0) (b := (mZ M : Int) - 1) hv (by omega) (by omega) (by omega)
  simp (disch := omega) only [m_X11_noZone, m_X11_zones, gd_t, t2, e, ob_some, i, if_f, rn_th_0, bnd_some, true_or, gd_T]
theorem rn_zone_f (R : RInv D M) (hv : InR v) (h : ¬ (0 ≤ v ∧ v < (mZ M : Int))) : m_X11_noZone v D = some (1, sF D 73 0 1) := by
  have e := R.2.1.2.1
  have b := R.1.2.2.1
  have i := rn_in_f (D := D) (a := 0) (b := (mZ M : Int) - 1) hv (by omega) (by omega) (by omega)
  simp (disch := omega) only [m_X11_noZone, m_X11_zones, gd_t, t2, e, ob_some, i, if_t, ↓reduceIte, rn_th_1, bnd_some, or_true, gd_T]
theorem rn_group_t (R : RInv D M) (hv : InR v) (h : 0 ≤ v ∧ v < (mG M : Int)) : m_X11_noGroup v D = some (0, D) := by
  have e := R.2.1.2.2
  have b := R.1.2.2.2.1
  have i := rn_in_t (D := D) (a := 0) (b := (mG M : Int) - 1) hv (by omega) (by omega) (by omega)
  simp (disch := omega) only [m_X11_noGroup, gd_t, t3, e, ob_some, i, if_f, rn_th_0, bnd_some, true_or, gd_T]
theorem rn_group_f (R : RInv D M) (hv : InR v) (h : ¬ (0 ≤ v ∧ v < (mG M : Int))) : m_X11_noGroup v D = some (1, sF D 73 0 1) := by
  have e := R.2.1.2.2
  have b := R.1.2.2.2.1
  have i := rn_in_f (D := D) (a := 0) (b := (mG M : Int) - 1) hv (by omega) (by omega) (by omega)
  simp (disch := omega) only [m_X11_noGroup, gd_t, t3, e, ob_some, i, if_t, ↓reduceIte, rn_th_1, bnd_some, or_true, gd_T]
theorem rn_row_t (R : RInv D M) (hv : InR v) (h : 0 ≤ v ∧ v < (mH M : Int)) : m_X11_noRow v D = some (0, D) := by
  have e := R.2.1.1.1.2
  have b := R.1.2.1
  have i := rn_in_t (D := D) (a := 0) (b := (mH M : Int) - 1) hv (by omega) (by omega) (by omega)
  simp (disch := omega) only [m_X11_noRow, gd_t, t1, e, ob_some, i, if_f, rn_th_0, bnd_some, true_or, gd_T]
theorem rn_row_f (R : RInv D M) (hv : InR v) (h : ¬ (0 ≤ v ∧ v < (mH M : Int))) : m_X11_noRow v D = some (1, sF D 73 0 1) := by
  have e := R.2.1.1.1.2
  have b := R.1.2.1
  have i := rn_in_f (D := D) (a := 0) (b := (mH M : Int) - 1) hv (by omega) (by omega) (by omega)
  simp (disch := omega) only [m_X11_noRow, gd_t, t1, e, ob_some, i, if_t, ↓reduceIte, rn_th_1, bnd_some, or_true, gd_T]
theorem rn_cell_t (R : RInv D M) (hv : InR v) (h : 0 ≤ v ∧ v < (nC M : Int)) : m_X11_noCell v D = some (0, D) := by
  have e : m_X11_cells D = some (nC M : Int) := X11_cells R.2.1.1
  have b := nCb R.1
  have i := rn_in_t (D := D) (a := 0) (b := (nC M : Int) - 1) hv (by omega) (by omega) (by omega)
  simp (disch := omega) only [m_X11_noCell, gd_t, e, ob_some, i, if_f, rn_th_0, bnd_some, true_or, gd_T]
theorem rn_cell_f (R : RInv D M) (hv : InR v) (h : ¬ (0 ≤ v ∧ v < (nC M : Int))) : m_X11_noCell v D = some (1, sF D 73 0 1) := by
  have e : m_X11_cells D = some (nC M : Int) := X11_cells R.2.1.1
  have b := nCb R.1
  have i := rn_in_f (D := D) (a := 0) (b := (nC M : Int) - 1) hv (by omega) (by omega) (by omega)
  simp (disch := omega) only [m_X11_noCell, gd_t, e, ob_some, i, if_t, ↓reduceIte, rn_th_1, bnd_some, or_true, gd_T]
theorem rn_level_t (hv : InR v) (h : 0 ≤ v ∧ v < 5) : m_X11_noLevel v D = some (0, D) := by
  have i := rn_in_t (D := D) (a := 0) (b := 4) hv (by omega) (by omega) (by omega)
  simp (disch := omega) only [m_X11_noLevel, gd_t, ob_some, i, if_f, rn_th_0, bnd_some, true_or, gd_T]
theorem rn_level_f (hv : InR v) (h : ¬ (0 ≤ v ∧ v < 5)) : m_X11_noLevel v D = some (1, sF D 73 0 1) := by
  have i := rn_in_f (D := D) (a := 0) (b := 4) hv (by omega) (by omega) (by omega)
  simp (disch := omega) only [m_X11_noLevel, gd_t, ob_some, i, if_t, ↓reduceIte, rn_th_1, bnd_some, or_true, gd_T]
end Need
