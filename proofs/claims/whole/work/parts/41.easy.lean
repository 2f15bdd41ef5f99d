/-! ===== steps: fault, octet, end, lives, cell, name ===== -/
theorem MOK.p {M : MS} (O : MOK M) {k : Nat} (h : k < 24) : 0 ≤ mP M k ∧ mP M k ≤ 99999 := O.2.2.2.2.2.1 k h
theorem MOK.nm {M : MS} (O : MOK M) {z : Nat} (h : z < mZ M) : 1 ≤ mNL M z ∧ mNL M z ≤ 6 ∧ ∀ k, k < mNL M z → 97 ≤ mN M (6 * z + k) ∧ mN M (6 * z + k) ≤ 122 := O.2.2.2.2.2.2.1 z h
theorem MOK.ufx {M : MS} (O : MOK M) : (1 ≤ mU M ∧ mU M ≤ 9999) ∧ (2 ≤ mF M ∧ mF M ≤ 10) ∧ (-1 ≤ mX M ∧ mX M ≤ 400) := O.2.2.2.2.2.2.2.1
theorem MOK.tp {M : MS} (O : MOK M) : mTL M ≤ 400 ∧ ∀ k, k < mTL M → -128 ≤ mT M k ∧ mT M k ≤ 127 := O.2.2.2.2.2.2.2.2.1
theorem MOK.wr {M : MS} (O : MOK M) : mWL M ≤ 1600 ∧ ∀ k, k < mWL M → -128 ≤ mWT M k ∧ mWT M k ≤ 127 := O.2.2.2.2.2.2.2.2.2
theorem nat_of {v : Int} (h : 0 ≤ v) : ∃ n : Nat, v = (n : Int) := ⟨v.toNat, by omega⟩
theorem step_fault : StepOK m_L_c3 := fun xs Ls s hx hs ⟨M, hC, hR⟩ =>
  comb_fault hx hs (v := mX M) (by have := hC.1.ufx; omega) (by simp only [m_X10_fault, hC.2.1.2.2.1.2.2]) hC hR (fun D r => ⟨sF D 73 0 0, by
    have e := (r.thr (x := 0)).2.2.2.2.1.2.2
    simp only [m_X11_fault, sq_eq, e], r.thr, FrR.f (by omega)⟩)
section Easy
variable {D : DT} {M : MS} {v : Int}
theorem cls_octet_t (O : MOK M) (C : CBase D M) {n : Nat} (h : n < mWL M) : m_X10_octet (n : Int) D = some (mWT M n) := by
  obtain ⟨w1, w2⟩ := O.wr
  obtain ⟨c1, c2⟩ := C.2.2.2.2
  have c3 := c2 n h
  simp (disch := omega) only [m_X10_octet, gd_t, if_t, c1, tn, c3]
theorem cls_octet_f (O : MOK M) (C : CBase D M) (hv : InR v) (h : ¬ (0 ≤ v ∧ v < (mWL M : Int))) : m_X10_octet v D = some (-1) := by
  obtain ⟨w1, w2⟩ := O.wr
  obtain ⟨c1, c2⟩ := C.2.2.2.2
  by_cases q : 0 ≤ v
  · simp (disch := omega) only [m_X10_octet, gd_t, if_t, if_f, c1]
  · simp (disch := omega) only [m_X10_octet, gd_t, if_f]
theorem ref_octet_t (R : RInv D M) {n : Nat} (h : n < mWL M) : m_X11_octet (n : Int) D = some (mWT M n, sF D 73 0 0) := by
  obtain ⟨w1, w2⟩ := R.1.wr
  obtain ⟨c1, c2⟩ := (R.thr (x := 0)).2.2.2.2.2.2.1
  have c3 := c2 n h
  have i := rn_in_t (D := sF D 73 0 0) (v := (n : Int)) (a := 0) (b := (mWL M : Int) - 1) (by omega) (by omega) (by omega) (by omega)
  simp (disch := omega) only [m_X11_octet, sq_eq, c1, i, ob_some, gd_t, if_f, tn, c3]
theorem ref_octet_f (R : RInv D M) (hv : InR v) (h : ¬ (0 ≤ v ∧ v < (mWL M : Int))) : m_X11_octet v D = some (-1, sF D 73 0 0) := by
  obtain ⟨w1, w2⟩ := R.1.wr
  obtain ⟨c1, c2⟩ := (R.thr (x := 0)).2.2.2.2.2.2.1
  have i := rn_in_f (D := sF D 73 0 0) (v := v) (a := 0) (b := (mWL M : Int) - 1) (by omega) (by omega) (by omega) (by omega)
  simp (disch := omega) only [m_X11_octet, sq_eq, c1, i, ob_some, gd_t, ↓reduceIte]
end Easy
theorem step_octet : StepOK m_L_c41 := fun xs Ls s hx hs ⟨M, hC, hR⟩ => by
  have x1 := hx (Int.toNat (s.1 + 1))
  by_cases q : 0 ≤ xs (Int.toNat (s.1 + 1)) ∧ xs (Int.toNat (s.1 + 1)) < (mWL M : Int)
  · obtain ⟨n, hn⟩ := nat_of q.1
    have hb := hC.1.wr.2 n (by omega)
    exact comb_octet hx hs (v := mWT M n) (by omega) (by rw [hn]; exact cls_octet_t hC.1 hC.2.1 (by omega)) hC hR (fun D r => ⟨sF D 73 0 0, by rw [hn]; exact ref_octet_t r (by omega), r.thr, FrR.f (by omega)⟩)
  · exact comb_octet hx hs (v := -1) (by omega) (cls_octet_f hC.1 hC.2.1 x1 q) hC hR (fun D r => ⟨sF D 73 0 0, ref_octet_f r x1 q, r.thr, FrR.f (by omega)⟩)
theorem step_lives : StepOK m_L_c8 := fun xs Ls s hx hs ⟨M, hC, hR⟩ => by
  have x1 := hx (Int.toNat (s.1 + 1))
  have x2 := hx (Int.toNat (s.1 + 2))
  by_cases q1 : 0 ≤ xs (Int.toNat (s.1 + 1)) ∧ xs (Int.toNat (s.1 + 1)) < (mZ M : Int)
  · have a1 := cn_zone_t hC.1 hC.2.1 x1 q1
    by_cases q2 : 0 ≤ xs (Int.toNat (s.1 + 2)) ∧ xs (Int.toNat (s.1 + 2)) < (mG M : Int)
    · have a2 := cn_group_t hC.1 hC.2.1 x2 q2
      obtain ⟨z, hz⟩ := nat_of q1.1
      obtain ⟨g, hg⟩ := nat_of q2.1
      have b1 := hC.1.2.2.1
      have b2 := hC.1.2.2.2.1
      have hk : 3 * z + g < 24 := by omega
      have hp := hC.1.p hk
      have e1 := hC.2.1.1.2.2.1 (3 * z + g) (by omega)
      have k1 : (z : Int) * 3 + (g : Int) = ((3 * z + g : Nat) : Int) := by omega
      rw [hz] at a1 q1 x1
      rw [hg] at a2 q2 x2
      have k2 : 3 * (z : Int) + (g : Int) = ((3 * z + g : Nat) : Int) := by omega
      refine comb_lives hx hs (sp := .inl (mP M (3 * z + g))) (by show InR _; omega) (ClsX.same hC ?_) hR (RefX.same (c := 0) (mP M (3 * z + g)) rfl (fun v h => by injection h) (fun D r => ?_))
      · simp (disch := omega) only [m_X10_lives, a1, a2, bndN_inl, m_X1_livingIn, hz, hg, k1, gd_t, tn, ob_some, e1]
      · have e2 := (r.thr (x := 0)).2.2.1 (3 * z + g) hk
        have y1 := rn_zone_t (r.thr (x := 0)) x1 q1
        have y2 := rn_group_t (r.thr (x := 0)) x2 q2
        simp (disch := omega) only [m_X11_lives, sq_eq, y1, y2, bnd_some, hz, hg, k2, gd_t, tn, ↓reduceIte, e2]
    · have a2 := cn_group_f hC.1 hC.2.1 x2 q2
      refine comb_lives hx hs (sp := .inr 0) (by simp [spX]) (ClsX.same hC ?_) hR (RefX.same (c := 1) 0 rfl (fun v h => by cases h) (fun D r => ?_))
      · simp (disch := omega) only [m_X10_lives, a1, a2, bndN_inl, bndN_inr]
      · have y1 := rn_zone_t (r.thr (x := 0)) x1 q1
        have y2 := rn_group_f (r.thr (x := 0)) x2 q2
        simp (disch := omega) only [m_X11_lives, sq_eq, y1, y2, bnd_some, gd_t, ↓reduceIte, if_f, sFF]
  · have a1 := cn_zone_f hC.1 hC.2.1 x1 q1
    refine comb_lives hx hs (sp := .inr 0) (by simp [spX]) (ClsX.same hC ?_) hR (RefX.same (c := 1) 0 rfl (fun v h => by cases h) (fun D r => ?_))
    · simp (disch := omega) only [m_X10_lives, a1, bndN_inr]
    · have y1 := rn_zone_f (r.thr (x := 0)) x1 q1
      simp (disch := omega) only [m_X11_lives, sq_eq, y1, bnd_some, gd_t, ↓reduceIte, if_f, sFF]
theorem CBase.se {D : DT} {M : MS} (C : CBase D M) {c : Nat} (h : c < nC M) : D.2 3 c = mO M c ∧ D.2 4 c = mS M c := ⟨(C.1.1.2.2 c h).1, (C.1.1.2.2 c h).2.1⟩
theorem RInv.se {D : DT} {M : MS} (R : RInv D M) {c : Nat} (h : c < nC M) : D.2 78 c = mO M c ∧ D.2 80 c = mS M c := R.2.1.1.2.2 c h
theorem MOK.mo {M : MS} (O : MOK M) {c : Nat} (h : c < nC M) : (-1 ≤ mO M c ∧ mO M c < (mZ M : Int)) ∧ (mS M c = 0 ∨ mS M c = 1) := O.2.2.2.2.1 c h
theorem step_cell : StepOK m_L_c4 := fun xs Ls s hx hs ⟨M, hC, hR⟩ => by
  have x1 := hx (Int.toNat (s.1 + 1))
  have x2 := hx (Int.toNat (s.1 + 2))
  by_cases q1 : 0 ≤ xs (Int.toNat (s.1 + 1)) ∧ xs (Int.toNat (s.1 + 1)) < (nC M : Int)
  · have a1 := cn_cell_t hC.1 hC.2.1 x1 q1
    obtain ⟨c, hc⟩ := nat_of q1.1
    have hcc : c < nC M := by omega
    obtain ⟨e1, e2⟩ := hC.2.1.se hcc
    obtain ⟨o1, o2⟩ := hC.1.mo hcc
    have n1 := nCb hC.1
    have z1 := hC.1.2.2.1
    rw [hc] at a1 q1 x1
    by_cases q2 : xs (Int.toNat (s.1 + 2)) = 0
    · refine comb_cell hx hs (sp := .inl (mO M c)) (by show InR _; omega) (ClsX.same hC ?_) hR (RefX.same (c := 0) (mO M c) rfl (fun v h => by injection h) (fun D r => ?_))
      · simp (disch := omega) only [m_X10_cell, hc, a1, bndN_inl, gd_t, q2, ↓reduceIte, tn, e1]
      · have y1 := rn_cell_t (r.thr (x := 0)) x1 q1
        have i := rn_in_t (D := sF D 73 0 0) (v := 0) (a := 0) (b := 1) (by omega) (by omega) (by omega) (by omega)
        obtain ⟨f1, f2⟩ := (r.thr (x := 0)).se hcc
        simp (disch := omega) only [m_X11_cell, m_X11_cell_28, sq_eq, hc, y1, bnd_some, gd_t, ↓reduceIte, q2, i, ob_some, if_f, rn_th_0, tn, f1]
    by_cases q3 : xs (Int.toNat (s.1 + 2)) = 1
    · refine comb_cell hx hs (sp := .inl (mS M c)) (by show InR _; omega) (ClsX.same hC ?_) hR (RefX.same (c := 0) (mS M c) rfl (fun v h => by injection h) (fun D r => ?_))
      · rcases o2 with o | o
        · simp (disch := omega) only [m_X10_cell, hc, a1, bndN_inl, gd_t, q3, if_f, ↓reduceIte, tn, e2, o]
        · simp (disch := omega) only [m_X10_cell, hc, a1, bndN_inl, gd_t, q3, if_f, ↓reduceIte, tn, e2, o]
      · have y1 := rn_cell_t (r.thr (x := 0)) x1 q1
        have i := rn_in_t (D := sF D 73 0 0) (v := 1) (a := 0) (b := 1) (by omega) (by omega) (by omega) (by omega)
        obtain ⟨f1, f2⟩ := (r.thr (x := 0)).se hcc
        rcases o2 with o | o
        · simp (disch := omega) only [m_X11_cell, m_X11_cell_28, sq_eq, hc, y1, bnd_some, gd_t, ↓reduceIte, q3, i, ob_some, if_f, rn_th_0, tn, f2, o]
        · simp (disch := omega) only [m_X11_cell, m_X11_cell_28, sq_eq, hc, y1, bnd_some, gd_t, ↓reduceIte, q3, i, ob_some, if_f, rn_th_0, tn, f2, o]
    · refine comb_cell hx hs (sp := .inr 1) (by simp [spX]) (ClsX.same hC ?_) hR (RefX.same (c := 2) 0 rfl (fun v h => by cases h) (fun D r => ?_))
      · simp (disch := omega) only [m_X10_cell, hc, a1, bndN_inl, gd_t, if_f]
      · have y1 := rn_cell_t (r.thr (x := 0)) x1 q1
        have i := rn_in_f (D := sF D 73 0 0) (a := 0) (b := 1) x2 (by omega) (by omega) (by omega)
        simp (disch := omega) only [m_X11_cell, m_X11_cell_28, sq_eq, hc, y1, bnd_some, gd_t, ↓reduceIte, i, ob_some, if_f, rn_th_1, sFF]
  · have a1 := cn_cell_f hC.1 hC.2.1 x1 q1
    refine comb_cell hx hs (sp := .inr 0) (by simp [spX]) (ClsX.same hC ?_) hR (RefX.same (c := 1) 0 rfl (fun v h => by cases h) (fun D r => ?_))
    · simp (disch := omega) only [m_X10_cell, a1, bndN_inr]
    · have y1 := rn_cell_f (r.thr (x := 0)) x1 q1
      simp (disch := omega) only [m_X11_cell, sq_eq, y1, bnd_some, gd_t, ↓reduceIte, if_f, sFF]
theorem step_name : StepOK m_L_c6 := fun xs Ls s hx hs ⟨M, hC, hR⟩ => by
  have x1 := hx (Int.toNat (s.1 + 1))
  have x2 := hx (Int.toNat (s.1 + 2))
  by_cases q1 : 0 ≤ xs (Int.toNat (s.1 + 1)) ∧ xs (Int.toNat (s.1 + 1)) < (mZ M : Int)
  · have a1 := cn_zone_t hC.1 hC.2.1 x1 q1
    obtain ⟨z, hz⟩ := nat_of q1.1
    have hzz : z < mZ M := by omega
    obtain ⟨l1, l2, l3⟩ := hC.1.nm hzz
    obtain ⟨e1, e2⟩ := hC.2.1.1.2.2.2 z hzz
    have z1 := hC.1.2.2.1
    rw [hz] at a1 q1 x1
    by_cases q2 : 0 ≤ xs (Int.toNat (s.1 + 2)) ∧ xs (Int.toNat (s.1 + 2)) < (mNL M z : Int)
    · obtain ⟨k, hk⟩ := nat_of q2.1
      have hkk : k < mNL M z := by omega
      have l4 := l3 k hkk
      have e3 := e2 k hkk
      rw [hk] at q2 x2
      have k1 : (z : Int) * 6 + (k : Int) = ((6 * z + k : Nat) : Int) := by omega
      have k2 : 6 * (z : Int) + (k : Int) = ((6 * z + k : Nat) : Int) := by omega
      refine comb_name hx hs (sp := .inl (mN M (6 * z + k))) (by show InR _; omega) (ClsX.same hC ?_) hR (RefX.same (c := 0) (mN M (6 * z + k)) rfl (fun v h => by injection h) (fun D r => ?_))
      · simp (disch := omega) only [m_X10_name, hz, hk, a1, bndN_inl, gd_t, tn, e1, if_t, k1, e3]
      · have y1 := rn_zone_t (r.thr (x := 0)) x1 q1
        have i := rn_in_t (D := sF D 73 0 0) (v := (k : Int)) (a := 0) (b := 5) (by omega) (by omega) (by omega) (by omega)
        have f := (r.thr (x := 0)).2.2.2.1 z hzz k (by omega)
        rw [if_pos hkk] at f
        simp (disch := omega) only [m_X11_name, sq_eq, hz, hk, y1, bnd_some, gd_t, ↓reduceIte, i, ob_some, if_f, k2, tn, f]
    · refine comb_name hx hs (sp := .inl (-1)) (by show InR _; omega) (ClsX.same hC ?_) hR (RefX.same (c := 0) (-1) rfl (fun v h => by injection h) (fun D r => ?_))
      · by_cases q3 : 0 ≤ xs (Int.toNat (s.1 + 2))
        · simp (disch := omega) only [m_X10_name, hz, a1, bndN_inl, gd_t, tn, e1, if_t, if_f]
        · simp (disch := omega) only [m_X10_name, hz, a1, bndN_inl, gd_t, if_f]
      · have y1 := rn_zone_t (r.thr (x := 0)) x1 q1
        by_cases q3 : 0 ≤ xs (Int.toNat (s.1 + 2)) ∧ xs (Int.toNat (s.1 + 2)) ≤ 5
        · obtain ⟨k, hk⟩ := nat_of q3.1
          rw [hk] at q2 q3 x2
          have k2 : 6 * (z : Int) + (k : Int) = ((6 * z + k : Nat) : Int) := by omega
          have i := rn_in_t (D := sF D 73 0 0) (v := (k : Int)) (a := 0) (b := 5) (by omega) (by omega) (by omega) (by omega)
          have f := (r.thr (x := 0)).2.2.2.1 z hzz k (by omega)
          rw [if_neg (by omega)] at f
          simp (disch := omega) only [m_X11_name, sq_eq, hz, hk, y1, bnd_some, gd_t, ↓reduceIte, i, ob_some, if_f, k2, tn, f]
        · have i := rn_in_f (D := sF D 73 0 0) (a := 0) (b := 5) x2 (by omega) (by omega) q3
          simp (disch := omega) only [m_X11_name, sq_eq, hz, y1, bnd_some, gd_t, ↓reduceIte, i, ob_some]
  · have a1 := cn_zone_f hC.1 hC.2.1 x1 q1
    refine comb_name hx hs (sp := .inr 0) (by simp [spX]) (ClsX.same hC ?_) hR (RefX.same (c := 1) 0 rfl (fun v h => by cases h) (fun D r => ?_))
    · simp (disch := omega) only [m_X10_name, a1, bndN_inr]
    · have y1 := rn_zone_f (r.thr (x := 0)) x1 q1
      simp (disch := omega) only [m_X11_name, sq_eq, y1, bnd_some, gd_t, ↓reduceIte, if_f, sFF]
