/-! ===== steps: order, stands ===== -/
theorem KpO.frC {D D' : DT} {lo hi : Nat} (h : KpO D D' lo hi) (q : hi < 73) : FrC D D' := fun a ha => h a (by omega)
theorem step_stands : StepOK m_L_c13 := fun xs Ls s hx hs ⟨M, hC, hR⟩ => by
  have x1 := hx (Int.toNat (s.1 + 1))
  have n4 := nCb hC.1
  by_cases q1 : 0 ≤ xs (Int.toNat (s.1 + 1)) ∧ xs (Int.toNat (s.1 + 1)) < (nC M : Int)
  · have a1 := cn_cell_t hC.1 hC.2.1 x1 q1
    obtain ⟨c, hc⟩ := nat_of q1.1
    rw [hc] at a1 q1 x1
    have hcn : c < nC M := by omega
    obtain ⟨D', e1, e2, e3, e4, e5⟩ := ranked_p hC.plan
    have pb : InR (plcM M c) := by
      by_cases q : hasL M c = true
      · obtain ⟨z, hz, ho, hl⟩ := own_of hC.1 hcn q
        have := plc_b hcn hl
        have := ldM_b hC.1 z
        omega
      · rw [plc_none q]; omega
    refine comb_stands hx hs (M' := M) (sp := .inl (plcM M c)) pb ⟨D', ?_, hC.back (fun b hb => e5 b (by omega)) e2, e5.frC (by omega)⟩ hR (fun D r => ⟨plcM M c, sF D 73 0 0, ?_, r.thr, FrR.f (by omega), rfl, fun v h => by injection h⟩)
    · have e6 : D'.2 16 c = plcM M c := e4.1 c hcn
      simp (disch := omega) only [m_X10_stands, hc, a1, bndN_inl, e1, ob_some, gd_t, tn, e6]
    · have y1 := rn_cell_t (r.thr (x := 0)) x1 (by omega)
      have e6 : (sF D 73 0 0).2 88 c = plcM M c := r.2.2.2.2.2.2.2.2.2.2 c hcn
      simp (disch := omega) only [m_X11_stands, sq_eq, hc, y1, bnd_some, gd_t, ↓reduceIte, tn, e6]
  · have a1 := cn_cell_f hC.1 hC.2.1 x1 q1
    refine comb_stands hx hs (sp := .inr 0) (by simp [spX]) (ClsX.same hC ?_) hR (RefX.same (c := 1) 0 rfl (fun v h => by cases h) (fun D r => ?_))
    · simp (disch := omega) only [m_X10_stands, a1, bndN_inr]
    · have y1 := rn_cell_f (r.thr (x := 0)) x1 q1
      simp (disch := omega) only [m_X11_stands, sq_eq, y1, bnd_some, gd_t, if_f, sFF]
theorem X6_cellAt {D : DT} {r : Nat} {M : MS} (O : MOK M) (K : RanksAll D r M) {z i : Nat} (hz : z < mZ M) (hi : i < (ordL M (z : Int)).length) : m_X6_cellAt r (z : Int) (i : Int) D = some ((ordL M (z : Int))[i] : Int) := by
  have n4 := nCb O
  have z8 := O.2.2.1
  have e1 := K.2.1 z hz
  have e2 := K.2.2 z hz i hi
  have fb := fst_b O z
  have fb2 := fst_b O (z + 1)
  have fs := fst_s M z
  have ll : ((ordL M (z : Int)).length : Int) = ldM M z := ord_len M z
  have et : (fstM M z + (i : Int)).toNat = (fstM M z).toNat + i := by omega
  simp (disch := omega) only [m_X6_cellAt, gd_t, tn, e1, if_t, et, e2]
theorem step_order : StepOK m_L_c12 := fun xs Ls s hx hs ⟨M, hC, hR⟩ => by
  have x1 := hx (Int.toNat (s.1 + 1))
  have x2 := hx (Int.toNat (s.1 + 2))
  have O := hC.1
  have n4 := nCb O
  have z8 := O.2.2.1
  by_cases q1 : 0 ≤ xs (Int.toNat (s.1 + 1)) ∧ xs (Int.toNat (s.1 + 1)) < (mZ M : Int)
  · have a1 := cn_zone_t hC.1 hC.2.1 x1 q1
    obtain ⟨z, hz⟩ := nat_of q1.1
    rw [hz] at a1 q1 x1
    have hzn : z < mZ M := by omega
    have lb := ldM_b O z
    have ll : ((ordL M (z : Int)).length : Int) = ldM M z := ord_len M z
    by_cases q2 : 0 ≤ xs (Int.toNat (s.1 + 2))
    · obtain ⟨D', e1, e2, e3, e4⟩ := tallied_p hC.plan
      have e5 : D'.2 11 z = ldM M z := e3.1 z (by omega)
      by_cases q3 : xs (Int.toNat (s.1 + 2)) < ldM M z
      · obtain ⟨i, hi⟩ := nat_of q2
        have hil : i < (ordL M (z : Int)).length := by omega
        obtain ⟨D2, g1, g2, g3, g4, g5⟩ := ranked_p e2
        have cb := (ord_mem (List.getElem_mem hil)).1
        have kk : KpO s.2 D2 10 27 := e4.trans g5 (by omega)
        refine comb_order hx hs (M' := M) (sp := .inl ((ordL M (z : Int))[i] : Int)) (by show InR _; omega) ⟨D2, ?_, hC.back kk g2, kk.frC (by omega)⟩ hR (fun D r => ⟨((ordL M (z : Int))[i] : Int), sF D 73 0 0, ?_, r.thr, FrR.f (by omega), rfl, fun v h => by injection h⟩)
        · have g6 := X6_cellAt O g4 hzn hil
          simp (disch := omega) only [m_X10_order, hz, hi, a1, bndN_inl, gd_t, if_t, e1, ob_some, tn, e5, g1, g6]
        · have y1 := rn_zone_t (r.thr (x := 0)) x1 (by omega)
          have OR := (r.thr (x := 0)).2.2.2.2.2.2.2.2
          have yl := X11_land O OR.1 hzn
          have y87 := OR.1 z (by omega)
          have y86 := OR.2.1 z hzn i hil
          have i2 := rn_in_t (D := sF D 73 0 0) (v := (i : Int)) (a := 0) (b := ldM M z - 1) (by omega) (by omega) (by omega) (by omega)
          have fb := fst_b O z
          have fb2 := fst_b O (z + 1)
          have fs := fst_s M z
          have et : (fstM M z + (i : Int)).toNat = (fstM M z).toNat + i := by omega
          simp (disch := omega) only [m_X11_order, sq_eq, hz, hi, y1, bnd_some, gd_t, ↓reduceIte, yl, ob_some, i2, if_f, tn, y87, et, y86]
      · have kk : KpO s.2 D' 10 27 := fun b hb => e4 b (by omega)
        refine comb_order hx hs (M' := M) (sp := .inl (-1)) (by show InR _; omega) ⟨D', ?_, hC.back kk e2, kk.frC (by omega)⟩ hR (fun D r => ⟨-1, sF D 73 0 0, ?_, r.thr, FrR.f (by omega), rfl, fun v h => by injection h⟩)
        · simp (disch := omega) only [m_X10_order, hz, a1, bndN_inl, gd_t, if_t, e1, ob_some, tn, e5, if_f q3]
        · have y1 := rn_zone_t (r.thr (x := 0)) x1 (by omega)
          have yl := X11_land O (r.thr (x := 0)).2.2.2.2.2.2.2.2.1 hzn
          have i2 := rn_in_f (D := sF D 73 0 0) (a := 0) (b := ldM M z - 1) x2 (by omega) (by omega) (by omega)
          simp (disch := omega) only [m_X11_order, sq_eq, hz, y1, bnd_some, gd_t, ↓reduceIte, yl, ob_some, i2]
    · refine comb_order hx hs (M' := M) (sp := .inl (-1)) (by show InR _; omega) (ClsX.same hC ?_) hR (RefX.same (c := 0) (-1) rfl (fun v h => by injection h) (fun D r => ?_))
      · simp (disch := omega) only [m_X10_order, hz, a1, bndN_inl, gd_t, if_f q2]
      · have y1 := rn_zone_t (r.thr (x := 0)) x1 (by omega)
        have yl := X11_land O (r.thr (x := 0)).2.2.2.2.2.2.2.2.1 hzn
        have i2 := rn_in_f (D := sF D 73 0 0) (a := 0) (b := ldM M z - 1) x2 (by omega) (by omega) (by omega)
        simp (disch := omega) only [m_X11_order, sq_eq, hz, y1, bnd_some, gd_t, ↓reduceIte, yl, ob_some, i2]
  · have a1 := cn_zone_f hC.1 hC.2.1 x1 q1
    refine comb_order hx hs (sp := .inr 0) (by simp [spX]) (ClsX.same hC ?_) hR (RefX.same (c := 1) 0 rfl (fun v h => by cases h) (fun D r => ?_))
    · simp (disch := omega) only [m_X10_order, a1, bndN_inr]
    · have y1 := rn_zone_f (r.thr (x := 0)) x1 q1
      simp (disch := omega) only [m_X11_order, sq_eq, y1, bnd_some, gd_t, if_f, sFF]
