/-! ===== steps: zone, part ===== -/
def ownN (M : MS) (z : Int) : Int := sumTo (fun c => b2i (mO M c = z)) (nC M)
def runN (M : MS) (z : Int) : Int := sumTo (fun r => sumTo (fun x => b2i (begP (mO M) (mS M) z (mW M) r x)) (mW M)) (mH M)
theorem runN_b {M : MS} (O : MOK M) (z : Int) : 0 ≤ runN M z ∧ runN M z ≤ 384 := by
  have d := O.2.1
  have := sumTo_bounds (f := fun r => sumTo (fun x => b2i (begP (mO M) (mS M) z (mW M) r x)) (mW M)) (n := mH M) (a := 0) (b := 24) (fun r _ => by
    have := sumTo_bounds (f := fun x => b2i (begP (mO M) (mS M) z (mW M) r x)) (n := mW M) (a := 0) (b := 1) (fun x _ => b2i_01)
    omega)
  unfold runN
  omega
theorem X1_allRunsOf {D : DT} {hc : Nat} {M : MS} {z : Int} (C : CMap D hc (mW M) (mH M) (mO M) (mS M)) (O : MOK M) (hz : InR z) : m_X1_allRunsOf hc z D = some (runN M z) := by
  have d := O.2.1
  have eh := C.1.2
  refine loop_for (st := fun r => (sumTo (fun r => sumTo (fun x => b2i (begP (mO M) (mS M) z (mW M) r x)) (mW M)) r, (r : Int))) (mH M) (fun r hr => ?_) ?_
  · have e := X1_runsOf C O.2.2.2.2.1 O.2.2.1 hz hr
    have c1 : ((r + 1 : Nat) : Int) = (r : Int) + 1 := rfl
    simp (disch := omega) only [eh, gd_t, if_t, e, ob_some, sumTo, c1]
  · simp (disch := omega) only [eh, gd_t, if_f, done_some, runN]
theorem ref_runs {D : DT} {M : MS} {z : Int} (R : RMap D (mW M) (mH M) (mO M) (mS M)) (O : MOK M) (hz : InR z) : m_X11_zone_144 z D (0, 0) = some (runN M z, D) := by
  have d := O.2.1
  have eh := R.1.2
  refine loop_for (st := fun r => (sumTo (fun r => sumTo (fun x => b2i (begP (mO M) (mS M) z (mW M) r x)) (mW M)) r, (r : Int))) (mH M) (fun r hr => ?_) ?_
  · have e := X11_runsIn R O.2.2.2.2.1 O.2.2.1 hz hr
    have c1 : ((r + 1 : Nat) : Int) = (r : Int) + 1 := rfl
    simp (disch := omega) only [t1, eh, gd_t, if_t, e, ob_some, sumTo, c1]
  · simp (disch := omega) only [t1, eh, gd_t, if_f, done_some, runN]
theorem ref_own {D : DT} {M : MS} {z : Int} (R : RMap D (mW M) (mH M) (mO M) (mS M)) (O : MOK M) (hz : InR z) : m_X11_zone_79 z D (0, 0) = some (ownN M z, D) := by
  have n4 := nCb O
  have z8 := O.2.2.1
  have ec : m_X11_cells D = some (nC M : Int) := X11_cells R
  refine loop_for (st := fun c => (sumTo (fun c => b2i (mO M c = z)) c, (c : Int))) (nC M) (fun c hc => ?_) ?_
  · have e := (R.2.2 c hc).1
    have o := (O.2.2.2.2.1 c hc).1
    have c1 : ((c + 1 : Nat) : Int) = (c : Int) + 1 := rfl
    by_cases q : mO M c = z
    · simp (disch := omega) only [ec, ob_some, gd_t, if_t, tn, e, if_t q, sumTo, b2i_t q, c1]
    · simp (disch := omega) only [ec, ob_some, gd_t, if_t, tn, e, if_f q, sumTo, b2i_f q, c1]
  · simp (disch := omega) only [ec, ob_some, gd_t, if_f, done_some, ownN]
theorem step_zone : StepOK m_L_c5 := fun xs Ls s hx hs ⟨M, hC, hR⟩ => by
  have x1 := hx (Int.toNat (s.1 + 1))
  have x2 := hx (Int.toNat (s.1 + 2))
  have O := hC.1
  have C := hC.2.1
  have z8 := O.2.2.1
  have n4 := nCb O
  by_cases q1 : 0 ≤ xs (Int.toNat (s.1 + 1)) ∧ xs (Int.toNat (s.1 + 1)) < (mZ M : Int)
  · have a1 := cn_zone_t O C x1 q1
    obtain ⟨z, hz⟩ := nat_of q1.1
    rw [hz] at a1 q1 x1
    have hzn : z < mZ M := by omega
    by_cases q2 : 0 ≤ xs (Int.toNat (s.1 + 2)) ∧ xs (Int.toNat (s.1 + 2)) ≤ 5
    · have ref0 : ∀ D, RInv D M → m_X11_zone (z : Int) (xs (Int.toNat (s.1 + 2))) D = m_X11_zone_28 (z : Int) (xs (Int.toNat (s.1 + 2))) 0 (sF D 73 0 0) := fun D r => by
        have y1 := rn_zone_t (r.thr (x := 0)) x1 (by omega)
        have i2 := rn_in_t (D := sF D 73 0 0) (a := 0) (b := 5) x2 (by omega) (by omega) q2
        simp (disch := omega) only [m_X11_zone, sq_eq, y1, bnd_some, gd_t, ↓reduceIte, i2, ob_some, if_f]
      -- answers that change nothing
      have plain : ∀ v : Int, InR v → m_X10_zone (z : Int) (xs (Int.toNat (s.1 + 2))) s.2 = some (.inl v, s.2) → (∀ D, RInv D M → m_X11_zone_28 (z : Int) (xs (Int.toNat (s.1 + 2))) 0 (sF D 73 0 0) = some (v, sF D 73 0 0)) → ∃ D', m_L_c5 xs Ls s = some (.inl (s.1 + 7, D')) ∧ Good D' := fun v hv h1 h2 =>
        comb_zone hx hs (sp := .inl v) hv (ClsX.same hC (by rw [hz]; exact h1)) hR (RefX.same (c := 0) v rfl (fun u h => by injection h) (fun D r => by rw [hz, ref0 D r]; exact h2 D r))
      by_cases m0 : xs (Int.toNat (s.1 + 2)) = 0
      · refine plain (ownN M z) ?_ ?_ (fun D r => ?_)
        · have := sum01 (f := fun c => mO M c = (z : Int)) n4
          unfold ownN
          omega
        · have e : m_X1_cellsOf 2 (z : Int) s.2 = some (ownN M z) := X1_cellsOf C.1.1 O.2.2.2.2.1 z8 x1
          simp (disch := omega) only [m_X10_zone, a1, bndN_inl, gd_t, if_t m0, e, ob_some]
        · have e := ref_own (r.thr (x := 0)).2.1.1 O x1
          simp (disch := omega) only [m_X11_zone_28, rn_th_0, bnd_some, gd_t, ↓reduceIte, if_t m0, e]
      · by_cases m1 : xs (Int.toNat (s.1 + 2)) = 1
        · refine plain (ldM M z) ?_ ?_ (fun D r => ?_)
          · have := ldM_b O z
            omega
          · have e : m_X1_landOf 2 (z : Int) s.2 = some (ldM M z) := X1_landOf C.1.1 O.2.2.2.2.1 z8 x1
            simp (disch := omega) only [m_X10_zone, a1, bndN_inl, gd_t, if_f m0, if_t m1, e, ob_some]
          · have e := X11_land O (r.thr (x := 0)).2.2.2.2.2.2.2.2.1 hzn
            simp (disch := omega) only [m_X11_zone_28, rn_th_0, bnd_some, gd_t, ↓reduceIte, if_f m0, if_t m1, e, ob_some]
        · by_cases m2 : xs (Int.toNat (s.1 + 2)) = 2
          · obtain ⟨D1, e1, e2, e3, e4⟩ := X3_find O C.1.1 hzn
            have pb := (pt_ok M (z : Int) (nC M)).2.2
            refine comb_zone hx hs (M' := M) (sp := .inl ((ptS M (z : Int) (nC M)).2 : Int)) (by show InR _; omega) ⟨D1, ?_, e2.cinv hC, e2.frC⟩ hR (fun D r => ?_)
            · simp (disch := omega) only [m_X10_zone, hz, a1, bndN_inl, gd_t, if_f m0, if_f m1, if_t m2, e1, ob_some, e3]
            · obtain ⟨E, f1, f2, f3⟩ := X11_laysParts (r.thr (x := 0)) hzn
              refine ⟨_, E, ?_, f2.inv (r.thr (x := 0)), (FrR.f (by omega)).trans f2.frR, by rw [f2.1]; rfl, fun v h => by injection h⟩
              rw [hz, ref0 D r]
              simp (disch := omega) only [m_X11_zone_28, rn_th_0, bnd_some, gd_t, ↓reduceIte, if_f m0, if_f m1, if_t m2, f1]
          · by_cases m3 : xs (Int.toNat (s.1 + 2)) = 3
            · refine plain (sdM M z (shoM M)) ?_ ?_ (fun D r => ?_)
              · have := sd_b O (z : Int) (shoM_b M)
                omega
              · have e := X1_shoreOf C.1.1 O x1
                simp (disch := omega) only [m_X10_zone, a1, bndN_inl, gd_t, if_f m0, if_f m1, if_f m2, if_t m3, e, ob_some]
              · have e := X11_sides (sd := 1) (r.thr (x := 0)).2.1.1 O x1 (Or.inr rfl)
                rw [if_neg (by omega)] at e
                simp (disch := omega) only [m_X11_zone_28, rn_th_0, bnd_some, gd_t, ↓reduceIte, if_f m0, if_f m1, if_f m2, if_t m3, e, ob_some]
            · by_cases m4 : xs (Int.toNat (s.1 + 2)) = 4
              · refine plain (sdM M z (brd M z)) ?_ ?_ (fun D r => ?_)
                · have := sd_b O (z : Int) (brd_b M z)
                  omega
                · have e := X1_borderOf C.1.1 O x1
                  simp (disch := omega) only [m_X10_zone, a1, bndN_inl, gd_t, if_f m0, if_f m1, if_f m2, if_f m3, if_t m4, e, ob_some]
                · have e := X11_sides (sd := 0) (r.thr (x := 0)).2.1.1 O x1 (Or.inl rfl)
                  rw [if_pos rfl] at e
                  simp (disch := omega) only [m_X11_zone_28, rn_th_0, bnd_some, gd_t, ↓reduceIte, if_f m0, if_f m1, if_f m2, if_f m3, if_t m4, e, ob_some]
              · have m5 : xs (Int.toNat (s.1 + 2)) = 5 := by omega
                refine plain (runN M z) ?_ ?_ (fun D r => ?_)
                · have := runN_b O (z : Int)
                  omega
                · have e := X1_allRunsOf C.1.1 O x1
                  simp (disch := omega) only [m_X10_zone, a1, bndN_inl, gd_t, if_f m0, if_f m1, if_f m2, if_f m3, if_f m4, if_t m5, e, ob_some]
                · have e := ref_runs (r.thr (x := 0)).2.1.1 O x1
                  simp (disch := omega) only [m_X11_zone_28, rn_th_0, bnd_some, gd_t, ↓reduceIte, if_f m0, if_f m1, if_f m2, if_f m3, if_f m4, e]
    · refine comb_zone hx hs (sp := .inr 1) (by simp [spX]) (ClsX.same hC ?_) hR (RefX.same (c := 2) 0 rfl (fun v h => by cases h) (fun D r => ?_))
      · simp (disch := omega) only [m_X10_zone, hz, a1, bndN_inl, gd_t, if_f]
      · have y1 := rn_zone_t (r.thr (x := 0)) x1 (by omega)
        have i2 := rn_in_f (D := sF D 73 0 0) (a := 0) (b := 5) x2 (by omega) (by omega) q2
        simp (disch := omega) only [m_X11_zone, sq_eq, hz, y1, bnd_some, gd_t, ↓reduceIte, i2, ob_some, m_X11_zone_28, rn_th_1, if_f, sFF]
  · have a1 := cn_zone_f O C x1 q1
    refine comb_zone hx hs (sp := .inr 0) (by simp [spX]) (ClsX.same hC ?_) hR (RefX.same (c := 1) 0 rfl (fun v h => by cases h) (fun D r => ?_))
    · simp (disch := omega) only [m_X10_zone, a1, bndN_inr]
    · have y1 := rn_zone_f (r.thr (x := 0)) x1 q1
      simp (disch := omega) only [m_X11_zone, sq_eq, y1, bnd_some, gd_t, if_f, sFF]
theorem step_part : StepOK m_L_c25 := fun xs Ls s hx hs ⟨M, hC, hR⟩ => by
  have x1 := hx (Int.toNat (s.1 + 1))
  have O := hC.1
  have C := hC.2.1
  have n4 := nCb O
  by_cases q1 : 0 ≤ xs (Int.toNat (s.1 + 1)) ∧ xs (Int.toNat (s.1 + 1)) < (nC M : Int)
  · have a1 := cn_cell_t O C x1 q1
    obtain ⟨c, hc⟩ := nat_of q1.1
    rw [hc] at a1 q1 x1
    have hcn : c < nC M := by omega
    have el := X1_hasL C.1.1 O hcn
    by_cases q : hasL M c = true
    · rw [if_pos q] at el
      obtain ⟨z, hz, ho, hl⟩ := own_of O hcn q
      obtain ⟨D1, e1, e2, e3, e4⟩ := X3_find O C.1.1 hz
      have pk := pt_ok M (z : Int) (nC M)
      have pb := pk.2.1 c
      have eo : s.2.2 3 c = (z : Int) := by rw [← ho]; exact (C.1.1.2.2 c hcn).1
      refine comb_part hx hs (M' := M) (sp := .inl ((ptS M (z : Int) (nC M)).1 c)) (by show InR _; omega) ⟨D1, ?_, e2.cinv hC, e2.frC⟩ hR (fun D r => ?_)
      · have e5 := e4 c hcn
        simp (disch := omega) only [m_X10_part, hc, a1, bndN_inl, el, ob_some, gd_t, if_f, tn, eo, e1, e5]
      · obtain ⟨E, f1, f2, f3⟩ := X11_laysParts (r.thr (x := 0)) hz
        have y1 := rn_cell_t (r.thr (x := 0)) x1 (by omega)
        have yl := X11_hasL (r.thr (x := 0)).2.1.1 O hcn
        rw [if_pos q] at yl
        have yo : (sF D 73 0 0).2 78 c = (z : Int) := by rw [← ho]; exact ((r.thr (x := 0)).2.1.1.2.2 c hcn).1
        have f5 := f3 c hcn
        refine ⟨_, E, ?_, f2.inv (r.thr (x := 0)), (FrR.f (by omega)).trans f2.frR, by rw [f2.1]; rfl, fun v h => by injection h⟩
        simp (disch := omega) only [m_X11_part, sq_eq, hc, y1, bnd_some, gd_t, ↓reduceIte, yl, ob_some, if_f, tn, yo, f1, f5]
    · rw [if_neg q] at el
      refine comb_part hx hs (sp := .inl (-1)) (by show InR _; omega) (ClsX.same hC ?_) hR (RefX.same (c := 0) (-1) rfl (fun v h => by injection h) (fun D r => ?_))
      · simp (disch := omega) only [m_X10_part, hc, a1, bndN_inl, el, ob_some, gd_t, ↓reduceIte]
      · have y1 := rn_cell_t (r.thr (x := 0)) x1 (by omega)
        have yl := X11_hasL (r.thr (x := 0)).2.1.1 O hcn
        rw [if_neg q] at yl
        have e0 : (sF D 73 0 0).1 73 0 = 0 := rfl
        simp (disch := omega) only [m_X11_part, sq_eq, hc, y1, bnd_some, gd_t, ↓reduceIte, yl, ob_some, e0, if_f]
  · have a1 := cn_cell_f O C x1 q1
    refine comb_part hx hs (sp := .inr 0) (by simp [spX]) (ClsX.same hC ?_) hR (RefX.same (c := 1) 0 rfl (fun v h => by cases h) (fun D r => ?_))
    · simp (disch := omega) only [m_X10_part, a1, bndN_inr]
    · have y1 := rn_cell_f (r.thr (x := 0)) x1 q1
      have e1 : (sF D 73 0 1).1 73 0 = 1 := rfl
      simp (disch := omega) only [m_X11_part, sq_eq, y1, bnd_some, gd_t, if_f, e1, if_t, sFF]
