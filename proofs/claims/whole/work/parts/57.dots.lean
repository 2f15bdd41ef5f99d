/-! ===== steps: dots, carried, left ===== -/
theorem step_dots : StepOK m_L_c14 := fun xs Ls s hx hs ⟨M, hC, hR⟩ => by
  have x1 := hx (Int.toNat (s.1 + 1))
  have x2 := hx (Int.toNat (s.1 + 2))
  have x3 := hx (Int.toNat (s.1 + 3))
  have O := hC.1
  have C := hC.2.1
  have z8 := O.2.2.1
  have g3 := O.2.2.2.1
  have ub := O.ufx
  by_cases q1 : 0 ≤ xs (Int.toNat (s.1 + 1)) ∧ xs (Int.toNat (s.1 + 1)) < (mZ M : Int)
  · have a1 := cn_zone_t O C x1 q1
    by_cases q2 : 0 ≤ xs (Int.toNat (s.1 + 2)) ∧ xs (Int.toNat (s.1 + 2)) < (mG M : Int)
    · have a2 := cn_group_t O C x2 q2
      by_cases q3 : 0 ≤ xs (Int.toNat (s.1 + 3)) ∧ xs (Int.toNat (s.1 + 3)) < 5
      · have a3 := cn_level_t (D := s.2) x3 q3
        obtain ⟨z, hz⟩ := nat_of q1.1
        obtain ⟨g, hg⟩ := nat_of q2.1
        obtain ⟨l, hl⟩ := nat_of q3.1
        rw [hz] at a1 q1 x1
        rw [hg] at a2 q2 x2
        rw [hl] at a3 q3 x3
        have b := dotM_b O (show 0 < mU M by omega) (show g < 3 by omega) l (show z < 8 by omega)
        obtain ⟨D', e1, e2, e3, e4⟩ := X5_tallied hC
        have e5 := (e3.2.2.1 l g z (by omega) (by omega) (by omega)).1
        have k1 : ((l : Int) * 3 + (g : Int)) * 8 + (z : Int) = (((l * 3 + g) * 8 + z : Nat) : Int) := by omega
        have k2 : 3 * (8 * (l : Int) + (z : Int)) + (g : Int) = ((3 * (8 * l + z) + g : Nat) : Int) := by omega
        refine comb_dots hx hs (M' := M) (sp := .inl (dotM M (mU M) g l z)) (by show InR _; omega) ⟨D', ?_, e2, fun a ha => e4 a (by omega)⟩ hR (fun D r => ?_)
        · simp (disch := omega) only [m_X10_dots, hz, hg, hl, a1, a2, a3, bndN_inl, e1, ob_some, m_X8_dotsOf, m_X8_placeOf, k1, gd_t, tn, e5]
        · have y1 := rn_zone_t (r.thr (x := 0)) x1 q1
          have y2 := rn_group_t (r.thr (x := 0)) x2 q2
          have y3 := rn_level_t (D := sF D 73 0 0) x3 q3
          have eu := (r.thr (x := 0)).2.2.2.2.1.1
          obtain ⟨E, f1, f2, f3⟩ := X11_laysDots (r.thr (x := 0)) (u := mU M) (by omega)
          have f4 := ((f3 l g (by omega) (by omega) (by omega)).1 z (by omega)).1
          refine ⟨dotM M (mU M) g l z, E, ?_, (r.thr (x := 0)).rk f2, (FrR.f (by omega)).trans f2.frR, by rw [f2.1]; rfl, fun v h => by injection h⟩
          simp (disch := omega) only [m_X11_dots, sq_eq, hz, hg, hl, y1, y2, y3, bnd_some, gd_t, ↓reduceIte, eu, f1, ob_some, m_X11_dotsAt, k2, tn, f4]
          try rfl
      · have a3 := cn_level_f (D := s.2) x3 q3
        refine comb_dots hx hs (sp := .inr 0) (by simp [spX]) (ClsX.same hC ?_) hR (RefX.same (c := 1) 0 rfl (fun v h => by cases h) (fun D r => ?_))
        · simp (disch := omega) only [m_X10_dots, a1, a2, a3, bndN_inl, bndN_inr]
        · have y1 := rn_zone_t (r.thr (x := 0)) x1 q1
          have y2 := rn_group_t (r.thr (x := 0)) x2 q2
          have y3 := rn_level_f (D := sF D 73 0 0) x3 q3
          simp (disch := omega) only [m_X11_dots, sq_eq, y1, y2, y3, bnd_some, gd_t, ↓reduceIte, if_f, sFF]
    · have a2 := cn_group_f O C x2 q2
      refine comb_dots hx hs (sp := .inr 0) (by simp [spX]) (ClsX.same hC ?_) hR (RefX.same (c := 1) 0 rfl (fun v h => by cases h) (fun D r => ?_))
      · simp (disch := omega) only [m_X10_dots, a1, a2, bndN_inl, bndN_inr]
      · have y1 := rn_zone_t (r.thr (x := 0)) x1 q1
        have y2 := rn_group_f (r.thr (x := 0)) x2 q2
        simp (disch := omega) only [m_X11_dots, sq_eq, y1, y2, bnd_some, gd_t, ↓reduceIte, if_f, sFF]
  · have a1 := cn_zone_f O C x1 q1
    refine comb_dots hx hs (sp := .inr 0) (by simp [spX]) (ClsX.same hC ?_) hR (RefX.same (c := 1) 0 rfl (fun v h => by cases h) (fun D r => ?_))
    · simp (disch := omega) only [m_X10_dots, a1, bndN_inr]
    · have y1 := rn_zone_f (r.thr (x := 0)) x1 q1
      simp (disch := omega) only [m_X11_dots, sq_eq, y1, bnd_some, gd_t, ↓reduceIte, if_f, sFF]
theorem step_carried : StepOK m_L_c15 := fun xs Ls s hx hs ⟨M, hC, hR⟩ => by
  have x1 := hx (Int.toNat (s.1 + 1))
  have x2 := hx (Int.toNat (s.1 + 2))
  have x3 := hx (Int.toNat (s.1 + 3))
  have O := hC.1
  have C := hC.2.1
  have z8 := O.2.2.1
  have g3 := O.2.2.2.1
  have ub := O.ufx
  by_cases q1 : 0 ≤ xs (Int.toNat (s.1 + 1)) ∧ xs (Int.toNat (s.1 + 1)) < (mZ M : Int)
  · have a1 := cn_zone_t O C x1 q1
    by_cases q2 : 0 ≤ xs (Int.toNat (s.1 + 2)) ∧ xs (Int.toNat (s.1 + 2)) < (mG M : Int)
    · have a2 := cn_group_t O C x2 q2
      by_cases q3 : 0 ≤ xs (Int.toNat (s.1 + 3)) ∧ xs (Int.toNat (s.1 + 3)) < 5
      · have a3 := cn_level_t (D := s.2) x3 q3
        obtain ⟨z, hz⟩ := nat_of q1.1
        obtain ⟨g, hg⟩ := nat_of q2.1
        obtain ⟨l, hl⟩ := nat_of q3.1
        rw [hz] at a1 q1 x1
        rw [hg] at a2 q2 x2
        rw [hl] at a3 q3 x3
        have b := carM_b O (show g < 3 by omega) l (show z ≤ 8 by omega)
        obtain ⟨D', e1, e2, e3, e4⟩ := X5_tallied hC
        have e5 := (e3.2.2.1 l g z (by omega) (by omega) (by omega)).2
        have k1 : ((l : Int) * 3 + (g : Int)) * 8 + (z : Int) = (((l * 3 + g) * 8 + z : Nat) : Int) := by omega
        have k2 : 3 * (8 * (l : Int) + (z : Int)) + (g : Int) = ((3 * (8 * l + z) + g : Nat) : Int) := by omega
        refine comb_carried hx hs (M' := M) (sp := .inl (carM M g l z)) (by show InR _; omega) ⟨D', ?_, e2, fun a ha => e4 a (by omega)⟩ hR (fun D r => ?_)
        · simp (disch := omega) only [m_X10_carried, hz, hg, hl, a1, a2, a3, bndN_inl, e1, ob_some, m_X8_broughtTo, m_X8_placeOf, k1, gd_t, tn, e5]
        · have y1 := rn_zone_t (r.thr (x := 0)) x1 q1
          have y2 := rn_group_t (r.thr (x := 0)) x2 q2
          have y3 := rn_level_t (D := sF D 73 0 0) x3 q3
          have eu := (r.thr (x := 0)).2.2.2.2.1.1
          obtain ⟨E, f1, f2, f3⟩ := X11_laysDots (r.thr (x := 0)) (u := mU M) (by omega)
          have f4 := ((f3 l g (by omega) (by omega) (by omega)).1 z (by omega)).2
          refine ⟨carM M g l z, E, ?_, (r.thr (x := 0)).rk f2, (FrR.f (by omega)).trans f2.frR, by rw [f2.1]; rfl, fun v h => by injection h⟩
          simp (disch := omega) only [m_X11_carried, sq_eq, hz, hg, hl, y1, y2, y3, bnd_some, gd_t, ↓reduceIte, eu, f1, ob_some, m_X11_dotsAt, k2, tn, f4]
          try rfl
      · have a3 := cn_level_f (D := s.2) x3 q3
        refine comb_carried hx hs (sp := .inr 0) (by simp [spX]) (ClsX.same hC ?_) hR (RefX.same (c := 1) 0 rfl (fun v h => by cases h) (fun D r => ?_))
        · simp (disch := omega) only [m_X10_carried, a1, a2, a3, bndN_inl, bndN_inr]
        · have y1 := rn_zone_t (r.thr (x := 0)) x1 q1
          have y2 := rn_group_t (r.thr (x := 0)) x2 q2
          have y3 := rn_level_f (D := sF D 73 0 0) x3 q3
          simp (disch := omega) only [m_X11_carried, sq_eq, y1, y2, y3, bnd_some, gd_t, ↓reduceIte, if_f, sFF]
    · have a2 := cn_group_f O C x2 q2
      refine comb_carried hx hs (sp := .inr 0) (by simp [spX]) (ClsX.same hC ?_) hR (RefX.same (c := 1) 0 rfl (fun v h => by cases h) (fun D r => ?_))
      · simp (disch := omega) only [m_X10_carried, a1, a2, bndN_inl, bndN_inr]
      · have y1 := rn_zone_t (r.thr (x := 0)) x1 q1
        have y2 := rn_group_f (r.thr (x := 0)) x2 q2
        simp (disch := omega) only [m_X11_carried, sq_eq, y1, y2, bnd_some, gd_t, ↓reduceIte, if_f, sFF]
  · have a1 := cn_zone_f O C x1 q1
    refine comb_carried hx hs (sp := .inr 0) (by simp [spX]) (ClsX.same hC ?_) hR (RefX.same (c := 1) 0 rfl (fun v h => by cases h) (fun D r => ?_))
    · simp (disch := omega) only [m_X10_carried, a1, bndN_inr]
    · have y1 := rn_zone_f (r.thr (x := 0)) x1 q1
      simp (disch := omega) only [m_X11_carried, sq_eq, y1, bnd_some, gd_t, ↓reduceIte, if_f, sFF]
theorem step_left : StepOK m_L_c16 := fun xs Ls s hx hs ⟨M, hC, hR⟩ => by
  have x2 := hx (Int.toNat (s.1 + 1))
  have x3 := hx (Int.toNat (s.1 + 2))
  have O := hC.1
  have C := hC.2.1
  have z8 := O.2.2.1
  have g3 := O.2.2.2.1
  have ub := O.ufx
  by_cases q2 : 0 ≤ xs (Int.toNat (s.1 + 1)) ∧ xs (Int.toNat (s.1 + 1)) < (mG M : Int)
  · have a2 := cn_group_t O C x2 q2
    by_cases q3 : 0 ≤ xs (Int.toNat (s.1 + 2)) ∧ xs (Int.toNat (s.1 + 2)) < 5
    · have a3 := cn_level_t (D := s.2) x3 q3
      obtain ⟨g, hg⟩ := nat_of q2.1
      obtain ⟨l, hl⟩ := nat_of q3.1
      rw [hg] at a2 q2 x2
      rw [hl] at a3 q3 x3
      have b := carM_b O (show g < 3 by omega) l z8
      obtain ⟨D', e1, e2, e3, e4⟩ := X5_tallied hC
      have e5 := e3.2.2.2 l g (by omega) (by omega)
      have k1 : (l : Int) * 3 + (g : Int) = ((l * 3 + g : Nat) : Int) := by omega
      have k2 : 3 * (l : Int) + (g : Int) = ((3 * l + g : Nat) : Int) := by omega
      refine comb_left hx hs (M' := M) (sp := .inl (carM M g l (mZ M))) (by show InR _; omega) ⟨D', ?_, e2, fun a ha => e4 a (by omega)⟩ hR (fun D r => ?_)
      · simp (disch := omega) only [m_X10_left, hg, hl, a2, a3, bndN_inl, e1, ob_some, m_X8_restOf, k1, gd_t, tn, e5]
      · have y2 := rn_group_t (r.thr (x := 0)) x2 q2
        have y3 := rn_level_t (D := sF D 73 0 0) x3 q3
        have eu := (r.thr (x := 0)).2.2.2.2.1.1
        obtain ⟨E, f1, f2, f3⟩ := X11_laysDots (r.thr (x := 0)) (u := mU M) (by omega)
        have f4 := (f3 l g (by omega) (by omega) (by omega)).2
        refine ⟨carM M g l (mZ M), E, ?_, (r.thr (x := 0)).rk f2, (FrR.f (by omega)).trans f2.frR, by rw [f2.1]; rfl, fun v h => by injection h⟩
        simp (disch := omega) only [m_X11_left, sq_eq, hg, hl, y2, y3, bnd_some, gd_t, ↓reduceIte, eu, f1, ob_some, k2, tn, f4]
        try rfl
    · have a3 := cn_level_f (D := s.2) x3 q3
      refine comb_left hx hs (sp := .inr 0) (by simp [spX]) (ClsX.same hC ?_) hR (RefX.same (c := 1) 0 rfl (fun v h => by cases h) (fun D r => ?_))
      · simp (disch := omega) only [m_X10_left, a2, a3, bndN_inl, bndN_inr]
      · have y2 := rn_group_t (r.thr (x := 0)) x2 q2
        have y3 := rn_level_f (D := sF D 73 0 0) x3 q3
        simp (disch := omega) only [m_X11_left, sq_eq, y2, y3, bnd_some, gd_t, ↓reduceIte, if_f, sFF]
  · have a2 := cn_group_f O C x2 q2
    refine comb_left hx hs (sp := .inr 0) (by simp [spX]) (ClsX.same hC ?_) hR (RefX.same (c := 1) 0 rfl (fun v h => by cases h) (fun D r => ?_))
    · simp (disch := omega) only [m_X10_left, a2, bndN_inr]
    · have y2 := rn_group_f (r.thr (x := 0)) x2 q2
      simp (disch := omega) only [m_X11_left, sq_eq, y2, bnd_some, gd_t, ↓reduceIte, if_f, sFF]
