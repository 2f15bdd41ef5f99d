theorem step_all : StepOK m_L_c17 := fun xs Ls s hx hs ⟨M, hC, hR⟩ => by
  have x1 := hx (Int.toNat (s.1 + 1))
  have x2 := hx (Int.toNat (s.1 + 2))
  have O := hC.1
  have C := hC.2.1
  have z8 := O.2.2.1
  have g3 := O.2.2.2.1
  have ub := O.ufx
  have u0 : 0 < mU M := by omega
  by_cases q1 : xs (Int.toNat (s.1 + 1)) = -1 ∨ 0 ≤ xs (Int.toNat (s.1 + 1)) ∧ xs (Int.toNat (s.1 + 1)) < (mG M : Int)
  · have a1 := cn_groupN_t O C x1 q1
    by_cases q2 : 0 ≤ xs (Int.toNat (s.1 + 2)) ∧ xs (Int.toNat (s.1 + 2)) < 5
    · have a2 := cn_level_t (D := s.2) x2 q2
      obtain ⟨l, hl⟩ := nat_of q2.1
      rw [hl] at a2 q2 x2
      have hl5 : l < 5 := by omega
      obtain ⟨D', e1, e2, e3, e4⟩ := X5_tallied hC
      by_cases q3 : xs (Int.toNat (s.1 + 1)) = -1
      · have b := slM_b O u0 l
        rw [q3] at a1
        refine comb_all hx hs (M' := M) (sp := .inl (slM M (mU M) l)) (by show InR _; omega) ⟨D', ?_, e2, fun a ha => e4 a (by omega)⟩ hR (fun D r => ?_)
        · have e5 := X8_sumOfLevel O e3 hl5
          simp (disch := omega) only [m_X10_all, q3, hl, a1, a2, bndN_inl, gd_t, ↓reduceIte, e1, ob_some, e5]
        · have y2 := rn_level_t (D := sF D 73 0 0) x2 q2
          have eu := (r.thr (x := 0)).2.2.2.2.1.1
          obtain ⟨E, f1, f2, f3⟩ := X11_laysDots (r.thr (x := 0)) (u := mU M) (by omega)
          have f4 := X11_allDots ((r.thr (x := 0)).rk f2) f3 hl5 (v := -1) (by omega)
          have f5 : sumTo (fun z => sumTo (fun g => if (-1 : Int) = -1 ∨ (g : Int) = -1 then dotM M (mU M) g l z else 0) (mG M)) (mZ M) = slM M (mU M) l := by
            unfold slM sgM
            rw [← sum_swap (fun z g => dotM M (mU M) g l z)]
            simp only [true_or, ↓reduceIte]
          rw [f5] at f4
          refine ⟨slM M (mU M) l, E, ?_, (r.thr (x := 0)).rk f2, (FrR.f (by omega)).trans f2.frR, by rw [f2.1]; rfl, fun v h => by injection h⟩
          simp (disch := omega) only [m_X11_all, m_X11_all_18, sq_eq, q3, hl, y2, bnd_some, gd_t, ↓reduceIte, eu, f1, ob_some, f4]
      · obtain ⟨g, hg⟩ := nat_of (v := xs (Int.toNat (s.1 + 1))) (by omega)
        rw [hg] at a1 q1 q3 x1
        have hgG : g < mG M := by omega
        have b := sgM_b O u0 l (show g < 3 by omega)
        refine comb_all hx hs (M' := M) (sp := .inl (sgM M (mU M) l g)) (by show InR _; omega) ⟨D', ?_, e2, fun a ha => e4 a (by omega)⟩ hR (fun D r => ?_)
        · have e5 := X8_sumOfGroup O e3 hl5 hgG
          simp (disch := omega) only [m_X10_all, hg, hl, a1, a2, bndN_inl, gd_t, if_f q3, e1, ob_some, e5]
        · have y1 := rn_group_t (r.thr (x := 0)) x1 (by omega)
          have y2 := rn_level_t (D := sF D 73 0 0) x2 q2
          have eu := (r.thr (x := 0)).2.2.2.2.1.1
          obtain ⟨E, f1, f2, f3⟩ := X11_laysDots (r.thr (x := 0)) (u := mU M) (by omega)
          have f4 := X11_allDots ((r.thr (x := 0)).rk f2) f3 hl5 (v := (g : Int)) (by omega)
          have f5 : sumTo (fun z => sumTo (fun g' => if (g : Int) = -1 ∨ (g' : Int) = (g : Int) then dotM M (mU M) g' l z else 0) (mG M)) (mZ M) = sgM M (mU M) l g := by
            unfold sgM
            refine sumTo_congr (fun z hz => ?_)
            rw [← sum_pick (fun g' => dotM M (mU M) g' l z) hgG]
            refine sumTo_congr (fun g' hg' => ?_)
            by_cases qq : g' = g
            · rw [if_pos (Or.inr (by omega)), if_pos qq]
            · rw [if_neg (fun h => by omega), if_neg qq]
          rw [f5] at f4
          refine ⟨sgM M (mU M) l g, E, ?_, (r.thr (x := 0)).rk f2, (FrR.f (by omega)).trans f2.frR, by rw [f2.1]; rfl, fun v h => by injection h⟩
          simp (disch := omega) only [m_X11_all, m_X11_all_18, sq_eq, hg, hl, y1, y2, bnd_some, gd_t, if_f q3, ↓reduceIte, eu, f1, ob_some, f4]
    · have a2 := cn_level_f (D := s.2) x2 q2
      refine comb_all hx hs (sp := .inr 0) (by simp [spX]) (ClsX.same hC ?_) hR (RefX.same (c := 1) 0 rfl (fun v h => by cases h) (fun D r => ?_))
      · simp (disch := omega) only [m_X10_all, a1, a2, bndN_inl, bndN_inr]
      · have y2 := rn_level_f (D := sF D 73 0 0) x2 q2
        by_cases q3 : xs (Int.toNat (s.1 + 1)) = -1
        · simp (disch := omega) only [m_X11_all, m_X11_all_18, sq_eq, if_t q3, y2, bnd_some, gd_t, ↓reduceIte, if_f, sFF]
        · have y1 := rn_group_t (r.thr (x := 0)) x1 (by omega)
          simp (disch := omega) only [m_X11_all, m_X11_all_18, sq_eq, if_f q3, y1, y2, bnd_some, gd_t, ↓reduceIte, if_f, sFF]
  · have a1 := cn_groupN_f O C x1 q1
    have q3 : ¬ xs (Int.toNat (s.1 + 1)) = -1 := fun h => q1 (Or.inl h)
    refine comb_all hx hs (sp := .inr 0) (by simp [spX]) (ClsX.same hC ?_) hR (RefX.same (c := 1) 0 rfl (fun v h => by cases h) (fun D r => ?_))
    · simp (disch := omega) only [m_X10_all, a1, bndN_inr]
    · have y1 := rn_group_f (r.thr (x := 0)) x1 (by omega)
      simp (disch := omega) only [m_X11_all, sq_eq, if_f q3, y1, bnd_some, gd_t, ↓reduceIte, if_f, sFF]
