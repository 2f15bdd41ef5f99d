/-! ===== steps: dot, crowd ===== -/
theorem cls_crowd {D : DT} {M : MS} {l : Nat} (hC : CInv D M) (hl : l < 5) : ∃ D', m_X5_crowded 1 (l : Int) D = some D' ∧ CInv D' M ∧ CrowdAt D' 23 M l ∧ FrC D D' := by
  obtain ⟨D', e1, e2, e3, e4⟩ := crowded_p hC.plan hl
  exact ⟨D', e1, hC.back (fun b hb => e4 b (by omega)) e2, e3, e4.frC (by omega)⟩
theorem ref_crowd {D : DT} {M : MS} {l : Nat} (R : RInv D M) (hl : l < 5) : ∃ E, m_X11_laysCrowds (l : Int) D = some E ∧ RInv E M ∧ FrR D E ∧ E.1 = D.1 ∧ RCrowd E M l := by
  obtain ⟨E, e1, e2, e3, -, -⟩ := X11_laysCrowds R hl
  exact ⟨E, e1, R.ck e2, e2.frR, e2.1, e3⟩
theorem cls_tally {D : DT} {M : MS} (hC : CInv D M) : ∃ D', m_X5_tallied 1 D = some D' ∧ CInv D' M ∧ TallyRep D' 10 M ∧ FrC D D' := by
  obtain ⟨D', e1, e2, e3, e4⟩ := X5_tallied hC
  exact ⟨D', e1, e2, e3, fun a ha => e4 a (by omega)⟩
theorem cls_ranked {D : DT} {M : MS} (hC : CInv D M) : ∃ D', m_X5_ranked 1 D = some D' ∧ CInv D' M ∧ RanksAll D' 15 M ∧ FrC D D' := by
  obtain ⟨D', e1, e2, e3, e4, e5⟩ := ranked_p hC.plan
  exact ⟨D', e1, hC.back (fun b hb => e5 b (by omega)) e2, e4, e5.frC (by omega)⟩
theorem step_dot : StepOK m_L_c18 := fun xs Ls s hx hs ⟨M, hC, hR⟩ => by
  have x1 := hx (Int.toNat (s.1 + 1))
  have x2 := hx (Int.toNat (s.1 + 2))
  have x3 := hx (Int.toNat (s.1 + 3))
  have x4 := hx (Int.toNat (s.1 + 4))
  have O := hC.1
  have C := hC.2.1
  have n4 := nCb O
  have z8 := O.2.2.1
  have g3 := O.2.2.2.1
  have ub := O.ufx
  have u0 : 0 < mU M := by omega
  by_cases q1 : 0 ≤ xs (Int.toNat (s.1 + 1)) ∧ xs (Int.toNat (s.1 + 1)) < (mZ M : Int)
  · have a1 := cn_zone_t O C x1 q1
    by_cases q2 : 0 ≤ xs (Int.toNat (s.1 + 2)) ∧ xs (Int.toNat (s.1 + 2)) < (mG M : Int)
    · have a2 := cn_group_t O C x2 q2
      by_cases q3 : 0 ≤ xs (Int.toNat (s.1 + 3)) ∧ xs (Int.toNat (s.1 + 3)) < 5
      · have a3 := cn_level_t (D := s.2) x3 q3
        obtain ⟨z, hz⟩ := nat_of q1.1
        obtain ⟨g, hg⟩ := nat_of q2.1
        obtain ⟨l, hl⟩ := nat_of q3.1
        rw [hz] at a1 q1 x1
        rw [hg] at a2 q2 x2
        rw [hl] at a3 q3 x3
        have hz8 : z < mZ M := by omega
        have hgG : g < mG M := by omega
        have hl5 : l < 5 := by omega
        obtain ⟨D1, e1, e2, e3, e4⟩ := cls_tally hC
        obtain ⟨D2, f1, f2, f3, f4⟩ := cls_tally e2
        obtain ⟨d, hd⟩ := nat_of (dotM_b O u0 (show g < 3 by omega) l (show z < 8 by omega)).1
        have db := (dotM_b O u0 (show g < 3 by omega) l (show z < 8 by omega)).2
        have k1 : ((l : Int) * 3 + (g : Int)) * 8 + (z : Int) = (((l * 3 + g) * 8 + z : Nat) : Int) := by omega
        have k2 : 3 * (8 * (l : Int) + (z : Int)) + (g : Int) = ((3 * (8 * l + z) + g : Nat) : Int) := by omega
        have eD := (f3.2.2.1 l g z hl5 hgG hz8).1
        rw [hd] at eD
        have ed : m_X8_dotsOf 10 (z : Int) (g : Int) (l : Int) D2 = some (d : Int) := by
          simp (disch := omega) only [m_X8_dotsOf, m_X8_placeOf, ob_some, k1, gd_t, tn, eD]
        have ll : ((ordL M (z : Int)).length : Int) = ldM M z := ord_len M z
        have eL : D1.2 11 z = ((ordL M (z : Int)).length : Int) := by rw [ll]; exact e3.1 z (by omega)
        have Lb : (ordL M (z : Int)).length ≤ nC M := ordN_le M (z : Int) (nC M)
        have pre : ∀ D, RInv D M → ∃ F, m_X11_laysDots (mU M) (sF D 73 0 0) = some F ∧ RInv F M ∧ RKeep (sF D 73 0 0) F ∧ F.2 90 (3 * (8 * l + z) + g) = (d : Int) := fun D r => by
          obtain ⟨F, g1, g2, g3⟩ := X11_laysDots (r.thr (x := 0)) (u := mU M) (by omega)
          exact ⟨F, g1, (r.thr (x := 0)).rk g2, g2, by rw [((g3 l g hl5 hgG (Or.inl hl5)).1 z hz8).1, hd]⟩
        by_cases q4 : 0 ≤ xs (Int.toNat (s.1 + 4)) ∧ xs (Int.toNat (s.1 + 4)) < (d : Int)
        · obtain ⟨k, hk⟩ := nat_of q4.1
          rw [hk] at q4 x4
          have q0 : 0 < (ordL M (z : Int)).length := by
            rcases Nat.eq_zero_or_pos (ordL M (z : Int)).length with e | e
            · exfalso
              have e0 : ldM M z = 0 := by omega
              have : dotM M (mU M) g l z = 0 := by rw [dotM_in, dts, if_pos e0]
              omega
            · exact e
          have hf : fM (mG M) g (ordL M (z : Int)).length k < (ordL M (z : Int)).length := Nat.mod_lt _ q0
          obtain ⟨D3, g1, g2, g4, g5⟩ := cls_ranked f2
          have cb := (ord_mem (List.getElem_mem hf)).1
          have ec := X6_cellAt O g4 hz8 hf
          have hc := List.getElem?_eq_getElem hf
          generalize (ordL M (z : Int))[fM (mG M) g (ordL M (z : Int)).length k] = c at *
          refine comb_dot hx hs (M' := M) (sp := .inl (c : Int)) (by show InR _; omega) ⟨D3, ?_, g2, (e4.trans f4).trans g5⟩ hR (fun D r => ?_)
          · have v1 : (k : Int) * (mG M : Int) + (g : Int) = ((k * mG M + g : Nat) : Int) := by rw [Int.natCast_add, Int.natCast_mul]
            have v2 : ((k * mG M + g : Nat) : Int) % ((ordL M (z : Int)).length : Int) = (fM (mG M) g (ordL M (z : Int)).length k : Int) := cmod _ _
            have v3 : k * mG M + g ≤ 799992 * 3 + 3 := Nat.add_le_add (Nat.mul_le_mul (by omega) g3.2) (by omega)
            have v4 : (0 : Int) ≤ ((k * mG M + g : Nat) : Int) ∧ ((k * mG M + g : Nat) : Int) ≤ (2147483647 : Int) ∧ (0 : Int) < ((ordL M (z : Int)).length : Int) ∧ ((ordL M (z : Int)).length : Int) ≤ (2147483647 : Int) := by
              generalize k * mG M + g = y at v3
              omega
            have eG : D3.1 2 3 = (mG M : Int) := g2.2.1.1.2.1.2
            simp (disch := omega) only [m_X10_dot, hz, hg, hl, hk, a1, a2, a3, bndN_inl, e1, ob_some, gd_t, if_t, f1, ed, tn, eL, if_f, g1, eG, v1, gd_t v4, v2, ec]
          · obtain ⟨F, h1, h2, h3, h4⟩ := pre D r
            have y1 := rn_zone_t (r.thr (x := 0)) x1 (by omega)
            have y2 := rn_group_t (r.thr (x := 0)) x2 (by omega)
            have y3 := rn_level_t (D := sF D 73 0 0) x3 q3
            have eu := (r.thr (x := 0)).2.2.2.2.1.1
            have i2 := rn_in_t (D := F) (v := (k : Int)) (a := 0) (b := (d : Int) - 1) (by omega) (by omega) (by omega) (by omega)
            have ec2 := X11_cellOf h2 hz8 hgG (show k ≤ 799992 by omega) q0 hc
            refine ⟨(c : Int), F, ?_, h2, (FrR.f (by omega)).trans h3.frR, by rw [h3.1]; rfl, fun v h => by injection h⟩
            simp (disch := omega) only [m_X11_dot, sq_eq, hz, hg, hl, hk, y1, y2, y3, bnd_some, gd_t, ↓reduceIte, eu, h1, ob_some, m_X11_dotsAt, k2, tn, h4, i2, if_f, rn_th_0, ec2]
        · have ref : RefX (m_X11_dot (xs (Int.toNat (s.1 + 1))) (xs (Int.toNat (s.1 + 2))) (xs (Int.toNat (s.1 + 3))) (xs (Int.toNat (s.1 + 4)))) (cdX cd_dot) M (.inr 1) M := fun D r => by
            obtain ⟨F, h1, h2, h3, h4⟩ := pre D r
            have y1 := rn_zone_t (r.thr (x := 0)) x1 (by omega)
            have y2 := rn_group_t (r.thr (x := 0)) x2 (by omega)
            have y3 := rn_level_t (D := sF D 73 0 0) x3 q3
            have eu := (r.thr (x := 0)).2.2.2.2.1.1
            have i2 := rn_in_f (D := F) (a := 0) (b := (d : Int) - 1) x4 (by omega) (by omega) (by omega)
            refine ⟨0, sF F 73 0 2, ?_, h2.thr, ((FrR.f (by omega)).trans h3.frR).trans (FrR.f (by omega)), by rw [sF1, if_pos ⟨rfl, rfl⟩]; rfl, fun v h => by cases h⟩
            simp (disch := omega) only [m_X11_dot, sq_eq, hz, hg, hl, y1, y2, y3, bnd_some, gd_t, ↓reduceIte, eu, h1, ob_some, m_X11_dotsAt, k2, tn, h4, i2, if_f, rn_th_1]
          by_cases q5 : 0 ≤ xs (Int.toNat (s.1 + 4))
          · refine comb_dot hx hs (M' := M) (sp := .inr 1) (by simp [spX]) ⟨D2, ?_, f2, e4.trans f4⟩ hR ref
            simp (disch := omega) only [m_X10_dot, hz, hg, hl, a1, a2, a3, bndN_inl, e1, ob_some, gd_t, if_t q5, f1, ed, if_f]
          · refine comb_dot hx hs (M' := M) (sp := .inr 1) (by simp [spX]) ⟨D1, ?_, e2, e4⟩ hR ref
            simp (disch := omega) only [m_X10_dot, hz, hg, hl, a1, a2, a3, bndN_inl, e1, ob_some, gd_t, if_f q5]
      · have a3 := cn_level_f (D := s.2) x3 q3
        refine comb_dot hx hs (sp := .inr 0) (by simp [spX]) (ClsX.same hC ?_) hR (RefX.same (c := 1) 0 rfl (fun v h => by cases h) (fun D r => ?_))
        · simp (disch := omega) only [m_X10_dot, a1, a2, a3, bndN_inl, bndN_inr]
        · have y1 := rn_zone_t (r.thr (x := 0)) x1 (by omega)
          have y2 := rn_group_t (r.thr (x := 0)) x2 (by omega)
          have y3 := rn_level_f (D := sF D 73 0 0) x3 q3
          simp (disch := omega) only [m_X11_dot, sq_eq, y1, y2, y3, bnd_some, gd_t, ↓reduceIte, if_f, sFF]
    · have a2 := cn_group_f O C x2 q2
      refine comb_dot hx hs (sp := .inr 0) (by simp [spX]) (ClsX.same hC ?_) hR (RefX.same (c := 1) 0 rfl (fun v h => by cases h) (fun D r => ?_))
      · simp (disch := omega) only [m_X10_dot, a1, a2, bndN_inl, bndN_inr]
      · have y1 := rn_zone_t (r.thr (x := 0)) x1 (by omega)
        have y2 := rn_group_f (r.thr (x := 0)) x2 q2
        simp (disch := omega) only [m_X11_dot, sq_eq, y1, y2, bnd_some, gd_t, ↓reduceIte, if_f, sFF]
  · have a1 := cn_zone_f O C x1 q1
    refine comb_dot hx hs (sp := .inr 0) (by simp [spX]) (ClsX.same hC ?_) hR (RefX.same (c := 1) 0 rfl (fun v h => by cases h) (fun D r => ?_))
    · simp (disch := omega) only [m_X10_dot, a1, bndN_inr]
    · have y1 := rn_zone_f (r.thr (x := 0)) x1 q1
      simp (disch := omega) only [m_X11_dot, sq_eq, y1, bnd_some, gd_t, if_f, sFF]
theorem X2_weightOf_a {D : DT} {k l : Nat} {M : MS} (O : MOK M) (K : CrowdAt D k M l) {c : Nat} (hc : c < nC M) : m_X2_weightOf k (c : Int) (-1) D = some (togM M l c) := by
  have n4 := nCb O
  have e := K.2.2.1 c hc
  simp (disch := omega) only [m_X2_weightOf, gd_t, ↓reduceIte, tn, e]
theorem X2_weightOf_g {D : DT} {k l : Nat} {M : MS} (O : MOK M) (K : CrowdAt D k M l) {c g : Nat} (hc : c < nC M) (hg : g < 3) : m_X2_weightOf k (c : Int) (g : Int) D = some (crwM M l c g) := by
  have n4 := nCb O
  have e := K.2.1 c g hc hg
  have w1 : (g : Int) * 384 + (c : Int) = ((g * 384 + c : Nat) : Int) := by omega
  have ne : ¬ ((g : Int) = -1) := by omega
  simp (disch := omega) only [m_X2_weightOf, gd_t, if_f ne, w1, tn, e]
theorem X11_crw {E : DT} {M : MS} {l : Nat} (O : MOK M) (hK : RCrowd E M l) {c g : Nat} (hc : c < nC M) (hg : g < 3) : m_X11_crowdOf (c : Int) (g : Int) E = some (crwM M l c g) := by
  rw [X11_crowdOf O hK hc (by omega), ← sum_pick (fun g => crwM M l c g) hg]
  congr 1
  refine sumTo_congr (fun k _ => ?_)
  by_cases q : k = g
  · rw [if_pos (Or.inr (by omega)), if_pos q]
  · rw [if_neg (fun h => by omega), if_neg q]
theorem step_crowd : StepOK m_L_c19 := fun xs Ls s hx hs ⟨M, hC, hR⟩ => by
  have x1 := hx (Int.toNat (s.1 + 1))
  have x2 := hx (Int.toNat (s.1 + 2))
  have x3 := hx (Int.toNat (s.1 + 3))
  have O := hC.1
  have C := hC.2.1
  have n4 := nCb O
  have g3 := O.2.2.2.1
  by_cases q1 : 0 ≤ xs (Int.toNat (s.1 + 1)) ∧ xs (Int.toNat (s.1 + 1)) < (nC M : Int)
  · have a1 := cn_cell_t O C x1 q1
    by_cases q2 : xs (Int.toNat (s.1 + 2)) = -1 ∨ 0 ≤ xs (Int.toNat (s.1 + 2)) ∧ xs (Int.toNat (s.1 + 2)) < (mG M : Int)
    · have a2 := cn_groupN_t O C x2 q2
      by_cases q3 : 0 ≤ xs (Int.toNat (s.1 + 3)) ∧ xs (Int.toNat (s.1 + 3)) < 5
      · have a3 := cn_level_t (D := s.2) x3 q3
        obtain ⟨c, hc⟩ := nat_of q1.1
        obtain ⟨l, hl⟩ := nat_of q3.1
        rw [hc] at a1 q1 x1
        rw [hl] at a3 q3 x3
        have hcn : c < nC M := by omega
        have hl5 : l < 5 := by omega
        obtain ⟨D1, e1, e2, e3, e4⟩ := cls_crowd hC hl5
        by_cases q4 : xs (Int.toNat (s.1 + 2)) = -1
        · have tb := tog_b O l c hcn
          rw [q4] at a2
          refine comb_crowd hx hs (M' := M) (sp := .inl (togM M l c)) (by show InR _; omega) ⟨D1, ?_, e2, e4⟩ hR (fun D r => ?_)
          · have e5 := X2_weightOf_a O e3 hcn
            simp (disch := omega) only [m_X10_crowd, hc, hl, q4, a1, a2, a3, bndN_inl, e1, ob_some, e5]
          · obtain ⟨E, f1, f2, f3, f4, f5⟩ := ref_crowd (r.thr (x := 0)) hl5
            have y1 := rn_cell_t (r.thr (x := 0)) x1 (by omega)
            have y3 := rn_level_t (D := sF D 73 0 0) x3 q3
            have f6 := X11_tog O f5 hcn
            refine ⟨togM M l c, E, ?_, f2, (FrR.f (by omega)).trans f3, by rw [f4]; rfl, fun v h => by injection h⟩
            simp (disch := omega) only [m_X11_crowd, sq_eq, hc, hl, q4, y1, y3, bnd_some, gd_t, ↓reduceIte, f1, ob_some, f6]
        · obtain ⟨g, hg⟩ := nat_of (v := xs (Int.toNat (s.1 + 2))) (by omega)
          rw [hg] at a2 q2 q4 x2
          have hg3 : g < 3 := by omega
          have tb := crw_b O l c g hcn
          refine comb_crowd hx hs (M' := M) (sp := .inl (crwM M l c g)) (by show InR _; omega) ⟨D1, ?_, e2, e4⟩ hR (fun D r => ?_)
          · have e5 := X2_weightOf_g O e3 hcn hg3
            simp (disch := omega) only [m_X10_crowd, hc, hl, hg, a1, a2, a3, bndN_inl, e1, ob_some, e5]
          · obtain ⟨E, f1, f2, f3, f4, f5⟩ := ref_crowd (r.thr (x := 0)) hl5
            have y1 := rn_cell_t (r.thr (x := 0)) x1 (by omega)
            have y2 := rn_group_t (r.thr (x := 0)) x2 (by omega)
            have y3 := rn_level_t (D := sF D 73 0 0) x3 q3
            have f6 := X11_crw O f5 hcn hg3
            refine ⟨crwM M l c g, E, ?_, f2, (FrR.f (by omega)).trans f3, by rw [f4]; rfl, fun v h => by injection h⟩
            simp (disch := omega) only [m_X11_crowd, sq_eq, hc, hl, hg, y1, y2, y3, bnd_some, gd_t, if_f q4, ↓reduceIte, f1, ob_some, f6]
      · have a3 := cn_level_f (D := s.2) x3 q3
        refine comb_crowd hx hs (sp := .inr 0) (by simp [spX]) (ClsX.same hC ?_) hR (RefX.same (c := 1) 0 rfl (fun v h => by cases h) (fun D r => ?_))
        · simp (disch := omega) only [m_X10_crowd, a1, a2, a3, bndN_inl, bndN_inr]
        · have y1 := rn_cell_t (r.thr (x := 0)) x1 (by omega)
          have y3 := rn_level_f (D := sF D 73 0 0) x3 q3
          by_cases q4 : xs (Int.toNat (s.1 + 2)) = -1
          · simp (disch := omega) only [m_X11_crowd, sq_eq, y1, if_t q4, y3, bnd_some, gd_t, ↓reduceIte, if_f, sFF]
          · have y2 := rn_group_t (r.thr (x := 0)) x2 (by omega)
            simp (disch := omega) only [m_X11_crowd, sq_eq, y1, y2, if_f q4, y3, bnd_some, gd_t, ↓reduceIte, if_f, sFF]
    · have a2 := cn_groupN_f O C x2 q2
      have q4 : ¬ xs (Int.toNat (s.1 + 2)) = -1 := fun h => q2 (Or.inl h)
      refine comb_crowd hx hs (sp := .inr 0) (by simp [spX]) (ClsX.same hC ?_) hR (RefX.same (c := 1) 0 rfl (fun v h => by cases h) (fun D r => ?_))
      · simp (disch := omega) only [m_X10_crowd, a1, a2, bndN_inl, bndN_inr]
      · have y1 := rn_cell_t (r.thr (x := 0)) x1 (by omega)
        have y2 := rn_group_f (r.thr (x := 0)) x2 (by omega)
        simp (disch := omega) only [m_X11_crowd, sq_eq, y1, y2, if_f q4, bnd_some, gd_t, ↓reduceIte, if_f, sFF]
  · have a1 := cn_cell_f O C x1 q1
    refine comb_crowd hx hs (sp := .inr 0) (by simp [spX]) (ClsX.same hC ?_) hR (RefX.same (c := 1) 0 rfl (fun v h => by cases h) (fun D r => ?_))
    · simp (disch := omega) only [m_X10_crowd, a1, bndN_inr]
    · have y1 := rn_cell_f (r.thr (x := 0)) x1 q1
      simp (disch := omega) only [m_X11_crowd, sq_eq, y1, bnd_some, gd_t, if_f, sFF]
