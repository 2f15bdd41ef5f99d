theorem dot0_u {M : MS} (O : MOK M) {g z : Nat} (hg : g < 3) (hz : z < 8) : 0 ≤ dotM M (mU M) g 0 z * mU M ∧ dotM M (mU M) g 0 z * mU M ≤ 799992 := by
  have ub := O.ufx
  have u0 : 0 < mU M := by omega
  obtain ⟨i1, i2⟩ := inM_b O u0 hg 0
  have b := dotM_b O u0 hg 0 hz
  have h0 := Int.mul_nonneg b.1 (show 0 ≤ mU M by omega)
  have cs := cry_bal (a := inM M (mU M) g 0) (ld := ldM M) (s := mU M) (z + 1)
  have cn := cry_nn (a := inM M (mU M) g 0) (ld := ldM M) (s := mU M) (z := z + 1) u0 (fun k hk => i1 k (by omega))
  have ds := (dts_sum (a := inM M (mU M) g 0) (ld := ldM M) (s := mU M) (z := z) u0 (fun k hk => i1 k (by omega))).1
  have dm := Int.mul_nonneg ds (show 0 ≤ mU M by omega)
  have sb := i2 (z + 1) (by omega)
  have e : dotM M (mU M) g 0 z = dts (inM M (mU M) g 0) (ldM M) (mU M) z := rfl
  rw [sumTo, Int.add_mul, ← e] at cs
  omega
theorem step_off : StepOK m_L_c21 := fun xs Ls s hx hs ⟨M, hC, hR⟩ => by
  have x1 := hx (Int.toNat (s.1 + 1))
  have x2 := hx (Int.toNat (s.1 + 2))
  have O := hC.1
  have C := hC.2.1
  have z8 := O.2.2.1
  have g3 := O.2.2.2.1
  have ub := O.ufx
  by_cases q1 : 0 ≤ xs (Int.toNat (s.1 + 1)) ∧ xs (Int.toNat (s.1 + 1)) < (mZ M : Int)
  · have a1 := cn_zone_t O C x1 q1
    by_cases q2 : 0 ≤ xs (Int.toNat (s.1 + 2)) ∧ xs (Int.toNat (s.1 + 2)) < (mG M : Int)
    · have a2 := cn_group_t O C x2 q2
      obtain ⟨z, hz⟩ := nat_of q1.1
      obtain ⟨g, hg⟩ := nat_of q2.1
      rw [hz] at a1 q1 x1
      rw [hg] at a2 q2 x2
      have hk : 3 * z + g < 24 := by omega
      have b := dot0_u O (show g < 3 by omega) (show z < 8 by omega)
      have bp := O.p hk
      obtain ⟨D', e1, e2, e3, e4⟩ := X5_tallied hC
      have e5 := (e3.2.2.1 0 g z (by omega) (by omega) (by omega)).1
      have e6 := e2.2.1.1.2.2.1 (3 * z + g) (by omega)
      have e7 := e2.2.1.2.2.1.1
      have k1 : ((0 : Int) * 3 + (g : Int)) * 8 + (z : Int) = (((0 * 3 + g) * 8 + z : Nat) : Int) := by omega
      have k2 : 3 * (8 * (0 : Int) + (z : Int)) + (g : Int) = ((3 * (8 * 0 + z) + g : Nat) : Int) := by omega
      have k3 : (z : Int) * 3 + (g : Int) = ((3 * z + g : Nat) : Int) := by omega
      have k4 : 3 * (z : Int) + (g : Int) = ((3 * z + g : Nat) : Int) := by omega
      refine comb_off hx hs (M' := M) (sp := .inl (dotM M (mU M) g 0 z * mU M - mP M (3 * z + g))) (by show InR _; omega) ⟨D', ?_, e2, fun a ha => e4 a (by omega)⟩ hR (fun D r => ?_)
      · simp (disch := omega) only [m_X10_off, hz, hg, a1, a2, bndN_inl, e1, ob_some, m_X8_dotsOf, m_X8_placeOf, k1, gd_t, tn, e5, m_X1_livingIn, k3, e6, e7]
      · have y1 := rn_zone_t (r.thr (x := 0)) x1 q1
        have y2 := rn_group_t (r.thr (x := 0)) x2 q2
        have eu := (r.thr (x := 0)).2.2.2.2.1.1
        obtain ⟨E, f1, f2, f3⟩ := X11_laysDots (r.thr (x := 0)) (u := mU M) (by omega)
        have f4 := ((f3 0 g (by omega) (by omega) (by omega)).1 z (by omega)).1
        have f5 := ((r.thr (x := 0)).rk f2).2.2.1 (3 * z + g) hk
        have f6 := ((r.thr (x := 0)).rk f2).2.2.2.2.1.1
        refine ⟨dotM M (mU M) g 0 z * mU M - mP M (3 * z + g), E, ?_, (r.thr (x := 0)).rk f2, (FrR.f (by omega)).trans f2.frR, by rw [f2.1]; rfl, fun v h => by injection h⟩
        simp (disch := omega) only [m_X11_off, sq_eq, hz, hg, y1, y2, bnd_some, gd_t, ↓reduceIte, eu, f1, ob_some, m_X11_dotsAt, k2, k4, tn, f4, f5, f6]
    · have a2 := cn_group_f O C x2 q2
      refine comb_off hx hs (sp := .inr 0) (by simp [spX]) (ClsX.same hC ?_) hR (RefX.same (c := 1) 0 rfl (fun v h => by cases h) (fun D r => ?_))
      · simp (disch := omega) only [m_X10_off, a1, a2, bndN_inl, bndN_inr]
      · have y1 := rn_zone_t (r.thr (x := 0)) x1 q1
        have y2 := rn_group_f (r.thr (x := 0)) x2 q2
        simp (disch := omega) only [m_X11_off, sq_eq, y1, y2, bnd_some, gd_t, ↓reduceIte, if_f, sFF]
  · have a1 := cn_zone_f O C x1 q1
    refine comb_off hx hs (sp := .inr 0) (by simp [spX]) (ClsX.same hC ?_) hR (RefX.same (c := 1) 0 rfl (fun v h => by cases h) (fun D r => ?_))
    · simp (disch := omega) only [m_X10_off, a1, bndN_inr]
    · have y1 := rn_zone_f (r.thr (x := 0)) x1 q1
      simp (disch := omega) only [m_X11_off, sq_eq, y1, bnd_some, gd_t, ↓reduceIte, if_f, sFF]
