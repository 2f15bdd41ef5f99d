/-! ===== fits: fewer dots with a larger unit ===== -/
theorem div_anti {x s t a b r q : Int} (hs : 0 < s) (hst : s ≤ t) (h1 : a * s + r = x) (h2 : b * t + q = x) (hr : r < s) (hq : 0 ≤ q) (hb : 0 ≤ b) : b ≤ a := by
  rcases Int.lt_or_le a b with h | h
  · have e1 : (a + 1) * s ≤ b * s := Int.mul_le_mul_of_nonneg_right (by omega) (by omega)
    have e2 : b * s ≤ b * t := Int.mul_le_mul_of_nonneg_left hst hb
    rw [Int.add_mul] at e1
    omega
  · exact h
theorem dts_anti {a ld : Nat → Int} {s t : Int} (hs : 0 < s) (hst : s ≤ t) {z : Nat} (ha : ∀ k, k < z → 0 ≤ a k) : sumTo (dts a ld t) z ≤ sumTo (dts a ld s) z := by
  induction z with
  | zero => exact Int.le_refl _
  | succ z ih =>
    by_cases q : ld z = 0
    · rw [sumTo, sumTo, dts, dts, if_pos q, if_pos q]
      have := ih (fun k hk => ha k (by omega))
      omega
    · have b1 := cry_bal (a := a) (ld := ld) (s := s) (z + 1)
      have b2 := cry_bal (a := a) (ld := ld) (s := t) (z + 1)
      have c1 : cry a ld s (z + 1) < s := by rw [cry, if_neg q]; exact Int.emod_lt_of_pos _ hs
      have c2 := cry_nn (ld := ld) (s := t) (by omega) ha
      have c3 := (dts_sum (ld := ld) (s := t) (by omega) ha).1
      exact div_anti hs hst b1 b2 c1 c2 c3
theorem slM_anti {M : MS} (O : MOK M) {s t : Int} (hs : 0 < s) (hst : s ≤ t) : slM M t 0 ≤ slM M s 0 := by
  have z8 := O.2.2.1
  have g3 := O.2.2.2.1
  have h : ∀ n, n ≤ mG M → sumTo (sgM M t 0) n ≤ sumTo (sgM M s 0) n := by
    intro n
    induction n with
    | zero => intro _; exact Int.le_refl _
    | succ n ih =>
      intro hn
      have h1 := ih (by omega)
      have h2 : sgM M t 0 n ≤ sgM M s 0 n := dts_anti (ld := ldM M) hs hst (fun k hk => (O.p (k := 3 * k + n) (by omega)).1)
      rw [sumTo, sumTo]
      omega
  exact h _ (Nat.le_refl _)
theorem X8_sumWithUnit {D : DT} {M : MS} (O : MOK M) (T : TallyRep D 10 M) (hp : ∀ k, (k % 3 < mG M ∧ k / 3 < mZ M) → D.2 7 k = mP M k) {u : Int} (hu : 1 ≤ u ∧ u ≤ 9999) : m_X8_sumWithUnit 10 2 u D = some (slM M u 0) := by
  have z8 := O.2.2.1
  have g3 := O.2.2.2.1
  have hZ := T.2.1.1
  have hG := T.2.1.2
  have u0 : 0 < u := by omega
  refine loop_for (st := fun k => (sumTo (sgM M u 0) k, (k : Int))) (mG M) (fun k hk => ?_) ?_
  · generalize hS : sumTo (sgM M u 0) k = S
    have inner : m_X8_sumWithUnit_24 10 2 u (k : Int) D (S, 0, 0) = some (.inl (S + sgM M u 0 k, (k : Int) + 1)) := by
      have := loop_for (f := fun s : Int × Int × Int =>
        gd (InR s.2.2 ∧ InR (D.1 10 2)) (if s.2.2 < (D.1 10 2) then (
          (m_X1_livingIn 2 s.2.2 (k : Int) D).bind (fun r40 =>
          gd ((0 : Int) ≤ s.2.2 ∧ s.2.2 < (8 : Int)) (
          gd (InR (D.2 (10 + 1) (Int.toNat s.2.2))) (if 0 < (D.2 (10 + 1) (Int.toNat s.2.2)) then (
            gd ((0 : Int) ≤ (s.2.1 + r40) ∧ (s.2.1 + r40) ≤ (2147483647 : Int) ∧ (0 : Int) < u ∧ u ≤ (2147483647 : Int)) (
            gd ((0 : Int) ≤ (s.2.1 + r40) ∧ (s.2.1 + r40) ≤ (2147483647 : Int) ∧ (0 : Int) < u ∧ u ≤ (2147483647 : Int)) (
            some (.inl ((s.1 + ((s.2.1 + r40) / u)), ((s.2.1 + r40) % u), (s.2.2 + 1)))
            ))
          ) else (
            some (.inl (s.1, (s.2.1 + r40), (s.2.2 + 1)))
          ))
          ))
        ) else (
          done (
          some ((.inl (s.1, ((k : Int) + 1))) : (Int × Int) ⊕ Int)
          )
        ))) (st := fun z => (S + sumTo (fun z => dotM M u k 0 z) z, cry (inM M u k 0) (ldM M) u z, (z : Int))) (r := (.inl (S + sgM M u 0 k, (k : Int) + 1) : (Int × Int) ⊕ Int)) (mZ M) (fun z hz => by
          have e1 := T.1 z (by omega)
          have e2 := hp (3 * z + k) (by omega)
          have pb := O.p (k := 3 * z + k) (by omega)
          have lb := ldM_b O z
          have cb := (dts_sum (a := inM M u k 0) (ld := ldM M) (z := z) u0 (fun j hj => (inM_b O u0 (show k < 3 by omega) 0).1 j (by omega))).2.2
          have cn := cry_nn (a := inM M u k 0) (ld := ldM M) (z := z) u0 (fun j hj => (inM_b O u0 (show k < 3 by omega) 0).1 j (by omega))
          have ib := ((inM_b O u0 (show k < 3 by omega) 0).2 z (by omega)).2
          have k1 : (z : Int) * 3 + (k : Int) = ((3 * z + k : Nat) : Int) := by omega
          have k2 : (2 + 5 : Nat) = 7 := rfl
          have c1 : ((z + 1 : Nat) : Int) = (z : Int) + 1 := rfl
          have i1 : inM M u k 0 z = mP M (3 * z + k) := rfl
          have d1 : dotM M u k 0 z = dts (inM M u k 0) (ldM M) u z := rfl
          by_cases q : ldM M z = 0
          · have q' : ¬ 0 < ldM M z := by omega
            simp (disch := omega) only [hZ, gd_t, if_t, m_X1_livingIn, k1, k2, tn, ob_some, e1, e2, if_f q', sumTo, cry, d1, dts, if_t q, c1, i1, Int.add_zero]
          · have q' : 0 < ldM M z := by omega
            simp (disch := omega) only [hZ, gd_t, if_t, m_X1_livingIn, k1, k2, tn, ob_some, e1, e2, if_t q', sumTo, cry, d1, dts, if_f q, c1, i1, Int.add_assoc]) (by
          simp (disch := omega) only [hZ, gd_t, if_f, done_some, sgM])
      unfold m_X8_sumWithUnit_24
      simp only [sumTo, Int.add_zero, cry] at this ⊢
      exact this
    have c1 : ((k + 1 : Nat) : Int) = (k : Int) + 1 := rfl
    simp (disch := omega) only [hG, gd_t, if_t, inner, sumTo, hS, c1]
  · simp (disch := omega) only [hG, gd_t, if_f, done_some, slM]
theorem cls_halves {D : DT} {M : MS} (O : MOK M) (T : TallyRep D 10 M) (hp : ∀ k, (k % 3 < mG M ∧ k / 3 < mZ M) → D.2 7 k = mP M k) {v : Int} (hv : InR v) (h9 : slM M 9999 0 ≤ v) : ∃ r, m_X10_fits_38 v D (1, 9999, 0) = some r ∧ (r.2 = D ∧ (1 ≤ r.1 ∧ r.1 ≤ 9999) ∧ slM M r.1 0 ≤ v ∧ ∀ u, 1 ≤ u → u < r.1 → v < slM M u 0) := by
  unfold m_X10_fits_38
  refine loop_wf (fun s : Int × Int × Int => (s.2.1 - s.1).toNat) (fun s : Int × Int × Int => 1 ≤ s.1 ∧ s.1 ≤ s.2.1 ∧ s.2.1 ≤ 9999 ∧ slM M s.2.1 0 ≤ v ∧ (∀ u, 1 ≤ u → u < s.1 → v < slM M u 0) ∧ 0 ≤ s.2.2 ∧ s.2.2 + (s.2.1 - s.1) ≤ 9998) (fun r : Int × DT => r.2 = D ∧ (1 ≤ r.1 ∧ r.1 ≤ 9999) ∧ slM M r.1 0 ≤ v ∧ ∀ u, 1 ≤ u → u < r.1 → v < slM M u 0) (fun s ⟨i1, i2, i3, i4, i5, i6, i7⟩ => ?_) ⟨by (try simp only) <;> omega, by (try simp only) <;> omega, by (try simp only) <;> omega, h9, fun u _ _ => by omega, by (try simp only) <;> omega, by (try simp only) <;> omega⟩
  by_cases q : s.1 < s.2.1
  · have e := X8_sumWithUnit O T hp (u := (s.1 + s.2.1) / 2) (by omega)
    have b := slM_b O (u := (s.1 + s.2.1) / 2) (by omega) 0
    by_cases q2 : v < slM M ((s.1 + s.2.1) / 2) 0
    · refine Or.inl ⟨((s.1 + s.2.1) / 2 + 1, s.2.1, s.2.2 + 1), ?_, ⟨by (try simp only) <;> omega, by (try simp only) <;> omega, i3, i4, fun u h1 h2 => ?_, by (try simp only) <;> omega, by (try simp only) <;> omega⟩, by (try simp only) <;> omega⟩
      · simp (disch := omega) only [gd_t, if_t, e, ob_some]
      · have := slM_anti O (s := u) (t := (s.1 + s.2.1) / 2) (by omega) (by simp only at h2; omega)
        omega
    · refine Or.inl ⟨(s.1, (s.1 + s.2.1) / 2, s.2.2 + 1), ?_, ⟨i1, by (try simp only) <;> omega, by (try simp only) <;> omega, by (try simp only) <;> omega, i5, by (try simp only) <;> omega, by (try simp only) <;> omega⟩, by (try simp only) <;> omega⟩
      simp (disch := omega) only [gd_t, if_t, e, ob_some, if_f q2]
  · have e : s.1 = s.2.1 := by omega
    refine Or.inr ⟨(s.1, D), ?_, rfl, ⟨i1, by omega⟩, by rw [e]; exact i4, i5⟩
    simp (disch := omega) only [gd_t, if_f, done_some]
theorem ref_allD {E : DT} {M : MS} {u : Int} (R : RInv E M) (hK : ColsOK E M u 5 0) : m_X11_allDots (-1) 0 E = some (slM M u 0) := by
  have f4 := X11_allDots R hK (l := 0) (by omega) (v := -1) (by omega)
  rw [show (0 : Int) = ((0 : Nat) : Int) from rfl, f4]
  unfold slM sgM
  rw [← sum_swap (fun z g => dotM M u g 0 z)]
  simp only [true_or, ↓reduceIte]
theorem ref_fits {M : MS} {v : Int} (hv : InR v) {a : Int} (ha : (1 ≤ a ∧ a ≤ 9999 ∧ slM M a 0 ≤ v ∧ ∀ u, 1 ≤ u → u < a → v < slM M u 0)) (k : Nat) {u : Int} (hu : 1 ≤ u) (hk : u + (k : Int) = a) {D : DT} (R : RInv D M) : ∃ E, m_X11_fits_7 v (u, D) = some (a, E) ∧ RKeep D E := by
  induction k generalizing u D with
  | zero =>
    obtain ⟨E, f1, f2, f3⟩ := X11_laysDots R (u := u) (by omega)
    have f4 := ref_allD (R.rk f2) f3
    have b := slM_b R.1 (show 0 < u by omega) 0
    have ea : u = a := by omega
    subst ea
    refine ⟨E, ?_, f2⟩
    unfold m_X11_fits_7
    refine loopF_inr ?_
    simp (disch := omega) only [gd_t, if_t, f1, f4, ob_some, done_some]
  | succ k ih =>
    obtain ⟨E, f1, f2, f3⟩ := X11_laysDots R (u := u) (by omega)
    have f4 := ref_allD (R.rk f2) f3
    have b := slM_b R.1 (show 0 < u by omega) 0
    have l := ha.2.2.2 u hu (by omega)
    obtain ⟨E2, g1, g2⟩ := ih (u := u + 1) (by omega) (by omega) (R.rk f2)
    refine ⟨E2, ?_, by rw [g2.1, f2.1], fun b hb => by rw [g2.2 b hb, f2.2 b hb]⟩
    rw [← g1]
    unfold m_X11_fits_7
    refine loopF_inl ?_
    simp (disch := omega) only [gd_t, if_t, f1, f4, ob_some, if_f]
theorem ref_fits_no {M : MS} {v : Int} (hv : InR v) (ha : ∀ u, 1 ≤ u → u ≤ 9999 → v < slM M u 0) (k : Nat) {u : Int} (hu : 1 ≤ u) (hk : u + (k : Int) = 10000) {D : DT} (R : RInv D M) : ∃ E, m_X11_fits_7 v (u, D) = some (-1, E) ∧ RKeep D E := by
  induction k generalizing u D with
  | zero =>
    refine ⟨D, ?_, rfl, fun _ _ => rfl⟩
    unfold m_X11_fits_7
    refine loopF_inr ?_
    simp (disch := omega) only [gd_t, if_f, done_some]
  | succ k ih =>
    obtain ⟨E, f1, f2, f3⟩ := X11_laysDots R (u := u) (by omega)
    have f4 := ref_allD (R.rk f2) f3
    have b := slM_b R.1 (show 0 < u by omega) 0
    have l := ha u hu (by omega)
    obtain ⟨E2, g1, g2⟩ := ih (u := u + 1) (by omega) (by omega) (R.rk f2)
    refine ⟨E2, ?_, by rw [g2.1, f2.1], fun b hb => by rw [g2.2 b hb, f2.2 b hb]⟩
    rw [← g1]
    unfold m_X11_fits_7
    refine loopF_inl ?_
    simp (disch := omega) only [gd_t, if_t, f1, f4, ob_some, if_f]
theorem step_fits : StepOK m_L_c38 := fun xs Ls s hx hs ⟨M, hC, hR⟩ => by
  have x1 := hx (Int.toNat (s.1 + 1))
  obtain ⟨D', e1, e2, e3, e4⟩ := X5_tallied hC
  have hp : ∀ k, (k % 3 < mG M ∧ k / 3 < mZ M) → D'.2 7 k = mP M k := fun k hk => e2.2.1.1.2.2.1 k hk
  have e5 := X8_sumWithUnit hC.1 e3 hp (u := 9999) (by omega)
  have b := slM_b hC.1 (u := 9999) (by omega) 0
  by_cases q : xs (Int.toNat (s.1 + 1)) < slM M 9999 0
  · refine comb_fits hx hs (M' := M) (v := -1) (by omega) ⟨D', ?_, e2, fun a ha => e4 a (by omega)⟩ hR (fun D r => ?_)
    · simp (disch := omega) only [m_X10_fits, e1, e5, ob_some, gd_t, if_t q]
    · obtain ⟨E, g1, g2⟩ := ref_fits_no x1 (fun u h1 h2 => by
        have := slM_anti hC.1 (s := u) (t := 9999) (by omega) (by omega)
        omega) 9999 (u := 1) (by omega) rfl (r.thr (x := 0))
      exact ⟨E, by simp only [m_X11_fits, sq_eq]; exact g1, (r.thr (x := 0)).rk g2, (FrR.f (by omega)).trans g2.frR⟩
  · obtain ⟨⟨u, D2⟩, h1, h2, h3, h4, h5⟩ := cls_halves hC.1 e3 hp x1 (by omega)
    simp only at h2 h3 h4 h5
    subst h2
    refine comb_fits hx hs (M' := M) (v := u) (by omega) ⟨D2, ?_, e2, fun a ha => e4 a (by omega)⟩ hR (fun D r => ?_)
    · simp (disch := omega) only [m_X10_fits, e1, e5, ob_some, gd_t, if_f q, h1]
    · obtain ⟨E, g1, g2⟩ := ref_fits x1 ⟨h3.1, h3.2, h4, h5⟩ (u - 1).toNat (u := 1) (by omega) (by omega) (r.thr (x := 0))
      exact ⟨E, by simp only [m_X11_fits, sq_eq]; exact g1, (r.thr (x := 0)).rk g2, (FrR.f (by omega)).trans g2.frR⟩
