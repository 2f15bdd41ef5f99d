/-! ===== step: read ===== -/
theorem ref_read_f {E E' : DT} {n : Nat} {T : Nat → Int} {M : MS} {f : Int} (hR : RInv E M) (hu : m_X11_read E = m_X11_read_134 E') (g : RG0 E E') (e : E'.1 73 19 = f) (hf : 0 ≤ f ∧ f ≤ 400) : ∃ E2, m_X11_read E = some (0, E2) ∧ RInv E2 (setF M f) ∧ FrR E E2 ∧ E2.1 73 0 = 1 := by
  have hq := X11_hasF_y (D := sF E' 73 20 f) (by rw [sF1, if_neg (by omega), e]; exact hf)
  obtain ⟨E2, hE2⟩ : ∃ E2, E2 = sF (sF E' 73 20 f) 73 0 1 := ⟨_, rfl⟩
  have k1 : ∀ a k, (a = 73 → k ∉ [0, 2, 16, 17, 18, 19, 20, 21]) → E2.1 a k = E.1 a k := fun a k hk => by
    subst hE2
    rw [sF1, if_neg (fun hh => hk hh.1 (by rw [hh.2]; simp)), sF1, if_neg (fun hh => hk hh.1 (by rw [hh.2]; simp)), g.1 a k (fun hh hm => hk hh (by simp at hm ⊢; omega))]
  have k2 : ∀ a, a ∉ [77, 79, 81, 83, 85] → E2.2 a = E.2 a := fun a ha => by
    subst hE2
    exact g.2.2.1 a ha
  refine ⟨E2, ?_, ?_, fun a ha => ⟨?_, k2 a (fun hh => by simp at hh; omega)⟩, by subst hE2; rfl⟩
  · rw [hu]
    simp (disch := omega) only [m_X11_read_134, e, sq_eq, hq, ob_some, rn_th_1, bnd_some, gd_t, if_f]
    rw [hE2]
  · obtain ⟨c1, ⟨c2, c3, c4⟩, c5, c6, ⟨c7, c8, c8'⟩, c9, c10, c11, c12⟩ := hR
    refine ⟨setF_ok c1 hf, ⟨?_, ?_, ?_⟩, fun k hk => ?_, fun z hz k hk => ?_, ⟨?_, ?_, ?_⟩, ⟨?_, fun k hk => absurd hk (Nat.not_lt_zero k)⟩, ?_, ?_, c12.cong rfl rfl ⟨k2 86 (by simp), k2 87 (by simp), k2 88 (by simp)⟩⟩
    · unfold RMap at *
      rw [k2 76 (by simp), k2 78 (by simp), k2 80 (by simp)]
      exact c2
    · rw [k2 76 (by simp)]; exact c3
    · rw [k2 76 (by simp)]; exact c4
    · rw [k2 82 (by simp)]; exact c5 k hk
    · rw [k2 84 (by simp)]; exact c6 z hz k hk
    · rw [k1 73 14 (by simp)]; exact c7
    · rw [k1 73 15 (by simp)]; exact c8
    · subst hE2; rfl
    · subst hE2
      rw [sF1, if_neg (by omega), sF1, if_neg (by omega)]
      exact g.2.1.2
    · rw [k1 73 40 (by simp), k2 101 (by simp)]; exact c10
    · subst hE2
      exact g.2.2.2
  · funext k
    exact k1 a k (by omega)
theorem X11_read158 (E0 : DT) : ∃ E', m_X11_read_158 (0, E0) = m_X11_read_183 (0, E') ∧ E'.1 = E0.1 ∧ (∀ q, q ≠ 76 → E'.2 q = E0.2 q) ∧ ∀ c, c < 4 → E'.2 76 c = E0.2 77 c := by
  unfold m_X11_read_158
  obtain ⟨s', ⟨i1, i2, i3, i4⟩, ee⟩ := loop_inv (f := fun s : Int × DT =>
  gd (InR s.1 ∧ InR 4) (if s.1 < 4 then (
    gd ((0 : Int) ≤ s.1 ∧ s.1 < (4 : Int)) (
    gd ((0 : Int) ≤ s.1 ∧ s.1 < (4 : Int)) (sq (sA s.2 76 (Int.toNat s.1) (s.2.2 77 (Int.toNat s.1))) (fun D174 =>
    some ((.inl ((s.1 + 1), D174)) : (Int × DT) ⊕ (Int × DT))
    )))
  ) else (
    done (
    m_X11_read_183 (0, s.2)
    )
  ))) (fun k s => s.1 = (k : Int) ∧ s.2.1 = E0.1 ∧ (∀ q, q ≠ 76 → s.2.2 q = E0.2 q) ∧ ∀ c, c < k → s.2.2 76 c = E0.2 77 c) 4 (s := (0, E0)) ⟨rfl, rfl, fun _ _ => rfl, fun c hc => by omega⟩ (fun k s hk ⟨a1, a2, a3, a4⟩ => by
      have e : s.2.2 77 k = E0.2 77 k := by rw [a3 77 (by omega)]
      refine ⟨((k : Int) + 1, sA s.2 76 k (E0.2 77 k)), ?_, rfl, a2, fun q h1 => ?_, fun c hc => ?_⟩
      · simp (disch := omega) only [a1, gd_t, if_t, tn, sq_eq, e]
      · funext j
        rw [sA2, if_neg (by omega), a3 q h1]
      · rw [sA2]
        by_cases q : c = k
        · rw [if_pos ⟨rfl, q⟩, q]
        · rw [if_neg (fun hh => q hh.2)]; exact a4 c (by omega))
  refine ⟨s'.2, ?_, i2, i3, i4⟩
  rw [ee]
  refine loopF_dn ?_
  have i1' : s'.1 = 4 := i1
  simp (disch := omega) only [i1', gd_t, if_f]
theorem X11_read183 (E0 : DT) (h : ∀ c, c < 384 → E0.2 81 c = 0 ∨ E0.2 81 c = 1) : ∃ E', m_X11_read_183 (0, E0) = m_X11_read_222 (0, E') ∧ E'.1 = E0.1 ∧ (∀ q, q ≠ 78 → q ≠ 80 → E'.2 q = E0.2 q) ∧ ∀ c, c < 384 → E'.2 78 c = E0.2 79 c ∧ E'.2 80 c = E0.2 81 c := by
  unfold m_X11_read_183
  obtain ⟨s', ⟨i1, i2, i3, i4⟩, ee⟩ := loop_inv (f := fun s : Int × DT =>
  gd (InR s.1 ∧ InR 384) (if s.1 < 384 then (
    gd ((0 : Int) ≤ s.1 ∧ s.1 < (384 : Int)) (
    gd ((0 : Int) ≤ s.1 ∧ s.1 < (384 : Int)) (sq (sA s.2 78 (Int.toNat s.1) (s.2.2 79 (Int.toNat s.1))) (fun D201 =>
    gd ((0 : Int) ≤ s.1 ∧ s.1 < (384 : Int)) (
    gd (((0 : Int) ≤ s.1 ∧ s.1 < (384 : Int)) ∧ (((D201.2 81 (Int.toNat s.1)) : Int) = 0 ∨ ((D201.2 81 (Int.toNat s.1)) : Int) = 1)) (sq (sA D201 80 (Int.toNat s.1) (D201.2 81 (Int.toNat s.1))) (fun D213 =>
    some ((.inl ((s.1 + 1), D213)) : (Int × DT) ⊕ (Int × DT))
    ))))))
  ) else (
    done (
    m_X11_read_222 (0, s.2)
    )
  ))) (fun k s => s.1 = (k : Int) ∧ s.2.1 = E0.1 ∧ (∀ q, q ≠ 78 → q ≠ 80 → s.2.2 q = E0.2 q) ∧ ∀ c, c < k → s.2.2 78 c = E0.2 79 c ∧ s.2.2 80 c = E0.2 81 c) 384 (s := (0, E0)) ⟨rfl, rfl, fun _ _ _ => rfl, fun c hc => by omega⟩ (fun k s hk ⟨a1, a2, a3, a4⟩ => by
      have e : s.2.2 79 k = E0.2 79 k := by rw [a3 79 (by omega) (by omega)]
      have e2 : (sA s.2 78 k (E0.2 79 k)).2 81 k = E0.2 81 k := by rw [sA2, if_neg (by omega), a3 81 (by omega) (by omega)]
      have hk2 := h k hk
      have gq : ((0 : Int) ≤ (k : Int) ∧ (k : Int) < (384 : Int)) ∧ (E0.2 81 k = 0 ∨ E0.2 81 k = 1) := ⟨by omega, hk2⟩
      refine ⟨((k : Int) + 1, sA (sA s.2 78 k (E0.2 79 k)) 80 k (E0.2 81 k)), ?_, rfl, a2, fun q h1 h2 => ?_, fun c hc => ?_⟩
      · simp (disch := omega) only [a1, gd_t, if_t, tn, sq_eq, e, e2, gd_t gq]
      · funext j
        rw [sA2, if_neg (by omega), sA2, if_neg (by omega), a3 q h1 h2]
      · by_cases q : c = k
        · subst q
          refine ⟨?_, ?_⟩
          · rw [sA2, if_neg (by omega), sA2, if_pos ⟨rfl, rfl⟩]
          · rw [sA2, if_pos ⟨rfl, rfl⟩]
        · have := a4 c (by omega)
          refine ⟨?_, ?_⟩
          · rw [sA2, if_neg (by omega), sA2, if_neg (by omega)]; exact this.1
          · rw [sA2, if_neg (by omega), sA2, if_neg (by omega)]; exact this.2)
  refine ⟨s'.2, ?_, i2, i3, i4⟩
  rw [ee]
  refine loopF_dn ?_
  have i1' : s'.1 = 384 := i1
  simp (disch := omega) only [i1', gd_t, if_f]
theorem X11_read222 (E0 : DT) : ∃ E', m_X11_read_222 (0, E0) = m_X11_read_248 (0, E') ∧ E'.1 = E0.1 ∧ (∀ q, q ≠ 82 → E'.2 q = E0.2 q) ∧ ∀ c, c < 24 → E'.2 82 c = E0.2 83 c := by
  unfold m_X11_read_222
  obtain ⟨s', ⟨i1, i2, i3, i4⟩, ee⟩ := loop_inv (f := fun s : Int × DT =>
  gd (InR s.1 ∧ InR 24) (if s.1 < 24 then (
    gd ((0 : Int) ≤ s.1 ∧ s.1 < (24 : Int)) (
    gd ((0 : Int) ≤ s.1 ∧ s.1 < (24 : Int)) (sq (sA s.2 82 (Int.toNat s.1) (s.2.2 83 (Int.toNat s.1))) (fun D239 =>
    some ((.inl ((s.1 + 1), D239)) : (Int × DT) ⊕ (Int × DT))
    )))
  ) else (
    done (
    m_X11_read_248 (0, s.2)
    )
  ))) (fun k s => s.1 = (k : Int) ∧ s.2.1 = E0.1 ∧ (∀ q, q ≠ 82 → s.2.2 q = E0.2 q) ∧ ∀ c, c < k → s.2.2 82 c = E0.2 83 c) 24 (s := (0, E0)) ⟨rfl, rfl, fun _ _ => rfl, fun c hc => by omega⟩ (fun k s hk ⟨a1, a2, a3, a4⟩ => by
      have e : s.2.2 83 k = E0.2 83 k := by rw [a3 83 (by omega)]
      refine ⟨((k : Int) + 1, sA s.2 82 k (E0.2 83 k)), ?_, rfl, a2, fun q h1 => ?_, fun c hc => ?_⟩
      · simp (disch := omega) only [a1, gd_t, if_t, tn, sq_eq, e]
      · funext j
        rw [sA2, if_neg (by omega), a3 q h1]
      · rw [sA2]
        by_cases q : c = k
        · rw [if_pos ⟨rfl, q⟩, q]
        · rw [if_neg (fun hh => q hh.2)]; exact a4 c (by omega))
  refine ⟨s'.2, ?_, i2, i3, i4⟩
  rw [ee]
  refine loopF_dn ?_
  have i1' : s'.1 = 24 := i1
  simp (disch := omega) only [i1', gd_t, if_f]
theorem X11_read248 (E0 : DT) (h : ∀ k, k < 48 → -128 ≤ E0.2 85 k ∧ E0.2 85 k ≤ 127) : ∃ E', m_X11_read_248 (0, E0) = (m_X11_laysOrders E').bind (fun D273 => some ((D273.2 76 2), D273)) ∧ E'.1 = E0.1 ∧ (∀ q, q ≠ 84 → E'.2 q = E0.2 q) ∧ ∀ c, c < 48 → E'.2 84 c = E0.2 85 c := by
  unfold m_X11_read_248
  obtain ⟨s', ⟨i1, i2, i3, i4⟩, ee⟩ := loop_inv (f := fun s : Int × DT =>
  gd (InR s.1 ∧ InR 48) (if s.1 < 48 then (
    gd ((0 : Int) ≤ s.1 ∧ s.1 < (48 : Int)) (
    gd (((0 : Int) ≤ s.1 ∧ s.1 < (48 : Int)) ∧ ((-128 : Int) ≤ (s.2.2 85 (Int.toNat s.1)) ∧ (s.2.2 85 (Int.toNat s.1)) ≤ (127 : Int))) (sq (sA s.2 84 (Int.toNat s.1) (s.2.2 85 (Int.toNat s.1))) (fun D265 =>
    some ((.inl ((s.1 + 1), D265)) : (Int × DT) ⊕ (Int × DT))
    )))
  ) else (
    done (
    (m_X11_laysOrders s.2).bind (fun D273 =>
    gd ((0 : Int) ≤ 2 ∧ 2 < (4 : Int)) (
    some ((D273.2 76 (Int.toNat 2)), D273)
    ))
    )
  ))) (fun k s => s.1 = (k : Int) ∧ s.2.1 = E0.1 ∧ (∀ q, q ≠ 84 → s.2.2 q = E0.2 q) ∧ ∀ c, c < k → s.2.2 84 c = E0.2 85 c) 48 (s := (0, E0)) ⟨rfl, rfl, fun _ _ => rfl, fun c hc => by omega⟩ (fun k s hk ⟨a1, a2, a3, a4⟩ => by
      have e : s.2.2 85 k = E0.2 85 k := by rw [a3 85 (by omega)]
      have hk2 := h k hk
      refine ⟨((k : Int) + 1, sA s.2 84 k (E0.2 85 k)), ?_, rfl, a2, fun q h1 => ?_, fun c hc => ?_⟩
      · simp (disch := omega) only [a1, gd_t, if_t, tn, sq_eq, e]
      · funext j
        rw [sA2, if_neg (by omega), a3 q h1]
      · rw [sA2]
        by_cases q : c = k
        · rw [if_pos ⟨rfl, q⟩, q]
        · rw [if_neg (fun hh => q hh.2)]; exact a4 c (by omega))
  refine ⟨s'.2, ?_, i2, i3, i4⟩
  rw [ee]
  refine loopF_dn ?_
  have i1' : s'.1 = 48 := i1
  simp (disch := omega) only [i1', gd_t, if_f, t2]
theorem ref_read_t {E E' D' : DT} {M Q : MS} {t : Int} (hR : RInv E M) (hu : m_X11_read E = m_X11_read_134 E') (g : RG0 E E') (e : E'.1 73 19 = -1) (S : DS D' E' (rsM M) t Q) : ∃ E2, m_X11_read E = some ((mZ Q : Int), E2) ∧ RInv E2 Q ∧ FrR E E2 ∧ E2.1 73 0 = 0 := by
  obtain ⟨-, ⟨-, C⟩, ⟨-, rg⟩, ⟨O, -, -⟩, hq⟩ := S
  have hU : mU Q = mU M := by show Q.2.2.2.1.1 = _; rw [hq]; rfl
  have hF : mF Q = mF M := by show Q.2.2.2.1.2.1 = _; rw [hq]; rfl
  have hX : mX Q = -1 := by show Q.2.2.2.1.2.2 = _; rw [hq]; rfl
  have hTL : mTL Q = 0 := by show Q.2.2.2.2.1.1 = _; rw [hq]; rfl
  have hWL : mWL Q = mWL M := by show Q.2.2.2.2.2.1 = _; rw [hq]; rfl
  have hWT : mWT Q = mWT M := by show Q.2.2.2.2.2.2 = _; rw [hq]; rfl
  have hq := X11_hasF_n (D := sF E' 73 20 (-1)) (by rw [sF1, if_neg (by omega), e])
  obtain ⟨E1, a1, a2, a3, a4⟩ := X11_read158 (sF E' 73 20 (-1))
  obtain ⟨E2, b1, b2, b3, b4⟩ := X11_read183 E1 (fun c hc => by rw [a3 81 (by omega), sF2]; exact rg.1 c hc)
  obtain ⟨E3, c1, c2, c3, c4⟩ := X11_read222 E2
  obtain ⟨E4, d1, d2, d3, d4⟩ := X11_read248 E3 (fun k hk => by rw [c3 85 (by omega), b3 85 (by omega) (by omega), a3 85 (by omega), sF2]; exact rg.2 k hk)
  obtain ⟨⟨s1, s2, s3, s4⟩, s5, s6, s7⟩ := C
  have n4 := nCb O
  have z8 := O.2.2.1
  have e76 : ∀ c, c < 4 → E4.2 76 c = E'.2 77 c := fun c hc => by rw [d3 76 (by omega), c3 76 (by omega), b3 76 (by omega) (by omega), a4 c hc, sF2]
  have rm : RMap E4 (mW Q) (mH Q) (mO Q) (mS Q) := by
    refine ⟨⟨by rw [e76 0 (by omega)]; exact s1, by rw [e76 1 (by omega)]; exact s2⟩, O.2.1, fun c hc => ?_⟩
    have hc4 : c < 384 := by
      have : c < nC Q := hc
      omega
    rw [d3 78 (by omega), d3 80 (by omega), c3 78 (by omega), c3 80 (by omega), (b4 c hc4).1, (b4 c hc4).2, a3 79 (by omega), a3 81 (by omega), sF2]
    exact s5 c hc
  have e762 : E4.2 76 2 = (mZ Q : Int) := by rw [e76 2 (by omega)]; exact s3
  obtain ⟨E5, f1, ⟨f2, f3⟩, f4⟩ := X11_laysOrders rm O e762
  have e5 : E5.1 = (sF E' 73 20 (-1)).1 := by rw [f2, d2, c2, b2, a2]
  have k1 : ∀ a k, (a = 73 → k ∉ [0, 2, 16, 17, 18, 19, 20, 21]) → E5.1 a k = E.1 a k := fun a k hk => by
    rw [e5, sF1, if_neg (fun hh => hk hh.1 (by rw [hh.2]; simp)), g.1 a k (fun hh hm => hk hh (by simp at hm ⊢; omega))]
  have k2 : ∀ a, (a < 76 ∨ 89 < a) → E5.2 a = E.2 a := fun a ha => by
    rw [f3 a (by omega), d3 a (by omega), c3 a (by omega), b3 a (by omega) (by omega), a3 a (by omega), sF2, g.2.2.1 a (fun hh => by simp at hh; omega)]
  refine ⟨E5, ?_, ⟨O, ⟨?_, ?_, ?_⟩, fun k hk => ?_, fun z hz k hk => ?_, ⟨?_, ?_, ?_⟩, ⟨?_, ?_⟩, ⟨?_, ?_⟩, fun k hk => ?_, f4⟩, fun a ha => ⟨?_, k2 a (by omega)⟩, ?_⟩
  · rw [hu]
    simp (disch := omega) only [m_X11_read_134, e, sq_eq, hq, ob_some, rn_th_0, bnd_some, gd_t, ↓reduceIte, a1, b1, c1, d1, f1]
    rw [f3 76 (by omega), e762]
  · unfold RMap at *
    rw [f3 76 (by omega), f3 78 (by omega), f3 80 (by omega)]
    exact rm
  · rw [f3 76 (by omega)]; exact e762
  · rw [f3 76 (by omega), e76 3 (by omega)]; exact s4
  · rw [f3 82 (by omega), d3 82 (by omega), c4 k hk, b3 83 (by omega) (by omega), a3 83 (by omega), sF2]
    exact s6 k hk
  · rw [f3 84 (by omega), d4 _ (by omega), c3 85 (by omega), b3 85 (by omega) (by omega), a3 85 (by omega), sF2]
    exact s7 z hz k hk
  · rw [k1 73 14 (by simp), hU]; exact hR.2.2.2.2.1.1
  · rw [k1 73 15 (by simp), hF]; exact hR.2.2.2.2.1.2.1
  · rw [e5, sF1, if_pos ⟨rfl, rfl⟩, hX]
  · rw [e5, sF1, if_neg (by omega), hTL]; exact g.2.1.2
  · intro k hk
    rw [hTL] at hk
    omega
  · rw [k1 73 40 (by simp), hWL]; exact hR.2.2.2.2.2.2.1.1
  · intro k hk
    rw [hWL] at hk
    rw [k2 101 (by omega), hWT]; exact hR.2.2.2.2.2.2.1.2 k hk
  · rw [f3 85 (by omega), d3 85 (by omega), c3 85 (by omega), b3 85 (by omega) (by omega), a3 85 (by omega), sF2]
    exact rg.2 k hk
  · funext k
    exact k1 a k (by omega)
  · rw [e5, sF1, if_neg (by omega)]; exact g.2.1.1
theorem step_read : StepOK m_L_c2 := fun xs Ls s hx hs ⟨M, hC, hR⟩ => by
  have z8 := hC.1.2.2.1
  obtain ⟨D', E', u1, u2, u3, u4, u5⟩ := J_all hC hR
  rcases u5 with ⟨L, t, Q, S⟩ | L
  · obtain ⟨D1, e1, c1, f1⟩ := cls_read_t hC u1 u3 L.2.1 S
    have zq := c1.1.2.2.1
    have r1 := (hR.frC f1).out (v := (mZ Q : Int))
    obtain ⟨D'', E'', v1, v2, v3, v4, v5⟩ := J_all hC r1
    have ed : D''.1 55 8 = -1 := by
      rw [u1] at v1
      injection v1 with h
      injection h with h1 h2
      rw [← h1]
      exact L.2.1
    rcases v5 with ⟨L2, t2, Q2, S2⟩ | L2
    · obtain ⟨D1', e1', c1', f1'⟩ := cls_read_t hC v1 v3 ed S2
      rw [e1] at e1'
      injection e1' with h
      injection h with h1 h2
      injection h1 with h3
      subst h2
      obtain ⟨D2, g1, g2, g3, g4⟩ := ref_read_t r1 v2 v4 L2.2.2 S2
      rw [← h3] at g1
      have o2 : D2.2 102 0 = (mZ Q : Int) := by rw [(g3 102 (by omega)).2, sA2, if_pos ⟨rfl, rfl⟩]
      exact ⟨D2, case_2 hs hx (wn_read e1 (by omega)) g1 g4 (by decide) (fun _ => ⟨by omega, o2⟩), Q2, (c1'.out (v := (mZ Q : Int))).frR (fun a ha => g3 a (Or.inl ha)), g2⟩
    · exfalso
      have h1 := L2.2.1.2.1
      rw [← L2.2.2, ed] at h1
      omega
  · obtain ⟨D1, e1, c1, f1⟩ := cls_read_f hC u1 u3 L.2.2 L.2.1.2
    have r1 := hR.frC f1
    obtain ⟨D'', E'', v1, v2, v3, v4, v5⟩ := J_all hC r1
    have ed : D''.1 55 8 = D'.1 55 8 := by
      rw [u1] at v1
      injection v1 with h
      injection h with h1 h2
      exact h1.symm
    rcases v5 with ⟨L2, -⟩ | L2
    · exfalso
      have h1 := L.2.1.2.1
      rw [← L.2.2, ← ed, L2.2.1] at h1
      omega
    · obtain ⟨D2, g1, g2, g3, g4⟩ := ref_read_f (n := mTL M) (T := mT M) r1 v2 v4 (f := E'.1 73 19) (by rw [← L2.2.2, ed, L.2.2]) L.2.1.2
      exact ⟨D2, case_2 hs hx (we_read_2 e1) g1 g4 (by decide) (fun h => absurd h (by decide)), _, c1.frR (fun a ha => g3 a (Or.inl ha)), g2⟩
