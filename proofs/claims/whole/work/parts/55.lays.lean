/-! ===== the reference's dots ===== -/
theorem X11_land {D : DT} {M : MS} (O : MOK M) (h : ∀ z, z ≤ mZ M → D.2 87 z = fstM M z) {z : Nat} (hz : z < mZ M) : m_X11_land (z : Int) D = some (ldM M z) := by
  have z8 := O.2.2.1
  have e1 := h z (by omega)
  have e2 := h (z + 1) (by omega)
  have c1 : (z : Int) + 1 = ((z + 1 : Nat) : Int) := rfl
  have e3 : fstM M (z + 1) - fstM M z = ldM M z := by
    show sumTo (ldM M) (z + 1) - sumTo (ldM M) z = _
    rw [sumTo]
    omega
  simp (disch := omega) only [m_X11_land, c1, gd_t, tn, e1, e2, e3]
/-- a table's column is laid -/
def coled (A A0 : Nat → Int) (l g k : Nat) (f : Nat → Int) : Prop := (∀ z, z < k → A (3 * (8 * l + z) + g) = f z) ∧ ∀ j, (∀ z, z < k → j ≠ 3 * (8 * l + z) + g) → A j = A0 j
theorem coled_s {A A0 : Nat → Int} {l g k : Nat} {f : Nat → Int} (h : coled A A0 l g k f) {A' : Nat → Int} (h' : ∀ j, A' j = if j = 3 * (8 * l + k) + g then f k else A j) : coled A' A0 l g (k + 1) f := by
  refine ⟨fun z hz => ?_, fun j hj => ?_⟩
  · rw [h']
    by_cases q : z = k
    · subst q
      rw [if_pos rfl]
    · rw [if_neg (by omega)]
      exact h.1 z (by omega)
  · rw [h', if_neg (hj k (by omega))]
    exact h.2 j (fun z hz => hj z (by omega))
theorem ref_share {D : DT} {M : MS} (O : MOK M) {u : Int} (hu : 1 ≤ u ∧ u ≤ 9999) {g l : Nat} (hg : g < mG M) (hl : l < 5) (hZ : D.2 76 2 = (mZ M : Int)) (hF : D.1 73 15 = mF M) (h87 : ∀ z, z ≤ mZ M → D.2 87 z = fstM M z) (hp : ∀ k, k < 24 → D.2 82 k = mP M k) (h1 : 0 < l → ∀ z, z < mZ M → D.2 90 (3 * (8 * (l - 1) + z) + g) = inM M u g l z) : ∃ E, m_X11_laysDots_25 u (l : Int) (g : Int) (0, 0, D) = some (.inl ((g : Int) + 1, E)) ∧ E.1 = D.1 ∧ (∀ b, (b ≠ 90 ∧ b ≠ 91 ∧ b ≠ 92) → E.2 b = D.2 b) ∧ coled (E.2 90) (D.2 90) l g (mZ M) (dotM M u g l) ∧ coled (E.2 91) (D.2 91) l g (mZ M) (cry (inM M u g l) (ldM M) (szM M u l)) ∧ ∀ j, E.2 92 j = if j = 3 * l + g then cry (inM M u g l) (ldM M) (szM M u l) (mZ M) else D.2 92 j := by
  have z8 := O.2.2.1
  have g3 := O.2.2.2.1
  have ufx := O.ufx
  have u0 : 0 < u := by omega
  have g3' : g < 3 := by omega
  obtain ⟨ib1, ib2⟩ := inM_b O u0 g3' l
  have sp := szM_pos O u0 l
  have sb : szM M u l ≤ 9999 := by
    cases l with
    | zero => exact hu.2
    | succ l => show mF M ≤ 9999; omega
  unfold m_X11_laysDots_25
  obtain ⟨s', ⟨i1, i2, i3, i4, i5, i6⟩, e⟩ := loop_inv (f := fun s : Int × Int × DT =>
    (m_X11_zones s.2.2).bind (fun r28 =>
    gd (InR s.2.1 ∧ InR r28) (if s.2.1 < r28 then (
      (m_X11_dotsAt (l : Int) s.2.1 (g : Int) s.2.2).bind (fun r38 =>
      gd ((0 : Int) ≤ r38 ∧ r38 < (120 : Int)) (sq (sA s.2.2 91 (Int.toNat r38) s.1) (fun D51 =>
      gd (InR (l : Int)) (if (l : Int) = 0 then (
        gd ((0 : Int) ≤ ((3 * s.2.1) + (g : Int)) ∧ ((3 * s.2.1) + (g : Int)) < (24 : Int)) (
        gd (InR (l : Int)) (if (l : Int) = 0 then (
          m_X11_laysDots_101 u (l : Int) (g : Int) s.2.1 r38 (s.1 + (D51.2 82 (Int.toNat ((3 * s.2.1) + (g : Int))))) u D51
        ) else (
          m_X11_laysDots_101 u (l : Int) (g : Int) s.2.1 r38 (s.1 + (D51.2 82 (Int.toNat ((3 * s.2.1) + (g : Int))))) (D51.1 73 15) D51
        ))
        )
      ) else (
        (m_X11_dotsAt ((l : Int) - 1) s.2.1 (g : Int) D51).bind (fun r82 =>
        gd ((0 : Int) ≤ r82 ∧ r82 < (120 : Int)) (
        gd (InR (l : Int)) (if (l : Int) = 0 then (
          m_X11_laysDots_101 u (l : Int) (g : Int) s.2.1 r38 (s.1 + (D51.2 90 (Int.toNat r82))) u D51
        ) else (
          m_X11_laysDots_101 u (l : Int) (g : Int) s.2.1 r38 (s.1 + (D51.2 90 (Int.toNat r82))) (D51.1 73 15) D51
        ))
        ))
      ))
      )))
    ) else (
      done (
      gd ((0 : Int) ≤ ((3 * (l : Int)) + (g : Int)) ∧ ((3 * (l : Int)) + (g : Int)) < (15 : Int)) (sq (sA s.2.2 92 (Int.toNat ((3 * (l : Int)) + (g : Int))) s.1) (fun D166 =>
      some ((.inl (((g : Int) + 1), D166)) : (Int × DT) ⊕ ((Int × DT) ⊕ DT))
      ))
      )
    ))
    )) (fun k s => s.1 = cry (inM M u g l) (ldM M) (szM M u l) k ∧ s.2.1 = (k : Int) ∧ s.2.2.1 = D.1 ∧ (∀ b, (b ≠ 90 ∧ b ≠ 91) → s.2.2.2 b = D.2 b) ∧ coled (s.2.2.2 90) (D.2 90) l g k (dotM M u g l) ∧ coled (s.2.2.2 91) (D.2 91) l g k (cry (inM M u g l) (ldM M) (szM M u l))) (mZ M) (s := (0, 0, D)) ⟨rfl, rfl, rfl, fun _ _ => rfl, ⟨fun z hz => by omega, fun _ _ => rfl⟩, ⟨fun z hz => by omega, fun _ _ => rfl⟩⟩ (fun k s hk ⟨a1, a2, a3, a4, a5, a6⟩ => by
      have ab := ib1 k (by omega)
      have as1 := ib2 (k + 1) (by omega)
      have as0 := ib2 k (by omega)
      have cn := cry_nn (ld := ldM M) (z := k) sp (fun j hj => ib1 j (by omega))
      have cs := dts_sum (ld := ldM M) (z := k) sp (fun j hj => ib1 j (by omega))
      have lb := ldM_b O k
      rw [sumTo] at as1
      have eZ : s.2.2.2 76 2 = (mZ M : Int) := by rw [a4 _ (by omega), hZ]
      have pl : 3 * (8 * (l : Int) + (k : Int)) + (g : Int) = ((3 * (8 * l + k) + g : Nat) : Int) := by omega
      have pb : (0 : Int) ≤ ((3 * (8 * l + k) + g : Nat) : Int) ∧ ((3 * (8 * l + k) + g : Nat) : Int) < 120 := by omega
      have lnd1 : ∀ E : DT, (∀ b, (b ≠ 90 ∧ b ≠ 91) → E.2 b = D.2 b) → m_X11_land (k : Int) E = some (ldM M k) := fun E hE => X11_land O (fun z hz => by rw [hE _ (by omega)]; exact h87 z hz) hk
      have k51 : ∀ b, (b ≠ 90 ∧ b ≠ 91) → (sA s.2.2 91 (3 * (8 * l + k) + g) (cry (inM M u g l) (ldM M) (szM M u l) k)).2 b = D.2 b := fun b hb => by
        funext j
        rw [sA2, if_neg (fun h => hb.2 h.1), a4 b hb]
      have l51 := lnd1 _ k51
      have l127 : ∀ v, m_X11_land (k : Int) (sA (sA s.2.2 91 (3 * (8 * l + k) + g) (cry (inM M u g l) (ldM M) (szM M u l) k)) 90 (3 * (8 * l + k) + g) v) = some (ldM M k) := fun v => lnd1 _ (fun b hb => by
        funext j
        rw [sA2, if_neg (fun h => hb.1 h.1), k51 b hb])
      have c1 : (k : Int) + 1 = ((k + 1 : Nat) : Int) := rfl
      -- the rest of a round, from what came
      have rest : m_X11_laysDots_101 u (l : Int) (g : Int) (k : Int) ((3 * (8 * l + k) + g : Nat) : Int) (cry (inM M u g l) (ldM M) (szM M u l) k + inM M u g l k) (szM M u l) (sA s.2.2 91 (3 * (8 * l + k) + g) (cry (inM M u g l) (ldM M) (szM M u l) k)) = some (.inl (cry (inM M u g l) (ldM M) (szM M u l) (k + 1), ((k + 1 : Nat) : Int), sA (sA s.2.2 91 (3 * (8 * l + k) + g) (cry (inM M u g l) (ldM M) (szM M u l) k)) 90 (3 * (8 * l + k) + g) (dotM M u g l k))) := by
        rw [dotM_in]
        by_cases qd : ldM M k = 0
        · simp (disch := omega) only [m_X11_laysDots_101, m_X11_laysDots_127, l51, ob_some, gd_t, if_t qd, gd_t pb, sq_eq, tn, l127, cry, dts, c1]
        · simp (disch := omega) only [m_X11_laysDots_101, m_X11_laysDots_127, l51, ob_some, gd_t, if_f qd, gd_t pb, sq_eq, tn, l127, cry, dts, c1]
      refine ⟨(cry (inM M u g l) (ldM M) (szM M u l) (k + 1), ((k + 1 : Nat) : Int), sA (sA s.2.2 91 (3 * (8 * l + k) + g) (cry (inM M u g l) (ldM M) (szM M u l) k)) 90 (3 * (8 * l + k) + g) (dotM M u g l k)), ?_, rfl, rfl, a3, fun b hb => ?_, coled_s a5 (fun j => ?_), coled_s a6 (fun j => ?_)⟩
      · by_cases ql : l = 0
        · have k1 : 3 * (k : Int) + (g : Int) = ((3 * k + g : Nat) : Int) := by omega
          have e1 : (sA s.2.2 91 (3 * (8 * l + k) + g) (cry (inM M u g l) (ldM M) (szM M u l) k)).2 82 (3 * k + g) = inM M u g l k := by
            rw [k51 _ (by omega), hp _ (by omega)]
            subst ql
            rfl
          have ql' : (l : Int) = 0 := by omega
          have su : szM M u l = u := by subst ql; rfl
          rw [su] at rest e1 ⊢
          simp (disch := omega) only [m_X11_zones, t2, eZ, ob_some, a1, a2, gd_t, if_t, m_X11_dotsAt, pl, gd_t pb, sq_eq, tn, k1, e1, su]
          exact rest
        · have ql' : ¬ (l : Int) = 0 := by omega
          have k1 : 3 * (8 * ((l : Int) - 1) + (k : Int)) + (g : Int) = ((3 * (8 * (l - 1) + k) + g : Nat) : Int) := by omega
          have e1 : (sA s.2.2 91 (3 * (8 * l + k) + g) (cry (inM M u g l) (ldM M) (szM M u l) k)).2 90 (3 * (8 * (l - 1) + k) + g) = inM M u g l k := by
            rw [sA2, if_neg (by omega), a5.2 _ (fun z hz => by omega)]
            exact h1 (by omega) k hk
          have su : szM M u l = mF M := by
            obtain ⟨l0, rfl⟩ : ∃ l0, l = l0 + 1 := ⟨l - 1, by omega⟩
            rfl
          have eF : (sA s.2.2 91 (3 * (8 * l + k) + g) (cry (inM M u g l) (ldM M) (szM M u l) k)).1 73 15 = szM M u l := by rw [sA1, a3, hF, su]
          simp (disch := omega) only [m_X11_zones, t2, eZ, ob_some, a1, a2, gd_t, if_t, if_f ql', m_X11_dotsAt, pl, gd_t pb, sq_eq, tn, k1, e1, eF]
          exact rest
      · funext j
        rw [sA2, if_neg (fun h => hb.1 h.1), k51 b hb]
      · rw [sA2]
        by_cases qj : j = 3 * (8 * l + k) + g
        · rw [if_pos ⟨rfl, qj⟩, if_pos qj]
        · rw [if_neg (fun h => qj h.2), if_neg qj, sA2, if_neg (by omega)]
      · rw [sA2, if_neg (by omega), sA2]
        by_cases qj : j = 3 * (8 * l + k) + g
        · rw [if_pos ⟨rfl, qj⟩, if_pos qj]
        · rw [if_neg (fun h => qj h.2), if_neg qj])
  have eZ : s'.2.2.2 76 2 = (mZ M : Int) := by rw [i4 _ (by omega), hZ]
  have pl : 3 * (l : Int) + (g : Int) = ((3 * l + g : Nat) : Int) := by omega
  refine ⟨sA s'.2.2 92 (3 * l + g) (cry (inM M u g l) (ldM M) (szM M u l) (mZ M)), ?_, i3, fun b hb => ?_, ?_, ?_, fun j => ?_⟩
  · rw [e]
    refine loopF_inr ?_
    simp (disch := omega) only [m_X11_zones, t2, eZ, ob_some, i1, i2, gd_t, if_f, pl, tn, sq_eq, done_some]
  · funext j
    rw [sA2, if_neg (fun h => hb.2.2 h.1), i4 b ⟨hb.1, hb.2.1⟩]
  · have h9 : (sA s'.2.2 92 (3 * l + g) (cry (inM M u g l) (ldM M) (szM M u l) (mZ M))).2 90 = s'.2.2.2 90 := by
      funext j
      rw [sA2, if_neg (by omega)]
    rw [h9]
    exact i5
  · have h9 : (sA s'.2.2 92 (3 * l + g) (cry (inM M u g l) (ldM M) (szM M u l) (mZ M))).2 91 = s'.2.2.2 91 := by
      funext j
      rw [sA2, if_neg (by omega)]
    rw [h9]
    exact i6
  · rw [sA2]
    by_cases qj : j = 3 * l + g
    · rw [if_pos ⟨rfl, qj⟩, if_pos qj]
    · rw [if_neg (fun h => qj h.2), if_neg qj, i4 _ (by omega)]
