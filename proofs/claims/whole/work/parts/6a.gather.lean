/-! ===== the class's crowd ===== -/
theorem crw_b {M : MS} (O : MOK M) (l c g : Nat) (hc : c < nC M) : 0 ≤ crwM M l c g ∧ crwM M l c g ≤ 799992 := by
  have ub := O.ufx
  have g3 := O.2.2.2.1
  have z8 := O.2.2.1
  unfold crwM
  split
  · rename_i h
    obtain ⟨z, hz, ho, -⟩ := own_of O hc h.1
    rw [ho, tn]
    have db := dotM_b O (u := mU M) (by omega) (show g < 3 by omega) l (show z < 8 by omega)
    have := sumTo_bounds (f := fun k => b2i ((((k * mG M + g : Nat) : Int) % lnd M (z : Int)) = plcM M c)) (n := (dotM M (mU M) g l z).toNat) (a := 0) (b := 1) (fun k _ => b2i_01)
    omega
  · omega
theorem tog_b {M : MS} (O : MOK M) (l c : Nat) (hc : c < nC M) : 0 ≤ togM M l c ∧ togM M l c ≤ 2399976 := by
  have h0 := crw_b O l c 0 hc
  have h1 := crw_b O l c 1 hc
  have h2 := crw_b O l c 2 hc
  unfold togM
  omega
theorem crw_big {M : MS} {l c g : Nat} (h : ¬ g < mG M) : crwM M l c g = 0 := by
  unfold crwM
  rw [if_neg (fun hh => h hh.2)]
theorem crw_no {M : MS} {l c g : Nat} (h : ¬ hasL M c = true) : crwM M l c g = 0 := by
  unfold crwM
  rw [if_neg (fun hh => h hh.1)]
def BG (D : DT) (p : Nat) (M : MS) (l z g : Nat) : Prop := ∀ c g', c < nC M → g' < 3 → D.2 (p + 22 + 1) (g' * 384 + c) = if hasL M c = true ∧ (mO M c < (z : Int) ∨ (mO M c = (z : Int) ∧ g' < g)) then crwM M l c g' else 0
/-- only the crowd's numbers change -/
def GKp (D D' : DT) (p : Nat) : Prop := D'.1 = D.1 ∧ ∀ a, a ≠ p + 22 + 1 → D'.2 a = D.2 a
theorem gather_group {D : DT} {p l z : Nat} {M : MS} (O : MOK M) (C : ChartRep D (p + 1) M) (T : TallyRep D (p + 9) M) (K : RanksAll D (p + 14) M) (hl : D.1 (p + 22) 0 = (l : Int)) (hl5 : l < 5) (hz : z < mZ M) {E : DT} (k0 : GKp D E p) (b0 : BG E p M l z 0) : ∃ E', m_X2_gather_37 (p + 22) (p + 1) (p + 9) (p + 14) (z : Int) (0, E) = some (.inl ((z : Int) + 1, E')) ∧ GKp D E' p ∧ BG E' p M l (z + 1) 0 := by
  have n4 := nCb O
  have g3 := O.2.2.2.1
  unfold m_X2_gather_37
  obtain ⟨s', ⟨i1, i2, i3⟩, e⟩ := loop_inv (f := fun s : Int × DT =>
    gd (InR s.1 ∧ InR (s.2.1 (p + 1) 3)) (if s.1 < (s.2.1 (p + 1) 3) then (
      (m_X2_stand (p + 22) (s.2.1 (p + 1) 3) (p + 9) (p + 14) (z : Int) s.1 s.2).bind (fun D57 =>
      some (.inl ((s.1 + 1), D57))
      )
    ) else (
      done (
      some ((.inl (((z : Int) + 1), s.2)) : (Int × DT) ⊕ DT)
      )
    ))) (fun g s => s.1 = (g : Int) ∧ GKp D s.2 p ∧ BG s.2 p M l z g) (mG M) (s := (0, E)) ⟨rfl, k0, b0⟩ (fun g s hg ⟨a1, a2, a3⟩ => by
      have eG : s.2.1 (p + 1) 3 = (mG M : Int) := by rw [a2.1]; exact C.2.1.2
      obtain ⟨D', e1, e2, e3, e4, e5⟩ := X2_stand (D := s.2) (p := p) O (T.fr (fun b hb => ⟨by rw [a2.1], a2.2 b (by omega)⟩)) (K.fr (fun b hb => ⟨by rw [a2.1], a2.2 b (by omega)⟩)) (by rw [a2.1]; exact hl) hl5 hz hg (fun c hc h => by
        rw [a3 c g hc (by omega), if_neg]
        intro hh
        have := (isL_iff.mp h).1
        omega)
      refine ⟨((g : Int) + 1, D'), ?_, rfl, ⟨by rw [e2]; exact a2.1, fun a ha => by rw [e3 a ha]; exact a2.2 a ha⟩, fun c g' hc hg' => ?_⟩
      · simp (disch := omega) only [a1, eG, gd_t, if_t, e1, ob_some]
      · show D'.2 (p + 22 + 1) (g' * 384 + c) = _
        by_cases q : g' = g ∧ isL M (z : Int) c = true
        · obtain ⟨q1, q2⟩ := q
          subst q1
          rw [e5 c hc q2, if_pos ⟨has_of q2, Or.inr ⟨(isL_iff.mp q2).1, by omega⟩⟩]
        · rw [e4 _ (fun c' hc' hl' hh => q ⟨by omega, by
            have : c = c' := by omega
            rw [this]; exact hl'⟩), a3 c g' hc hg']
          by_cases q3 : hasL M c = true ∧ (mO M c < (z : Int) ∨ (mO M c = (z : Int) ∧ g' < g))
          · rw [if_pos q3, if_pos ⟨q3.1, by omega⟩]
          · rw [if_neg q3, if_neg]
            intro hh
            refine q3 ⟨hh.1, ?_⟩
            have : ¬ (g' = g ∧ mO M c = (z : Int)) := fun h => q ⟨h.1, isL_iff.mpr ⟨h.2, (hasL_iff.mp hh.1).2⟩⟩
            omega)
  refine ⟨s'.2, ?_, i2, fun c g' hc hg' => ?_⟩
  · rw [e]
    refine loopF_inr ?_
    have eG : s'.2.1 (p + 1) 3 = (mG M : Int) := by rw [i2.1]; exact C.2.1.2
    simp (disch := omega) only [i1, eG, gd_t, if_f, done_some]
  · rw [i3 c g' hc hg']
    by_cases q : g' < mG M
    · by_cases q3 : hasL M c = true ∧ (mO M c < (z : Int) ∨ (mO M c = (z : Int) ∧ g' < mG M))
      · rw [if_pos q3, if_pos ⟨q3.1, by omega⟩]
      · rw [if_neg q3, if_neg]
        intro hh
        exact q3 ⟨hh.1, by omega⟩
    · rw [crw_big q]
      split <;> split <;> rfl
theorem crowd_add {D : DT} {p l : Nat} {M : MS} (O : MOK M) (hb : ∀ c g, c < nC M → g < 3 → D.2 (p + 22 + 1) (g * 384 + c) = crwM M l c g) (h1 : D.1 (p + 22) 1 = (nC M : Int)) : ∃ D', m_X2_addUp (p + 22) D = some D' ∧ (∀ a k, (a = p + 22 → k ≠ 5) → D'.1 a k = D.1 a k) ∧ (∀ a, a ≠ p + 22 + 2 → a ≠ p + 22 + 3 → D'.2 a = D.2 a) ∧ (∀ c, c < nC M → D'.2 (p + 22 + 2) c = togM M l c) ∧ D'.1 (p + 22) 5 = ((sptM M l).length : Int) ∧ ArrL (D'.2 (p + 22 + 3)) (sptM M l) := by
  have n4 := nCb O
  unfold m_X2_addUp
  simp only [sq_eq]
  unfold m_X2_addUp_7
  obtain ⟨s', ⟨i1, i2, i3, i4, i5, i6⟩, e⟩ := loop_inv (f := fun s : Int × DT =>
    gd (InR s.1 ∧ InR (s.2.1 (p + 22) 1)) (if s.1 < (s.2.1 (p + 22) 1) then (
      m_X2_addUp_19 (p + 22) s.1 s.2 (0, 0)
    ) else (
      done (
      some s.2
      )
    ))) (fun c s => s.1 = (c : Int) ∧ (∀ a k, (a = p + 22 → k ≠ 5) → s.2.1 a k = D.1 a k) ∧ (∀ a, a ≠ p + 22 + 2 → a ≠ p + 22 + 3 → s.2.2 a = D.2 a) ∧ (∀ x, x < c → s.2.2 (p + 22 + 2) x = togM M l x) ∧ s.2.1 (p + 22) 5 = (((List.range c).filter (fun c => decide (0 < togM M l c))).length : Int) ∧ ArrL (s.2.2 (p + 22 + 3)) ((List.range c).filter (fun c => decide (0 < togM M l c)))) (nC M) (s := (0, sF D (p + 22) 5 0)) ⟨rfl, fun a k h => by rw [sF1, if_neg (fun hh => h hh.1 hh.2)], fun _ _ _ => rfl, fun _ h => absurd h (by omega), by rw [sF1, if_pos ⟨rfl, rfl⟩]; rfl, ArrL.nil⟩ (fun c s hc ⟨a1, a2, a3, a4, a5, a6⟩ => by
      have e1 : s.2.1 (p + 22) 1 = (nC M : Int) := by rw [a2 _ _ (by omega)]; exact h1
      have tb := tog_b O l c hc
      have lb := fr_le (fun c => decide (0 < togM M l c)) c
      have eb : ∀ g, g < 3 → s.2.2 (p + 22 + 1) (g * 384 + c) = crwM M l c g := fun g hg => by
        rw [a3 _ (by omega) (by omega)]
        exact hb c g hc hg
      have es : sumTo (fun g => crwM M l c g) 3 = togM M l c := by
        simp only [sumTo, togM]
        omega
      have inner : ∀ X, (gd ((0 : Int) ≤ (c : Int) ∧ (c : Int) < (384 : Int)) (sq (sA s.2 (p + 22 + 2) (Int.toNat (c : Int)) (togM M l c)) (fun D51 =>
          gd (InR (togM M l c)) (if 0 < togM M l c then (
            gd ((0 : Int) ≤ (D51.1 (p + 22) 5) ∧ (D51.1 (p + 22) 5) < (384 : Int)) (sq (sA D51 (p + 22 + 3) (Int.toNat (D51.1 (p + 22) 5)) (c : Int)) (fun D65 =>
            sq (sF D65 (p + 22) 5 ((D65.1 (p + 22) 5) + 1)) (fun D73 =>
            some ((.inl (((c : Int) + 1), D73)) : (Int × DT) ⊕ DT)
            )))
          ) else (
            some (.inl (((c : Int) + 1), D51))
          ))
          ))) = some X → m_X2_addUp_19 (p + 22) (c : Int) s.2 (0, 0) = some X := fun X hX => by
        refine loop_for (st := fun g => (sumTo (fun g => crwM M l c g) g, (g : Int))) 3 (fun g hg => ?_) ?_
        · have w1 : (g : Int) * 384 + (c : Int) = ((g * 384 + c : Nat) : Int) := by omega
          have c1 : ((g + 1 : Nat) : Int) = (g : Int) + 1 := rfl
          have eg := eb g hg
          simp (disch := omega) only [gd_t, if_t, w1, tn, eg, sumTo, c1]
        · have c3 : ((3 : Nat) : Int) = 3 := rfl
          simp (disch := omega) only [c3, es, gd_t, if_f]
          rw [gd_t (by omega)] at hX
          simp (disch := omega) only [gd_t] at hX ⊢
          rw [hX]
          rfl
      by_cases q : 0 < togM M l c
      · have qd : (fun c => decide (0 < togM M l c)) c = true := by simpa using q
        refine ⟨((c : Int) + 1, sF (sA (sA s.2 (p + 22 + 2) c (togM M l c)) (p + 22 + 3) ((List.range c).filter (fun c => decide (0 < togM M l c))).length (c : Int)) (p + 22) 5 ((((List.range c).filter (fun c => decide (0 < togM M l c))).length : Int) + 1)), ?_, rfl, fun a k h => ?_, fun a h1 h2 => ?_, fun x hx => ?_, ?_, ?_⟩
        · have := inner (.inl ((c : Int) + 1, sF (sA (sA s.2 (p + 22 + 2) c (togM M l c)) (p + 22 + 3) ((List.range c).filter (fun c => decide (0 < togM M l c))).length (c : Int)) (p + 22) 5 ((((List.range c).filter (fun c => decide (0 < togM M l c))).length : Int) + 1))) (by
            simp (disch := omega) only [gd_t, tn, sq_eq, if_t q, sA1, a5])
          simp (disch := omega) only [a1, e1, gd_t, if_t, this]
        · rw [sF1, if_neg (fun hh => h hh.1 hh.2)]
          exact a2 a k h
        · rw [sF2]
          funext j
          rw [sA2, if_neg (fun h => h2 h.1), sA2, if_neg (fun h => h1 h.1), a3 a h1 h2]
        · rw [sF2, sA2, if_neg (by omega), sA2]
          by_cases qx : x = c
          · rw [if_pos ⟨rfl, qx⟩, qx]
          · rw [if_neg (fun h => qx h.2)]
            exact a4 x (by omega)
        · rw [sF1, if_pos ⟨rfl, rfl⟩, frs_t qd, List.length_append]
          rfl
        · rw [frs_t qd]
          refine a6.snoc (fun j => ?_)
          rw [sF2, sA2]
          by_cases qj : j = ((List.range c).filter (fun c => decide (0 < togM M l c))).length
          · rw [if_pos ⟨rfl, qj⟩, if_pos qj]
          · rw [if_neg (fun h => qj h.2), if_neg qj, sA2, if_neg (by omega)]
      · have qd : ¬ (fun c => decide (0 < togM M l c)) c = true := by simpa using q
        refine ⟨((c : Int) + 1, sA s.2 (p + 22 + 2) c (togM M l c)), ?_, rfl, a2, fun a h1 h2 => ?_, fun x hx => ?_, ?_, ?_⟩
        · have := inner (.inl ((c : Int) + 1, sA s.2 (p + 22 + 2) c (togM M l c))) (by
            simp (disch := omega) only [gd_t, tn, sq_eq, if_f q])
          simp (disch := omega) only [a1, e1, gd_t, if_t, this]
        · funext j
          rw [sA2, if_neg (fun h => h1 h.1), a3 a h1 h2]
        · rw [sA2]
          by_cases qx : x = c
          · rw [if_pos ⟨rfl, qx⟩, qx]
          · rw [if_neg (fun h => qx h.2)]
            exact a4 x (by omega)
        · rw [frs_f qd]
          exact a5
        · rw [frs_f qd]
          intro i hi
          rw [sA2, if_neg (by omega)]
          exact a6 i hi)
  refine ⟨s'.2, ?_, i2, i3, i4, i5, i6⟩
  rw [e]
  refine loopF_inr ?_
  have e1 : s'.2.1 (p + 22) 1 = (nC M : Int) := by rw [i2 _ _ (by omega)]; exact h1
  simp (disch := omega) only [i1, e1, gd_t, if_f, done_some]
theorem X2_gather {D : DT} {p l : Nat} {M : MS} (O : MOK M) (C : ChartRep D (p + 1) M) (T : TallyRep D (p + 9) M) (K : RanksAll D (p + 14) M) (hl5 : l < 5) : ∃ D', m_X2_gather (p + 22) (p + 1) (p + 9) (p + 14) (l : Int) D = some D' ∧ D'.1 (p + 22) 0 = (l : Int) ∧ CrowdAt D' (p + 22) M l ∧ KpO D D' (p + 22) (p + 25) := by
  have n4 := nCb O
  have z8 := O.2.2.1
  have k1 : KpO D (sFill (sF (sF D (p + 22) 0 (l : Int)) (p + 22) 1 (nC M : Int)) (p + 22 + 1) 1152 0) (p + 22) (p + 25) := fun b hb => ⟨by
    funext j
    show (sF (sF D (p + 22) 0 (l : Int)) (p + 22) 1 (nC M : Int)).1 b j = _
    rw [sF1, if_neg (by omega), sF1, if_neg (by omega)], by
    funext j
    show (if b = p + 22 + 1 ∧ j < 1152 then 0 else (sF (sF D (p + 22) 0 (l : Int)) (p + 22) 1 (nC M : Int)).2 b j) = _
    rw [if_neg (by omega), sF2, sF2]⟩
  have ec : m_X1_cells (p + 1) (sF D (p + 22) 0 (l : Int)) = some (nC M : Int) := X1_cells (C.1.cong (fun a ha => ⟨by funext j; rw [sF1, if_neg (by omega)], rfl⟩))
  generalize hF : sFill (sF (sF D (p + 22) 0 (l : Int)) (p + 22) 1 (nC M : Int)) (p + 22 + 1) 1152 0 = F at k1
  have CF : ChartRep F (p + 1) M := C.fr (fun b hb => k1 b (by omega))
  have TF : TallyRep F (p + 9) M := T.fr (fun b hb => k1 b (by omega))
  have KF : RanksAll F (p + 14) M := K.fr (fun b hb => k1 b (by omega))
  have lF : F.1 (p + 22) 0 = (l : Int) := by
    rw [← hF]
    show (sF (sF D (p + 22) 0 (l : Int)) (p + 22) 1 (nC M : Int)).1 (p + 22) 0 = _
    rw [sF1, if_neg (by omega), sF1, if_pos ⟨rfl, rfl⟩]
  have nF : F.1 (p + 22) 1 = (nC M : Int) := by
    rw [← hF]
    show (sF (sF D (p + 22) 0 (l : Int)) (p + 22) 1 (nC M : Int)).1 (p + 22) 1 = _
    rw [sF1, if_pos ⟨rfl, rfl⟩]
  have bF : BG F p M l 0 0 := fun c g hc hg => by
    rw [← hF]
    show (if p + 22 + 1 = p + 22 + 1 ∧ g * 384 + c < 1152 then 0 else _) = _
    rw [if_pos ⟨rfl, by omega⟩, if_neg]
    intro h
    have := (hasL_iff.mp h.1).1
    have := (O.2.2.2.2.1 c hc).1
    omega
  have zones : ∃ D', m_X2_gather_25 (p + 22) (p + 1) (p + 9) (p + 14) (0, F) = some D' ∧ D'.1 (p + 22) 0 = (l : Int) ∧ CrowdAt D' (p + 22) M l ∧ KpO F D' (p + 22) (p + 25) := by
    unfold m_X2_gather_25
    obtain ⟨s', ⟨i1, i2, i3⟩, e⟩ := loop_inv (f := fun s : Int × DT =>
      gd (InR s.1 ∧ InR (s.2.1 (p + 1) 2)) (if s.1 < (s.2.1 (p + 1) 2) then (
        m_X2_gather_37 (p + 22) (p + 1) (p + 9) (p + 14) s.1 (0, s.2)
      ) else (
        done (
        (m_X2_addUp (p + 22) s.2).bind (fun D73 =>
        some D73
        )
        )
      ))) (fun z s => s.1 = (z : Int) ∧ GKp F s.2 p ∧ BG s.2 p M l z 0) (mZ M) (s := (0, F)) ⟨rfl, ⟨rfl, fun _ _ => rfl⟩, bF⟩ (fun z s hz ⟨a1, a2, a3⟩ => by
        have eZ : s.2.1 (p + 1) 2 = (mZ M : Int) := by rw [a2.1]; exact CF.2.1.1
        obtain ⟨E', e1, e2, e3⟩ := gather_group O CF TF KF lF hl5 hz a2 a3
        refine ⟨((z : Int) + 1, E'), ?_, rfl, e2, e3⟩
        simp (disch := omega) only [a1, eZ, gd_t, if_t, e1])
    have hb : ∀ c g, c < nC M → g < 3 → s'.2.2 (p + 22 + 1) (g * 384 + c) = crwM M l c g := fun c g hc hg => by
      rw [i3 c g hc hg]
      by_cases q : hasL M c = true
      · obtain ⟨z, hz, ho, -⟩ := own_of O hc q
        rw [if_pos ⟨q, by omega⟩]
      · rw [if_neg (fun h => q h.1), crw_no q]
    obtain ⟨D', f1, f2, f3, f4, f5, f6⟩ := crowd_add O hb (by rw [i2.1]; exact nF)
    refine ⟨D', ?_, by rw [f2 _ _ (by omega), i2.1]; exact lF, ⟨by rw [f2 _ _ (by omega), i2.1]; exact nF, fun c g hc hg => by rw [f3 _ (by omega) (by omega)]; exact hb c g hc hg, f4, f5, f6⟩, fun b hb => ⟨?_, ?_⟩⟩
    · rw [e]
      refine loopF_inr ?_
      have eZ : s'.2.1 (p + 1) 2 = (mZ M : Int) := by rw [i2.1]; exact CF.2.1.1
      simp (disch := omega) only [i1, eZ, gd_t, if_f, f1, ob_some, done_some]
    · funext k
      rw [f2 b k (fun h => by omega), i2.1]
    · rw [f3 b (by omega) (by omega), i2.2 b (by omega)]
  obtain ⟨D', f1, f2, f3, f4⟩ := zones
  refine ⟨D', ?_, f2, f3, k1.trans f4 (by omega)⟩
  simp only [m_X2_gather, sq_eq, ec, ob_some, hF]
  exact f1
theorem crowded_p {D : DT} {p l : Nat} {M : MS} (h : PlanOK D p M) (hl5 : l < 5) : ∃ D', m_X5_crowded p (l : Int) D = some D' ∧ PlanOK D' p M ∧ CrowdAt D' (p + 22) M l ∧ KpO D D' (p + 9) (p + 25) := by
  by_cases q : D.1 (p + 22) 0 = (l : Int)
  · rcases h.2.2.2.2.2 with hh | ⟨l', h1, h2, h3⟩
    · omega
    · have : l' = l := by omega
      subst this
      refine ⟨D, ?_, h, h3, KpO.refl _ _ _⟩
      simp (disch := omega) only [m_X5_crowded, m_X2_isOf, q, gd_t, ↓reduceIte, ob_some, if_f]
  · obtain ⟨D1, e1, e2, e3, e4⟩ := tallied_p h
    obtain ⟨D2, f1, f2, f3, f4, f5⟩ := renew_p e2 e3
    obtain ⟨D3, g1, g2, g3, g4⟩ := X2_gather f2.1 f2.2.1 f3 f4 hl5
    have b : InR (D.1 (p + 22) 0) := by
      rcases h.2.2.2.2.2 with hh | ⟨l', h1, h2, h3⟩ <;> omega
    have b2 : InR (D.1 (p + 22) 0) ∧ InR (l : Int) := ⟨b, by omega⟩
    refine ⟨D3, ?_, ⟨f2.1, f2.2.1.fr (fun b hb => g4 b (by omega)), by rw [(g4 p (by omega)).1]; exact f2.2.2.1, ?_, f2.2.2.2.2.1.fr (fun b hb => g4 b (by omega)), Or.inr ⟨l, hl5, g2, g3⟩⟩, g3, (e4.trans f5 (l := p + 9) (h := p + 25) (by omega)).trans g4 (by omega)⟩
    · simp (disch := omega) only [m_X5_crowded, m_X2_isOf, gd_t b2, if_f q, gd_t, ↓reduceIte, ob_some, e1, f1, g1]
    · rw [(g4 (p + 9) (by omega)).1]
      rcases f2.2.2.2.1 with hh | hh
      · exact Or.inl hh
      · exact Or.inr ⟨hh.1, hh.2.fr (fun b hb => g4 b (by omega))⟩
