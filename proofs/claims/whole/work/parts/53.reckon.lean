/-- rows of the tally that are laid: all of the groups ahead of g, and of g those ahead of l -/
def RowsOK (E : DT) (t : Nat) (M : MS) (g l : Nat) : Prop := ∀ l' g', l' < 5 → (g' < g ∨ g' = g ∧ l' < l) → (∀ z, z < mZ M → E.2 (t + 2) ((l' * 3 + g') * 8 + z) = dotM M (mU M) g' l' z ∧ E.2 (t + 3) ((l' * 3 + g') * 8 + z) = carM M g' l' z) ∧ E.2 (t + 4) (l' * 3 + g') = carM M g' l' (mZ M)
theorem rows_step {E E' : DT} {t g l : Nat} {M : MS} (hg : g < 3) (hZ : mZ M ≤ 8) (h : RowsOK E t M g l) (h2 : rowed (E'.2 (t + 2)) (E.2 (t + 2)) (l * 3 + g) (mZ M) (dotM M (mU M) g l)) (h3 : rowed (E'.2 (t + 3)) (E.2 (t + 3)) (l * 3 + g) (mZ M) (carM M g l)) (h4 : ∀ j, E'.2 (t + 4) j = if j = l * 3 + g then carM M g l (mZ M) else E.2 (t + 4) j) : RowsOK E' t M g (l + 1) := by
  intro l' g' hl' hc
  by_cases q : l' = l ∧ g' = g
  · obtain ⟨q1, q2⟩ := q
    subst q1 q2
    refine ⟨fun z hz => ⟨?_, ?_⟩, ?_⟩
    · rw [h2, if_pos (by omega)]
      congr 1
      omega
    · rw [h3, if_pos (by omega)]
      congr 1
      omega
    · rw [h4, if_pos rfl]
  · obtain ⟨r1, r2⟩ := h l' g' hl' (by omega)
    refine ⟨fun z hz => ⟨?_, ?_⟩, ?_⟩
    · rw [h2, if_neg (by omega)]
      exact (r1 z hz).1
    · rw [h3, if_neg (by omega)]
      exact (r1 z hz).2
    · rw [h4, if_neg (by omega)]
      exact r2
/-- what of the data the tally's loops keep -/
def TKeep (D E : DT) (t : Nat) : Prop := E.1 = D.1 ∧ ∀ b, (b ≠ t + 2 ∧ b ≠ t + 3 ∧ b ≠ t + 4) → E.2 b = D.2 b
theorem reckon_levels {D E : DT} {p g : Nat} {M : MS} (O : MOK M) (hg : g < mG M) (hZ : D.1 (p + 9) 2 = (mZ M : Int)) (hld : ∀ z, z < 8 → D.2 (p + 9 + 1) z = ldM M z) (hp : ∀ k, (k % 3 < mG M ∧ k / 3 < mZ M) → D.2 (p + 1 + 5) k = mP M k) (hK : TKeep D E (p + 9)) (hR : RowsOK E (p + 9) M g 0) : ∃ E', m_X8_reckon_36 (p + 9) (p + 1) (mU M) (mF M) (g : Int) (0, E) = some (.inl ((g : Int) + 1, E')) ∧ TKeep D E' (p + 9) ∧ RowsOK E' (p + 9) M g 5 := by
  have z8 := O.2.2.1
  have g3 := O.2.2.2.1
  have ub := O.ufx
  unfold m_X8_reckon_36
  obtain ⟨s', ⟨i1, i2, i3⟩, e⟩ := loop_inv (f := fun q : Int × DT =>
    gd (InR q.1 ∧ InR 5) (if q.1 < 5 then (
      gd (InR q.1) (if q.1 = 0 then (
        (m_X8_share (p + 9) (p + 1) (g : Int) q.1 (mU M) q.2).bind (fun D58 =>
        some (.inl ((q.1 + 1), D58))
        )
      ) else (
        (m_X8_share (p + 9) (p + 1) (g : Int) q.1 (mF M) q.2).bind (fun D58 =>
        some (.inl ((q.1 + 1), D58))
        )
      ))
    ) else (
      done (
      some ((.inl (((g : Int) + 1), q.2)) : (Int × DT) ⊕ DT)
      )
    ))) (fun l q => q.1 = (l : Int) ∧ TKeep D q.2 (p + 9) ∧ RowsOK q.2 (p + 9) M g l) 5 (s := (0, E)) ⟨rfl, hK, hR⟩ (fun l q hl ⟨a1, ⟨a2, a3⟩, a4⟩ => by
      obtain ⟨D', e1, e2, e3, e4, e5, e6⟩ := X8_share (D := q.2) (p := p) (Z := mZ M) (g := g) (l := l) (a := inM M (mU M) g l) (ld := ldM M) (s := szM M (mU M) l) (by rw [a2, hZ]) z8 (by omega) hl (by
          cases l with
          | zero => show 1 ≤ mU M ∧ mU M ≤ 9999; omega
          | succ l => show 1 ≤ mF M ∧ mF M ≤ 9999; omega) (fun z hz => by rw [a3 _ (by omega)]; exact hld z (by omega)) (ldM_b O) (fun z hz => by
          have i := inM_b O (show 0 < mU M by omega) (show g < 3 by omega) l
          have i1 := i.1 z hz
          have i2 := i.2 (z + 1) (by omega)
          have i3 := i.2 z (by omega)
          rw [sumTo] at i2
          omega) (fun z hz => carM_b O (by omega) l hz) (fun h z hz => by
          subst h
          rw [a3 _ (by omega), hp _ (by omega)]
          rfl) (fun h z hz => by
          obtain ⟨l0, rfl⟩ : ∃ l0, l = l0 + 1 := ⟨l - 1, by omega⟩
          rw [Nat.add_sub_cancel]
          exact ((a4 l0 g (by omega) (by omega)).1 z hz).1)
      refine ⟨((l : Int) + 1, D'), ?_, rfl, ⟨by rw [e2, a2], fun b hb => by rw [e3 b hb, a3 b hb]⟩, rows_step (by omega) z8 a4 (by rw [dotM_in]; exact e4) e5 e6⟩
      by_cases ql : l = 0
      · subst ql
        have e1' : m_X8_share (p + 9) (p + 1) (g : Int) 0 (mU M) q.2 = some D' := e1
        have a1' : q.1 = 0 := a1
        simp (disch := omega) only [a1', gd_t, if_t, ↓reduceIte, e1', ob_some]
        rfl
      · obtain ⟨l0, rfl⟩ : ∃ l0, l = l0 + 1 := ⟨l - 1, by omega⟩
        have e1' : m_X8_share (p + 9) (p + 1) (g : Int) ((l0 + 1 : Nat) : Int) (mF M) q.2 = some D' := e1
        simp (disch := omega) only [a1, gd_t, if_t, if_f, e1', ob_some])
  refine ⟨s'.2, ?_, i2, i3⟩
  rw [e]
  refine loopF_inr ?_
  have i1' : s'.1 = 5 := i1
  simp (disch := omega) only [i1', gd_t, if_f, done_some]
