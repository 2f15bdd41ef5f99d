def ColsOK (E : DT) (M : MS) (u : Int) (l g : Nat) : Prop := ∀ l' g', l' < 5 → g' < mG M → (l' < l ∨ l' = l ∧ g' < g) → (∀ z, z < mZ M → E.2 90 (3 * (8 * l' + z) + g') = dotM M u g' l' z ∧ E.2 91 (3 * (8 * l' + z) + g') = cry (inM M u g' l') (ldM M) (szM M u l') z) ∧ E.2 92 (3 * l' + g') = cry (inM M u g' l') (ldM M) (szM M u l') (mZ M)
def RKeep (D E : DT) : Prop := E.1 = D.1 ∧ ∀ b, (b ≠ 90 ∧ b ≠ 91 ∧ b ≠ 92) → E.2 b = D.2 b
theorem cols_step {E E' : DT} {g l : Nat} {u : Int} {M : MS} (O : MOK M) (hg : g < mG M) (h : ColsOK E M u l g) (h2 : coled (E'.2 90) (E.2 90) l g (mZ M) (dotM M u g l)) (h3 : coled (E'.2 91) (E.2 91) l g (mZ M) (cry (inM M u g l) (ldM M) (szM M u l))) (h4 : ∀ j, E'.2 92 j = if j = 3 * l + g then cry (inM M u g l) (ldM M) (szM M u l) (mZ M) else E.2 92 j) : ColsOK E' M u l (g + 1) := by
  have z8 := O.2.2.1
  have g3 := O.2.2.2.1
  intro l' g' hl' hg' hc
  by_cases q : l' = l ∧ g' = g
  · obtain ⟨q1, q2⟩ := q
    subst q1 q2
    exact ⟨fun z hz => ⟨h2.1 z hz, h3.1 z hz⟩, by rw [h4, if_pos rfl]⟩
  · obtain ⟨r1, r2⟩ := h l' g' hl' hg' (by omega)
    refine ⟨fun z hz => ⟨?_, ?_⟩, ?_⟩
    · rw [h2.2 _ (fun z' hz' => by omega)]
      exact (r1 z hz).1
    · rw [h3.2 _ (fun z' hz' => by omega)]
      exact (r1 z hz).2
    · rw [h4, if_neg (by omega)]
      exact r2
theorem X11_laysDots {D : DT} {M : MS} (R : RInv D M) {u : Int} (hu : 1 ≤ u ∧ u ≤ 9999) : ∃ E, m_X11_laysDots u D = some E ∧ RKeep D E ∧ ColsOK E M u 5 0 := by
  have O := R.1
  have z8 := O.2.2.1
  have g3 := O.2.2.2.1
  have hZ := R.2.1.2.1
  have hG := R.2.1.2.2
  have hF := R.2.2.2.2.1.2.1
  have h87 := R.2.2.2.2.2.2.2.2.1
  have hp := R.2.2.1
  have inner : ∀ l E, l < 5 → RKeep D E → ColsOK E M u l 0 → ∃ E', m_X11_laysDots_9 u (l : Int) (0, E) = some (.inl ((l : Int) + 1, E')) ∧ RKeep D E' ∧ ColsOK E' M u (l + 1) 0 := fun l E hl hK hR => by
    unfold m_X11_laysDots_9
    obtain ⟨s', ⟨i1, i2, i3⟩, e⟩ := loop_inv (f := fun s : Int × DT =>
      gd ((0 : Int) ≤ 3 ∧ 3 < (4 : Int)) (
      gd (InR s.1 ∧ InR (s.2.2 76 (Int.toNat 3))) (if s.1 < (s.2.2 76 (Int.toNat 3)) then (
        m_X11_laysDots_25 u (l : Int) s.1 (0, 0, s.2)
      ) else (
        done (
        some ((.inl (((l : Int) + 1), s.2)) : (Int × DT) ⊕ DT)
        )
      ))
      )) (fun g s => s.1 = (g : Int) ∧ RKeep D s.2 ∧ ColsOK s.2 M u l g) (mG M) (s := (0, E)) ⟨rfl, hK, hR⟩ (fun g s hg ⟨a1, ⟨a2, a3⟩, a4⟩ => by
        obtain ⟨E', e1, e2, e3, e4, e5, e6⟩ := ref_share (D := s.2) O hu hg hl (by rw [a3 _ (by omega), hZ]) (by rw [a2, hF]) (fun z hz => by rw [a3 _ (by omega)]; exact h87 z hz) (fun k hk => by rw [a3 _ (by omega)]; exact hp k hk) (fun h z hz => by
          obtain ⟨l0, rfl⟩ : ∃ l0, l = l0 + 1 := ⟨l - 1, by omega⟩
          rw [Nat.add_sub_cancel]
          exact ((a4 l0 g (by omega) hg (by omega)).1 z hz).1)
        have eG : s.2.2 76 3 = (mG M : Int) := by rw [a3 _ (by omega), hG]
        refine ⟨((g : Int) + 1, E'), ?_, rfl, ⟨by rw [e2, a2], fun b hb => by rw [e3 b hb, a3 b hb]⟩, cols_step O hg a4 e4 e5 e6⟩
        simp (disch := omega) only [a1, t3, eG, gd_t, if_t, e1])
    refine ⟨s'.2, ?_, i2, fun l' g' h1 h2 h3 => i3 l' g' h1 h2 (by omega)⟩
    rw [e]
    refine loopF_inr ?_
    have eG : s'.2.2 76 3 = (mG M : Int) := by rw [i2.2 _ (by omega), hG]
    simp (disch := omega) only [i1, t3, eG, gd_t, if_f, done_some]
  unfold m_X11_laysDots m_X11_laysDots_2
  obtain ⟨s', ⟨i1, i2, i3⟩, e⟩ := loop_inv (f := fun s : Int × DT =>
    gd (InR s.1 ∧ InR 5) (if s.1 < 5 then (
      m_X11_laysDots_9 u s.1 (0, s.2)
    ) else (
      done (
      some s.2
      )
    ))) (fun l s => s.1 = (l : Int) ∧ RKeep D s.2 ∧ ColsOK s.2 M u l 0) 5 (s := (0, D)) ⟨rfl, ⟨rfl, fun _ _ => rfl⟩, fun l' g' _ _ h => by omega⟩ (fun l s hl ⟨a1, a2, a3⟩ => by
      obtain ⟨E', e1, e2, e3⟩ := inner l s.2 hl a2 a3
      refine ⟨((l : Int) + 1, E'), ?_, rfl, e2, e3⟩
      simp (disch := omega) only [a1, gd_t, if_t, e1])
  refine ⟨s'.2, ?_, i2, i3⟩
  rw [e]
  refine loopF_inr ?_
  have i1' : s'.1 = 5 := i1
  simp (disch := omega) only [i1', gd_t, if_f, done_some]
theorem RInv.rk {D E : DT} {M : MS} (R : RInv D M) (h : RKeep D E) : RInv E M := R.keep (fun a ha => by
  simp only [List.mem_cons, List.not_mem_nil, or_false] at ha
  exact h.2 a (by omega)) (fun k _ => by rw [h.1])
theorem RKeep.frR {D E : DT} (h : RKeep D E) : FrR D E := fun a ha => ⟨by rw [h.1], h.2 a (by omega)⟩
