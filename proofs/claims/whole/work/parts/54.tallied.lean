theorem reckon_groups {D : DT} {p : Nat} {M : MS} (O : MOK M) (hZ : D.1 (p + 9) 2 = (mZ M : Int)) (hG : D.1 (p + 9) 3 = (mG M : Int)) (hld : ∀ z, z < 8 → D.2 (p + 9 + 1) z = ldM M z) (hp : ∀ k, (k % 3 < mG M ∧ k / 3 < mZ M) → D.2 (p + 1 + 5) k = mP M k) : ∃ E, m_X8_reckon_24 (p + 9) (p + 1) (mU M) (mF M) (0, D) = some (sF E (p + 9) 0 1) ∧ TKeep D E (p + 9) ∧ RowsOK E (p + 9) M (mG M) 0 := by
  have g3 := O.2.2.2.1
  unfold m_X8_reckon_24
  obtain ⟨s', ⟨i1, i2, i3⟩, e⟩ := loop_inv (f := fun q : Int × DT =>
    gd (InR q.1 ∧ InR (q.2.1 (p + 9) 3)) (if q.1 < (q.2.1 (p + 9) 3) then (
      m_X8_reckon_36 (p + 9) (p + 1) (mU M) (mF M) q.1 (0, q.2)
    ) else (
      done (
      sq (sF q.2 (p + 9) 0 1) (fun D75 =>
      some D75
      )
      )
    ))) (fun g q => q.1 = (g : Int) ∧ TKeep D q.2 (p + 9) ∧ RowsOK q.2 (p + 9) M g 0) (mG M) (s := (0, D)) ⟨rfl, ⟨rfl, fun _ _ => rfl⟩, fun l' g' _ h => by omega⟩ (fun g q hg ⟨a1, a2, a3⟩ => by
      obtain ⟨E', e1, e2, e3⟩ := reckon_levels O hg hZ hld hp a2 a3
      have eG : q.2.1 (p + 9) 3 = (mG M : Int) := by rw [a2.1, hG]
      refine ⟨((g : Int) + 1, E'), ?_, rfl, e2, fun l' g' h1 h2 => e3 l' g' h1 (by omega)⟩
      simp (disch := omega) only [a1, eG, gd_t, if_t, e1])
  refine ⟨s'.2, ?_, i2, i3⟩
  rw [e]
  refine loopF_inr ?_
  have eG : s'.2.1 (p + 9) 3 = (mG M : Int) := by rw [i2.1, hG]
  simp (disch := omega) only [i1, eG, gd_t, if_f, sq_eq, done_some]
theorem X8_reckon {D : DT} {p : Nat} {M : MS} (O : MOK M) (C : ChartRep D (p + 1) M) : ∃ D', m_X8_reckon (p + 9) (p + 1) (mU M) (mF M) D = some D' ∧ D'.1 (p + 9) 0 = 1 ∧ TallyRep D' (p + 9) M ∧ ∀ b, (b < p + 9 ∨ p + 13 < b) → D'.1 b = D.1 b ∧ D'.2 b = D.2 b := by
  obtain ⟨c1, ⟨c2, c3⟩, c4, c5⟩ := C
  have f13 : ∀ b, b ≠ p + 9 → (sF (sF D (p + 9) 2 (D.1 (p + 1) 2)) (p + 9) 3 ((sF D (p + 9) 2 (D.1 (p + 1) 2)).1 (p + 1) 3)).1 b = D.1 b := fun b hb => by
    funext k
    rw [sF1, if_neg (fun h => hb h.1), sF1, if_neg (fun h => hb h.1)]
  obtain ⟨D18, e1, e2, e3, e4⟩ := X8_countLand (D := sF (sF D (p + 9) 2 (D.1 (p + 1) 2)) (p + 9) 3 ((sF D (p + 9) 2 (D.1 (p + 1) 2)).1 (p + 1) 3)) (p := p) (c1.cong (fun a ha => ⟨f13 a (by omega), rfl⟩)) O.2.2.2.2.1 O.2.2.1
  obtain ⟨E, g1, ⟨g2, g3⟩, g4⟩ := reckon_groups (D := D18) (p := p) O (by rw [e2, sF1, if_neg (by omega), sF1, if_pos ⟨rfl, rfl⟩, c2]) (by rw [e2, sF1, if_pos ⟨rfl, rfl⟩, sF1, if_neg (by omega), c3]) (fun z hz => e4 z hz) (fun k hk => by rw [e3 _ (by omega)]; exact c4 k hk)
  refine ⟨sF E (p + 9) 0 1, ?_, by rw [sF1, if_pos ⟨rfl, rfl⟩], ⟨fun z hz => ?_, ⟨?_, ?_⟩, fun l g z hl hg hz => ?_, fun l g hl hg => ?_⟩, fun b hb => ⟨?_, ?_⟩⟩
  · simp only [m_X8_reckon, sq_eq, e1, ob_some]
    exact g1
  · rw [sF2, g3 _ (by omega)]
    exact e4 z hz
  · rw [sF1, if_neg (by omega), g2, e2, sF1, if_neg (by omega), sF1, if_pos ⟨rfl, rfl⟩, c2]
  · rw [sF1, if_neg (by omega), g2, e2, sF1, if_pos ⟨rfl, rfl⟩, sF1, if_neg (by omega), c3]
  · rw [sF2]
    exact (g4 l g hl (Or.inl hg)).1 z hz
  · rw [sF2]
    exact (g4 l g hl (Or.inl hg)).2
  · have h1 : (sF E (p + 9) 0 1).1 b = E.1 b := by
      funext k
      rw [sF1, if_neg (by omega)]
    rw [h1, g2, e2, f13 b (by omega)]
  · rw [sF2, g3 _ (by omega), e3 _ (by omega)]
    rfl
/-- the class's data but the tally's -/
theorem CInv.tly {D D' : DT} {M : MS} (h : CInv D M) (f : ∀ b, (b < 10 ∨ 14 < b) → D'.1 b = D.1 b ∧ D'.2 b = D.2 b) (T : D'.1 10 0 = 1 ∧ TallyRep D' 10 M) : CInv D' M := by
  obtain ⟨h1, h2, ⟨h3, h4, h5⟩, h6⟩ := h
  refine ⟨h1, ?_, ⟨Or.inr T, ?_, ?_⟩, ?_⟩
  · unfold CBase ChartRep ChartRng CMap at *
    simp only [(f 0 (by omega)).1, (f 1 (by omega)).1, (f 2 (by omega)).1, (f 55 (by omega)).1, (f 65 (by omega)).1, (f (2 + 1) (by omega)).2, (f (2 + 2) (by omega)).2, (f (2 + 3) (by omega)).2, (f (2 + 4) (by omega)).2, (f (2 + 5) (by omega)).2, (f (2 + 6) (by omega)).2, (f (2 + 7) (by omega)).2, (f (56 + 2) (by omega)).2, (f (56 + 6) (by omega)).2, (f 64 (by omega)).2, (f 66 (by omega)).2]
    exact h2
  · exact h4.cong rfl rfl (by rw [(f (1 + 14) (by omega)).1]) (fun k hk => (f (1 + 14 + k) (by omega)).2)
  · unfold CrowdRep CrowdAt at *
    simp only [(f (1 + 22) (by omega)).1, (f (1 + 22 + 1) (by omega)).2, (f (1 + 22 + 2) (by omega)).2, (f (1 + 22 + 3) (by omega)).2]
    exact h5
  · unfold PathRep PathAt at *
    simp only [(f 70 (by omega)).1, (f 71 (by omega)).2]
    exact h6
theorem X5_tallied {D : DT} {M : MS} (h : CInv D M) : ∃ D', m_X5_tallied 1 D = some D' ∧ CInv D' M ∧ TallyRep D' 10 M ∧ ∀ b, (b < 10 ∨ 14 < b) → D'.1 b = D.1 b ∧ D'.2 b = D.2 b := by
  have hu := h.2.1.2.2.1.1
  have hf := h.2.1.2.2.1.2.1
  rcases h.2.2.1.1 with q | ⟨q, T⟩
  · obtain ⟨D', e1, e2, e3, e4⟩ := X8_reckon (p := 1) h.1 h.2.1.1
    refine ⟨D', ?_, h.tly e4 ⟨e2, e3⟩, e3, e4⟩
    have e1' : m_X8_reckon (1 + 9) (1 + 1) (mU M) (mF M) D = some D' := e1
    simp (disch := omega) only [m_X5_tallied, q, gd_t, ↓reduceIte, hu, hf, e1', ob_some]
  · refine ⟨D, ?_, h, T, fun _ _ => ⟨rfl, rfl⟩⟩
    simp (disch := omega) only [m_X5_tallied, q, gd_t, if_f]
