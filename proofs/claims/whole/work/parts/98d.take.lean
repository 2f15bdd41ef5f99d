/-! ===== the draft becomes the map ===== -/
theorem X1_takeOver {D : DT} {M : MS} (C : ChartRep D 56 M) (O : MOK M) (Rg : ChartRng D 56) : ∃ D', m_X1_copyFrom 2 56 D = some D' ∧ ChartRep D' 2 M ∧ KpO D D' 2 9 ∧ (∀ c, c < 384 → D'.2 4 c = D.2 58 c) ∧ ∀ k, k < 48 → D'.2 8 k = D.2 62 k := by
  have n4 := nCb O
  have z8 := O.2.2.1
  obtain ⟨⟨⟨c1, c1'⟩, c2, c3⟩, ⟨c4, c5⟩, c6, c7⟩ := C
  obtain ⟨r1, r2⟩ := Rg
  have t384 : Int.toNat 384 = 384 := rfl
  have t24 : Int.toNat 24 = 24 := rfl
  have t48 : Int.toNat 48 = 48 := rfl
  have t8 : Int.toNat 8 = 8 := rfl
  obtain ⟨D1, hD1⟩ : ∃ D1, D1 = sF (sF (sF (sF D 2 0 (D.1 56 0)) 2 1 (D.1 56 1)) 2 2 (D.1 56 2)) 2 3 (D.1 56 3) := ⟨_, rfl⟩
  have f1 : D1.1 2 0 = D.1 56 0 ∧ D1.1 2 1 = D.1 56 1 ∧ D1.1 2 2 = D.1 56 2 ∧ D1.1 2 3 = D.1 56 3 := by subst hD1; exact ⟨rfl, rfl, rfl, rfl⟩
  have f2 : ∀ b, b ≠ 2 → D1.1 b = D.1 b := fun b hb => by
    subst hD1
    funext k
    rw [sF1, if_neg (fun h => hb h.1), sF1, if_neg (fun h => hb h.1), sF1, if_neg (fun h => hb h.1), sF1, if_neg (fun h => hb h.1)]
  have f3 : D1.2 = D.2 := by subst hD1; rfl
  obtain ⟨D2, hD2⟩ : ∃ D2, D2 = sCopy (sCopy (sCopy (sCopy (sCopy (sCopy D1 (56 + 1) 0 (2 + 1) 0 384) (56 + 3) 0 (2 + 3) 0 384) (56 + 4) 0 (2 + 4) 0 384) (56 + 5) 0 (2 + 5) 0 24) (56 + 6) 0 (2 + 6) 0 48) (56 + 7) 0 (2 + 7) 0 8 := ⟨_, rfl⟩
  have g1 : D2.1 = D1.1 := by subst hD2; rfl
  have g2 : ∀ b, (b < 3 ∨ b = 4 ∨ 9 < b) → D2.2 b = D.2 b := fun b hb => by
    subst hD2
    funext k
    rw [sCopy2, if_neg (by omega), sCopy2, if_neg (by omega), sCopy2, if_neg (by omega), sCopy2, if_neg (by omega), sCopy2, if_neg (by omega), sCopy2, if_neg (by omega), f3]
  have g3 : ∀ c, c < 384 → D2.2 3 c = D.2 57 c ∧ D2.2 5 c = D.2 59 c ∧ D2.2 6 c = D.2 60 c := fun c hc => by
    subst hD2
    refine ⟨?_, ?_, ?_⟩
    · rw [sCopy2, if_neg (by omega), sCopy2, if_neg (by omega), sCopy2, if_neg (by omega), sCopy2, if_neg (by omega), sCopy2, if_neg (by omega), sCopy2, if_pos ⟨rfl, hc⟩, f3]
    · rw [sCopy2, if_neg (by omega), sCopy2, if_neg (by omega), sCopy2, if_neg (by omega), sCopy2, if_neg (by omega), sCopy2, if_pos ⟨rfl, hc⟩, sCopy2, if_neg (by omega), f3]
    · rw [sCopy2, if_neg (by omega), sCopy2, if_neg (by omega), sCopy2, if_neg (by omega), sCopy2, if_pos ⟨rfl, hc⟩, sCopy2, if_neg (by omega), sCopy2, if_neg (by omega), f3]
  have g4 : ∀ k, k < 24 → D2.2 7 k = D.2 61 k := fun c hc => by
    subst hD2
    rw [sCopy2, if_neg (by omega), sCopy2, if_neg (by omega), sCopy2, if_pos ⟨rfl, hc⟩, sCopy2, if_neg (by omega), sCopy2, if_neg (by omega), sCopy2, if_neg (by omega), f3]
  have g5 : ∀ k, k < 48 → D2.2 8 k = D.2 62 k := fun c hc => by
    subst hD2
    rw [sCopy2, if_neg (by omega), sCopy2, if_pos ⟨rfl, hc⟩, sCopy2, if_neg (by omega), sCopy2, if_neg (by omega), sCopy2, if_neg (by omega), sCopy2, if_neg (by omega), f3]
  have g6 : ∀ k, k < 8 → D2.2 9 k = D.2 63 k := fun c hc => by
    subst hD2
    rw [sCopy2, if_pos ⟨rfl, hc⟩, sCopy2, if_neg (by omega), sCopy2, if_neg (by omega), sCopy2, if_neg (by omega), sCopy2, if_neg (by omega), sCopy2, if_neg (by omega), f3]
  have sea : ∃ D', m_X1_copyFrom_127 2 56 (0, D2) = some D' ∧ D'.1 = D2.1 ∧ (∀ b, b ≠ 4 → D'.2 b = D2.2 b) ∧ ∀ c, c < 384 → D'.2 4 c = D.2 58 c := by
    unfold m_X1_copyFrom_127
    obtain ⟨s', ⟨i1, i2, i3, i4⟩, e⟩ := loop_inv (f := fun s : Int × DT =>
      gd (InR s.1 ∧ InR 384) (if s.1 < 384 then (
        gd ((0 : Int) ≤ s.1 ∧ s.1 < (384 : Int)) (
        gd (((0 : Int) ≤ s.1 ∧ s.1 < (384 : Int)) ∧ (((s.2.2 (56 + 2) (Int.toNat s.1)) : Int) = 0 ∨ ((s.2.2 (56 + 2) (Int.toNat s.1)) : Int) = 1)) (sq (sA s.2 (2 + 2) (Int.toNat s.1) (s.2.2 (56 + 2) (Int.toNat s.1))) (fun D145 =>
        some ((.inl ((s.1 + 1), D145)) : (Int × DT) ⊕ DT)
        )))
      ) else (
        done (
        some s.2
        )
      ))) (fun k s => s.1 = (k : Int) ∧ s.2.1 = D2.1 ∧ (∀ b, b ≠ 4 → s.2.2 b = D2.2 b) ∧ ∀ c, c < k → s.2.2 4 c = D.2 58 c) 384 (s := (0, D2)) ⟨rfl, rfl, fun _ _ => rfl, fun _ h => absurd h (by omega)⟩ (fun k s hk ⟨a1, a2, a3, a4⟩ => by
        have e4 : s.2.2 (56 + 2) k = D.2 58 k := by rw [a3 _ (by omega), g2 _ (by omega)]
        have rb : D.2 58 k = 0 ∨ D.2 58 k = 1 := r1 k hk
        have gq : ((0 : Int) ≤ (k : Int) ∧ (k : Int) < (384 : Int)) ∧ (D.2 58 k = 0 ∨ D.2 58 k = 1) := ⟨by omega, rb⟩
        refine ⟨((k : Int) + 1, sA s.2 (2 + 2) k (D.2 58 k)), ?_, rfl, a2, fun b hb => ?_, fun c hc => ?_⟩
        · simp (disch := omega) only [a1, gd_t, if_t, tn, e4, gd_t gq, sq_eq]
        · funext j
          rw [sA2, if_neg (by omega), a3 b hb]
        · rw [sA2]
          by_cases q : c = k
          · rw [if_pos ⟨rfl, q⟩, q]
          · rw [if_neg (fun h => q h.2)]
            exact a4 c (by omega))
    refine ⟨s'.2, ?_, i2, i3, i4⟩
    rw [e]
    refine loopF_inr ?_
    have i1' : s'.1 = 384 := i1
    simp (disch := omega) only [i1', gd_t, if_f, done_some]
  obtain ⟨D', s1, s2, s3, s4⟩ := sea
  refine ⟨D', ?_, ⟨⟨?_, c2, fun c hc => ?_⟩, ?_, fun k hk => ?_, fun z hz => ?_⟩, fun b hb => ⟨?_, ?_⟩, s4, fun k hk => by rw [s3 8 (by omega), g5 k hk]⟩
  · have h1 : ((sF D 2 0 (D.1 56 0)).1 56 1) = D.1 56 1 := rfl
    have h2 : ((sF (sF D 2 0 (D.1 56 0)) 2 1 (D.1 56 1)).1 56 2) = D.1 56 2 := rfl
    have h3 : ((sF (sF (sF D 2 0 (D.1 56 0)) 2 1 (D.1 56 1)) 2 2 (D.1 56 2)).1 56 3) = D.1 56 3 := rfl
    have q1 : (56 + 1 ≠ 2 + 1 ∧ ((0 : Int) ≤ 0 ∧ (0 : Int) + 384 ≤ (384 : Int)) ∧ ((0 : Int) ≤ 0 ∧ (0 : Int) + 384 ≤ (384 : Int)) ∧ (0 : Int) ≤ 384) := by omega
    have q3 : (56 + 3 ≠ 2 + 3 ∧ ((0 : Int) ≤ 0 ∧ (0 : Int) + 384 ≤ (384 : Int)) ∧ ((0 : Int) ≤ 0 ∧ (0 : Int) + 384 ≤ (384 : Int)) ∧ (0 : Int) ≤ 384) := by omega
    have q4 : (56 + 4 ≠ 2 + 4 ∧ ((0 : Int) ≤ 0 ∧ (0 : Int) + 384 ≤ (384 : Int)) ∧ ((0 : Int) ≤ 0 ∧ (0 : Int) + 384 ≤ (384 : Int)) ∧ (0 : Int) ≤ 384) := by omega
    have q5 : (56 + 5 ≠ 2 + 5 ∧ ((0 : Int) ≤ 0 ∧ (0 : Int) + 24 ≤ (24 : Int)) ∧ ((0 : Int) ≤ 0 ∧ (0 : Int) + 24 ≤ (24 : Int)) ∧ (0 : Int) ≤ 24) := by omega
    have q7 : (56 + 7 ≠ 2 + 7 ∧ ((0 : Int) ≤ 0 ∧ (0 : Int) + 8 ≤ (8 : Int)) ∧ ((0 : Int) ≤ 0 ∧ (0 : Int) + 8 ≤ (8 : Int)) ∧ (0 : Int) ≤ 8) := by omega
    have q6 : ((56 + 6 ≠ 2 + 6 ∧ ((0 : Int) ≤ 0 ∧ (0 : Int) + 48 ≤ (48 : Int)) ∧ ((0 : Int) ≤ 0 ∧ (0 : Int) + 48 ≤ (48 : Int)) ∧ (0 : Int) ≤ 48) ∧ ∀ i, i < 48 → -128 ≤ (sCopy (sCopy (sCopy (sCopy D1 (56 + 1) 0 (2 + 1) 0 384) (56 + 3) 0 (2 + 3) 0 384) (56 + 4) 0 (2 + 4) 0 384) (56 + 5) 0 (2 + 5) 0 24).2 (56 + 6) (0 + i) ∧ (sCopy (sCopy (sCopy (sCopy D1 (56 + 1) 0 (2 + 1) 0 384) (56 + 3) 0 (2 + 3) 0 384) (56 + 4) 0 (2 + 4) 0 384) (56 + 5) 0 (2 + 5) 0 24).2 (56 + 6) (0 + i) ≤ 127) := by
      refine ⟨by omega, fun i hi => ?_⟩
      rw [sCopy2, if_neg (by omega), sCopy2, if_neg (by omega), sCopy2, if_neg (by omega), sCopy2, if_neg (by omega), f3, Nat.zero_add]
      exact r2 i hi
    unfold m_X1_copyFrom
    simp only [sq_eq, h1, h2, h3, t0, t384, t24, t48, t8]
    rw [← hD1, gd_t q1, gd_t q3, gd_t q4, gd_t q5, gd_t q6, gd_t q7, ← hD2]
    exact s1
  · rw [s2, g1, f1.1, f1.2.1]; exact ⟨c1, c1'⟩
  · obtain ⟨d1, d2, d3, d4⟩ := c3 c hc
    have hc4 : c < 384 := by
      have : c < nC M := hc
      omega
    rw [s3 3 (by omega), s4 c hc4, s3 5 (by omega), s3 6 (by omega), (g3 c hc4).1, (g3 c hc4).2.1, (g3 c hc4).2.2]
    exact ⟨d1, d2, d3, d4⟩
  · rw [s2, g1, f1.2.2.1, f1.2.2.2]; exact ⟨c4, c5⟩
  · rw [s3 7 (by omega), g4 k (by omega)]; exact c6 k hk
  · obtain ⟨n1, n2⟩ := c7 z hz
    have nb := O.nm hz
    refine ⟨?_, fun k hk => ?_⟩
    · rw [s3 9 (by omega), g6 z (by omega)]; exact n1
    · rw [s3 8 (by omega), g5 _ (by omega)]; exact n2 k hk
  · rw [s2, g1, f2 b (by omega)]
  · rw [s3 b (by omega), g2 b (by omega)]
