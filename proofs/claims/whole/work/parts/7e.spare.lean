/-! ===== the spare plan; the reference keeps and brings back ===== -/
theorem sCopy2 (D : DT) (a0 a n a' k : Nat) : (sCopy D a0 0 a 0 n).2 a' k = if a' = a ∧ k < n then D.2 a0 k else D.2 a' k := by
  show (if a' = a ∧ 0 ≤ k ∧ k < 0 + n then D.2 a0 (0 + (k - 0)) else D.2 a' k) = _
  by_cases q : a' = a ∧ k < n
  · rw [if_pos ⟨q.1, by omega, by omega⟩, if_pos q, show 0 + (k - 0) = k by omega]
  · rw [if_neg (fun h => q ⟨h.1, by omega⟩), if_neg q]
theorem sCopy1 (D : DT) (a0 sp a dp n : Nat) : (sCopy D a0 sp a dp n).1 = D.1 := rfl
theorem X1_copyFrom {D : DT} {M : MS} (C : ChartRep D 2 M) (O : MOK M) (Rg : ChartRng D 2) : ∃ D', m_X1_copyFrom 29 2 D = some D' ∧ ChartRep D' 29 M ∧ KpO D D' 29 36 := by
  have n4 := nCb O
  have z8 := O.2.2.1
  obtain ⟨⟨⟨c1, c1'⟩, c2, c3⟩, ⟨c4, c5⟩, c6, c7⟩ := C
  obtain ⟨r1, r2⟩ := Rg
  have t384 : Int.toNat 384 = 384 := rfl
  have t24 : Int.toNat 24 = 24 := rfl
  have t48 : Int.toNat 48 = 48 := rfl
  have t8 : Int.toNat 8 = 8 := rfl
  obtain ⟨D1, hD1⟩ : ∃ D1, D1 = sF (sF (sF (sF D 29 0 (D.1 2 0)) 29 1 (D.1 2 1)) 29 2 (D.1 2 2)) 29 3 (D.1 2 3) := ⟨_, rfl⟩
  have f1 : D1.1 29 0 = D.1 2 0 ∧ D1.1 29 1 = D.1 2 1 ∧ D1.1 29 2 = D.1 2 2 ∧ D1.1 29 3 = D.1 2 3 := by subst hD1; exact ⟨rfl, rfl, rfl, rfl⟩
  have f2 : ∀ b, b ≠ 29 → D1.1 b = D.1 b := fun b hb => by
    subst hD1
    funext k
    rw [sF1, if_neg (fun h => hb h.1), sF1, if_neg (fun h => hb h.1), sF1, if_neg (fun h => hb h.1), sF1, if_neg (fun h => hb h.1)]
  have f3 : D1.2 = D.2 := by subst hD1; rfl
  obtain ⟨D2, hD2⟩ : ∃ D2, D2 = sCopy (sCopy (sCopy (sCopy (sCopy (sCopy D1 (2 + 1) 0 (29 + 1) 0 384) (2 + 3) 0 (29 + 3) 0 384) (2 + 4) 0 (29 + 4) 0 384) (2 + 5) 0 (29 + 5) 0 24) (2 + 6) 0 (29 + 6) 0 48) (2 + 7) 0 (29 + 7) 0 8 := ⟨_, rfl⟩
  have g1 : D2.1 = D1.1 := by subst hD2; rfl
  have g2 : ∀ b, (b < 30 ∨ b = 31 ∨ 36 < b) → D2.2 b = D.2 b := fun b hb => by
    subst hD2
    funext k
    rw [sCopy2, if_neg (by omega), sCopy2, if_neg (by omega), sCopy2, if_neg (by omega), sCopy2, if_neg (by omega), sCopy2, if_neg (by omega), sCopy2, if_neg (by omega), f3]
  have g3 : ∀ c, c < 384 → D2.2 30 c = D.2 3 c ∧ D2.2 32 c = D.2 5 c ∧ D2.2 33 c = D.2 6 c := fun c hc => by
    subst hD2
    refine ⟨?_, ?_, ?_⟩
    · rw [sCopy2, if_neg (by omega), sCopy2, if_neg (by omega), sCopy2, if_neg (by omega), sCopy2, if_neg (by omega), sCopy2, if_neg (by omega), sCopy2, if_pos ⟨rfl, hc⟩, f3]
    · rw [sCopy2, if_neg (by omega), sCopy2, if_neg (by omega), sCopy2, if_neg (by omega), sCopy2, if_neg (by omega), sCopy2, if_pos ⟨rfl, hc⟩, sCopy2, if_neg (by omega), f3]
    · rw [sCopy2, if_neg (by omega), sCopy2, if_neg (by omega), sCopy2, if_neg (by omega), sCopy2, if_pos ⟨rfl, hc⟩, sCopy2, if_neg (by omega), sCopy2, if_neg (by omega), f3]
  have g4 : ∀ k, k < 24 → D2.2 34 k = D.2 7 k := fun c hc => by
    subst hD2
    rw [sCopy2, if_neg (by omega), sCopy2, if_neg (by omega), sCopy2, if_pos ⟨rfl, hc⟩, sCopy2, if_neg (by omega), sCopy2, if_neg (by omega), sCopy2, if_neg (by omega), f3]
  have g5 : ∀ k, k < 48 → D2.2 35 k = D.2 8 k := fun c hc => by
    subst hD2
    rw [sCopy2, if_neg (by omega), sCopy2, if_pos ⟨rfl, hc⟩, sCopy2, if_neg (by omega), sCopy2, if_neg (by omega), sCopy2, if_neg (by omega), sCopy2, if_neg (by omega), f3]
  have g6 : ∀ k, k < 8 → D2.2 36 k = D.2 9 k := fun c hc => by
    subst hD2
    rw [sCopy2, if_pos ⟨rfl, hc⟩, sCopy2, if_neg (by omega), sCopy2, if_neg (by omega), sCopy2, if_neg (by omega), sCopy2, if_neg (by omega), sCopy2, if_neg (by omega), f3]
  have sea : ∃ D', m_X1_copyFrom_127 29 2 (0, D2) = some D' ∧ D'.1 = D2.1 ∧ (∀ b, b ≠ 31 → D'.2 b = D2.2 b) ∧ ∀ c, c < 384 → D'.2 31 c = D.2 4 c := by
    unfold m_X1_copyFrom_127
    obtain ⟨s', ⟨i1, i2, i3, i4⟩, e⟩ := loop_inv (f := fun s : Int × DT =>
      gd (InR s.1 ∧ InR 384) (if s.1 < 384 then (
        gd ((0 : Int) ≤ s.1 ∧ s.1 < (384 : Int)) (
        gd (((0 : Int) ≤ s.1 ∧ s.1 < (384 : Int)) ∧ (((s.2.2 (2 + 2) (Int.toNat s.1)) : Int) = 0 ∨ ((s.2.2 (2 + 2) (Int.toNat s.1)) : Int) = 1)) (sq (sA s.2 (29 + 2) (Int.toNat s.1) (s.2.2 (2 + 2) (Int.toNat s.1))) (fun D145 =>
        some ((.inl ((s.1 + 1), D145)) : (Int × DT) ⊕ DT)
        )))
      ) else (
        done (
        some s.2
        )
      ))) (fun k s => s.1 = (k : Int) ∧ s.2.1 = D2.1 ∧ (∀ b, b ≠ 31 → s.2.2 b = D2.2 b) ∧ ∀ c, c < k → s.2.2 31 c = D.2 4 c) 384 (s := (0, D2)) ⟨rfl, rfl, fun _ _ => rfl, fun _ h => absurd h (by omega)⟩ (fun k s hk ⟨a1, a2, a3, a4⟩ => by
        have e4 : s.2.2 (2 + 2) k = D.2 4 k := by rw [a3 _ (by omega), g2 _ (by omega)]
        have rb : D.2 4 k = 0 ∨ D.2 4 k = 1 := r1 k hk
        have gq : ((0 : Int) ≤ (k : Int) ∧ (k : Int) < (384 : Int)) ∧ (D.2 4 k = 0 ∨ D.2 4 k = 1) := ⟨by omega, rb⟩
        refine ⟨((k : Int) + 1, sA s.2 (29 + 2) k (D.2 4 k)), ?_, rfl, a2, fun b hb => ?_, fun c hc => ?_⟩
        · simp (disch := omega) only [a1, gd_t, if_t, tn, e4, gd_t gq, sq_eq]
        · funext j
          rw [sA2, if_neg (by omega), a3 b hb]
        · rw [sA2]
          by_cases q : c = k
          · rw [if_pos ⟨rfl, q⟩, q]
          · rw [if_neg (fun h => q h.2)]
            exact a4 c (by omega))
    refine ⟨s'.2, ?_, i2, i3, i4⟩
    rw [e]
    refine loopF_inr ?_
    have i1' : s'.1 = 384 := i1
    simp (disch := omega) only [i1', gd_t, if_f, done_some]
  obtain ⟨D', s1, s2, s3, s4⟩ := sea
  refine ⟨D', ?_, ⟨⟨?_, c2, fun c hc => ?_⟩, ?_, fun k hk => ?_, fun z hz => ?_⟩, fun b hb => ⟨?_, ?_⟩⟩
  · have h1 : ((sF D 29 0 (D.1 2 0)).1 2 1) = D.1 2 1 := rfl
    have h2 : ((sF (sF D 29 0 (D.1 2 0)) 29 1 (D.1 2 1)).1 2 2) = D.1 2 2 := rfl
    have h3 : ((sF (sF (sF D 29 0 (D.1 2 0)) 29 1 (D.1 2 1)) 29 2 (D.1 2 2)).1 2 3) = D.1 2 3 := rfl
    have q1 : (2 + 1 ≠ 29 + 1 ∧ ((0 : Int) ≤ 0 ∧ (0 : Int) + 384 ≤ (384 : Int)) ∧ ((0 : Int) ≤ 0 ∧ (0 : Int) + 384 ≤ (384 : Int)) ∧ (0 : Int) ≤ 384) := by omega
    have q3 : (2 + 3 ≠ 29 + 3 ∧ ((0 : Int) ≤ 0 ∧ (0 : Int) + 384 ≤ (384 : Int)) ∧ ((0 : Int) ≤ 0 ∧ (0 : Int) + 384 ≤ (384 : Int)) ∧ (0 : Int) ≤ 384) := by omega
    have q4 : (2 + 4 ≠ 29 + 4 ∧ ((0 : Int) ≤ 0 ∧ (0 : Int) + 384 ≤ (384 : Int)) ∧ ((0 : Int) ≤ 0 ∧ (0 : Int) + 384 ≤ (384 : Int)) ∧ (0 : Int) ≤ 384) := by omega
    have q5 : (2 + 5 ≠ 29 + 5 ∧ ((0 : Int) ≤ 0 ∧ (0 : Int) + 24 ≤ (24 : Int)) ∧ ((0 : Int) ≤ 0 ∧ (0 : Int) + 24 ≤ (24 : Int)) ∧ (0 : Int) ≤ 24) := by omega
    have q7 : (2 + 7 ≠ 29 + 7 ∧ ((0 : Int) ≤ 0 ∧ (0 : Int) + 8 ≤ (8 : Int)) ∧ ((0 : Int) ≤ 0 ∧ (0 : Int) + 8 ≤ (8 : Int)) ∧ (0 : Int) ≤ 8) := by omega
    have q6 : ((2 + 6 ≠ 29 + 6 ∧ ((0 : Int) ≤ 0 ∧ (0 : Int) + 48 ≤ (48 : Int)) ∧ ((0 : Int) ≤ 0 ∧ (0 : Int) + 48 ≤ (48 : Int)) ∧ (0 : Int) ≤ 48) ∧ ∀ i, i < 48 → -128 ≤ (sCopy (sCopy (sCopy (sCopy D1 (2 + 1) 0 (29 + 1) 0 384) (2 + 3) 0 (29 + 3) 0 384) (2 + 4) 0 (29 + 4) 0 384) (2 + 5) 0 (29 + 5) 0 24).2 (2 + 6) (0 + i) ∧ (sCopy (sCopy (sCopy (sCopy D1 (2 + 1) 0 (29 + 1) 0 384) (2 + 3) 0 (29 + 3) 0 384) (2 + 4) 0 (29 + 4) 0 384) (2 + 5) 0 (29 + 5) 0 24).2 (2 + 6) (0 + i) ≤ 127) := by
      refine ⟨by omega, fun i hi => ?_⟩
      rw [sCopy2, if_neg (by omega), sCopy2, if_neg (by omega), sCopy2, if_neg (by omega), sCopy2, if_neg (by omega), f3, Nat.zero_add]
      exact r2 i hi
    unfold m_X1_copyFrom
    simp only [sq_eq, h1, h2, h3, t0, t384, t24, t48, t8]
    rw [← hD1, gd_t q1, gd_t q3, gd_t q4, gd_t q5, gd_t q6, gd_t q7, ← hD2]
    exact s1
  · rw [s2, g1, f1.1, f1.2.1]; exact ⟨c1, c1'⟩
  · obtain ⟨d1, d2, d3, d4⟩ := c3 c hc
    have hc4 : c < 384 := by
      have : c < nC M := hc
      omega
    rw [s3 30 (by omega), s4 c hc4, s3 32 (by omega), s3 33 (by omega), (g3 c hc4).1, (g3 c hc4).2.1, (g3 c hc4).2.2]
    exact ⟨d1, d2, d3, d4⟩
  · rw [s2, g1, f1.2.2.1, f1.2.2.2]; exact ⟨c4, c5⟩
  · rw [s3 34 (by omega), g4 k (by omega)]; exact c6 k hk
  · obtain ⟨n1, n2⟩ := c7 z hz
    have nb := O.nm hz
    refine ⟨?_, fun k hk => ?_⟩
    · rw [s3 36 (by omega), g6 z (by omega)]; exact n1
    · rw [s3 35 (by omega), g5 _ (by omega)]; exact n2 k hk
  · rw [s2, g1, f2 b (by omega)]
  · rw [s3 b (by omega), g2 b (by omega)]
theorem X5_copyFrom {D : DT} {M : MS} (h : CInv D M) : ∃ D', m_X5_copyFrom 28 1 D = some D' ∧ ChartRep D' 29 M ∧ (D'.1 28 1 = mU M ∧ D'.1 28 2 = mF M) ∧ RanksRep D' 42 M ∧ KpO D D' 28 54 := by
  have O := h.1
  have n4 := nCb O
  have K := h.2.2.1.2.1
  obtain ⟨D1, e1, e2, e3⟩ := X1_copyFrom h.2.1.1 O h.2.1.2.1.1
  have u1 : D1.1 1 1 = mU M := by rw [(e3 1 (by omega)).1]; exact h.2.1.2.2.1.1
  have u2 : D1.1 1 2 = mF M := by rw [(e3 1 (by omega)).1]; exact h.2.1.2.2.1.2.1
  obtain ⟨D2, hD2⟩ : ∃ D2, D2 = sF (sF D1 28 1 (mU M)) 28 2 (mF M) := ⟨_, rfl⟩
  have k2 : KpO D1 D2 28 28 := fun b hb => by
    subst hD2
    exact ⟨by funext k; rw [sF1, if_neg (by omega), sF1, if_neg (by omega)], rfl⟩
  have flags : ∃ D', m_X6_copyFrom_18 42 15 (0, sCopy D2 16 0 43 0 384) = some (sF D' 42 4 0) ∧ D'.1 = D2.1 ∧ (∀ b, b ≠ 43 → b ≠ 46 → D'.2 b = D2.2 b) ∧ (∀ c, c < 384 → D'.2 43 c = D2.2 16 c) ∧ ∀ z, z < 8 → D'.2 46 z = D2.2 19 z := by
    unfold m_X6_copyFrom_18
    obtain ⟨s', ⟨i1, i2, i3, i4⟩, e⟩ := loop_inv (f := fun s : Int × DT =>
      gd (InR s.1 ∧ InR 8) (if s.1 < 8 then (
        gd ((0 : Int) ≤ s.1 ∧ s.1 < (8 : Int)) (
        gd (((0 : Int) ≤ s.1 ∧ s.1 < (8 : Int)) ∧ (((s.2.2 (15 + 4) (Int.toNat s.1)) : Int) = 0 ∨ ((s.2.2 (15 + 4) (Int.toNat s.1)) : Int) = 1)) (sq (sA s.2 (42 + 4) (Int.toNat s.1) (s.2.2 (15 + 4) (Int.toNat s.1))) (fun D35 =>
        some ((.inl ((s.1 + 1), D35)) : (Int × DT) ⊕ DT)
        )))
      ) else (
        done (
        sq (sF s.2 42 4 0) (fun D44 =>
        some D44
        )
        )
      ))) (fun k s => s.1 = (k : Int) ∧ s.2.1 = D2.1 ∧ (∀ b, b ≠ 46 → s.2.2 b = (sCopy D2 16 0 43 0 384).2 b) ∧ ∀ z, z < k → s.2.2 46 z = D2.2 19 z) 8 (s := (0, sCopy D2 16 0 43 0 384)) ⟨rfl, rfl, fun _ _ => rfl, fun _ h => absurd h (by omega)⟩ (fun k s hk ⟨a1, a2, a3, a4⟩ => by
        have e4 : s.2.2 (15 + 4) k = D2.2 19 k := by rw [a3 _ (by omega), sCopy2, if_neg (by omega)]
        have rb : D2.2 19 k = 0 ∨ D2.2 19 k = 1 := by
          rw [(k2 19 (by omega)).2, (e3 19 (by omega)).2]
          exact K.1 k hk
        have gq : ((0 : Int) ≤ (k : Int) ∧ (k : Int) < (8 : Int)) ∧ (D2.2 19 k = 0 ∨ D2.2 19 k = 1) := ⟨by omega, rb⟩
        refine ⟨((k : Int) + 1, sA s.2 (42 + 4) k (D2.2 19 k)), ?_, rfl, a2, fun b hb => ?_, fun c hc => ?_⟩
        · simp (disch := omega) only [a1, gd_t, if_t, tn, e4, gd_t gq, sq_eq]
        · funext j
          rw [sA2, if_neg (by omega), a3 b hb]
        · rw [sA2]
          by_cases q : c = k
          · rw [if_pos ⟨rfl, q⟩, q]
          · rw [if_neg (fun h => q h.2)]
            exact a4 c (by omega))
    refine ⟨s'.2, ?_, i2, fun b h1 h2 => ?_, fun c hc => ?_, i4⟩
    · rw [e]
      refine loopF_inr ?_
      have i1' : s'.1 = 8 := i1
      simp (disch := omega) only [i1', gd_t, if_f, sq_eq, done_some]
    · rw [i3 b h2]
      funext j
      rw [sCopy2, if_neg (fun h => h1 h.1)]
    · rw [i3 43 (by omega), sCopy2, if_pos ⟨rfl, hc⟩]
  obtain ⟨D3, s1, s2, s3, s4, s5⟩ := flags
  have q1 : (15 + 1 ≠ 42 + 1 ∧ ((0 : Int) ≤ 0 ∧ (0 : Int) + 384 ≤ (384 : Int)) ∧ ((0 : Int) ≤ 0 ∧ (0 : Int) + 384 ≤ (384 : Int)) ∧ (0 : Int) ≤ 384) := by omega
  have t384 : Int.toNat 384 = 384 := rfl
  have c6 : m_X6_copyFrom (28 + 14) (1 + 14) D2 = some (sF D3 42 4 0) := by
    unfold m_X6_copyFrom
    simp only [sq_eq, t0, t384]
    rw [gd_t (by omega)]
    exact s1
  obtain ⟨D4, hD4⟩ : ∃ D4, D4 = sF (sF (sF D3 42 4 0) (28 + 9) 0 0) (28 + 22) 0 (-1) := ⟨_, rfl⟩
  have k4f : ∀ a k, (a ≠ 42 ∧ a ≠ 37 ∧ a ≠ 50) → D4.1 a k = D2.1 a k := fun a k ha => by
    subst hD4
    rw [sF1, if_neg (by omega), sF1, if_neg (by omega), sF1, if_neg (by omega), s2]
  have k4a : D4.2 = D3.2 := by subst hD4; rfl
  refine ⟨D4, ?_, e2.fr (fun b hb => ⟨?_, ?_⟩), ?_, ⟨fun z hz => ?_, Or.inl ?_, fun z hz hq c hc hl => ?_, fun hq => ?_⟩, fun b hb => ⟨?_, ?_⟩⟩
  · have e1' : m_X1_copyFrom (28 + 1) (1 + 1) D = some D1 := e1
    have u3 : (sF D1 28 1 (mU M)).1 1 2 = mF M := by rw [sF1, if_neg (by omega)]; exact u2
    simp only [m_X5_copyFrom, e1', ob_some, sq_eq, u1, u3, ← hD2, c6, m_X5_numbersChanged, m_X2_forget, ← hD4]
  · funext k
    rw [k4f b k (by omega), (k2 b (by omega)).1]
  · rw [k4a, s3 b (by omega) (by omega), (k2 b (by omega)).2]
  · rw [k4f 28 1 (by omega), k4f 28 2 (by omega), hD2]
    exact ⟨rfl, rfl⟩
  · rw [k4a, s5 z hz, (k2 19 (by omega)).2, (e3 19 (by omega)).2]
    exact K.1 z hz
  · subst hD4
    rw [sF1, if_neg (by omega), sF1, if_neg (by omega), sF1, if_pos ⟨rfl, rfl⟩]
  · have hz8 := O.2.2.1
    rw [k4a, s5 z (by omega), (k2 19 (by omega)).2, (e3 19 (by omega)).2] at hq
    rw [k4a, s4 c (by omega), (k2 16 (by omega)).2, (e3 16 (by omega)).2]
    exact K.2.2.1 z hz hq c hc hl
  · exfalso
    have : D4.1 42 4 = 0 := by
      subst hD4
      rw [sF1, if_neg (by omega), sF1, if_neg (by omega), sF1, if_pos ⟨rfl, rfl⟩]
    omega
  · funext k
    rw [k4f b k (by omega), (k2 b (by omega)).1, (e3 b (by omega)).1]
  · rw [k4a, s3 b (by omega) (by omega), (k2 b (by omega)).2, (e3 b (by omega)).2]
/-! the reference keeps all, and brings it back -/
theorem X11_keepsAll (D : DT) : ∃ E, m_X11_keepsAll D = some E ∧ E.1 = D.1 ∧ (∀ b, b ≠ 97 → b ≠ 98 → E.2 b = D.2 b) ∧ (∀ c, c < 384 → E.2 97 c = D.2 78 c) ∧ ∀ k, k < 24 → E.2 98 k = D.2 82 k := by
  have second : ∀ F : DT, ∃ E, m_X11_keepsAll_29 (0, F) = some E ∧ E.1 = F.1 ∧ (∀ b, b ≠ 98 → E.2 b = F.2 b) ∧ ∀ k, k < 24 → E.2 98 k = F.2 82 k := fun F => by
    unfold m_X11_keepsAll_29
    obtain ⟨s', ⟨i1, i2, i3, i4⟩, e⟩ := loop_inv (f := fun s : Int × DT =>
      gd (InR s.1 ∧ InR 24) (if s.1 < 24 then (
        gd ((0 : Int) ≤ s.1 ∧ s.1 < (24 : Int)) (
        gd ((0 : Int) ≤ s.1 ∧ s.1 < (24 : Int)) (sq (sA s.2 98 (Int.toNat s.1) (s.2.2 82 (Int.toNat s.1))) (fun D46 =>
        some ((.inl ((s.1 + 1), D46)) : (Int × DT) ⊕ DT)
        )))
      ) else (
        done (
        some s.2
        )
      ))) (fun k s => s.1 = (k : Int) ∧ s.2.1 = F.1 ∧ (∀ b, b ≠ 98 → s.2.2 b = F.2 b) ∧ ∀ c, c < k → s.2.2 98 c = F.2 82 c) 24 (s := (0, F)) ⟨rfl, rfl, fun _ _ => rfl, fun _ h => absurd h (by omega)⟩ (fun k s hk ⟨a1, a2, a3, a4⟩ => by
        refine ⟨((k : Int) + 1, sA s.2 98 k (s.2.2 82 k)), ?_, rfl, a2, fun b hb => ?_, fun c hc => ?_⟩
        · simp (disch := omega) only [a1, gd_t, if_t, tn, sq_eq]
        · funext j
          rw [sA2, if_neg (by omega), a3 b hb]
        · rw [sA2]
          by_cases q : c = k
          · rw [if_pos ⟨rfl, q⟩, q, a3 82 (by omega)]
          · rw [if_neg (fun h => q h.2)]
            exact a4 c (by omega))
    refine ⟨s'.2, ?_, i2, i3, i4⟩
    rw [e]
    refine loopF_inr ?_
    have i1' : s'.1 = 24 := i1
    simp (disch := omega) only [i1', gd_t, if_f, done_some]
  unfold m_X11_keepsAll m_X11_keepsAll_2
  obtain ⟨s', ⟨i1, i2, i3, i4⟩, e⟩ := loop_inv (f := fun s : Int × DT =>
    gd (InR s.1 ∧ InR 384) (if s.1 < 384 then (
      gd ((0 : Int) ≤ s.1 ∧ s.1 < (384 : Int)) (
      gd ((0 : Int) ≤ s.1 ∧ s.1 < (384 : Int)) (sq (sA s.2 97 (Int.toNat s.1) (s.2.2 78 (Int.toNat s.1))) (fun D20 =>
      some ((.inl ((s.1 + 1), D20)) : (Int × DT) ⊕ DT)
      )))
    ) else (
      done (
      m_X11_keepsAll_29 (0, s.2)
      )
    ))) (fun k s => s.1 = (k : Int) ∧ s.2.1 = D.1 ∧ (∀ b, b ≠ 97 → s.2.2 b = D.2 b) ∧ ∀ c, c < k → s.2.2 97 c = D.2 78 c) 384 (s := (0, D)) ⟨rfl, rfl, fun _ _ => rfl, fun _ h => absurd h (by omega)⟩ (fun k s hk ⟨a1, a2, a3, a4⟩ => by
      refine ⟨((k : Int) + 1, sA s.2 97 k (s.2.2 78 k)), ?_, rfl, a2, fun b hb => ?_, fun c hc => ?_⟩
      · simp (disch := omega) only [a1, gd_t, if_t, tn, sq_eq]
      · funext j
        rw [sA2, if_neg (by omega), a3 b hb]
      · rw [sA2]
        by_cases q : c = k
        · rw [if_pos ⟨rfl, q⟩, q, a3 78 (by omega)]
        · rw [if_neg (fun h => q h.2)]
          exact a4 c (by omega))
  obtain ⟨E, g1, g2, g3, g4⟩ := second s'.2
  refine ⟨E, ?_, by rw [g2, i2], fun b h1 h2 => by rw [g3 b h2, i3 b h1], fun c hc => by rw [g3 97 (by omega)]; exact i4 c hc, fun k hk => by rw [g4 k hk, i3 82 (by omega)]⟩
  rw [e]
  refine loopF_inr ?_
  have i1' : s'.1 = 384 := i1
  simp (disch := omega) only [i1', gd_t, if_f, g1, done_some]
theorem X11_bringsBack {D D0 : DT} {M : MS} (R : RInv D0 M) (hF : D.1 = D0.1) (hA : ∀ b, b ∈ [74, 76, 80, 84, 85, 101] → D.2 b = D0.2 b) (h97 : ∀ c, c < 384 → D.2 97 c = D0.2 78 c) (h98 : ∀ k, k < 24 → D.2 98 k = D0.2 82 k) : ∃ E, m_X11_bringsBack D = some E ∧ RInv E M ∧ E.1 = D.1 ∧ ∀ b, (b ≠ 78 ∧ b ≠ 82 ∧ b ≠ 86 ∧ b ≠ 87 ∧ b ≠ 88 ∧ b ≠ 89) → E.2 b = D.2 b := by
  have O := R.1
  have n4 := nCb O
  have second : ∀ F : DT, ∃ G, m_X11_bringsBack_29 (0, F) = (m_X11_laysOrders G).bind (fun D54 => some D54) ∧ G.1 = F.1 ∧ (∀ b, b ≠ 82 → G.2 b = F.2 b) ∧ ∀ k, k < 24 → G.2 82 k = F.2 98 k := fun F => by
    unfold m_X11_bringsBack_29
    obtain ⟨s', ⟨i1, i2, i3, i4⟩, e⟩ := loop_inv (f := fun s : Int × DT =>
      gd (InR s.1 ∧ InR 24) (if s.1 < 24 then (
        gd ((0 : Int) ≤ s.1 ∧ s.1 < (24 : Int)) (
        gd ((0 : Int) ≤ s.1 ∧ s.1 < (24 : Int)) (sq (sA s.2 82 (Int.toNat s.1) (s.2.2 98 (Int.toNat s.1))) (fun D46 =>
        some ((.inl ((s.1 + 1), D46)) : (Int × DT) ⊕ DT)
        )))
      ) else (
        done (
        (m_X11_laysOrders s.2).bind (fun D54 =>
        some D54
        )
        )
      ))) (fun k s => s.1 = (k : Int) ∧ s.2.1 = F.1 ∧ (∀ b, b ≠ 82 → s.2.2 b = F.2 b) ∧ ∀ c, c < k → s.2.2 82 c = F.2 98 c) 24 (s := (0, F)) ⟨rfl, rfl, fun _ _ => rfl, fun _ h => absurd h (by omega)⟩ (fun k s hk ⟨a1, a2, a3, a4⟩ => by
        refine ⟨((k : Int) + 1, sA s.2 82 k (s.2.2 98 k)), ?_, rfl, a2, fun b hb => ?_, fun c hc => ?_⟩
        · simp (disch := omega) only [a1, gd_t, if_t, tn, sq_eq]
        · funext j
          rw [sA2, if_neg (by omega), a3 b hb]
        · rw [sA2]
          by_cases q : c = k
          · rw [if_pos ⟨rfl, q⟩, q, a3 98 (by omega)]
          · rw [if_neg (fun h => q h.2)]
            exact a4 c (by omega))
    refine ⟨s'.2, ?_, i2, i3, i4⟩
    rw [e]
    have i1' : s'.1 = 24 := i1
    cases hh : (m_X11_laysOrders s'.2).bind (fun D54 => some D54) with
    | none =>
      refine loopF_none ?_
      simp (disch := omega) only [i1', gd_t, if_f, hh]
      rfl
    | some r =>
      refine loopF_inr ?_
      simp (disch := omega) only [i1', gd_t, if_f, hh, done_some]
  have first : ∃ F, m_X11_bringsBack D = m_X11_bringsBack_29 (0, F) ∧ F.1 = D.1 ∧ (∀ b, b ≠ 78 → F.2 b = D.2 b) ∧ ∀ c, c < 384 → F.2 78 c = D.2 97 c := by
    unfold m_X11_bringsBack m_X11_bringsBack_2
    obtain ⟨s', ⟨i1, i2, i3, i4⟩, e⟩ := loop_inv (f := fun s : Int × DT =>
      gd (InR s.1 ∧ InR 384) (if s.1 < 384 then (
        gd ((0 : Int) ≤ s.1 ∧ s.1 < (384 : Int)) (
        gd ((0 : Int) ≤ s.1 ∧ s.1 < (384 : Int)) (sq (sA s.2 78 (Int.toNat s.1) (s.2.2 97 (Int.toNat s.1))) (fun D20 =>
        some ((.inl ((s.1 + 1), D20)) : (Int × DT) ⊕ DT)
        )))
      ) else (
        done (
        m_X11_bringsBack_29 (0, s.2)
        )
      ))) (fun k s => s.1 = (k : Int) ∧ s.2.1 = D.1 ∧ (∀ b, b ≠ 78 → s.2.2 b = D.2 b) ∧ ∀ c, c < k → s.2.2 78 c = D.2 97 c) 384 (s := (0, D)) ⟨rfl, rfl, fun _ _ => rfl, fun _ h => absurd h (by omega)⟩ (fun k s hk ⟨a1, a2, a3, a4⟩ => by
        refine ⟨((k : Int) + 1, sA s.2 78 k (s.2.2 97 k)), ?_, rfl, a2, fun b hb => ?_, fun c hc => ?_⟩
        · simp (disch := omega) only [a1, gd_t, if_t, tn, sq_eq]
        · funext j
          rw [sA2, if_neg (by omega), a3 b hb]
        · rw [sA2]
          by_cases q : c = k
          · rw [if_pos ⟨rfl, q⟩, q, a3 97 (by omega)]
          · rw [if_neg (fun h => q h.2)]
            exact a4 c (by omega))
    refine ⟨s'.2, ?_, i2, i3, i4⟩
    rw [e]
    have i1' : s'.1 = 384 := i1
    cases hh : m_X11_bringsBack_29 (0, s'.2) with
    | none =>
      refine loopF_none ?_
      simp (disch := omega) only [i1', gd_t, if_f, hh]
      rfl
    | some r =>
      refine loopF_inr ?_
      simp (disch := omega) only [i1', gd_t, if_f, hh, done_some]
  obtain ⟨F, f1, f2, f3, f4⟩ := first
  obtain ⟨G, g1, g2, g3, g4⟩ := second F
  have RM : RMap G (mW M) (mH M) (mO M) (mS M) := by
    obtain ⟨m1, m2, m3⟩ := R.2.1.1
    refine ⟨?_, m2, fun c hc => ⟨?_, ?_⟩⟩
    · rw [g3 76 (by omega), f3 76 (by omega), hA 76 (by simp)]; exact m1
    · have : c < nC M := hc
      rw [g3 78 (by omega), f4 c (by omega), h97 c (by omega)]; exact (m3 c hc).1
    · rw [g3 80 (by omega), f3 80 (by omega), hA 80 (by simp)]; exact (m3 c hc).2
  obtain ⟨E, e1, e2, e3⟩ := X11_laysOrders RM O (by rw [g3 76 (by omega), f3 76 (by omega), hA 76 (by simp)]; exact R.2.1.2.1)
  have keep : ∀ b, (b ≠ 78 ∧ b ≠ 82 ∧ b ≠ 86 ∧ b ≠ 87 ∧ b ≠ 88 ∧ b ≠ 89) → E.2 b = D.2 b := fun b hb => by
    rw [e2.2 b (by omega), g3 b (by omega), f3 b (by omega)]
  have E1 : E.1 = D.1 := by rw [e2.1, g2, f2]
  obtain ⟨c1, ⟨c2, c2', c2''⟩, c3, c4, c5, c6, c7, c8, c9⟩ := R
  refine ⟨E, ?_, ⟨O, ⟨e2.map RM, ?_, ?_⟩, fun k hk => ?_, ?_, by rw [E1, hF]; exact c5, ?_, ?_, ?_, e3⟩, E1, keep⟩
  · rw [f1, g1, e1]; rfl
  · rw [keep 76 (by omega), hA 76 (by simp)]; exact c2'
  · rw [keep 76 (by omega), hA 76 (by simp)]; exact c2''
  · rw [e2.2 82 (by omega), g4 k hk, f3 98 (by omega), h98 k hk]; exact c3 k hk
  · rw [keep 84 (by omega), hA 84 (by simp)]; exact c4
  · rw [E1, hF, keep 74 (by omega), hA 74 (by simp)]; exact c6
  · rw [E1, hF, keep 101 (by omega), hA 101 (by simp)]; exact c7
  · rw [keep 85 (by omega), hA 85 (by simp)]; exact c8
