/-! ===== read: how both start and end ===== -/
theorem X11_read49 (E0 : DT) : ∃ E', m_X11_read_49 (0, E0) = m_X11_read_78 (0, E') ∧ E'.1 = E0.1 ∧ (∀ q, q ≠ 79 → q ≠ 81 → E'.2 q = E0.2 q) ∧ ∀ c, c < 384 → E'.2 79 c = -1 ∧ E'.2 81 c = 0 := by
  unfold m_X11_read_49
  obtain ⟨s', ⟨i1, i2, i3, i4⟩, ee⟩ := loop_inv (f := fun s : Int × DT =>
  gd (InR s.1 ∧ InR 384) (if s.1 < 384 then (
    gd ((0 : Int) ≤ s.1 ∧ s.1 < (384 : Int)) (sq (sA s.2 79 (Int.toNat s.1) (-1)) (fun D62 =>
    gd (((0 : Int) ≤ s.1 ∧ s.1 < (384 : Int)) ∧ ((0 : Int) = 0 ∨ (0 : Int) = 1)) (sq (sA D62 81 (Int.toNat s.1) 0) (fun D69 =>
    some ((.inl ((s.1 + 1), D69)) : (Int × DT) ⊕ (Int × DT))
    ))))
  ) else (
    done (
    m_X11_read_78 (0, s.2)
    )
  ))) (fun k s => s.1 = (k : Int) ∧ s.2.1 = E0.1 ∧ (∀ q, q ≠ 79 → q ≠ 81 → s.2.2 q = E0.2 q) ∧ ∀ c, c < k → s.2.2 79 c = -1 ∧ s.2.2 81 c = 0) 384 (s := (0, E0)) ⟨rfl, rfl, fun _ _ _ => rfl, fun c hc => by omega⟩ (fun k s hk ⟨a1, a2, a3, a4⟩ => by
      refine ⟨((k : Int) + 1, sA (sA s.2 79 k (-1)) 81 k 0), ?_, rfl, a2, fun q h1 h2 => ?_, fun c hc => ?_⟩
      · simp (disch := omega) only [a1, gd_t, if_t, tn, sq_eq, true_or, and_true]
      · funext j
        rw [sA2, if_neg (by omega), sA2, if_neg (by omega), a3 q h1 h2]
      · by_cases q : c = k
        · subst q
          refine ⟨?_, ?_⟩
          · rw [sA2, if_neg (by omega), sA2, if_pos ⟨rfl, rfl⟩]
          · rw [sA2, if_pos ⟨rfl, rfl⟩]
        · have := a4 c (by omega)
          refine ⟨?_, ?_⟩
          · rw [sA2, if_neg (by omega), sA2, if_neg (by omega)]; exact this.1
          · rw [sA2, if_neg (by omega), sA2, if_neg (by omega)]; exact this.2)
  refine ⟨s'.2, ?_, i2, i3, i4⟩
  rw [ee]
  refine loopF_dn ?_
  have i1' : s'.1 = 384 := i1
  simp (disch := omega) only [i1', gd_t, if_f]
theorem X11_read78 (E0 : DT) : ∃ E', m_X11_read_78 (0, E0) = (m_X11_sizeLine E').bind (fun D98 => (m_X11_blanks D98).bind (fun D102 => m_X11_read_105 D102)) ∧ E'.1 = E0.1 ∧ (∀ q, q ≠ 83 → E'.2 q = E0.2 q) ∧ ∀ c, c < 24 → E'.2 83 c = 0 := by
  unfold m_X11_read_78
  obtain ⟨s', ⟨i1, i2, i3, i4⟩, ee⟩ := loop_inv (f := fun s : Int × DT =>
  gd (InR s.1 ∧ InR 24) (if s.1 < 24 then (
    gd ((0 : Int) ≤ s.1 ∧ s.1 < (24 : Int)) (sq (sA s.2 83 (Int.toNat s.1) 0) (fun D90 =>
    some ((.inl ((s.1 + 1), D90)) : (Int × DT) ⊕ (Int × DT))
    ))
  ) else (
    done (
    (m_X11_sizeLine s.2).bind (fun D98 =>
    (m_X11_blanks D98).bind (fun D102 =>
    m_X11_read_105 D102
    ))
    )
  ))) (fun k s => s.1 = (k : Int) ∧ s.2.1 = E0.1 ∧ (∀ q, q ≠ 83 → s.2.2 q = E0.2 q) ∧ ∀ c, c < k → s.2.2 83 c = 0) 24 (s := (0, E0)) ⟨rfl, rfl, fun _ _ => rfl, fun c hc => by omega⟩ (fun k s hk ⟨a1, a2, a3, a4⟩ => by
      refine ⟨((k : Int) + 1, sA s.2 83 k 0), ?_, rfl, a2, fun q h1 => ?_, fun c hc => ?_⟩
      · simp (disch := omega) only [a1, gd_t, if_t, tn, sq_eq]
      · funext j
        rw [sA2, if_neg (by omega), a3 q h1]
      · rw [sA2]
        by_cases q : c = k
        · rw [if_pos ⟨rfl, q⟩]
        · rw [if_neg (fun hh => q hh.2)]; exact a4 c (by omega))
  refine ⟨s'.2, ?_, i2, i3, i4⟩
  rw [ee]
  refine loopF_dn ?_
  have i1' : s'.1 = 24 := i1
  simp (disch := omega) only [i1', gd_t, if_f]
/-- what the reference leaves alone when it reads -/
def RG0 (E E' : DT) : Prop := (∀ a k, (a = 73 → k ∉ [0, 2, 16, 17, 18, 19, 21]) → E'.1 a k = E.1 a k) ∧ (E'.1 73 0 = 0 ∧ E'.1 73 2 = 0) ∧ (∀ a, a ∉ [77, 79, 81, 83, 85] → E'.2 a = E.2 a) ∧ ∀ k, k < 48 → -128 ≤ E'.2 85 k ∧ E'.2 85 k ≤ 127
def rsM (M : MS) : RS := ((mU M, mF M, -1), (0, mT M), (mWL M, mWT M))
theorem J_all {D E : DT} {M : MS} (hC : CInv D M) (hR : RInv E M) : ∃ D' E', m_X9_useUp D = some (D'.1 55 8, sF D' 55 0 0) ∧ m_X11_read E = m_X11_read_134 E' ∧ CGo D D' ∧ RG0 E E' ∧ ((LX D' E' (mTL M) (mT M) (mTL M) ∧ ∃ t Q, DS D' E' (rsM M) t Q) ∨ LZ D' E' (mTL M) (mT M)) := by
  have O := hC.1
  have tp := O.2.2.2.2.2.2.2.2.1
  have c55 := hC.2.1.2.2.2.1
  have r2 := hR.2.2.2.2.2.1
  have r85 := hR.2.2.2.2.2.2.2.1
  have rng := hC.2.1.2.1.2
  obtain ⟨Ea, hEa⟩ : ∃ Ea, Ea = sA (sA (sF (sF (sF (sF (sF (sF E 73 0 0) 73 18 (mTL M : Int)) 73 2 0) 73 16 0) 73 19 (-1)) 73 21 0) 77 2 0) 77 3 1 := ⟨_, rfl⟩
  have Ea1 : ∀ a k, (a = 73 → k ∉ [0, 2, 16, 18, 19, 21]) → Ea.1 a k = E.1 a k := fun a k hk => by
    subst hEa
    have h0 : ∀ j, j ∈ [0, 2, 16, 18, 19, 21] → ¬ (a = 73 ∧ k = j) := fun j hj hh => hk hh.1 (by rw [hh.2]; exact hj)
    rw [sA1, sA1, sF1, if_neg (h0 21 (by simp)), sF1, if_neg (h0 19 (by simp)), sF1, if_neg (h0 16 (by simp)), sF1, if_neg (h0 2 (by simp)), sF1, if_neg (h0 18 (by simp)), sF1, if_neg (h0 0 (by simp))]
  have Ea2 : ∀ q, q ≠ 77 → Ea.2 q = E.2 q := fun q hq => by
    subst hEa
    funext j
    rw [sA2, if_neg (by omega), sA2, if_neg (by omega)]
    rfl
  have Ea3 : Ea.2 77 2 = 0 ∧ Ea.2 77 3 = 1 := by subst hEa; exact ⟨rfl, rfl⟩
  have Ea4 : Ea.1 73 0 = 0 ∧ Ea.1 73 2 = 0 ∧ Ea.1 73 16 = 0 ∧ Ea.1 73 18 = (mTL M : Int) ∧ Ea.1 73 19 = -1 ∧ Ea.1 73 21 = 0 := by subst hEa; exact ⟨rfl, rfl, rfl, rfl, rfl, rfl⟩
  obtain ⟨Eb, b1, b2, b3, b4⟩ := X11_read49 Ea
  obtain ⟨Ec, c1, c2, c3, c4⟩ := X11_read78 Eb
  have eR0 : m_X11_read E = (m_X11_sizeLine Ec).bind (fun D98 => (m_X11_blanks D98).bind (fun D102 => m_X11_read_105 D102)) := by
    rw [← c1, ← b1]
    have e2 : (sF E 73 0 0).1 73 2 = (mTL M : Int) := by rw [sF1, if_neg (by omega)]; exact r2.1
    simp (disch := omega) only [m_X11_read, sq_eq, e2, gd_t, t2, t3]
    rw [← hEa]
  obtain ⟨Da, hDa⟩ : ∃ Da, Da = sF (sF (sF (sF (sF (sF (sF D 55 3 0) 55 8 (-1)) 55 9 0) 56 0 0) 56 1 0) 56 2 0) 56 3 1 := ⟨_, rfl⟩
  have Da2 : Da.2 = D.2 := by subst hDa; rfl
  have Da1 : ∀ b, (b < 55 ∨ 56 < b) → Da.1 b = D.1 b := fun b hb => by
    subst hDa
    funext k
    rw [sF1, if_neg (by omega), sF1, if_neg (by omega), sF1, if_neg (by omega), sF1, if_neg (by omega), sF1, if_neg (by omega), sF1, if_neg (by omega), sF1, if_neg (by omega)]
  have Da3 : Da.1 55 0 = D.1 55 0 ∧ Da.1 55 3 = 0 ∧ Da.1 55 8 = -1 ∧ Da.1 55 9 = 0 ∧ Da.1 56 2 = 0 ∧ Da.1 56 3 = 1 := by subst hDa; exact ⟨rfl, rfl, rfl, rfl, rfl, rfl⟩
  have gDa : CGo D Da := ⟨fun b hb => ⟨Da1 b (by omega), by rw [Da2]⟩, fun x => by unfold ChartRng at *; rw [Da2]; exact x⟩
  have eC0 : m_X9_useUp D = bnd (m_X9_readSize Da) (fun r23 D23 => (m_X9_skipBlanks D23).bind (fun D28 => m_X9_useUp_33 (r23, 0, D28))) := by
    simp (disch := omega) only [m_X9_useUp, sq_eq, m_X1_clear, ob_some]
    rw [← hDa]
  have Ef1 : Ec.1 = Ea.1 := by rw [c2, b2]
  have L0 : LX Da Ec (mTL M) (mT M) 0 := by
    refine ⟨⟨⟨tp, by rw [Da3.1]; exact c55.1, by rw [Da2]; exact c55.2, Da3.2.1, by omega⟩, ⟨tp, by rw [Ef1]; exact Ea4.2.2.2.1, fun k hk => ?_, by rw [Ef1]; exact Ea4.2.2.1, by omega⟩⟩, Da3.2.2.1, by rw [Ef1]; exact Ea4.2.2.2.2.1⟩
    rw [c3 74 (by omega), b3 74 (by omega) (by omega), Ea2 74 (by omega)]
    exact r2.2 k hk
  have g85 : ∀ k, k < 48 → -128 ≤ Ec.2 85 k ∧ Ec.2 85 k ≤ 127 := fun k hk => by
    rw [c3 85 (by omega), b3 85 (by omega) (by omega), Ea2 85 (by omega)]
    exact r85 k hk
  have g81 : ∀ c, c < 384 → Ec.2 79 c = -1 ∧ Ec.2 81 c = 0 := fun c hc => by
    rw [c3 79 (by omega), c3 81 (by omega)]
    exact b4 c hc
  have J := J_size (R := rsM M) L0 ⟨⟨O.2.2.2.2.2.2.2.1.1, O.2.2.2.2.2.2.2.1.2.1, by show (-1 : Int) ≤ -1 ∧ (-1 : Int) ≤ 400; omega⟩, ⟨by show 0 ≤ 400; omega, fun k hk => absurd hk (Nat.not_lt_zero k)⟩, O.2.2.2.2.2.2.2.2.2⟩ Da3.2.2.2.1 (by rw [Ef1]; exact Ea4.2.2.2.2.2) Da3.2.2.2.2 (by rw [c3 77 (by omega), b3 77 (by omega) (by omega)]; exact Ea3) g81 c4 (gDa.2 rng) ⟨fun c hc => Or.inl (g81 c hc).2, g85⟩
  have fin : ∀ E', RGo Ec E' → RG0 E E' := fun E' g => by
    refine ⟨fun a k hk => ?_, ⟨?_, ?_⟩, fun a ha => ?_, fun k hk => g.2.2 g85 k hk⟩
    · rw [g.1.1 a k (fun hh hm => hk hh (by simp at hm ⊢; omega)), Ef1, Ea1 a k (fun hh hm => hk hh (by simp at hm ⊢; omega))]
    · rw [g.1.1 73 0 (by simp), Ef1]; exact Ea4.1
    · rw [g.1.1 73 2 (by simp), Ef1]; exact Ea4.2.1
    · have ha' : a ≠ 77 ∧ a ≠ 79 ∧ a ≠ 81 ∧ a ≠ 83 := by simp at ha; omega
      rw [g.1.2 a ha, c3 a ha'.2.2.2, b3 a ha'.2.1 ha'.2.2.1, Ea2 a ha'.1]
  obtain ⟨D2, E2, j1, j2, j3, j4⟩ := J
  rw [eC0, eR0, j1, ob_some]
  rcases j4 with ⟨j5, p', t', Q', j6, j7, j8⟩ | ⟨j5, j6⟩
  · obtain ⟨D', E', x1, x2, x3, x4, x5⟩ := J_lines (mTL M - p') p' 0 D2 E2 t' Q' (Nat.le_refl _) (by omega) j7 j8
    refine ⟨D', E', ?_, x2, gDa.trans (j2.trans x3), fin E' (j3.trans x4), x5⟩
    rw [← x1, j5, bnd_some]
    rfl
  · obtain ⟨D', E', x1, x2, x3, x4, x5⟩ := J_stop (i := 0) j6
    refine ⟨D', E', ?_, x2, gDa.trans (j2.trans x4), fin E' (j3.trans x5), Or.inr x3⟩
    rw [← x1, j5, bnd_some]
/-! the class's end -/
theorem X5_mapChanged (D : DT) : ∃ D', m_X5_mapChanged 1 D = some D' ∧ (∀ z, z < 8 → D'.2 19 z = 0) ∧ (D'.1 15 4 = 0 ∧ D'.1 10 0 = 0 ∧ D'.1 23 0 = -1) ∧ (∀ b, b ≠ 15 → b ≠ 10 → b ≠ 23 → D'.1 b = D.1 b) ∧ ∀ b, b ≠ 19 → D'.2 b = D.2 b := by
  have lp : ∃ E, m_X6_forgetAll 15 D = some E ∧ (∀ z, z < 8 → E.2 19 z = 0) ∧ (E.1 15 4 = 0 ∧ ∀ b, b ≠ 15 → E.1 b = D.1 b) ∧ ∀ b, b ≠ 19 → E.2 b = D.2 b := by
    unfold m_X6_forgetAll m_X6_forgetAll_2
    obtain ⟨s', ⟨i1, i2, i3, i4, i5⟩, ee⟩ := loop_inv (f := fun s : Int × DT =>
  gd (InR s.1 ∧ InR 8) (if s.1 < 8 then (
    (m_X6_forget 15 s.1 s.2).bind (fun D10 =>
    some ((.inl ((s.1 + 1), D10)) : (Int × DT) ⊕ DT)
    )
  ) else (
    done (
    some s.2
    )
  ))) (fun k s => s.1 = (k : Int) ∧ (∀ z, z < k → s.2.2 19 z = 0) ∧ (0 < k → s.2.1 15 4 = 0) ∧ (∀ b, b ≠ 15 → s.2.1 b = D.1 b) ∧ ∀ b, b ≠ 19 → s.2.2 b = D.2 b) 8 (s := (0, D)) ⟨rfl, fun z hz => by omega, fun h => by omega, fun _ _ => rfl, fun _ _ => rfl⟩ (fun k s hk ⟨a1, a2, a3, a4, a5⟩ => by
      refine ⟨((k : Int) + 1, sF (sA s.2 19 k 0) 15 4 0), ?_, rfl, fun z hz => ?_, fun _ => ?_, fun b hb => ?_, fun b hb => ?_⟩
      · simp (disch := omega) only [a1, gd_t, if_t, m_X6_forget, true_or, and_true, tn, sq_eq, ob_some]
      · rw [sF2, sA2]
        by_cases q : z = k
        · rw [if_pos ⟨rfl, q⟩]
        · rw [if_neg (fun hh => q hh.2)]; exact a2 z (by omega)
      · rw [sF1, if_pos ⟨rfl, rfl⟩]
      · funext j
        rw [sF1, if_neg (fun hh => hb hh.1), sA1, a4 b hb]
      · funext j
        rw [sF2, sA2, if_neg (fun hh => hb hh.1), a5 b hb])
    refine ⟨s'.2, ?_, i2, ⟨i3 (by omega), i4⟩, i5⟩
    rw [ee]
    refine loopF_inr ?_
    have i1' : s'.1 = 8 := i1
    simp (disch := omega) only [i1', gd_t, if_f, done_some]
  obtain ⟨E, e1, e2, ⟨e3, e4⟩, e5⟩ := lp
  have e1' : m_X6_forgetAll (1 + 14) D = some E := e1
  refine ⟨sF (sF E (1 + 9) 0 0) (1 + 22) 0 (-1), ?_, e2, ⟨?_, ?_, ?_⟩, fun b h1 h2 h3 => ?_, e5⟩
  · simp only [m_X5_mapChanged, e1', ob_some, m_X5_numbersChanged, sq_eq, m_X2_forget]
  · rw [sF1, if_neg (by omega), sF1, if_neg (by omega)]; exact e3
  · rw [sF1, if_neg (by omega), sF1, if_pos ⟨rfl, rfl⟩]
  · rw [sF1, if_pos ⟨rfl, rfl⟩]
  · funext k
    rw [sF1, if_neg (by omega), sF1, if_neg (by omega), e4 b h1]
theorem cls_read_t {D D' E' : DT} {M Q : MS} {t : Int} (hC : CInv D M) (hu : m_X9_useUp D = some (D'.1 55 8, sF D' 55 0 0)) (g : CGo D D') (f : D'.1 55 8 = -1) (S : DS D' E' (rsM M) t Q) : ClsX m_X10_read D (.inl (mZ Q : Int)) Q := by
  obtain ⟨-, ⟨C, -⟩, ⟨rg, -⟩, ⟨O, -, -⟩, hq⟩ := S
  have hU : mU Q = mU M := by show Q.2.2.2.1.1 = _; rw [hq]; rfl
  have hF : mF Q = mF M := by show Q.2.2.2.1.2.1 = _; rw [hq]; rfl
  have hX : mX Q = -1 := by show Q.2.2.2.1.2.2 = _; rw [hq]; rfl
  have hTL : mTL Q = 0 := by show Q.2.2.2.2.1.1 = _; rw [hq]; rfl
  have hWL : mWL Q = mWL M := by show Q.2.2.2.2.2.1 = _; rw [hq]; rfl
  have hWT : mWT Q = mWT M := by show Q.2.2.2.2.2.2 = _; rw [hq]; rfl
  obtain ⟨D8, hD8⟩ : ∃ D8, D8 = sF (sF D' 55 0 0) 0 3 (-1) := ⟨_, rfl⟩
  have d1 : ∀ b, b ≠ 55 → b ≠ 0 → D8.1 b = D'.1 b := fun b h1 h2 => by
    subst hD8
    funext k
    rw [sF1, if_neg (fun h => h2 h.1), sF1, if_neg (fun h => h1 h.1)]
  have d2 : D8.2 = D'.2 := by subst hD8; rfl
  have d3 : D8.1 0 3 = -1 ∧ D8.1 55 0 = 0 := by subst hD8; exact ⟨rfl, rfl⟩
  have C8 : ChartRep D8 56 Q := by
    unfold ChartRep CMap at *
    rw [d1 56 (by omega) (by omega), d2]
    exact C
  have rg8 : ChartRng D8 56 := by
    unfold ChartRng at *
    rw [d2]
    exact rg
  obtain ⟨D9, a1, a2, a3, a4, a5⟩ := X1_takeOver C8 O rg8
  obtain ⟨D10, b1, b2, ⟨b3, b4, b5⟩, b6, b7⟩ := X5_mapChanged D9
  have e22 : (sF D10 70 5 (-1)).1 2 2 = (mZ Q : Int) := by
    rw [sF1, if_neg (by omega), b6 2 (by omega) (by omega) (by omega)]
    exact a2.2.1.1
  have e03 : (sF (sF D' 55 0 0) 0 3 (-1)).1 0 3 = -1 := rfl
  refine ⟨sF D10 70 5 (-1), ?_, ⟨O, ⟨?_, ⟨⟨?_, ?_⟩, ⟨?_, ?_⟩⟩, ⟨?_, ?_, ?_⟩, ⟨?_, ?_⟩, ?_, ?_⟩, ⟨Or.inl ?_, ⟨?_, ?_, ?_, ?_⟩, Or.inl ?_⟩, Or.inl ?_⟩, fun a ha => ⟨?_, ?_⟩⟩
  · simp (disch := omega) only [m_X10_read, hu, bnd_some, f, sq_eq, e03, gd_t, ↓reduceIte]
    rw [← hD8]
    simp only [a1, ob_some, b1, m_X4_forget, sq_eq, e22]
  · have h2 : ∀ k, (sF D10 70 5 (-1)).1 2 k = D9.1 2 k := fun k => by rw [sF1, if_neg (by omega), b6 2 (by omega) (by omega) (by omega)]
    have h3 : ∀ q, q < 19 → (sF D10 70 5 (-1)).2 q = D9.2 q := fun q hq => by rw [sF2, b7 q (by omega)]
    unfold ChartRep CMap at *
    rw [h2 0, h2 1, h2 2, h2 3, h3 (2 + 1) (by omega), h3 (2 + 2) (by omega), h3 (2 + 3) (by omega), h3 (2 + 4) (by omega), h3 (2 + 5) (by omega), h3 (2 + 6) (by omega), h3 (2 + 7) (by omega)]
    exact a2
  · intro c hc
    show (sF D10 70 5 (-1)).2 4 c = 0 ∨ (sF D10 70 5 (-1)).2 4 c = 1
    rw [sF2, b7 4 (by omega), a4 c hc]
    exact rg8.1 c hc
  · intro k hk
    show -128 ≤ (sF D10 70 5 (-1)).2 8 k ∧ (sF D10 70 5 (-1)).2 8 k ≤ 127
    rw [sF2, b7 8 (by omega), a5 k hk]
    exact rg8.2 k hk
  · intro c hc
    show (sF D10 70 5 (-1)).2 58 c = 0 ∨ (sF D10 70 5 (-1)).2 58 c = 1
    rw [sF2, b7 58 (by omega), (a3 58 (by omega)).2]
    exact rg8.1 c hc
  · intro k hk
    show -128 ≤ (sF D10 70 5 (-1)).2 62 k ∧ (sF D10 70 5 (-1)).2 62 k ≤ 127
    rw [sF2, b7 62 (by omega), (a3 62 (by omega)).2]
    exact rg8.2 k hk
  · rw [sF1, if_neg (by omega), b6 1 (by omega) (by omega) (by omega), (a3 1 (by omega)).1, d1 1 (by omega) (by omega), (g.1 1 (by omega)).1, hU]
    exact hC.2.1.2.2.1.1
  · rw [sF1, if_neg (by omega), b6 1 (by omega) (by omega) (by omega), (a3 1 (by omega)).1, d1 1 (by omega) (by omega), (g.1 1 (by omega)).1, hF]
    exact hC.2.1.2.2.1.2.1
  · rw [sF1, if_neg (by omega), b6 0 (by omega) (by omega) (by omega), (a3 0 (by omega)).1, hX]
    exact d3.1
  · rw [sF1, if_neg (by omega), b6 55 (by omega) (by omega) (by omega), (a3 55 (by omega)).1, hTL]
    exact d3.2
  · intro k hk
    rw [hTL] at hk
    omega
  · rw [sF1, if_neg (by omega), b6 65 (by omega) (by omega) (by omega), (a3 65 (by omega)).1, d1 65 (by omega) (by omega), (g.1 65 (by omega)).1, hWL]
    exact hC.2.1.2.2.2.2.1
  · intro k hk
    rw [hWL] at hk
    rw [sF2, b7 66 (by omega), (a3 66 (by omega)).2, d2, (g.1 66 (by omega)).2, hWT]
    exact hC.2.1.2.2.2.2.2 k hk
  · rw [sF1, if_neg (by omega)]; exact b4
  · intro z hz
    left
    rw [sF2]
    exact b2 z hz
  · left
    rw [sF1, if_neg (by omega)]
    exact b3
  · intro z hz h1
    rw [sF2] at h1
    have h0 := b2 z (by have := O.2.2.1; omega)
    have h1' : D10.2 19 z = 1 := h1
    omega
  · intro h1
    rw [sF1, if_neg (by omega)] at h1
    have h1' : D10.1 15 4 = 1 := h1
    omega
  · rw [sF1, if_neg (by omega)]; exact b5
  · rw [sF1, if_pos ⟨rfl, rfl⟩]
  · funext k
    rw [sF1, if_neg (by omega), b6 a (by omega) (by omega) (by omega), (a3 a (by omega)).1, d1 a (by omega) (by omega), (g.1 a (by omega)).1]
  · rw [sF2, b7 a (by omega), (a3 a (by omega)).2, d2, (g.1 a (by omega)).2]
/-- a fault was told -/
def setF (M : MS) (f : Int) : MS := (M.1, M.2.1, M.2.2.1, (mU M, mF M, f), (0, mT M), (mWL M, mWT M))
theorem setF_ok {M : MS} (O : MOK M) {f : Int} (hf : 0 ≤ f ∧ f ≤ 400) : MOK (setF M f) := by
  obtain ⟨o1, o2, o3, o4, o5, o6, o7, ⟨o8, o9, o10⟩, o11, o12⟩ := O
  exact ⟨o1, o2, o3, o4, o5, o6, o7, ⟨o8, o9, by show -1 ≤ f ∧ f ≤ 400; omega⟩, ⟨by show 0 ≤ 400; omega, fun k hk => absurd hk (Nat.not_lt_zero k)⟩, o12⟩
theorem cls_read_f {D D' : DT} {M : MS} {f : Int} (hC : CInv D M) (hu : m_X9_useUp D = some (D'.1 55 8, sF D' 55 0 0)) (g : CGo D D') (e : D'.1 55 8 = f) (hf : 0 ≤ f ∧ f ≤ 400) : ClsX m_X10_read D (.inr 2) (setF M f) := by
  have e03 : (sF (sF D' 55 0 0) 0 3 f).1 0 3 = f := rfl
  have nf : ¬ f = -1 := by omega
  obtain ⟨D8, hD8⟩ : ∃ D8, D8 = sF (sF D' 55 0 0) 0 3 f := ⟨_, rfl⟩
  have d1 : ∀ b, b ≠ 55 → b ≠ 0 → D8.1 b = D'.1 b := fun b h1 h2 => by
    subst hD8
    funext k
    rw [sF1, if_neg (fun h => h2 h.1), sF1, if_neg (fun h => h1 h.1)]
  have d2 : D8.2 = D'.2 := by subst hD8; rfl
  have d3 : D8.1 0 3 = f ∧ D8.1 55 0 = 0 := by subst hD8; exact ⟨rfl, rfl⟩
  have k1 : ∀ b, b ≠ 55 → b ≠ 0 → (b < 55 ∨ 63 < b) → D8.1 b = D.1 b := fun b h1 h2 h3 => by rw [d1 b h1 h2, (g.1 b h3).1]
  have k2 : ∀ b, (b < 55 ∨ 63 < b) → D8.2 b = D.2 b := fun b h3 => by rw [d2, (g.1 b h3).2]
  refine ⟨D8, ?_, ?_, fun a ha => ⟨k1 a (by omega) (by omega) (by omega), k2 a (by omega)⟩⟩
  · simp (disch := omega) only [m_X10_read, hu, bnd_some, e, sq_eq, e03, gd_t, if_f nf]
    rw [← hD8]
  obtain ⟨O, ⟨h1, ⟨h2, h2'⟩, ⟨h3, h4, h5⟩, h6, h7⟩, h8, h9⟩ := hC
  refine ⟨setF_ok O hf, ⟨?_, ⟨?_, ?_⟩, ⟨?_, ?_, ?_⟩, ⟨?_, ?_⟩, ?_⟩, ?_, ?_⟩
  · unfold ChartRep CMap at *
    rw [k1 2 (by omega) (by omega) (by omega), k2 (2 + 1) (by omega), k2 (2 + 2) (by omega), k2 (2 + 3) (by omega), k2 (2 + 4) (by omega), k2 (2 + 5) (by omega), k2 (2 + 6) (by omega), k2 (2 + 7) (by omega)]
    exact h1
  · unfold ChartRng at h2 ⊢
    rw [k2 (2 + 2) (by omega), k2 (2 + 6) (by omega)]
    exact h2
  · have := g.2 h2'
    unfold ChartRng at this ⊢
    rw [d2]
    exact this
  · rw [k1 1 (by omega) (by omega) (by omega)]; exact h3
  · rw [k1 1 (by omega) (by omega) (by omega)]; exact h4
  · exact d3.1
  · exact d3.2
  · intro k hk
    exact absurd hk (Nat.not_lt_zero k)
  · rw [k1 65 (by omega) (by omega) (by omega), k2 66 (by omega)]
    exact h7
  · have h8 := h8.same (show Same M (setF M f) from ⟨rfl, rfl, rfl, rfl, rfl⟩)
    unfold CCache TallyRep RanksRep RanksOf RanksAll CrowdRep CrowdAt at *
    rw [k1 (1 + 9) (by omega) (by omega) (by omega), k1 (1 + 14) (by omega) (by omega) (by omega), k1 (1 + 22) (by omega) (by omega) (by omega), k2 (1 + 9 + 1) (by omega), k2 (1 + 9 + 2) (by omega), k2 (1 + 9 + 3) (by omega), k2 (1 + 9 + 4) (by omega), k2 (1 + 14 + 1) (by omega), k2 (1 + 14 + 2) (by omega), k2 (1 + 14 + 3) (by omega), k2 (1 + 14 + 4) (by omega)]
    simp only [k2 (1 + 22 + 1) (by omega), k2 (1 + 22 + 2) (by omega), k2 (1 + 22 + 3) (by omega)]
    exact h8
  · have h9 := h9.same (show Same M (setF M f) from ⟨rfl, rfl, rfl, rfl, rfl⟩)
    unfold PathRep PathAt at *
    rw [k1 70 (by omega) (by omega) (by omega), k2 71 (by omega)]
    exact h9
