/-! ===== both read: rows, the sea, any line ===== -/
theorem JR.le {D E : DT} {n b b' : Nat} {T : Nat → Int} {R : RS} {r : Option (Int × DT)} {e : Option DT} (h : JR D E n T R b r e) (hb : b' ≤ b) : JR D E n T R b' r e := by
  obtain ⟨D', E', h1, h2, h3, h4⟩ := h
  refine ⟨D', E', h1, h2, h3, ?_⟩
  rcases h4 with ⟨a1, p', t', Q', a2, a3⟩ | h4
  · exact Or.inl ⟨a1, p', t', Q', by omega, a3⟩
  · exact Or.inr h4
/-- a row behind its word, as the class reads it -/
noncomputable def rowC (D : DT) : Option (Int × DT) :=
  bnd (m_X9_readToldName D) (fun r47 D47 =>
  gd (InR r47) (if r47 = 0 then (
    some (0, D47)
  ) else (
    (m_X9_zoneNamed D47).bind (fun r55 =>
    bnd (m_X9_readRuns r55 D47) (fun r58 D58 =>
    gd (InR r58) (if r58 = 0 then (
      some (0, D58)
    ) else (
      some (1, D58)
    ))
    ))
  )))
theorem JR.i01 {D E : DT} {n b : Nat} {T : Nat → Int} {R : RS} {r : Option (Int × DT)} {e : Option DT} (h : JR D E n T R b r e) : bnd r (fun r58 D58 => gd (InR r58) (if r58 = 0 then (some ((0 : Int), D58)) else (some (1, D58)))) = r := by
  obtain ⟨D', E', h1, h2, h3, h4⟩ := h
  rcases h4 with ⟨h5, -⟩ | ⟨h5, -⟩
  · rw [h5]
    simp (disch := omega) only [bnd_some, gd_t, if_f]
  · rw [h5]
    simp (disch := omega) only [bnd_some, gd_t, ↓reduceIte]
theorem line_row {D E : DT} {n b e : Nat} {T : Nat → Int} {R : RS} {t : Int} {Q : MS} (L : LW D E n T b e) (S : DS D E R t Q) (w : isW T b e (strB 4)) : JR D E n T R b (rowC D) ((m_X11_rowLine E).bind m_X11_line_83) := by
  have O := S.2.2.2.1.1
  have z8 := O.2.2.1
  obtain ⟨E1, w1, w2, L1⟩ := L.word 4 17 rfl w
  have hbe : b < e := L.2.2.2.1
  have n400 := L.1.1.1.1
  obtain ⟨D2, d1, d2, d3, d4, d5⟩ := X9_readWord L1.1.1
  obtain ⟨E2, I2, l2, y2, nn2⟩ := X11_isName L1.1.2 L1.2.2
  have hb := skp_b (T := T) L1.1.1.2.2.2.2
  have wb := wnd_b (T := T) hb.2
  generalize skp n T e = b2 at *
  generalize wnd n T b2 = e2 at *
  have S2 := S.lex d1 ((w2.trans l2).mono (ls := [16, 17, 19]) (by simp)) (by simp) (by simp)
  have gR2 : RGo E E2 := w2.go3.trans l2.go2
  have fC : m_X9_failAt (D2.1 55 4) D2 = some (0, sF D2 55 8 (b2 : Int)) := by
    rw [d3]
    exact (mkLZ d2 I2.1 hb.2 I2.2.2.1).1
  have gFC : CGo D (sF D2 55 8 (b2 : Int)) := d1.go.trans TKp.f.go
  -- the reference fails at the name
  have bad21 : ∀ E3, IW E3 n T b2 e2 → m_X11_rowLine_21 (-1) E3 = some (sF E3 73 19 (b2 : Int)) ∧ LZ (sF D2 55 8 (b2 : Int)) (sF E3 73 19 (b2 : Int)) n T := fun E3 I3 => by
    have f := mkLZ d2 I3.1 hb.2 I3.2.2.1
    refine ⟨?_, f.2.2⟩
    have f2 : m_X11_failsAt (E3.1 73 17) E3 = some (sF E3 73 19 (b2 : Int)) := by rw [I3.2.1]; exact f.2.1
    simp (disch := omega) only [m_X11_rowLine_21, ↓gd_t, ↓reduceIte, ↓ob_of f2]
  by_cases hw : e2 = b2
  · have nm : ¬ nmOK T b2 e2 := fun hh => by have := hh.1; omega
    have eN := nn2 nm
    rw [if_pos hw] at d5
    obtain ⟨d5, d6⟩ := d5
    obtain ⟨g1, g2⟩ := bad21 E2 I2
    have tN : m_X9_readToldName D = some (0, D2) := by
      simp (disch := omega) only [m_X9_readToldName, ↓bnd_of d5, ↓gd_t, ↓reduceIte]
    have eC : rowC D = some (0, D2) := by
      simp (disch := omega) only [rowC, ↓bnd_of tN, ↓gd_t, ↓reduceIte]
    have z' : LZ D2 (sF E2 73 19 (b2 : Int)) n T := ⟨⟨_, d2⟩, g2.2.1, by rw [d6, sF1, if_pos ⟨rfl, rfl⟩]⟩
    have eR : (m_X11_rowLine E).bind m_X11_line_83 = some (sF E2 73 19 (b2 : Int)) := by
      simp (disch := omega) only [m_X11_rowLine, ↓ob_of w1, ↓bnd_of eN, ↓gd_t, ↓reduceIte, g1, ob_some, Y_83 z']
    rw [eC, eR]
    exact JR.bad d1.go (gR2.trans (LKp.f.go (by simp))) z'
  · rw [if_neg hw] at d5
    obtain ⟨d5, d6⟩ := d5
    have d6' : D2.1 55 8 = -1 := by rw [d6]; exact L1.2.1
    rcases X9_zoneNamed O S2.2.1.1 d2 d3 d4 ⟨wb.1, wb.2⟩ with ⟨z, hz, s1, s2, s3⟩ | ⟨s1, s3⟩
    · have nb := O.2.2.2.2.2.2.1 z hz
      have nm : nmOK T b2 e2 := by
        refine ⟨by omega, by have := s1.1; omega, fun i hi hh => S.2.2.2.1.2.2 z hz i hi ⟨?_, fun k hk => ?_⟩⟩
        · rw [s1.1, hh.1]
        · rw [s1.2 k (by rw [← s1.1]; exact hk)]
          exact hh.2 k (by rw [← hh.1, ← s1.1]; exact hk)
      have eN := y2 nm
      obtain ⟨E3, I3, l3, tl⟩ := X11_told O S2.2.1.2 I2 ⟨nm.1, nm.2.1⟩
      have hzt : m_X11_told E2 = some ((z : Int), E3) := by
        rcases tl with ⟨z', u1, u2, u3, u4⟩ | ⟨u1, u2⟩
        · have : z' = z := by
            rcases Nat.lt_trichotomy z' z with h | h | h
            · exact absurd u2 (s2 z' h)
            · exact h
            · exact absurd s1 (u3 z h)
          rw [this] at u4
          exact u4
        · exact absurd s1 (u1 z hz)
      clear tl
      obtain ⟨E4, v1, I4, l4⟩ := I3.many
      have k5 : LKp E4 (sF E4 73 16 (e2 : Int)) [16] := LKp.f
      have kE : LKp E (sF E4 73 16 (e2 : Int)) [16, 17, 19] := ((w2.trans l2).trans (l3.trans (l4.trans k5))).mono (by simp)
      have L5 : LX D2 (sF E4 73 16 (e2 : Int)) n T e2 := ⟨⟨d2, I4.1.to k5 (by simp) (by rw [sF1, if_pos ⟨rfl, rfl⟩]) wb.2⟩, d6', by rw [sF1, if_neg (by omega)]; exact I4.2.2.1⟩
      have J := J_runs (b := b) (v := (z : Int)) L5 (S.lex d1 kE (by simp) (by simp)) (by omega) (by omega)
      have e16 : E3.1 73 16 + ((e2 - b2 : Nat) : Int) = (e2 : Int) := by rw [I3.1.2.2.2.1]; omega
      have zn : ¬ (z : Int) = -1 := by omega
      have tN : m_X9_readToldName D = some (1, D2) := by
        simp (disch := omega) only [m_X9_readToldName, ↓bnd_of d5, ↓gd_t, ↓if_f, ↓ob_of s3]
      have eC : rowC D = m_X9_readRuns (z : Int) D2 := by
        simp (disch := omega) only [rowC, ↓bnd_of tN, ↓gd_t, ↓if_f, ↓ob_of s3, J.i01]
      have eR : (m_X11_rowLine E).bind m_X11_line_83 = (m_X11_runs (z : Int) (sF E4 73 16 (e2 : Int))).bind m_X11_line_83 := by
        have h1 : m_X11_rowLine E = (m_X11_runs (z : Int) (sF E4 73 16 (e2 : Int))).bind (fun D51 => some D51) := by
          simp (disch := omega) only [m_X11_rowLine, ↓ob_of w1, ↓bnd_of eN, ↓gd_t, ↓if_f, ↓bnd_of hzt, m_X11_rowLine_21, ↓bnd_of v1, sq_eq, e16]
        rw [h1]
        cases m_X11_runs (z : Int) (sF E4 73 16 (e2 : Int)) <;> rfl
      rw [eC, eR]
      exact J.pre d1.go kE.go3
    · have tN : m_X9_readToldName D = some (0, sF D2 55 8 (b2 : Int)) := by
        simp (disch := omega) only [m_X9_readToldName, ↓bnd_of d5, ↓gd_t, ↓if_f, ↓ob_of s3, ↓reduceIte, ↓bnd_of fC]
      have eC : rowC D = some (0, sF D2 55 8 (b2 : Int)) := by
        simp (disch := omega) only [rowC, ↓bnd_of tN, ↓gd_t, ↓reduceIte]
      rw [eC]
      rcases Classical.em (nmOK T b2 e2) with nm | nm
      · have eN := y2 nm
        obtain ⟨E3, I3, l3, tl⟩ := X11_told O S2.2.1.2 I2 ⟨nm.1, nm.2.1⟩
        have hzt : m_X11_told E2 = some (-1, E3) := by
          rcases tl with ⟨z', u1, u2, u3, u4⟩ | ⟨u1, u2⟩
          · exact absurd u2 (s1 z' u1)
          · exact u2
        clear tl
        obtain ⟨g1, g2⟩ := bad21 E3 I3
        have eR : (m_X11_rowLine E).bind m_X11_line_83 = some (sF E3 73 19 (b2 : Int)) := by
          simp (disch := omega) only [m_X11_rowLine, ↓ob_of w1, ↓bnd_of eN, ↓gd_t, ↓if_f, ↓bnd_of hzt, g1, ob_some, Y_83 g2]
        rw [eR]
        exact JR.bad gFC (gR2.trans (l3.go2.trans (LKp.f.go (by simp)))) g2
      · have eN := nn2 nm
        obtain ⟨g1, g2⟩ := bad21 E2 I2
        have eR : (m_X11_rowLine E).bind m_X11_line_83 = some (sF E2 73 19 (b2 : Int)) := by
          simp (disch := omega) only [m_X11_rowLine, ↓ob_of w1, ↓bnd_of eN, ↓gd_t, ↓reduceIte, g1, ob_some, Y_83 g2]
        rw [eR]
        exact JR.bad gFC (gR2.trans (LKp.f.go (by simp))) g2
theorem J_line {D E : DT} {n p : Nat} {T : Nat → Int} {R : RS} {t : Int} {Q : MS} (L : LX D E n T p) (S : DS D E R t Q) : JR D E n T R p (m_X9_readLine D) (m_X11_line E) := by
  have O := S.2.2.2.1.1
  have n400 := L.1.1.1.1
  obtain ⟨D1, d1, d2, d3, d4, d5⟩ := X9_readWord L.1.1
  obtain ⟨E1, u1, u2, u3, u4⟩ := X11_blanks L.1.2
  have fE1 : E1.1 73 19 = -1 := by rw [u3.1 73 19 (by simp)]; exact L.2.2
  have hb := skp_b (T := T) L.1.1.2.2.2.2
  have wb := wnd_b (T := T) hb.2
  have I1 : IW E1 n T (skp n T p) (wnd n T (skp n T p)) := ⟨u2, u4, fE1, skp_skp L.1.1.2.2.2.2, rfl⟩
  generalize skp n T p = b at *
  generalize wnd n T b = e at *
  refine JR.le (b := b) ?_ hb.1
  obtain ⟨E2, I2, l2, y2, z2⟩ := I1.is 1 14 rfl
  obtain ⟨E3, I3, l3, y3, z3⟩ := I2.is 2 15 rfl
  obtain ⟨E4, I4, l4, y4, z4⟩ := I3.is 4 17 rfl
  obtain ⟨E5, I5, l5, y5, z5⟩ := I4.is 5 18 rfl
  by_cases hw : e = b
  · rw [if_pos hw] at d5
    obtain ⟨d5, d6⟩ := d5
    have c1 : ¬ isW T b e (strB 1) := fun hh => by have := hh.1; rw [show (strB 1).length = 6 from rfl] at this; omega
    have c2 : ¬ isW T b e (strB 2) := fun hh => by have := hh.1; rw [show (strB 2).length = 4 from rfl] at this; omega
    have c4 : ¬ isW T b e (strB 4) := fun hh => by have := hh.1; rw [show (strB 4).length = 3 from rfl] at this; omega
    have c5 : ¬ isW T b e (strB 5) := fun hh => by have := hh.1; rw [show (strB 5).length = 3 from rfl] at this; omega
    have f := mkLZ d2 I5.1 hb.2 I5.2.2.1
    have f2 : m_X11_failsAt (E5.1 73 17) E5 = some (sF E5 73 19 (b : Int)) := by rw [I5.2.1]; exact f.2.1
    have z' : LZ D1 (sF E5 73 19 (b : Int)) n T := ⟨⟨_, d2⟩, f.2.2.2.1, by rw [d6, sF1, if_pos ⟨rfl, rfl⟩]⟩
    have eC : m_X9_readLine D = some (0, D1) := by
      simp (disch := omega) only [m_X9_readLine, ↓bnd_of d5, ↓gd_t, ↓reduceIte]
    have eR : m_X11_line E = some (sF E5 73 19 (b : Int)) := by
      simp (disch := omega) only [m_X11_line, ↓ob_of u1, ↓bnd_of (z2 c1), ↓bnd_of (z3 c2), ↓bnd_of (z4 c4), ↓bnd_of (z5 c5), ↓gd_t, ↓reduceIte, ↓ob_of f2, Y_83 z']
    rw [eC, eR]
    exact JR.bad d1.go (u3.go2.trans (l2.go2.trans (l3.go2.trans (l4.go2.trans (l5.go2.trans (LKp.f.go (by simp))))))) z'
  · rw [if_neg hw] at d5
    obtain ⟨d5, d6⟩ := d5
    have d6' : D1.1 55 8 = -1 := by rw [d6]; exact L.2.1
    have mkW : ∀ E', IW E' n T b e → LW D1 E' n T b e := fun E' I => ⟨⟨d2, I.1⟩, ⟨d6', I.2.2.1⟩, ⟨d3, d4, I.2.1⟩, by omega, wb.2, I.2.2.2.1, I.2.2.2.2⟩
    have wd := fun i => X9_wordIs i d2 d3 d4 ⟨wb.1, wb.2⟩
    rcases isW_dec T b e (strB 1) with c1 | c1
    · have J := line_groups (mkW E2 I2) (S.lex d1 (u3.trans l2) (by simp) (by simp)) c1
      have eC : m_X9_readLine D = m_X9_readGroups D1 := by
        simp (disch := omega) only [m_X9_readLine, ↓bnd_of d5, ↓gd_t, ↓if_f, ↓ob_of ((wd 1).1 c1), J.r01]
      have eR : m_X11_line E = (m_X11_groupsLine E2).bind m_X11_line_83 := by
        simp (disch := omega) only [m_X11_line, ↓ob_of u1, ↓bnd_of (y2 c1), ↓gd_t, ↓if_f]
      rw [eC, eR]
      exact J.pre d1.go (u3.go2.trans l2.go2)
    · rcases isW_dec T b e (strB 2) with c2 | c2
      · have J := line_zone (mkW E3 I3) (S.lex d1 (u3.trans (l2.trans l3)) (by simp) (by simp)) c2
        have eC : m_X9_readLine D = m_X9_readZone D1 := by
          simp (disch := omega) only [m_X9_readLine, ↓bnd_of d5, ↓gd_t, ↓if_f, ↓ob_of ((wd 1).2 c1), ↓reduceIte, ↓ob_of ((wd 2).1 c2), J.r01]
        have eR : m_X11_line E = (m_X11_zoneLine E3).bind m_X11_line_83 := by
          simp (disch := omega) only [m_X11_line, ↓ob_of u1, ↓bnd_of (z2 c1), ↓bnd_of (y3 c2), ↓gd_t, ↓reduceIte, ↓if_f]
        rw [eC, eR]
        exact J.pre d1.go (u3.go2.trans (l2.go2.trans l3.go2))
      · rcases isW_dec T b e (strB 4) with c4 | c4
        · have J := line_row (mkW E4 I4) (S.lex d1 (u3.trans (l2.trans (l3.trans l4))) (by simp) (by simp)) c4
          have eC : m_X9_readLine D = rowC D1 := by
            unfold rowC
            simp (disch := omega) only [m_X9_readLine, ↓bnd_of d5, ↓gd_t, ↓if_f, ↓ob_of ((wd 1).2 c1), ↓reduceIte, ↓ob_of ((wd 2).2 c2), ↓ob_of ((wd 4).1 c4)]
          have eR : m_X11_line E = (m_X11_rowLine E4).bind m_X11_line_83 := by
            simp (disch := omega) only [m_X11_line, ↓ob_of u1, ↓bnd_of (z2 c1), ↓bnd_of (z3 c2), ↓bnd_of (y4 c4), ↓gd_t, ↓reduceIte, ↓if_f]
          rw [eC, eR]
          exact J.pre d1.go (u3.go2.trans (l2.go2.trans (l3.go2.trans l4.go2)))
        · have gR5 : RGo E E5 := u3.go2.trans (l2.go2.trans (l3.go2.trans (l4.go2.trans l5.go2)))
          have S5 := S.lex d1 (u3.trans (l2.trans (l3.trans (l4.trans l5)))) (by simp) (by simp)
          rcases isW_dec T b e (strB 5) with c5 | c5
          · obtain ⟨E6, w1, w2, L1⟩ := (mkW E5 I5).word 5 18 rfl c5
            have J := J_runs (b := b) (v := -1) L1 (S5.lex (TKp.refl D1 []) w2 (by simp) (by simp)) (by omega) (by omega)
            have eC : m_X9_readLine D = m_X9_readRuns (-1) D1 := by
              simp (disch := omega) only [m_X9_readLine, ↓bnd_of d5, ↓gd_t, ↓if_f, ↓ob_of ((wd 1).2 c1), ↓reduceIte, ↓ob_of ((wd 2).2 c2), ↓ob_of ((wd 4).2 c4), ↓ob_of ((wd 5).1 c5), J.r01]
            have eR : m_X11_line E = (m_X11_runs (-1) E6).bind m_X11_line_83 := by
              simp (disch := omega) only [m_X11_line, ↓ob_of u1, ↓bnd_of (z2 c1), ↓bnd_of (z3 c2), ↓bnd_of (z4 c4), ↓bnd_of (y5 c5), ↓gd_t, ↓reduceIte, ↓if_f, ↓ob_of w1]
            rw [eC, eR]
            exact J.pre d1.go (gR5.trans w2.go3)
          · obtain ⟨F1, F2, F3, F4, F5⟩ := (mkW E5 I5).fail
            have eC : m_X9_readLine D = some (0, sF D1 55 8 (b : Int)) := by
              simp (disch := omega) only [m_X9_readLine, ↓bnd_of d5, ↓gd_t, ↓if_f, ↓ob_of ((wd 1).2 c1), ↓reduceIte, ↓ob_of ((wd 2).2 c2), ↓ob_of ((wd 4).2 c4), ↓ob_of ((wd 5).2 c5), ↓bnd_of F1, true_or, gd_T]
            have eR : m_X11_line E = some (sF E5 73 19 (b : Int)) := by
              simp (disch := omega) only [m_X11_line, ↓ob_of u1, ↓bnd_of (z2 c1), ↓bnd_of (z3 c2), ↓bnd_of (z4 c4), ↓bnd_of (z5 c5), ↓gd_t, ↓reduceIte, ↓ob_of F2, Y_83 F3]
            rw [eC, eR]
            exact JR.bad (d1.go.trans F4) (gR5.trans F5) F3
