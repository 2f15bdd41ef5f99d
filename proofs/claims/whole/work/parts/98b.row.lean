/-! ===== both read: a run, runs, a row, a line ===== -/
theorem J_run {D E : DT} {n p y : Nat} {T : Nat → Int} {R : RS} {t v : Int} {Q : MS} (L : LX D E n T p) (S : DS D E R t Q) (hv : -1 ≤ v ∧ v < (mZ Q : Int)) (hy : y < mH Q) : ∃ D' E', CGo D D' ∧ RGo E E' ∧ ((m_X9_readRun v (y : Int) D = some (1, D') ∧ ∃ q Q', p < q ∧ Q'.1 = Q.1 ∧ LX D' E' n T q ∧ DS D' E' R t Q' ∧ m_X11_runs_27 v ((y * mW Q : Nat) : Int) E = refc v ((y * mW Q : Nat) : Int) E') ∨ (m_X9_readRun v (y : Int) D = some (0, D') ∧ LZ D' E' n T ∧ m_X11_runs_27 v ((y * mW Q : Nat) : Int) E = some E')) := by
  have O := S.2.2.2.1.1
  have n4 := nCb O
  have z8 := O.2.2.1
  have w24 := O.2.1
  have n400 := L.1.1.1.1
  have cell : ∀ x, x < mW Q → y * mW Q + x < nC Q := fun x hx => by
    have : (y + 1) * mW Q ≤ mH Q * mW Q := Nat.mul_le_mul_right _ hy
    rw [Nat.add_mul, Nat.one_mul] at this
    show y * mW Q + x < mW Q * mH Q
    rw [Nat.mul_comm (mW Q)]
    omega
  have ey : (y : Int) * (mW Q : Int) = ((y * mW Q : Nat) : Int) := by simp
  have eW : D.1 56 0 = (mW Q : Int) := S.2.1.1.1.1.1
  have hb := skp_b (T := T) L.1.1.2.2.2.2
  obtain ⟨E0, u1, u2, u3, u4⟩ := X11_blanks L.1.2
  have fE0 : E0.1 73 19 = -1 := by rw [u3.1 73 19 (by simp)]; exact L.2.2
  have eW0 : E0.2 77 0 = (mW Q : Int) := by rw [u3.2]; exact S.2.1.2.1.1
  obtain ⟨D1, E1, v1, n1, n2, ⟨n3, n3'⟩, k1, l1, n6⟩ := J_number (lo := 0) (hi := (mW Q : Int) - 1) (by omega) (by omega) L.1.1 u2 (skp_skp L.1.1.2.2.2.2) L.2.1 fE0
  generalize hB : skp n T p = b at *
  generalize hyw : y * mW Q = yw at *
  have gR1 : RGo E E1 := u3.go2.trans l1.go3
  have S1 := S.lex k1 ((u3.trans l1).mono (ls := [16, 17, 19]) (by simp)) (by simp) (by simp)
  rcases n6 with ⟨m1, ⟨p1, hp1, L1⟩, m3, m4⟩ | ⟨m1, L1⟩
  · obtain ⟨x1, hx1⟩ : ∃ x1 : Nat, v1 = (x1 : Int) := ⟨v1.toNat, by omega⟩
    subst hx1
    have q1 := X11_hasF_n L1.2.2
    have eW1 : D1.1 56 0 = (mW Q : Int) := S1.2.1.1.1.1.1
    have c1 := cell x1 (by omega)
    have kk1 : (yw : Int) + (x1 : Int) = ((yw + x1 : Nat) : Int) := by omega
    obtain ⟨o1, o2⟩ := X9_isOfAnother O S1.2.1.1 c1 hv
    obtain ⟨r1, r2⟩ := X11_isOther O S1.2.1.2 c1 hv
    rcases Classical.em (otherQ Q v (yw + x1)) with s | s
    · have g1 := o1 s
      have g2 := r1 s
      obtain ⟨f1, f2, f3⟩ := mkLZ L1.1.1 L1.1.2 hb.2 L1.2.2
      obtain ⟨E', e1, e2, e3, e4⟩ := Y_runs75 (v1 := v) (v2 := (yw : Int)) (v3 := (b : Int)) (v4 := (x1 : Int)) f3.2.1 (by omega)
      refine ⟨sF D1 55 8 (b : Int), E', k1.go.trans TKp.f.go, gR1.trans ((LKp.f.go (by simp)).trans e4), Or.inr ⟨?_, ⟨f3.1, e2, by rw [e3]; exact f3.2.2⟩, ?_⟩⟩
      · simp (disch := omega) only [m_X9_readRun, eW, ↓bnd_of m1, gd_t, if_f, eW1, n3, n3', ey, kk1, ↓ob_of g1, ↓bnd_of f1, true_or, gd_T]
      · unfold m_X11_runs_27
        refine loopF_inr ?_
        simp (disch := omega) only [↓ob_of u1, ↓gd_t, t0, eW0, ↓bnd_of n1, ↓ob_of q1, ↓reduceIte, kk1, ↓ob_of g2, ↓if_f, u4, ↓ob_of f2, e1]
    · have g1 := o2 s
      have g2 := r2 s
      have st27 : ∀ X, m_X11_runs_75 v (yw : Int) (b : Int) (x1 : Int) E1 = X → (fun s : DT =>
  (m_X11_blanks s).bind (fun D28 =>
  gd ((0 : Int) ≤ 0 ∧ 0 < (4 : Int)) (
  bnd (m_X11_number 0 ((D28.2 77 (Int.toNat 0)) - 1) D28) (fun r46 D46 =>
  (m_X11_hasFailed D46).bind (fun r52 =>
  gd (InR r52) (if r52 = 0 then (
    (m_X11_isOther ((yw : Int) + r46) v D46).bind (fun r64 =>
    gd (InR r64) (if r64 = 0 then (
      m_X11_runs_75 v (yw : Int) (D28.1 73 17) r46 D46
    ) else (
      (m_X11_failsAt (D28.1 73 17) D46).bind (fun D72 =>
      m_X11_runs_75 v (yw : Int) (D28.1 73 17) r46 D72
      )
    ))
    )
  ) else (
    m_X11_runs_75 v (yw : Int) (D28.1 73 17) r46 D46
  ))
  ))))) E = X := fun X hX => by
        simp (disch := omega) only [↓ob_of u1, ↓gd_t, t0, eW0, ↓bnd_of n1, ↓ob_of q1, ↓reduceIte, kk1, ↓ob_of g2, u4, hX]
      obtain ⟨D2, E2, w1, k2, l2, w4⟩ := J_sign (c := 45) (by omega) L1
      have gR2 := gR1.trans l2.go3
      have gC2 := k1.go.trans k2.go
      rcases w4 with ⟨x5, p2, hp2, L2⟩ | ⟨x5, L2⟩
      · have S2 := S1.lex k2 l2 (by simp) (by simp)
        have eW2 : D2.1 56 0 = (mW Q : Int) := S2.2.1.1.1.1.1
        have eWr : E2.2 77 0 = (mW Q : Int) := S2.2.1.2.1.1
        obtain ⟨D3, E3, v2, i1, i2, ⟨i3, i3'⟩, k3, l3, i6⟩ := J_number (lo := (x1 : Int)) (hi := (mW Q : Int) - 1) (by omega) (by omega) L2.1.1 L2.1.2 rfl L2.2.1 L2.2.2
        have gR3 := gR2.trans l3.go3
        have gC3 := gC2.trans k3.go
        rcases i6 with ⟨i7, ⟨p3, hp3, L3⟩, i8, i9⟩ | ⟨i7, L3⟩
        · obtain ⟨x2, hx2⟩ : ∃ x2 : Nat, v2 = (x2 : Int) := ⟨v2.toNat, by omega⟩
          subst hx2
          have S3 := S2.lex k3 l3 (by simp) (by simp)
          have c2 := cell x2 (by omega)
          have eC0 : m_X9_readRun v (y : Int) D = m_X9_readRun_97 v (x1 : Int) (b : Int) (yw : Int) (x2 : Int) D3 (x1 : Int) := by
            simp (disch := omega) only [m_X9_readRun, eW, ↓bnd_of m1, gd_t, if_f, eW1, n3, n3', ey, kk1, ↓ob_of g1, ↓reduceIte, ↓bnd_of x5, eW2, ↓bnd_of i7, i3]
          have e75 : m_X11_runs_75 v (yw : Int) (b : Int) (x1 : Int) E1 = m_X11_runs_101 v (yw : Int) (b : Int) (x1 : Int) (x2 : Int) ((x1 : Int), E3) := by
            simp (disch := omega) only [m_X11_runs_75, ↓ob_of w1, ↓gd_t, t0, eWr, ↓bnd_of i1]
          obtain ⟨a1, a2⟩ := X9_run97 (x1 := x1) (x2 := x2) (y := yw) (b := b) O S3.2.1.1 hv c2 (x2 + 1 - x1) x1 (Nat.le_refl _) (by omega) (fun j h1 h2 => by omega)
          obtain ⟨b1, b2⟩ := X11_run101 (x1 := x1) (x2 := x2) (y := yw) (b := b) O S3.2.1.2 L3.1.2 L3.2.2 hb.2 hv c2 (by omega) (x2 + 1 - x1) x1 (Nat.le_refl _) (by omega) (fun j h1 h2 => by omega)
          rcases Classical.em (∀ j, x1 ≤ j → j ≤ x2 → ¬ otherQ Q v (yw + j)) with al | al
          · have aC := a1 al
            have aR := b1 al
            obtain ⟨D4, d1, d2⟩ := X9_mark (v := v) (a := yw + x1) (D := D3) (by omega) (x2 + 1 - x1) (yw + x1) D3 (yw + x2) (Nat.le_refl _) (by omega) (by omega) (MK.z _ _ _ _)
            obtain ⟨E4, e1, e2⟩ := X11_marks (v := v) (y := yw) (a := x1) (E := E3) (by omega) L3.2.2 (x2 + 1 - x1) x1 E3 x2 (Nat.le_refl _) (by omega) (by omega) (MK.z _ _ _ _)
            obtain ⟨S4, gC4, gR4⟩ := S3.mark hv d2 e2
            have kk2 : (yw : Int) + (x2 : Int) = ((yw + x2 : Nat) : Int) := by omega
            have mk : m_X9_mark v ((yw : Int) + (x1 : Int)) ((yw : Int) + (x2 : Int)) D3 = some D4 := by
              rw [kk1, kk2]
              exact d1
            have qa : (if v = -1 then 58 else 57) = 58 ∨ (if v = -1 then 58 else 57) = 57 := by split <;> omega
            have qb : (if v = -1 then 81 else 79) = 81 ∨ (if v = -1 then 81 else 79) = 79 := by split <;> omega
            have L4 : LX D4 E4 n T p3 := by
              refine ⟨⟨⟨L3.1.1.1, by rw [d2.1]; exact L3.1.1.2.1, fun k hk => ?_, by rw [d2.1]; exact L3.1.1.2.2.2⟩, ⟨L3.1.2.1, by rw [e2.1]; exact L3.1.2.2.1, fun k hk => ?_, by rw [e2.1]; exact L3.1.2.2.2.2⟩⟩, by rw [d2.1]; exact L3.2.1, by rw [e2.1]; exact L3.2.2⟩
              · rw [d2.2, if_neg (by omega)]; exact L3.1.1.2.2.1 k hk
              · rw [e2.2, if_neg (by omega)]; exact L3.1.2.2.2.1 k hk
            refine ⟨D4, E4, gC3.trans gC4, gR3.trans gR4, Or.inl ⟨?_, p3, markQ Q v (yw + x1) (yw + x2 + 1), by omega, rfl, L4, S4, ?_⟩⟩
            · rw [eC0, aC, mk]
              rfl
            · obtain ⟨E5, t1, t2, t3, t4⟩ := X11_takes (c := 44) (by omega) L4.1.2 L4.2.2
              have e75' : m_X11_runs_75 v (yw : Int) (b : Int) (x1 : Int) E1 = bnd (m_X11_takes 44 E4) (fun r193 D193 => gd (InR r193) (if r193 = 0 then (done (some D193)) else (some (.inl D193)))) := by rw [e75, aR, e1]
              unfold refc
              rcases Classical.em (sgn n T p3 44) with sg | sg
              · obtain ⟨t5, t6⟩ := t3 sg
                rw [t5] at e75' ⊢
                have e75'' : m_X11_runs_75 v (yw : Int) (b : Int) (x1 : Int) E1 = some (.inl E5) := by
                  rw [e75']
                  simp (disch := omega) only [bnd_some, gd_t, if_f]
                simp (disch := omega) only [bnd_some, if_f]
                exact loopF_inl (st27 _ e75'')
              · obtain ⟨t5, t6⟩ := t4 sg
                rw [t5] at e75' ⊢
                have e75'' : m_X11_runs_75 v (yw : Int) (b : Int) (x1 : Int) E1 = some (.inr E5) := by
                  rw [e75']
                  simp (disch := omega) only [bnd_some, gd_t, ↓reduceIte, done_some]
                simp (disch := omega) only [bnd_some, ↓reduceIte]
                exact loopF_inr (st27 _ e75'')
          · have aC := a2 al
            obtain ⟨E4, e1, e2, e3, e4⟩ := b2 al
            have f1 := mkLZ L3.1.1 L3.1.2 hb.2 L3.2.2
            refine ⟨sF D3 55 8 (b : Int), E4, gC3.trans TKp.f.go, gR3.trans e4, Or.inr ⟨by rw [eC0]; exact aC, ⟨f1.2.2.1, e2, by rw [e3, sF1, if_pos ⟨rfl, rfl⟩]⟩, ?_⟩⟩
            exact loopF_inr (st27 _ (by rw [e75]; exact e1))
        · obtain ⟨E4, e1, e2, e3, e4⟩ := Y_runs101 (v1 := v) (v2 := (yw : Int)) (v3 := (b : Int)) (v4 := (x1 : Int)) (v5 := v2) (x := (x1 : Int)) L3.2.1 (by omega) (by omega) (by omega)
          have e75 : m_X11_runs_75 v (yw : Int) (b : Int) (x1 : Int) E1 = some (.inr E4) := by
            simp (disch := omega) only [m_X11_runs_75, ↓ob_of w1, ↓gd_t, t0, eWr, ↓bnd_of i1, e1]
          refine ⟨D3, E4, gC3, gR3.trans e4, Or.inr ⟨?_, ⟨L3.1, e2, by rw [e3]; exact L3.2.2⟩, loopF_inr (st27 _ e75)⟩⟩
          simp (disch := omega) only [m_X9_readRun, eW, ↓bnd_of m1, gd_t, if_f, eW1, n3, n3', ey, kk1, ↓ob_of g1, ↓reduceIte, ↓bnd_of x5, eW2, ↓bnd_of i7]
      · obtain ⟨E4, e1, e2, e3, e4⟩ := Y_runs101 (v1 := v) (v2 := (yw : Int)) (v3 := (b : Int)) (v4 := (x1 : Int)) (v5 := 0) (x := (x1 : Int)) L2.2.1 (by omega) (by omega) (by omega)
        have e75 : m_X11_runs_75 v (yw : Int) (b : Int) (x1 : Int) E1 = some (.inr E4) := by
          simp (disch := omega) only [m_X11_runs_75, ↓ob_of w1, ↓gd_t, Y_number L2.2.1, bnd_some, e1]
        refine ⟨D2, E4, gC2, gR2.trans e4, Or.inr ⟨?_, ⟨L2.1, e2, by rw [e3]; exact L2.2.2⟩, loopF_inr (st27 _ e75)⟩⟩
        simp (disch := omega) only [m_X9_readRun, eW, ↓bnd_of m1, gd_t, if_f, eW1, n3, n3', ey, kk1, ↓ob_of g1, ↓reduceIte, ↓bnd_of x5]
  · have q1 := X11_hasF_y L1.2.1.2
    obtain ⟨E', e1, e2, e3, e4⟩ := Y_runs75 (v1 := v) (v2 := (yw : Int)) (v3 := (b : Int)) (v4 := v1) L1.2.1 (by omega)
    refine ⟨D1, E', k1.go, gR1.trans e4, Or.inr ⟨?_, ⟨L1.1, e2, by rw [e3]; exact L1.2.2⟩, ?_⟩⟩
    · simp (disch := omega) only [m_X9_readRun, eW, ↓bnd_of m1, gd_t, ↓reduceIte]
    · unfold m_X11_runs_27
      refine loopF_inr ?_
      simp (disch := omega) only [↓ob_of u1, ↓gd_t, t0, eW0, ↓bnd_of n1, ↓ob_of q1, ↓if_f, u4, e1]
theorem J_more {n b y : Nat} {T : Nat → Int} {R : RS} {t v : Int} {w : Nat} : ∀ (m p r : Nat) (D E : DT) (Q : MS), n - p ≤ m → b < p → r < p → LX D E n T p → DS D E R t Q → (-1 ≤ v ∧ v < (mZ Q : Int)) → y < mH Q → mW Q = w → JR D E n T R b (m_X9_readRuns_46 v (y : Int) ((r : Int), D)) ((refc v ((y * w : Nat) : Int) E).bind m_X11_line_83) := by
  intro m
  induction m with
  | zero =>
    intro p r D E Q hm hb hr L S hv hy hw
    have n400 := L.1.1.1.1
    have pn := L.1.1.2.2.2.2
    have hs : ¬ sgn n T p 44 := fun hh => by
      have := skp_b (T := T) pn
      have := hh.1
      omega
    obtain ⟨D1, d1, d2, d3, d4⟩ := X9_nextIs (c := 44) (by omega) L.1.1
    obtain ⟨E1, e1, e2, e3, e4⟩ := X11_takes (c := 44) (by omega) L.1.2 L.2.2
    have g1 := d4 hs
    obtain ⟨g2, g3⟩ := e4 hs
    have hsb := skp_b (T := T) pn
    have je := J_end (b := b) (R := R) (t := t) (Q := Q) (p := skp n T p) (D := D1) (E := E1) (n := n) (T := T) ⟨⟨d2, g3⟩, by rw [d1.1 55 8 (by simp)]; exact L.2.1, by rw [e1.1 73 19 (by simp)]; exact L.2.2⟩ (S.lex d1 e1 (by simp) (by simp)) (by omega)
    have eC : m_X9_readRuns_46 v (y : Int) ((r : Int), D) = m_X9_readSign 59 D1 := by
      unfold m_X9_readRuns_46
      refine loopF_dn ?_
      simp (disch := omega) only [↓gd_t, ↓if_t, ↓bnd_of g1, ↓reduceIte, je.r01]
    have eR : (refc v ((y * w : Nat) : Int) E).bind m_X11_line_83 = m_X11_line_83 E1 := by
      simp (disch := omega) only [refc, ↓bnd_of g2, ↓reduceIte, ob_some]
    rw [eC, eR]
    exact je.pre d1.go e1.go2
  | succ m ih =>
    intro p r D E Q hm hb hr L S hv hy hw
    have n400 := L.1.1.1.1
    have pn := L.1.1.2.2.2.2
    have hsb := skp_b (T := T) pn
    obtain ⟨D1, d1, d2, d3, d4⟩ := X9_nextIs (c := 44) (by omega) L.1.1
    obtain ⟨E1, e1, e2, e3, e4⟩ := X11_takes (c := 44) (by omega) L.1.2 L.2.2
    have f1 : D1.1 55 8 = -1 := by rw [d1.1 55 8 (by simp)]; exact L.2.1
    have f2 : E1.1 73 19 = -1 := by rw [e1.1 73 19 (by simp)]; exact L.2.2
    rcases Classical.em (sgn n T p 44) with hs | hs
    · have g1 := d3 hs
      obtain ⟨g2, g3⟩ := e3 hs
      have g2n := hs.1
      have k2 : TKp D (sF D1 55 3 ((skp n T p : Int) + 1)) [3] := (d1.trans TKp.f).mono (by simp)
      have L1 : LX (sF D1 55 3 ((skp n T p : Int) + 1)) E1 n T (skp n T p + 1) := ⟨⟨d2.to TKp.f (by simp) (by rw [sF1, if_pos ⟨rfl, rfl⟩]; rfl) (by omega), g3⟩, by rw [sF1, if_neg (by omega)]; exact f1, f2⟩
      have S1 := S.lex k2 e1 (by simp) (by simp)
      obtain ⟨D2, E2, x1, x2, x3⟩ := J_run L1 S1 hv hy
      rw [hw] at x3
      have e33 : D1.1 55 3 = (skp n T p : Int) := d2.2.2.2.1
      have eR : refc v ((y * w : Nat) : Int) E = m_X11_runs_27 v ((y * w : Nat) : Int) E1 := by
        unfold refc
        simp (disch := omega) only [↓bnd_of g2, if_f]
      rw [eR]
      rcases x3 with ⟨x4, q, Q', x5, x6, x7, x8, x9⟩ | ⟨x4, x5, x6⟩
      · have eC : m_X9_readRuns_46 v (y : Int) ((r : Int), D) = m_X9_readRuns_46 v (y : Int) (((r + 1 : Nat) : Int), D2) := by
          unfold m_X9_readRuns_46
          refine loopF_inl ?_
          have c1 : ((r + 1 : Nat) : Int) = (r : Int) + 1 := rfl
          simp (disch := omega) only [↓gd_t, ↓if_t, ↓bnd_of g1, ↓if_f, sq_eq, e33, ↓bnd_of x4, c1]
        rw [eC, x9]
        have hz : mZ Q' = mZ Q := by show Q'.1.2.2.1 = _; rw [x6]
        have hh : mH Q' = mH Q := by show Q'.1.2.1 = _; rw [x6]
        have hw' : mW Q' = mW Q := by show Q'.1.1 = _; rw [x6]
        exact (ih q (r + 1) D2 E2 Q' (by omega) (by omega) (by omega) x7 x8 (by rw [hz]; exact hv) (by rw [hh]; exact hy) (by rw [hw']; exact hw)).pre (k2.go.trans x1) (e1.go2.trans x2)
      · have eC : m_X9_readRuns_46 v (y : Int) ((r : Int), D) = some (0, D2) := by
          unfold m_X9_readRuns_46
          refine loopF_inr ?_
          simp (disch := omega) only [↓gd_t, ↓if_t, ↓bnd_of g1, ↓if_f, sq_eq, e33, ↓bnd_of x4, ↓reduceIte, done_some]
        rw [eC, x6, ob_some, Y_83 x5]
        exact JR.bad (k2.go.trans x1) (e1.go2.trans x2) x5
    · have g1 := d4 hs
      obtain ⟨g2, g3⟩ := e4 hs
      have je := J_end (b := b) (R := R) (t := t) (Q := Q) (p := skp n T p) (D := D1) (E := E1) (n := n) (T := T) ⟨⟨d2, g3⟩, f1, f2⟩ (S.lex d1 e1 (by simp) (by simp)) (by omega)
      have eC : m_X9_readRuns_46 v (y : Int) ((r : Int), D) = m_X9_readSign 59 D1 := by
        unfold m_X9_readRuns_46
        refine loopF_dn ?_
        simp (disch := omega) only [↓gd_t, ↓if_t, ↓bnd_of g1, ↓reduceIte, je.r01]
      have eR : (refc v ((y * w : Nat) : Int) E).bind m_X11_line_83 = m_X11_line_83 E1 := by
        simp (disch := omega) only [refc, ↓bnd_of g2, ↓reduceIte, ob_some]
      rw [eC, eR]
      exact je.pre d1.go e1.go2
theorem J_runs {D E : DT} {n p b : Nat} {T : Nat → Int} {R : RS} {t v : Int} {Q : MS} (L : LX D E n T p) (S : DS D E R t Q) (hb : b < p) (hv : -1 ≤ v ∧ v < (mZ Q : Int)) : JR D E n T R b (m_X9_readRuns v D) ((m_X11_runs v E).bind m_X11_line_83) := by
  have O := S.2.2.2.1.1
  have w24 := O.2.1
  have eH : D.1 56 1 = (mH Q : Int) := S.2.1.1.1.1.2
  have eH' : E.2 77 1 = (mH Q : Int) := S.2.1.2.1.2.1
  obtain ⟨D1, E1, v1, n1, n2, ⟨n3, n3'⟩, k1, l1, n6⟩ := J_number (lo := 0) (hi := (mH Q : Int) - 1) (by omega) (by omega) L.1.1 L.1.2 rfl L.2.1 L.2.2
  rcases n6 with ⟨m1, ⟨p1, hp1, L1⟩, m3, m4⟩ | ⟨m1, L1⟩
  · obtain ⟨y, hy⟩ : ∃ y : Nat, v1 = (y : Int) := ⟨v1.toNat, by omega⟩
    subst hy
    have S1 := S.lex k1 l1 (by simp) (by simp)
    have eW : E1.2 77 0 = (mW Q : Int) := S1.2.1.2.1.1
    have ey : (y : Int) * (mW Q : Int) = ((y * mW Q : Nat) : Int) := by simp
    obtain ⟨D2, E2, w1, k2, l2, w4⟩ := J_sign (c := 58) (by omega) L1
    have eR0 : m_X11_runs v E = m_X11_runs_27 v ((y * mW Q : Nat) : Int) E2 := by
      simp (disch := omega) only [m_X11_runs, ↓gd_t, t1, t0, eH', ↓bnd_of n1, ↓ob_of w1, eW, ey]
    rw [eR0]
    rcases w4 with ⟨x5, p2, hp2, L2⟩ | ⟨x5, L2⟩
    · have S2 := S1.lex k2 l2 (by simp) (by simp)
      obtain ⟨D3, E3, y1, y2, y3⟩ := J_run (y := y) L2 S2 hv (by omega)
      rcases y3 with ⟨y4, q, Q', y5, y6, y7, y8, y9⟩ | ⟨y4, y5, y6⟩
      · have eC : m_X9_readRuns v D = m_X9_readRuns_46 v (y : Int) (1, D3) := by
          simp (disch := omega) only [m_X9_readRuns, eH, ↓bnd_of m1, ↓gd_t, ↓if_f, ↓bnd_of x5, n3, ↓bnd_of y4]
        have hz : mZ Q' = mZ Q := by show Q'.1.2.2.1 = _; rw [y6]
        have hh : mH Q' = mH Q := by show Q'.1.2.1 = _; rw [y6]
        have hw' : mW Q' = mW Q := by show Q'.1.1 = _; rw [y6]
        rw [eC, y9]
        exact (J_more (n - q) q 1 D3 E3 Q' (Nat.le_refl _) (by omega) (by omega) y7 y8 (by rw [hz]; exact hv) (by rw [hh]; omega) hw').pre (k1.go.trans (k2.go.trans y1)) (l1.go3.trans (l2.go3.trans y2))
      · have eC : m_X9_readRuns v D = some (0, D3) := by
          simp (disch := omega) only [m_X9_readRuns, eH, ↓bnd_of m1, ↓gd_t, ↓if_f, ↓bnd_of x5, n3, ↓bnd_of y4, ↓reduceIte]
        rw [eC, y6, ob_some, Y_83 y5]
        exact JR.bad (k1.go.trans (k2.go.trans y1)) (l1.go3.trans (l2.go3.trans y2)) y5
    · obtain ⟨E', e1, e2, e3, e4⟩ := Y_runs27 (v1 := v) (v2 := ((y * mW Q : Nat) : Int)) L2.2.1
      have z' : LZ D2 E' n T := ⟨L2.1, e2, by rw [e3]; exact L2.2.2⟩
      have eC : m_X9_readRuns v D = some (0, D2) := by
        simp (disch := omega) only [m_X9_readRuns, eH, ↓bnd_of m1, ↓gd_t, ↓if_f, ↓bnd_of x5, ↓reduceIte]
      rw [eC, e1, ob_some, Y_83 z']
      exact JR.bad (k1.go.trans k2.go) (l1.go3.trans (l2.go3.trans e4)) z'
  · obtain ⟨E', e1, e2, e3, e4⟩ := Y_runs27 (v1 := v) (v2 := v1 * E1.2 77 0) L1.2.1
    have z' : LZ D1 E' n T := ⟨L1.1, e2, by rw [e3]; exact L1.2.2⟩
    have eC : m_X9_readRuns v D = some (0, D1) := by
      simp (disch := omega) only [m_X9_readRuns, eH, ↓bnd_of m1, ↓gd_t, ↓reduceIte]
    have eR0 : m_X11_runs v E = some E' := by
      simp (disch := omega) only [m_X11_runs, ↓gd_t, t1, t0, eH', ↓bnd_of n1, ↓ob_of (Y_asks (c := 58) L1.2.1), e1]
    rw [eC, eR0, ob_some, Y_83 z']
    exact JR.bad k1.go (l1.go3.trans e4) z'
