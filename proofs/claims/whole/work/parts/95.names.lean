/-! ===== both read: names ===== -/
theorem bnd_of {α β : Type} {X : Option (α × DT)} {a : α} {D : DT} (h : X = some (a, D)) (f : α → DT → Option β) : bnd X f = f a D := by rw [h]; rfl
theorem ob_of {α β : Type} {X : Option α} {a : α} (h : X = some a) (f : α → Option β) : X.bind f = f a := by rw [h]; rfl
def nmOK (T : Nat → Int) (b e : Nat) : Prop := b < e ∧ e - b ≤ 6 ∧ ∀ i, i < 6 → ¬ isW T b e (strB i)
def sameN (Q : MS) (z : Nat) (T : Nat → Int) (b e : Nat) : Prop := mNL Q z = e - b ∧ ∀ k, k < e - b → mN Q (6 * z + k) = T (b + k)
theorem X9_isReserved {D : DT} {n q b e : Nat} {T : Nat → Int} (h : CT D n T q) (h4 : D.1 55 4 = (b : Int)) (h5 : D.1 55 5 = ((e - b : Nat) : Int)) (hbe : b ≤ e ∧ e ≤ n) : ((∃ i, i < 6 ∧ isW T b e (strB i)) → m_X9_isReserved D = some 1) ∧ ((∀ i, i < 6 → ¬ isW T b e (strB i)) → m_X9_isReserved D = some 0) := by
  have w := fun i => X9_wordIs i h h4 h5 hbe
  rcases isW_dec T b e (strB 0) with c0 | c0
  · have g0 := (w 0).1 c0
    refine ⟨fun _ => ?_, fun hn => absurd c0 (hn 0 (by omega))⟩
    simp (disch := omega) only [m_X9_isReserved, m_X9_isReserved_54, ↓ob_of g0, ↓gd_t, ↓reduceIte, ↓if_f]
  have g0 := (w 0).2 c0
  rcases isW_dec T b e (strB 1) with c1 | c1
  · have g1 := (w 1).1 c1
    refine ⟨fun _ => ?_, fun hn => absurd c1 (hn 1 (by omega))⟩
    simp (disch := omega) only [m_X9_isReserved, m_X9_isReserved_54, ↓ob_of g0, ↓ob_of g1, ↓gd_t, ↓reduceIte, ↓if_f]
  have g1 := (w 1).2 c1
  rcases isW_dec T b e (strB 2) with c2 | c2
  · have g2 := (w 2).1 c2
    refine ⟨fun _ => ?_, fun hn => absurd c2 (hn 2 (by omega))⟩
    simp (disch := omega) only [m_X9_isReserved, m_X9_isReserved_54, ↓ob_of g0, ↓ob_of g1, ↓ob_of g2, ↓gd_t, ↓reduceIte, ↓if_f]
  have g2 := (w 2).2 c2
  rcases isW_dec T b e (strB 3) with c3 | c3
  · have g3 := (w 3).1 c3
    refine ⟨fun _ => ?_, fun hn => absurd c3 (hn 3 (by omega))⟩
    simp (disch := omega) only [m_X9_isReserved, m_X9_isReserved_54, ↓ob_of g0, ↓ob_of g1, ↓ob_of g2, ↓ob_of g3, ↓gd_t, ↓reduceIte, ↓if_f]
  have g3 := (w 3).2 c3
  rcases isW_dec T b e (strB 4) with c4 | c4
  · have g4 := (w 4).1 c4
    refine ⟨fun _ => ?_, fun hn => absurd c4 (hn 4 (by omega))⟩
    simp (disch := omega) only [m_X9_isReserved, m_X9_isReserved_54, ↓ob_of g0, ↓ob_of g1, ↓ob_of g2, ↓ob_of g3, ↓ob_of g4, ↓gd_t, ↓reduceIte, ↓if_f]
  have g4 := (w 4).2 c4
  rcases isW_dec T b e (strB 5) with c5 | c5
  · have g5 := (w 5).1 c5
    refine ⟨fun _ => ?_, fun hn => absurd c5 (hn 5 (by omega))⟩
    simp (disch := omega) only [m_X9_isReserved, m_X9_isReserved_54, ↓ob_of g0, ↓ob_of g1, ↓ob_of g2, ↓ob_of g3, ↓ob_of g4, ↓ob_of g5, ↓gd_t, ↓reduceIte, ↓if_f]
  have g5 := (w 5).2 c5
  refine ⟨fun ⟨i, hi, hw⟩ => ?_, fun _ => ?_⟩
  · exfalso
    rcases (show i = 0 ∨ i = 1 ∨ i = 2 ∨ i = 3 ∨ i = 4 ∨ i = 5 by omega) with r | r | r | r | r | r
    · subst r; exact c0 hw
    · subst r; exact c1 hw
    · subst r; exact c2 hw
    · subst r; exact c3 hw
    · subst r; exact c4 hw
    · subst r; exact c5 hw
  · simp (disch := omega) only [m_X9_isReserved, ↓ob_of g0, ↓ob_of g1, ↓ob_of g2, ↓ob_of g3, ↓ob_of g4, ↓ob_of g5, ↓gd_t, ↓reduceIte]
def IW (E : DT) (n : Nat) (T : Nat → Int) (b e : Nat) : Prop := RT E n T b ∧ E.1 73 17 = (b : Int) ∧ E.1 73 19 = -1 ∧ skp n T b = b ∧ wnd n T b = e
theorem IW.is {E : DT} {n b e : Nat} {T : Nat → Int} (h : IW E n T b e) (i j : Nat) (hij : strB j = strB i) : ∃ E', IW E' n T b e ∧ LKp E E' [16, 17] ∧ (isW T b e (strB i) → m_X11_isWord j E = some (1, E')) ∧ (¬ isW T b e (strB i) → m_X11_isWord j E = some (0, E')) := by
  obtain ⟨h1, h2, h3, h4, h5⟩ := h
  obtain ⟨E', e1, e2, e3, e4, e5⟩ := X11_isWord j h1 h3
  rw [h4] at e1 e3 e4 e5
  rw [h5, hij] at e4 e5
  exact ⟨E', ⟨e1, e3, by rw [e2.1 73 19 (by simp)]; exact h3, h4, h5⟩, e2, e4, e5⟩
theorem IW.many {E : DT} {n b e : Nat} {T : Nat → Int} (h : IW E n T b e) : ∃ E', m_X11_wordMany E = some (((e - b : Nat) : Int), E') ∧ IW E' n T b e ∧ LKp E E' [16, 17] := by
  obtain ⟨h1, h2, h3, h4, h5⟩ := h
  obtain ⟨E', e1, e2, e3, e4⟩ := X11_wordMany h1
  rw [h4] at e1 e2 e4
  rw [h5] at e1
  exact ⟨E', e1, ⟨e2, e4, by rw [e3.1 73 19 (by simp)]; exact h3, h4, h5⟩, e3⟩
theorem X11_isName {E : DT} {n p : Nat} {T : Nat → Int} (h : RT E n T p) (hf : E.1 73 19 = -1) : ∃ E', IW E' n T (skp n T p) (wnd n T (skp n T p)) ∧ LKp E E' [16, 17] ∧ (nmOK T (skp n T p) (wnd n T (skp n T p)) → m_X11_isName E = some (1, E')) ∧ (¬ nmOK T (skp n T p) (wnd n T (skp n T p)) → m_X11_isName E = some (0, E')) := by
  have hb := skp_b (T := T) h.2.2.2.2
  have wb := wnd_b (T := T) hb.2
  have n400 := h.1.1
  obtain ⟨E0, a1, a2, a3, a4⟩ := X11_wordMany h
  have hf0 : E0.1 73 19 = -1 := by rw [a3.1 73 19 (by simp)]; exact hf
  have q := X11_hasF_n hf0
  have I0 : IW E0 n T (skp n T p) (wnd n T (skp n T p)) := ⟨a2, a4, hf0, skp_skp h.2.2.2.2, rfl⟩
  generalize skp n T p = b at *
  generalize wnd n T b = e at *
  by_cases q1 : b < e
  · by_cases q2 : e - b ≤ 6
    · have k0 := a3
      obtain ⟨E1, I1, l0, y0, z0⟩ := I0.is 0 13 rfl
      have k1 := (k0.trans l0).mono (ls := [16, 17]) (by simp)
      rcases isW_dec T b e (strB 0) with c0 | c0
      · have g0 := y0 c0
        refine ⟨E1, I1, k1, fun hn => absurd c0 (hn.2.2 0 (by omega)), fun _ => ?_⟩
        simp (disch := omega) only [m_X11_isName, m_X11_isName_80, ↓bnd_of a1, ↓ob_of q, ↓gd_t, ↓reduceIte, ↓if_t, ↓if_f, ↓bnd_of g0]
      have g0 := z0 c0
      obtain ⟨E2, I2, l1, y1, z1⟩ := I1.is 1 14 rfl
      have k2 := (k1.trans l1).mono (ls := [16, 17]) (by simp)
      rcases isW_dec T b e (strB 1) with c1 | c1
      · have g1 := y1 c1
        refine ⟨E2, I2, k2, fun hn => absurd c1 (hn.2.2 1 (by omega)), fun _ => ?_⟩
        simp (disch := omega) only [m_X11_isName, m_X11_isName_80, ↓bnd_of a1, ↓ob_of q, ↓gd_t, ↓reduceIte, ↓if_t, ↓if_f, ↓bnd_of g0, ↓bnd_of g1]
      have g1 := z1 c1
      obtain ⟨E3, I3, l2, y2, z2⟩ := I2.is 2 15 rfl
      have k3 := (k2.trans l2).mono (ls := [16, 17]) (by simp)
      rcases isW_dec T b e (strB 2) with c2 | c2
      · have g2 := y2 c2
        refine ⟨E3, I3, k3, fun hn => absurd c2 (hn.2.2 2 (by omega)), fun _ => ?_⟩
        simp (disch := omega) only [m_X11_isName, m_X11_isName_80, ↓bnd_of a1, ↓ob_of q, ↓gd_t, ↓reduceIte, ↓if_t, ↓if_f, ↓bnd_of g0, ↓bnd_of g1, ↓bnd_of g2]
      have g2 := z2 c2
      obtain ⟨E4, I4, l3, y3, z3⟩ := I3.is 3 16 rfl
      have k4 := (k3.trans l3).mono (ls := [16, 17]) (by simp)
      rcases isW_dec T b e (strB 3) with c3 | c3
      · have g3 := y3 c3
        refine ⟨E4, I4, k4, fun hn => absurd c3 (hn.2.2 3 (by omega)), fun _ => ?_⟩
        simp (disch := omega) only [m_X11_isName, m_X11_isName_80, ↓bnd_of a1, ↓ob_of q, ↓gd_t, ↓reduceIte, ↓if_t, ↓if_f, ↓bnd_of g0, ↓bnd_of g1, ↓bnd_of g2, ↓bnd_of g3]
      have g3 := z3 c3
      obtain ⟨E5, I5, l4, y4, z4⟩ := I4.is 4 17 rfl
      have k5 := (k4.trans l4).mono (ls := [16, 17]) (by simp)
      rcases isW_dec T b e (strB 4) with c4 | c4
      · have g4 := y4 c4
        refine ⟨E5, I5, k5, fun hn => absurd c4 (hn.2.2 4 (by omega)), fun _ => ?_⟩
        simp (disch := omega) only [m_X11_isName, m_X11_isName_80, ↓bnd_of a1, ↓ob_of q, ↓gd_t, ↓reduceIte, ↓if_t, ↓if_f, ↓bnd_of g0, ↓bnd_of g1, ↓bnd_of g2, ↓bnd_of g3, ↓bnd_of g4]
      have g4 := z4 c4
      obtain ⟨E6, I6, l5, y5, z5⟩ := I5.is 5 18 rfl
      have k6 := (k5.trans l5).mono (ls := [16, 17]) (by simp)
      rcases isW_dec T b e (strB 5) with c5 | c5
      · have g5 := y5 c5
        refine ⟨E6, I6, k6, fun hn => absurd c5 (hn.2.2 5 (by omega)), fun _ => ?_⟩
        simp (disch := omega) only [m_X11_isName, m_X11_isName_80, ↓bnd_of a1, ↓ob_of q, ↓gd_t, ↓reduceIte, ↓if_t, ↓if_f, ↓bnd_of g0, ↓bnd_of g1, ↓bnd_of g2, ↓bnd_of g3, ↓bnd_of g4, ↓bnd_of g5]
      have g5 := z5 c5
      refine ⟨E6, I6, k6, fun _ => ?_, fun hn => absurd ⟨q1, q2, fun i hi hw => ?_⟩ hn⟩
      · simp (disch := omega) only [m_X11_isName, m_X11_isName_80, ↓bnd_of a1, ↓ob_of q, ↓gd_t, ↓reduceIte, ↓if_t, ↓if_f, ↓bnd_of g0, ↓bnd_of g1, ↓bnd_of g2, ↓bnd_of g3, ↓bnd_of g4, ↓bnd_of g5]
      · rcases (show i = 0 ∨ i = 1 ∨ i = 2 ∨ i = 3 ∨ i = 4 ∨ i = 5 by omega) with r | r | r | r | r | r
        · subst r; exact c0 hw
        · subst r; exact c1 hw
        · subst r; exact c2 hw
        · subst r; exact c3 hw
        · subst r; exact c4 hw
        · subst r; exact c5 hw
    · refine ⟨E0, I0, a3, fun hn => absurd hn.2.1 q2, fun _ => ?_⟩
      simp (disch := omega) only [m_X11_isName, m_X11_isName_80, ↓bnd_of a1, ↓ob_of q, ↓gd_t, ↓reduceIte, ↓if_t, ↓if_f]
  · refine ⟨E0, I0, a3, fun hn => absurd hn.1 q1, fun _ => ?_⟩
    simp (disch := omega) only [m_X11_isName, m_X11_isName_80, ↓bnd_of a1, ↓ob_of q, ↓gd_t, ↓reduceIte, ↓if_t, ↓if_f]
/-! a zone by its name -/
theorem X9_wordIsNameOf {D : DT} {Q : MS} {n q b e z : Nat} {T : Nat → Int} (O : MOK Q) (C : ChartRep D 56 Q) (h : CT D n T q) (h4 : D.1 55 4 = (b : Int)) (h5 : D.1 55 5 = ((e - b : Nat) : Int)) (hbe : b ≤ e ∧ e ≤ n) (hz : z < mZ Q) : (sameN Q z T b e → m_X9_wordIsNameOf (z : Int) D = some 1) ∧ (¬ sameN Q z T b e → m_X9_wordIsNameOf (z : Int) D = some 0) := by
  have n400 := h.1.1
  have z8 := O.2.2.1
  obtain ⟨c1, c2⟩ := C.2.2.2 z hz
  obtain ⟨m1, m2, m3⟩ := O.2.2.2.2.2.2.1 z hz
  have c1' : D.2 63 z = (mNL Q z : Int) := c1
  by_cases ql : mNL Q z = e - b
  · have ql' : (mNL Q z : Int) = ((e - b : Nat) : Int) := by omega
    have st : m_X9_wordIsNameOf (z : Int) D = m_X9_wordIsNameOf_20 (z : Int) D ((0 : Nat) : Int) := by
      simp (disch := omega) only [m_X9_wordIsNameOf, gd_t, tn, c1', h5, if_t ql']
      rfl
    rw [st]
    have main : ∀ (m k : Nat), k + m = e - b → (∀ j, j < k → mN Q (6 * z + j) = T (b + j)) → (sameN Q z T b e → m_X9_wordIsNameOf_20 (z : Int) D (k : Int) = some 1) ∧ (¬ sameN Q z T b e → m_X9_wordIsNameOf_20 (z : Int) D (k : Int) = some 0) := by
      intro m
      induction m with
      | zero =>
        intro k hk hall
        refine ⟨fun _ => ?_, fun hn => absurd ⟨ql, fun j hj => hall j (by omega)⟩ hn⟩
        unfold m_X9_wordIsNameOf_20
        refine loopF_inr ?_
        simp (disch := omega) only [h5, gd_t, if_f, done_some]
      | succ m ih =>
        intro k hk hall
        have tk := h.2.2.1 (b + k) (by omega)
        have tb := h.1.2 (b + k) (by omega)
        have lk : D.2 62 (6 * z + k) = mN Q (6 * z + k) := c2 k (by omega)
        have lb := m3 k (by omega)
        have k1 : (b : Int) + (k : Int) = ((b + k : Nat) : Int) := by omega
        have k2 : (z : Int) * 6 + (k : Int) = ((6 * z + k : Nat) : Int) := by omega
        by_cases qc : mN Q (6 * z + k) = T (b + k)
        · obtain ⟨i1, i2⟩ := ih (k + 1) (by omega) (fun j hj => by
            by_cases ej : j = k
            · rw [ej, qc]
            · exact hall j (by omega))
          have st : m_X9_wordIsNameOf_20 (z : Int) D (k : Int) = m_X9_wordIsNameOf_20 (z : Int) D ((k + 1 : Nat) : Int) := by
            unfold m_X9_wordIsNameOf_20
            refine loopF_inl ?_
            simp (disch := omega) only [h5, gd_t, if_t, h4, k1, k2, tn, tk, lk, if_t qc]
            rfl
          rw [st]
          exact ⟨i1, i2⟩
        · refine ⟨fun w => absurd (w.2 k (by omega)) qc, fun _ => ?_⟩
          unfold m_X9_wordIsNameOf_20
          refine loopF_inr ?_
          simp (disch := omega) only [h5, gd_t, if_t, h4, k1, k2, tn, tk, lk, if_f qc, done_some]
    exact main (e - b) 0 (by omega) (fun j hj => by omega)
  · have ql' : ¬ (mNL Q z : Int) = ((e - b : Nat) : Int) := by omega
    refine ⟨fun w => absurd w.1 ql, fun _ => ?_⟩
    simp (disch := omega) only [m_X9_wordIsNameOf, gd_t, tn, c1', h5, if_f ql']
theorem X9_zoneNamed {D : DT} {Q : MS} {n q b e : Nat} {T : Nat → Int} (O : MOK Q) (C : ChartRep D 56 Q) (h : CT D n T q) (h4 : D.1 55 4 = (b : Int)) (h5 : D.1 55 5 = ((e - b : Nat) : Int)) (hbe : b ≤ e ∧ e ≤ n) : (∃ z, z < mZ Q ∧ sameN Q z T b e ∧ (∀ y, y < z → ¬ sameN Q y T b e) ∧ m_X9_zoneNamed D = some (z : Int)) ∨ ((∀ y, y < mZ Q → ¬ sameN Q y T b e) ∧ m_X9_zoneNamed D = some (-1)) := by
  have z8 := O.2.2.1
  have eZ : D.1 56 2 = (mZ Q : Int) := C.2.1.1
  have main : ∀ (m z : Nat), z + m = mZ Q → (∀ y, y < z → ¬ sameN Q y T b e) → (∃ z', z' < mZ Q ∧ sameN Q z' T b e ∧ (∀ y, y < z' → ¬ sameN Q y T b e) ∧ m_X9_zoneNamed_2 D (z : Int) = some (z' : Int)) ∨ ((∀ y, y < mZ Q → ¬ sameN Q y T b e) ∧ m_X9_zoneNamed_2 D (z : Int) = some (-1)) := by
    intro m
    induction m with
    | zero =>
      intro z hz hall
      right
      refine ⟨fun y hy => hall y (by omega), ?_⟩
      unfold m_X9_zoneNamed_2
      refine loopF_inr ?_
      simp (disch := omega) only [eZ, gd_t, if_f, done_some]
    | succ m ih =>
      intro z hz hall
      obtain ⟨w1, w2⟩ := X9_wordIsNameOf (z := z) O C h h4 h5 hbe (by omega)
      rcases Classical.em (sameN Q z T b e) with s | s
      · left
        refine ⟨z, by omega, s, hall, ?_⟩
        have g := w1 s
        unfold m_X9_zoneNamed_2
        refine loopF_inr ?_
        simp (disch := omega) only [eZ, gd_t, if_t, g, ob_some, if_f, done_some]
      · have g := w2 s
        have st : m_X9_zoneNamed_2 D (z : Int) = m_X9_zoneNamed_2 D ((z + 1 : Nat) : Int) := by
          unfold m_X9_zoneNamed_2
          refine loopF_inl ?_
          simp (disch := omega) only [eZ, gd_t, if_t, g, ob_some, ↓reduceIte]
          rfl
        rw [st]
        exact ih (z + 1) (by omega) (fun y hy => by
          by_cases ey : y = z
          · rw [ey]; exact s
          · exact hall y (by omega))
  exact main (mZ Q) 0 (by omega) (fun y hy => by omega)
theorem X11_told {E : DT} {Q : MS} {n b e : Nat} {T : Nat → Int} (O : MOK Q) (C : RDr E Q) (I : IW E n T b e) (hk : b < e ∧ e - b ≤ 6) : ∃ E', IW E' n T b e ∧ LKp E E' [16, 17] ∧ ((∃ z, z < mZ Q ∧ sameN Q z T b e ∧ (∀ y, y < z → ¬ sameN Q y T b e) ∧ m_X11_told E = some ((z : Int), E')) ∨ ((∀ y, y < mZ Q → ¬ sameN Q y T b e) ∧ m_X11_told E = some (-1, E'))) := by
  have z8 := O.2.2.1
  obtain ⟨E', a1, a2, a3⟩ := I.many
  have hb4 := I.1.1.1
  have en : e ≤ n := by
    have := wnd_b (T := T) I.1.2.2.2.2
    rw [I.2.2.2.2] at this
    exact this.2
  refine ⟨E', a2, a3, ?_⟩
  have eZ : E'.2 77 2 = (mZ Q : Int) := by rw [a3.2]; exact C.1.2.2.1
  have nm : ∀ z, z < mZ Q → ∀ k, k < 6 → E'.2 85 (6 * z + k) = if k < mNL Q z then mN Q (6 * z + k) else 0 := by rw [a3.2]; exact C.2.2.2
  have lt : ∀ k, k < e - b → 97 ≤ T (b + k) ∧ T (b + k) ≤ 122 := fun k hk => by
    have h1 := I.2.2.2.2
    have := scn_in (T := T) isLe (n - b) b (b + k) (by omega) (by
      have : wnd n T b = scn isLe T (n - b) b := rfl
      rw [← this, h1]; omega)
    exact this
  have t16 := a2.1.2.2.2.1
  have tx := a2.1.2.2.1
  have inner : ∀ z, z < mZ Q → (sameN Q z T b e → m_X11_told_22 ((e - b : Nat) : Int) (z : Int) E' (1, 0) = some (.inr ((z : Int), E'))) ∧ (¬ sameN Q z T b e → m_X11_told_22 ((e - b : Nat) : Int) (z : Int) E' (1, 0) = some (.inl ((z : Int) + 1))) := by
    intro z hz
    obtain ⟨m1, m2, m3⟩ := O.2.2.2.2.2.2.1 z hz
    have mt : ∀ k, k < 6 → -128 ≤ E'.2 85 (6 * z + k) ∧ E'.2 85 (6 * z + k) ≤ 127 := fun k hk => by
      rw [nm z hz k hk]
      split
      · rename_i hh
        have := m3 k hh
        omega
      · omega
    have bad : ∀ k : Nat, k ≤ 6 → m_X11_told_22 ((e - b : Nat) : Int) (z : Int) E' (0, (k : Int)) = some (.inl ((z : Int) + 1)) := fun k hk => by
      unfold m_X11_told_22
      refine loopF_inr ?_
      by_cases q6 : k < 6
      · simp (disch := omega) only [gd_t, if_t, ↓reduceIte, done_some]
      · simp (disch := omega) only [gd_t, if_f, ↓reduceIte, done_some]
    have main : ∀ (m k : Nat), k + m = 6 → (∀ j, j < k → E'.2 85 (6 * z + j) = if j < e - b then T (b + j) else 0) → (sameN Q z T b e → m_X11_told_22 ((e - b : Nat) : Int) (z : Int) E' (1, (k : Int)) = some (.inr ((z : Int), E'))) ∧ (¬ sameN Q z T b e → m_X11_told_22 ((e - b : Nat) : Int) (z : Int) E' (1, (k : Int)) = some (.inl ((z : Int) + 1))) := by
      intro m
      induction m with
      | zero =>
        intro k hk6 hall
        have sm : sameN Q z T b e := by
          have nl : mNL Q z = e - b := by
            rcases Nat.lt_trichotomy (mNL Q z) (e - b) with hh | hh | hh
            · have x1 := hall (mNL Q z) (by omega)
              rw [nm z hz _ (by omega), if_neg (by omega), if_pos hh] at x1
              have := lt _ hh
              omega
            · exact hh
            · have x1 := hall (e - b) (by omega)
              rw [nm z hz _ (by omega), if_pos hh, if_neg (by omega)] at x1
              have := m3 _ hh
              omega
          refine ⟨nl, fun j hj => ?_⟩
          have x1 := hall j (by omega)
          rw [nm z hz _ (by omega), if_pos (by omega), if_pos hj] at x1
          exact x1
        refine ⟨fun _ => ?_, fun hn => absurd sm hn⟩
        unfold m_X11_told_22
        refine loopF_inr ?_
        simp (disch := omega) only [gd_t, if_f, done_some]
      | succ m ih =>
        intro k hk6 hall
        have k1 : (b : Int) + (k : Int) = ((b + k : Nat) : Int) := by omega
        have k2 : 6 * (z : Int) + (k : Int) = ((6 * z + k : Nat) : Int) := by omega
        have lb := mt k (by omega)
        by_cases ql : k < e - b
        · have tk := tx (b + k) (by omega)
          have tb := lt k ql
          by_cases qc : E'.2 85 (6 * z + k) = T (b + k)
          · have st : m_X11_told_22 ((e - b : Nat) : Int) (z : Int) E' (1, (k : Int)) = m_X11_told_22 ((e - b : Nat) : Int) (z : Int) E' (1, ((k + 1 : Nat) : Int)) := by
              unfold m_X11_told_22
              refine loopF_inl ?_
              simp (disch := omega) only [gd_t, if_t, if_f, t16, k1, k2, tn, tk, if_t qc]
              rfl
            rw [st]
            exact ih (k + 1) (by omega) (fun j hj => by
              by_cases ej : j = k
              · rw [ej, if_pos ql]; exact qc
              · exact hall j (by omega))
          · have st : m_X11_told_22 ((e - b : Nat) : Int) (z : Int) E' (1, (k : Int)) = m_X11_told_22 ((e - b : Nat) : Int) (z : Int) E' (0, ((k + 1 : Nat) : Int)) := by
              unfold m_X11_told_22
              refine loopF_inl ?_
              simp (disch := omega) only [gd_t, if_t, if_f, t16, k1, k2, tn, tk, if_f qc]
              rfl
            rw [st]
            refine ⟨fun sm => ?_, fun _ => bad (k + 1) (by omega)⟩
            exfalso
            have := sm.2 k ql
            apply qc
            rw [nm z hz k (by omega), if_pos (by have := sm.1; omega)]
            exact this
        · by_cases qc : E'.2 85 (6 * z + k) = 0
          · have st : m_X11_told_22 ((e - b : Nat) : Int) (z : Int) E' (1, (k : Int)) = m_X11_told_22 ((e - b : Nat) : Int) (z : Int) E' (1, ((k + 1 : Nat) : Int)) := by
              unfold m_X11_told_22
              refine loopF_inl ?_
              simp (disch := omega) only [gd_t, if_t, if_f, k2, tn, if_t qc]
              rfl
            rw [st]
            exact ih (k + 1) (by omega) (fun j hj => by
              by_cases ej : j = k
              · rw [ej, if_neg ql]; exact qc
              · exact hall j (by omega))
          · have st : m_X11_told_22 ((e - b : Nat) : Int) (z : Int) E' (1, (k : Int)) = m_X11_told_22 ((e - b : Nat) : Int) (z : Int) E' (0, ((k + 1 : Nat) : Int)) := by
              unfold m_X11_told_22
              refine loopF_inl ?_
              simp (disch := omega) only [gd_t, if_t, if_f, k2, tn, if_f qc]
              rfl
            rw [st]
            refine ⟨fun sm => ?_, fun _ => bad (k + 1) (by omega)⟩
            exfalso
            apply qc
            rw [nm z hz k (by omega), if_neg (by have := sm.1; omega)]
    exact main 6 0 (by omega) (fun j hj => by omega)
  have main : ∀ (m z : Nat), z + m = mZ Q → (∀ y, y < z → ¬ sameN Q y T b e) → (∃ z', z' < mZ Q ∧ sameN Q z' T b e ∧ (∀ y, y < z' → ¬ sameN Q y T b e) ∧ m_X11_told_7 ((e - b : Nat) : Int) E' (z : Int) = some ((z' : Int), E')) ∨ ((∀ y, y < mZ Q → ¬ sameN Q y T b e) ∧ m_X11_told_7 ((e - b : Nat) : Int) E' (z : Int) = some (-1, E')) := by
    intro m
    induction m with
    | zero =>
      intro z hz hall
      right
      refine ⟨fun y hy => hall y (by omega), ?_⟩
      unfold m_X11_told_7
      refine loopF_inr ?_
      simp (disch := omega) only [t2, eZ, gd_t, if_f, done_some]
    | succ m ih =>
      intro z hz hall
      obtain ⟨w1, w2⟩ := inner z (by omega)
      rcases Classical.em (sameN Q z T b e) with s | s
      · left
        refine ⟨z, by omega, s, hall, ?_⟩
        have g := w1 s
        unfold m_X11_told_7
        refine loopF_inr ?_
        simp (disch := omega) only [t2, eZ, gd_t, if_t, g]
      · have g := w2 s
        have st : m_X11_told_7 ((e - b : Nat) : Int) E' (z : Int) = m_X11_told_7 ((e - b : Nat) : Int) E' ((z + 1 : Nat) : Int) := by
          unfold m_X11_told_7
          refine loopF_inl ?_
          simp (disch := omega) only [t2, eZ, gd_t, if_t, g]
          rfl
        rw [st]
        exact ih (z + 1) (by omega) (fun y hy => by
          by_cases ey : y = z
          · rw [ey]; exact s
          · exact hall y (by omega))
  have mm := main (mZ Q) 0 (by omega) (fun y hy => by omega)
  have er : m_X11_told E = m_X11_told_7 ((e - b : Nat) : Int) E' ((0 : Nat) : Int) := by
    simp only [m_X11_told, a1, bnd_some]
    rfl
  rw [er]
  exact mm
