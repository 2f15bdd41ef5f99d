/-! ===== both read: the draft ===== -/
abbrev RS : Type := (Int × Int × Int) × (Nat × (Nat → Int)) × (Nat × (Nat → Int))
def RDr (E : DT) (Q : MS) : Prop :=
  (E.2 77 0 = (mW Q : Int) ∧ E.2 77 1 = (mH Q : Int) ∧ E.2 77 2 = (mZ Q : Int) ∧ E.2 77 3 = (mG Q : Int)) ∧ (∀ c, c < nC Q → E.2 79 c = mO Q c ∧ E.2 81 c = mS Q c) ∧ (∀ k, k < 24 → E.2 83 k = mP Q k) ∧ ∀ z, z < mZ Q → ∀ k, k < 6 → E.2 85 (6 * z + k) = if k < mNL Q z then mN Q (6 * z + k) else 0
def RDg (E : DT) : Prop := (∀ c, c < 384 → E.2 81 c = 0 ∨ E.2 81 c = 1) ∧ ∀ k, k < 48 → -128 ≤ E.2 85 k ∧ E.2 85 k ≤ 127
/-- no zone has a word of the text's own as its name -/
def resv (Q : MS) : Prop := ∀ z, z < mZ Q → ∀ i, i < 6 → ¬ (mNL Q z = (strB i).length ∧ ∀ k, k < mNL Q z → mN Q (6 * z + k) = (strB i).getD k 0)
def QOK (Q : MS) : Prop := MOK Q ∧ (2 ≤ mW Q ∧ 2 ≤ mH Q) ∧ resv Q
def DS (D E : DT) (R : RS) (t : Int) (Q : MS) : Prop := ((t = 0 ∨ t = 1) ∧ D.1 55 9 = t ∧ E.1 73 21 = t) ∧ (ChartRep D 56 Q ∧ RDr E Q) ∧ (ChartRng D 56 ∧ RDg E) ∧ QOK Q ∧ Q.2.2.2 = R
theorem RGo.dg {E E' : DT} (h : RGo E E') (g : RDg E) : RDg E' := ⟨h.2.1 g.1, h.2.2 g.2⟩
theorem ChartRep.lex {D D' : DT} {Q : MS} {ks : List Nat} (h : ChartRep D 56 Q) (k : TKp D D' ks) : ChartRep D' 56 Q := by
  unfold ChartRep CMap at *
  rw [k.1 56 0 (by omega), k.1 56 1 (by omega), k.1 56 2 (by omega), k.1 56 3 (by omega), k.2]
  exact h
theorem DS.lex {D E D' E' : DT} {R : RS} {t : Int} {Q : MS} {ks ls : List Nat} (h : DS D E R t Q) (k : TKp D D' ks) (l : LKp E E' ls) (h9 : 9 ∉ ks) (h21 : 21 ∉ ls) : DS D' E' R t Q := by
  obtain ⟨⟨a1, a2, a3⟩, ⟨b1, b2⟩, ⟨c1, c2⟩, d, e⟩ := h
  refine ⟨⟨a1, by rw [k.1 55 9 (fun _ => h9)]; exact a2, by rw [l.1 73 21 (fun _ => h21)]; exact a3⟩, ⟨b1.lex k, ?_⟩, ⟨k.go.2 c1, ?_⟩, d, e⟩
  · unfold RDr at *
    rw [l.2]
    exact b2
  · unfold RDg at *
    rw [l.2]
    exact c2
/-- a line is read by both, or fails for both at the same sign -/
def JR (D E : DT) (n : Nat) (T : Nat → Int) (R : RS) (b : Nat) (r : Option (Int × DT)) (e : Option DT) : Prop := ∃ D' E', e = some E' ∧ CGo D D' ∧ RGo E E' ∧ ((r = some (1, D') ∧ ∃ p' t' Q', b < p' ∧ LX D' E' n T p' ∧ DS D' E' R t' Q') ∨ (r = some (0, D') ∧ LZ D' E' n T))
theorem JR.pre {D E D0 E0 : DT} {n b : Nat} {T : Nat → Int} {R : RS} {r : Option (Int × DT)} {e : Option DT} (h : JR D0 E0 n T R b r e) (c : CGo D D0) (g : RGo E E0) : JR D E n T R b r e := by
  obtain ⟨D', E', h1, h2, h3, h4⟩ := h
  exact ⟨D', E', h1, c.trans h2, g.trans h3, h4⟩
theorem JR.bad {D E D' E' : DT} {n b : Nat} {T : Nat → Int} {R : RS} (c : CGo D D') (g : RGo E E') (z : LZ D' E' n T) : JR D E n T R b (some (0, D')) (some E') := ⟨D', E', rfl, c, g, Or.inr ⟨rfl, z⟩⟩
theorem Y_83 {D E : DT} {n : Nat} {T : Nat → Int} (h : LZ D E n T) : m_X11_line_83 E = some E := by
  simp only [m_X11_line_83, Y_asks h.2.1, ob_some]
theorem J_end {D E : DT} {n p b : Nat} {T : Nat → Int} {R : RS} {t : Int} {Q : MS} (h : LX D E n T p) (s : DS D E R t Q) (hb : b < p) : JR D E n T R b (m_X9_readSign 59 D) (m_X11_line_83 E) := by
  obtain ⟨D', E', e1, k, l, hh⟩ := J_sign (c := 59) (by omega) h
  refine ⟨D', E', by simp only [m_X11_line_83, e1, ob_some], k.go, l.go3, ?_⟩
  rcases hh with ⟨a1, q, hq, a2⟩ | ⟨a1, a2⟩
  · left
    exact ⟨a1, q, t, Q, by omega, a2, s.lex k l (by simp) (by simp)⟩
  · right
    exact ⟨a1, a2⟩
/-- a line's first word was read -/
def LW (D E : DT) (n : Nat) (T : Nat → Int) (b e : Nat) : Prop := (CT D n T e ∧ RT E n T b) ∧ (D.1 55 8 = -1 ∧ E.1 73 19 = -1) ∧ (D.1 55 4 = (b : Int) ∧ D.1 55 5 = ((e - b : Nat) : Int) ∧ E.1 73 17 = (b : Int)) ∧ b < e ∧ e ≤ n ∧ skp n T b = b ∧ wnd n T b = e
theorem LW.fail {D E : DT} {n b e : Nat} {T : Nat → Int} (h : LW D E n T b e) : m_X9_failAt (D.1 55 4) D = some (0, sF D 55 8 (b : Int)) ∧ m_X11_failsAt (E.1 73 17) E = some (sF E 73 19 (b : Int)) ∧ LZ (sF D 55 8 (b : Int)) (sF E 73 19 (b : Int)) n T ∧ CGo D (sF D 55 8 (b : Int)) ∧ RGo E (sF E 73 19 (b : Int)) := by
  obtain ⟨⟨h1, h2⟩, ⟨f1, f2⟩, ⟨g1, g2, g3⟩, h5, h6, h7⟩ := h
  have n400 := h1.1.1
  refine ⟨?_, ?_, ⟨⟨e, h1.f6 (Or.inr (by omega))⟩, ⟨⟨b, h2.to LKp.f (by simp) (by rw [sF1, if_neg (by omega)]; exact h2.2.2.2.1) (by omega)⟩, ?_, ?_⟩, ?_⟩, TKp.f.go, LKp.f.go (by simp)⟩
  · rw [g1]
    simp (disch := omega) only [m_X9_failAt, sq_eq]
  · rw [g3]
    exact X11_failsAt_n f2
  · rw [sF1, if_pos ⟨rfl, rfl⟩]; omega
  · rw [sF1, if_pos ⟨rfl, rfl⟩]; omega
  · rw [sF1, if_pos ⟨rfl, rfl⟩, sF1, if_pos ⟨rfl, rfl⟩]
theorem LW.word {D E : DT} {n b e : Nat} {T : Nat → Int} (h : LW D E n T b e) (i j : Nat) (hij : strB j = strB i) (w : isW T b e (strB i)) : ∃ E', m_X11_asksWord j E = some E' ∧ LKp E E' [16, 17, 19] ∧ LX D E' n T e := by
  obtain ⟨⟨h1, h2⟩, ⟨f1, f2⟩, ⟨g1, g2, g3⟩, h5, h6, h7, h8⟩ := h
  obtain ⟨E', e1, e2, e3, e4⟩ := X11_asksWord j h2 f2
  rw [h7, h8, hij] at e3
  obtain ⟨a1, a2, a3⟩ := e3 w
  exact ⟨E', e1, e2, ⟨h1, a1⟩, f1, a2⟩
theorem bnd01 {X : Option (Int × DT)} (h : ∃ D', X = some (1, D') ∨ X = some (0, D')) : bnd X (fun r D => gd (r = 0 ∨ r = 1) (some (r, D))) = X := by
  obtain ⟨D', h | h⟩ := h
  · rw [h]; rfl
  · rw [h]; rfl
theorem JR.r01 {D E : DT} {n b : Nat} {T : Nat → Int} {R : RS} {r : Option (Int × DT)} {e : Option DT} (h : JR D E n T R b r e) : bnd r (fun r D => gd (r = 0 ∨ r = 1) (some (r, D))) = r := by
  obtain ⟨D', E', h1, h2, h3, h4⟩ := h
  refine bnd01 ⟨D', ?_⟩
  rcases h4 with ⟨h5, -⟩ | ⟨h5, -⟩
  · exact Or.inl h5
  · exact Or.inr h5
theorem line_groups {D E : DT} {n b e : Nat} {T : Nat → Int} {R : RS} {t : Int} {Q : MS} (L : LW D E n T b e) (S : DS D E R t Q) (w : isW T b e (strB 1)) : JR D E n T R b (m_X9_readGroups D) ((m_X11_groupsLine E).bind m_X11_line_83) := by
  obtain ⟨F1, F2, F3, F4, F5⟩ := L.fail
  obtain ⟨⟨a1, a2, a3⟩, ⟨b1, b2⟩, ⟨c1, c2⟩, ⟨O, d2, d3⟩, d4⟩ := S
  have z8 := O.2.2.1
  have eZ : D.1 56 2 = (mZ Q : Int) := b1.2.1.1
  have eZ' : E.2 77 2 = (mZ Q : Int) := b2.1.2.2.1
  by_cases q1 : t = 0
  · by_cases q2 : 0 < mZ Q
    · have eC : m_X9_readGroups D = some (0, sF D 55 8 (b : Int)) := by
        simp (disch := omega) only [m_X9_readGroups, a2, gd_t, if_t q1, eZ, if_t, F1, bnd_some, true_or, gd_T]
      have eR : (m_X11_groupsLine E).bind m_X11_line_83 = some (sF E 73 19 (b : Int)) := by
        simp (disch := omega) only [m_X11_groupsLine, a3, gd_t, if_t q1, t2, eZ', if_t, F2, ob_some, Y_83 F3]
      rw [eC, eR]
      exact JR.bad F4 F5 F3
    · have z0 : mZ Q = 0 := by omega
      obtain ⟨⟨h1, h2⟩, ⟨f1, f2⟩, ⟨y1, y2, y3⟩, h5, h6, h7, h8⟩ := L
      have L' : LW D (sF E 73 21 1) n T b e := ⟨⟨h1, h2.to LKp.f (by simp) (by rw [sF1, if_neg (by omega)]; exact h2.2.2.2.1) (by omega)⟩, ⟨f1, by rw [sF1, if_neg (by omega)]; exact f2⟩, ⟨y1, y2, by rw [sF1, if_neg (by omega)]; exact y3⟩, h5, h6, h7, h8⟩
      obtain ⟨E2, w1, w2, w3⟩ := L'.word 1 14 rfl w
      obtain ⟨D1, E3, v, n1, n2, ⟨n3, n3'⟩, n4, n5, n6⟩ := J_number (lo := 1) (hi := 3) (by omega) (by omega) w3.1.1 w3.1.2 rfl w3.2.1 w3.2.2
      have eR : (m_X11_groupsLine E).bind m_X11_line_83 = m_X11_line_83 (sA E3 77 3 v) := by
        simp (disch := omega) only [m_X11_groupsLine, a3, gd_t, if_t q1, t2, t3, eZ', if_f, sq_eq, w1, n1, bnd_some, ob_some]
      rw [eR]
      have gR : RGo E (sA E3 77 3 v) := (((LKp.f (D := E) (k := 21) (v := 1)).go (by simp)).trans (w2.go3.trans n5.go3)).trans (RGo.a (Or.inl rfl))
      rcases n6 with ⟨m1, ⟨q, hq, m2⟩, m3⟩ | ⟨m1, m2⟩
      · have lv : ((v.toNat : Nat) : Int) = v := by omega
        have eC : m_X9_readGroups D = m_X9_readSign 59 (sF (sF D1 55 9 1) 56 3 v) := by
          have e7 : (sF D1 55 9 1).1 55 7 = v := by rw [sF1, if_neg (by omega)]; exact n3
          have hx : ∃ D' E', m_X11_asks 59 (sA E3 77 3 v) = some E' ∧ TKp (sF (sF D1 55 9 1) 56 3 v) D' [3, 8] ∧ LKp (sA E3 77 3 v) E' [16, 17, 19] ∧ ((m_X9_readSign 59 (sF (sF D1 55 9 1) 56 3 v) = some (1, D') ∧ (∃ q', q < q' ∧ LX D' E' n T q')) ∨ (m_X9_readSign 59 (sF (sF D1 55 9 1) 56 3 v) = some (0, D') ∧ LZ D' E' n T)) :=
            J_sign (by omega) ⟨⟨(m2.1.1.f6 (Or.inr (by omega))).f6 (Or.inl (by omega)), m2.1.2.a (by omega)⟩, by rw [sF1, if_neg (by omega), sF1, if_neg (by omega)]; exact m2.2.1, m2.2.2⟩
          obtain ⟨D', E', x1, x2, x3, x4⟩ := hx
          rcases x4 with ⟨x5, -⟩ | ⟨x5, -⟩
          · simp (disch := omega) only [m_X9_readGroups, a2, gd_t, if_t q1, eZ, if_f, m1, bnd_some, sq_eq, e7, x5, true_or, or_true, gd_T]
          · simp (disch := omega) only [m_X9_readGroups, a2, gd_t, if_t q1, eZ, if_f, m1, bnd_some, sq_eq, e7, x5, true_or, or_true, gd_T]
        rw [eC]
        refine JR.pre (D0 := sF (sF D1 55 9 1) 56 3 v) (E0 := sA E3 77 3 v) (J_end (p := q) (t := 1) (Q := ((mW Q, mH Q, mZ Q, v.toNat), Q.2)) ?_ ?_ (by omega)) ?_ gR
        · exact ⟨⟨(m2.1.1.f6 (Or.inr (by omega))).f6 (Or.inl (by omega)), m2.1.2.a (by omega)⟩, by rw [sF1, if_neg (by omega), sF1, if_neg (by omega)]; exact m2.2.1, m2.2.2⟩
        · have r1 := b1.lex n4
          obtain ⟨⟨⟨r11, r11'⟩, r12, r13⟩, ⟨r14, r15⟩, r16, r17⟩ := r1
          have eE : E3.2 = E.2 := by rw [n5.2, w2.2]; rfl
          have e21 : E3.1 73 21 = 1 := by rw [n5.1 73 21 (by simp), w2.1 73 21 (by simp)]; rfl
          obtain ⟨⟨s1, s2, s3, s4⟩, s5, s6, s7⟩ := b2
          obtain ⟨o1, o2, o3, o4, o5⟩ := O
          refine ⟨⟨Or.inr rfl, ?_, e21⟩, ⟨⟨⟨⟨r11, r11'⟩, r12, r13⟩, ⟨r14, ?_⟩, fun k hk => ?_, fun z hz => ?_⟩, ⟨?_, ?_, ?_, ?_⟩⟩, ⟨?_, ?_⟩, ⟨⟨o1, o2, o3, ?_, o5⟩, d2, d3⟩, d4⟩
          · rw [sF1, if_neg (by omega), sF1, if_pos ⟨rfl, rfl⟩]
          · show (sF (sF D1 55 9 1) 56 3 v).1 56 3 = ((v.toNat : Nat) : Int)
            rw [sF1, if_pos ⟨rfl, rfl⟩, lv]
          · have h0 : k / 3 < mZ Q := hk.2
            omega
          · have h0 : z < mZ Q := hz
            omega
          · show (sA E3 77 3 v).2 77 0 = (mW Q : Int) ∧ (sA E3 77 3 v).2 77 1 = (mH Q : Int) ∧ (sA E3 77 3 v).2 77 2 = (mZ Q : Int) ∧ (sA E3 77 3 v).2 77 3 = ((v.toNat : Nat) : Int)
            refine ⟨?_, ?_, ?_, ?_⟩
            · rw [sA2, if_neg (by omega), eE]; exact s1
            · rw [sA2, if_neg (by omega), eE]; exact s2
            · rw [sA2, if_neg (by omega), eE]; exact s3
            · rw [sA2, if_pos ⟨rfl, rfl⟩, lv]
          · intro c hc
            rw [sA2, if_neg (by omega), sA2, if_neg (by omega), eE]; exact s5 c hc
          · intro k hk
            rw [sA2, if_neg (by omega), eE]; exact s6 k hk
          · intro z hz k hk
            rw [sA2, if_neg (by omega), eE]; exact s7 z hz k hk
          · exact n4.go.2 c1
          · exact gR.dg c2
          · show 1 ≤ v.toNat ∧ v.toNat ≤ 3
            omega
        · refine n4.go.trans ((TKp.f (D := D1) (k := 9) (v := 1)).go.trans ⟨fun a ha => ⟨?_, rfl⟩, id⟩)
          funext k
          rw [sF1, if_neg (by omega)]
      · have eC : m_X9_readGroups D = some (0, D1) := by
          simp (disch := omega) only [m_X9_readGroups, a2, gd_t, if_t q1, eZ, if_f, m1, bnd_some, ↓reduceIte]
        rw [eC, Y_83 (m2.a (by omega))]
        exact JR.bad n4.go gR (m2.a (by omega))
  · have eC : m_X9_readGroups D = some (0, sF D 55 8 (b : Int)) := by
      simp (disch := omega) only [m_X9_readGroups, a2, gd_t, if_f q1, F1, bnd_some, true_or, gd_T]
    have eR : (m_X11_groupsLine E).bind m_X11_line_83 = some (sF E 73 19 (b : Int)) := by
      simp (disch := omega) only [m_X11_groupsLine, a3, gd_t, if_f q1, F2, ob_some, Y_83 F3]
    rw [eC, eR]
    exact JR.bad F4 F5 F3
