/-! ===== both read: people of a zone ===== -/
theorem Y_zone120 {n z G : Nat} {T : Nat → Int} (hG : G ≤ 3) (hz : z < 8) : ∀ (m g : Nat) (E : DT), g + m = G → RY E n T → E.2 77 3 = (G : Int) → ∃ E', m_X11_zoneLine_120 (z : Int) ((g : Int), E) = some E' ∧ RY E' n T ∧ E'.1 73 19 = E.1 73 19 ∧ RGo E E' := by
  intro m
  induction m with
  | zero =>
    intro g E hg h h3
    refine ⟨sA E 77 2 (E.2 77 2 + 1), ?_, h.a (by omega), rfl, RGo.a (Or.inl rfl)⟩
    unfold m_X11_zoneLine_120
    refine loopF_inr ?_
    simp (disch := omega) only [t3, t2, h3, gd_t, if_f, sq_eq, done_some]
  | succ m ih =>
    intro g E hg h h3
    obtain ⟨E', e1, e2, e3, e4⟩ := ih (g + 1) (sA E 83 (3 * z + g) 0) (by omega) (h.a (by omega)) (by rw [sA2, if_neg (by omega)]; exact h3)
    refine ⟨E', ?_, e2, e3, RGo.trans (RGo.a (by omega)) e4⟩
    rw [← e1]
    have k1 : 3 * (z : Int) + (g : Int) = ((3 * z + g : Nat) : Int) := by omega
    unfold m_X11_zoneLine_120
    refine loopF_inl ?_
    by_cases q : 0 < g
    · simp (disch := omega) only [t3, h3, gd_t, if_t, Y_asks h, ob_some, m_X11_zoneLine_140, Y_number h, bnd_some, k1, tn, sq_eq]
      rfl
    · have q' : ¬ (0 : Int) < (g : Int) := by omega
      simp (disch := omega) only [t3, h3, gd_t, if_t, if_f q', ob_some, m_X11_zoneLine_140, Y_number h, bnd_some, k1, tn, sq_eq]
      rfl
def putP (P : Nat → Int) (k : Nat) (v : Int) : Nat → Int := fun j => if j = k then v else P j
/-- the zone that is being told -/
def ZS (D E : DT) (Q : MS) (g : Nat) : Prop := (D.2 63 (mZ Q) = (mNL Q (mZ Q) : Int) ∧ ∀ k, k < mNL Q (mZ Q) → D.2 62 (6 * mZ Q + k) = mN Q (6 * mZ Q + k)) ∧ (∀ k, k < 6 → E.2 85 (6 * mZ Q + k) = if k < mNL Q (mZ Q) then mN Q (6 * mZ Q + k) else 0) ∧ ∀ j, j < g → D.2 61 (3 * mZ Q + j) = mP Q (3 * mZ Q + j)
theorem ZS.lex {D E D' E' : DT} {Q : MS} {g : Nat} {ks ls : List Nat} (h : ZS D E Q g) (k : TKp D D' ks) (l : LKp E E' ls) : ZS D' E' Q g := by
  unfold ZS at *
  rw [k.2, l.2]
  exact h
theorem J_person {D E : DT} {n p g : Nat} {T : Nat → Int} {R : RS} {t : Int} {Q : MS} (L : LX D E n T p) (S : DS D E R t Q) (Z : ZS D E Q g) (hg : g < mG Q) (hz : mZ Q < 8) : (∃ D' E' q Q', p < q ∧ m_X9_readPeople_28 (mZ Q : Int) (g : Int) D = some (.inl ((g : Int) + 1, D')) ∧ m_X11_zoneLine_140 (mZ Q : Int) (g : Int) E = some (.inl ((g : Int) + 1, E')) ∧ CGo D D' ∧ RGo E E' ∧ LX D' E' n T q ∧ DS D' E' R t Q' ∧ ZS D' E' Q' (g + 1) ∧ Q'.1 = Q.1 ∧ Q'.2.2.1.2 = Q.2.2.1.2) ∨ (∃ D' E', m_X9_readPeople_28 (mZ Q : Int) (g : Int) D = some (.inr (0, D')) ∧ m_X11_zoneLine_140 (mZ Q : Int) (g : Int) E = some (.inl ((g : Int) + 1, E')) ∧ CGo D D' ∧ RGo E E' ∧ LZ D' E' n T ∧ E'.2 77 3 = (mG Q : Int)) := by
  obtain ⟨D1, E1, v, n1, n2, ⟨n3, n3'⟩, n4, n5, n6⟩ := J_number (lo := 0) (hi := 99999) (by omega) (by omega) L.1.1 L.1.2 rfl L.2.1 L.2.2
  have S1 := S.lex n4 n5 (by simp) (by simp)
  have Z1 := Z.lex n4 n5
  have g3 := S.2.2.2.1.1.2.2.2.1
  have k1 : 3 * (mZ Q : Int) + (g : Int) = ((3 * mZ Q + g : Nat) : Int) := by omega
  have eR : m_X11_zoneLine_140 (mZ Q : Int) (g : Int) E = some (.inl ((g : Int) + 1, sA E1 83 (3 * mZ Q + g) v)) := by
    simp (disch := omega) only [m_X11_zoneLine_140, n1, bnd_some, gd_t, k1, tn, sq_eq]
  have gR : RGo E (sA E1 83 (3 * mZ Q + g) v) := n5.go3.trans (RGo.a (by omega))
  rcases n6 with ⟨m1, ⟨q, hq, m2⟩, m3⟩ | ⟨m1, m2⟩
  · left
    have mv : min 99999 v = v := by omega
    have st := X1_settle (D := D1) (hc := 56) (z := mZ Q) (g := g) hz (by omega) (v := v) (by omega)
    rw [mv] at st
    obtain ⟨⟨a1, a2, a3⟩, ⟨b1, b2⟩, ⟨c1, c2⟩, ⟨O, d2, d3⟩, d4⟩ := S1
    obtain ⟨⟨⟨r11, r11'⟩, r12, r13⟩, ⟨r14, r15⟩, r16, r17⟩ := b1
    obtain ⟨⟨s1, s2, s3, s4⟩, s5, s6, s7⟩ := b2
    obtain ⟨o1, o2, o3, o4, o5, o6, o7⟩ := O
    obtain ⟨⟨z1, z2⟩, z3, z4⟩ := Z1
    refine ⟨sA D1 61 (3 * mZ Q + g) v, sA E1 83 (3 * mZ Q + g) v, q, (Q.1, Q.2.1, (putP (mP Q) (3 * mZ Q + g) v, Q.2.2.1.2), Q.2.2.2), hq, ?_, eR, n4.go.trans ⟨fun b hb => ⟨rfl, ?_⟩, fun x => ⟨fun c hc => ?_, fun k hk => ?_⟩⟩, gR, ⟨⟨m2.1.1.a (by omega), m2.1.2.a (by omega)⟩, m2.2⟩, ⟨⟨a1, a2, a3⟩, ⟨⟨⟨⟨r11, r11'⟩, r12, fun c hc => ?_⟩, ⟨r14, r15⟩, fun k hk => ?_, fun z hz' => ?_⟩, ⟨⟨?_, ?_, ?_, ?_⟩, fun c hc => ?_, fun k hk => ?_, fun z hz' k hk => ?_⟩⟩, ⟨⟨fun c hc => ?_, fun k hk => ?_⟩, ?_⟩, ⟨⟨o1, o2, o3, o4, o5, fun k hk => ?_, o7⟩, d2, d3⟩, d4⟩, ⟨⟨?_, fun k hk => ?_⟩, fun k hk => ?_, fun j hj => ?_⟩, rfl, rfl⟩
    · simp (disch := omega) only [m_X9_readPeople_28, m1, bnd_some, gd_t, if_f, n3, st, ob_some]
    · funext k; rw [sA2, if_neg (by omega)]
    · rw [sA2, if_neg (by omega)]; exact x.1 c hc
    · rw [sA2, if_neg (by omega)]; exact x.2 k hk
    · rw [sA2, if_neg (by omega), sA2, if_neg (by omega), sA2, if_neg (by omega), sA2, if_neg (by omega)]; exact r13 c hc
    · have h0 : k % 3 < mG Q ∧ k / 3 < mZ Q := hk
      show (sA D1 61 (3 * mZ Q + g) v).2 61 k = putP (mP Q) (3 * mZ Q + g) v k
      unfold putP
      rw [sA2, if_neg (by omega), if_neg (by omega)]; exact r16 k hk
    · obtain ⟨x1, x2⟩ := r17 z hz'
      refine ⟨?_, fun k hk => ?_⟩
      · rw [sA2, if_neg (by omega)]; exact x1
      · rw [sA2, if_neg (by omega)]; exact x2 k hk
    · rw [sA2, if_neg (by omega)]; exact s1
    · rw [sA2, if_neg (by omega)]; exact s2
    · rw [sA2, if_neg (by omega)]; exact s3
    · rw [sA2, if_neg (by omega)]; exact s4
    · rw [sA2, if_neg (by omega), sA2, if_neg (by omega)]; exact s5 c hc
    · show (sA E1 83 (3 * mZ Q + g) v).2 83 k = putP (mP Q) (3 * mZ Q + g) v k
      unfold putP
      rw [sA2]
      by_cases q0 : k = 3 * mZ Q + g
      · rw [if_pos ⟨rfl, q0⟩, if_pos q0]
      · rw [if_neg (fun hh => q0 hh.2), if_neg q0]; exact s6 k hk
    · rw [sA2, if_neg (by omega)]; exact s7 z hz' k hk
    · rw [sA2, if_neg (by omega)]; exact c1.1 c hc
    · rw [sA2, if_neg (by omega)]; exact c1.2 k hk
    · exact (RGo.a (by omega)).dg c2
    · show 0 ≤ putP (mP Q) (3 * mZ Q + g) v k ∧ putP (mP Q) (3 * mZ Q + g) v k ≤ 99999
      unfold putP
      split
      · omega
      · exact o6 k hk
    · rw [sA2, if_neg (by omega)]; exact z1
    · rw [sA2, if_neg (by omega)]; exact z2 k hk
    · rw [sA2, if_neg (by omega)]; exact z3 k hk
    · show (sA D1 61 (3 * mZ Q + g) v).2 61 (3 * mZ Q + j) = putP (mP Q) (3 * mZ Q + g) v (3 * mZ Q + j)
      unfold putP
      rw [sA2]
      by_cases q0 : j = g
      · rw [if_pos ⟨rfl, by omega⟩, if_pos (by omega)]
      · rw [if_neg (by omega), if_neg (by omega)]; exact z4 j (by omega)
  · right
    refine ⟨D1, sA E1 83 (3 * mZ Q + g) v, ?_, eR, n4.go, gR, m2.a (by omega), ?_⟩
    · simp (disch := omega) only [m_X9_readPeople_28, m1, bnd_some, gd_t, ↓reduceIte, done_some]
    · rw [sA2, if_neg (by omega)]; exact S1.2.1.2.1.2.2.2
theorem J_people {n : Nat} {T : Nat → Int} {R : RS} {t : Int} : ∀ (m g : Nat) (D E : DT) (p : Nat) (Q : MS), g + m = mG Q → mZ Q < 8 → LX D E n T p → DS D E R t Q → ZS D E Q g → ∃ D' E', CGo D D' ∧ RGo E E' ∧ ((m_X9_readPeople_2 (mZ Q : Int) ((g : Int), D) = some (1, D') ∧ ∃ q Q', p ≤ q ∧ Q'.1 = Q.1 ∧ Q'.2.2.1.2 = Q.2.2.1.2 ∧ LX D' E' n T q ∧ DS D' E' R t Q' ∧ ZS D' E' Q' (mG Q) ∧ m_X11_zoneLine_120 (mZ Q : Int) ((g : Int), E) = some (sA E' 77 2 ((mZ Q : Int) + 1))) ∨ (m_X9_readPeople_2 (mZ Q : Int) ((g : Int), D) = some (0, D') ∧ LZ D' E' n T ∧ m_X11_zoneLine_120 (mZ Q : Int) ((g : Int), E) = some E')) := by
  intro m
  induction m with
  | zero =>
    intro g D E p Q hg hz L S Z
    have g3 := S.2.2.2.1.1.2.2.2.1
    have eG : D.1 56 3 = (mG Q : Int) := S.2.1.1.2.1.2
    have eG' : E.2 77 3 = (mG Q : Int) := S.2.1.2.1.2.2.2
    have eZ' : E.2 77 2 = (mZ Q : Int) := S.2.1.2.1.2.2.1
    refine ⟨D, E, CGo.refl _, RGo.refl _, Or.inl ⟨?_, p, Q, Nat.le_refl _, rfl, rfl, L, S, ?_, ?_⟩⟩
    · unfold m_X9_readPeople_2
      refine loopF_inr ?_
      simp (disch := omega) only [eG, gd_t, if_f, done_some]
    · rw [show mG Q = g by omega]; exact Z
    · unfold m_X11_zoneLine_120
      refine loopF_inr ?_
      simp (disch := omega) only [t3, t2, eG', eZ', gd_t, if_f, sq_eq, done_some]
  | succ m ih =>
    intro g D E p Q hg hz L S Z
    have g3 := S.2.2.2.1.1.2.2.2.1
    have eG : D.1 56 3 = (mG Q : Int) := S.2.1.1.2.1.2
    have eG' : E.2 77 3 = (mG Q : Int) := S.2.1.2.1.2.2.2
    have key : ∀ (D1 E1 : DT) (p1 : Nat), p ≤ p1 → CGo D D1 → RGo E E1 → LX D1 E1 n T p1 → DS D1 E1 R t Q → ZS D1 E1 Q g → (∀ X, m_X9_readPeople_28 (mZ Q : Int) (g : Int) D1 = some X → (fun s : Int × DT =>
  gd (InR s.1 ∧ InR (s.2.1 56 3)) (if s.1 < (s.2.1 56 3) then (
    gd (InR s.1) (if 0 < s.1 then (
      bnd (m_X9_readSign 44 s.2) (fun r20 D20 =>
      gd (InR r20) (if r20 = 0 then (
        done (
        some (0, D20)
        )
      ) else (
        m_X9_readPeople_28 (mZ Q : Int) s.1 D20
      ))
      )
    ) else (
      m_X9_readPeople_28 (mZ Q : Int) s.1 s.2
    ))
  ) else (
    done (
    some (1, s.2)
    )
  ))) ((g : Int), D) = some X) → (∀ X, m_X11_zoneLine_140 (mZ Q : Int) (g : Int) E1 = some X → (fun s : Int × DT =>
  gd ((0 : Int) ≤ 3 ∧ 3 < (4 : Int)) (
  gd (InR s.1 ∧ InR (s.2.2 77 (Int.toNat 3))) (if s.1 < (s.2.2 77 (Int.toNat 3)) then (
    gd (InR s.1) (if 0 < s.1 then (
      (m_X11_asks 44 s.2).bind (fun D137 =>
      m_X11_zoneLine_140 (mZ Q : Int) s.1 D137
      )
    ) else (
      m_X11_zoneLine_140 (mZ Q : Int) s.1 s.2
    ))
  ) else (
    done (
    gd ((0 : Int) ≤ 2 ∧ 2 < (4 : Int)) (
    gd ((0 : Int) ≤ 2 ∧ 2 < (4 : Int)) (sq (sA s.2 77 (Int.toNat 2) ((s.2.2 77 (Int.toNat 2)) + 1)) (fun D172 =>
    some D172
    )))
    )
  ))
  )) ((g : Int), E) = some X) → ∃ D' E', CGo D D' ∧ RGo E E' ∧ ((m_X9_readPeople_2 (mZ Q : Int) ((g : Int), D) = some (1, D') ∧ ∃ q Q', p ≤ q ∧ Q'.1 = Q.1 ∧ Q'.2.2.1.2 = Q.2.2.1.2 ∧ LX D' E' n T q ∧ DS D' E' R t Q' ∧ ZS D' E' Q' (mG Q) ∧ m_X11_zoneLine_120 (mZ Q : Int) ((g : Int), E) = some (sA E' 77 2 ((mZ Q : Int) + 1))) ∨ (m_X9_readPeople_2 (mZ Q : Int) ((g : Int), D) = some (0, D') ∧ LZ D' E' n T ∧ m_X11_zoneLine_120 (mZ Q : Int) ((g : Int), E) = some E')) := by
      intro D1 E1 p1 hp1 gC gR L1 S1 Z1 fC fR
      rcases J_person L1 S1 Z1 (by omega) hz with ⟨D2, E2, q, Q2, hq, x1, x2, x3, x4, x5, x6, x7, x8, x9⟩ | ⟨D2, E2, x1, x2, x3, x4, x5, x6⟩
      · have ez : mZ Q2 = mZ Q := by show Q2.1.2.2.1 = _; rw [x8]
        have eg : mG Q2 = mG Q := by show Q2.1.2.2.2 = _; rw [x8]
        obtain ⟨D', E', y1, y2, y3⟩ := ih (g + 1) D2 E2 q Q2 (by omega) (by omega) x5 x6 x7
        rw [ez, eg] at y3
        refine ⟨D', E', gC.trans (x3.trans y1), gR.trans (x4.trans y2), ?_⟩
        have rC : m_X9_readPeople_2 (mZ Q : Int) ((g : Int), D) = m_X9_readPeople_2 (mZ Q : Int) (((g + 1 : Nat) : Int), D2) := loopF_inl (fC _ x1)
        have rR : m_X11_zoneLine_120 (mZ Q : Int) ((g : Int), E) = m_X11_zoneLine_120 (mZ Q : Int) (((g + 1 : Nat) : Int), E2) := loopF_inl (fR _ x2)
        rw [rC, rR]
        rcases y3 with ⟨y4, q', Q', y5, y6, y7, y8⟩ | y4
        · left
          exact ⟨y4, q', Q', by omega, y6.trans x8, y7.trans x9, y8⟩
        · right
          exact y4
      · have rC : m_X9_readPeople_2 (mZ Q : Int) ((g : Int), D) = some (0, D2) := loopF_inr (fC _ x1)
        have rR : m_X11_zoneLine_120 (mZ Q : Int) ((g : Int), E) = m_X11_zoneLine_120 (mZ Q : Int) (((g + 1 : Nat) : Int), E2) := loopF_inl (fR _ x2)
        obtain ⟨E3, y1, y2, y3, y4⟩ := Y_zone120 (n := n) (z := mZ Q) (G := mG Q) (T := T) (by omega) hz m (g + 1) E2 (by omega) x5.2.1 x6
        refine ⟨D2, E3, gC.trans x3, gR.trans (x4.trans y4), Or.inr ⟨rC, ⟨x5.1, y2, by rw [y3]; exact x5.2.2⟩, by rw [rR]; exact y1⟩⟩
    by_cases q0 : 0 < g
    · obtain ⟨D1, E1, w1, w2, w3, w4⟩ := J_sign (c := 44) (by omega) L
      rcases w4 with ⟨u1, p1, u2, u3⟩ | ⟨u1, u2⟩
      · refine key D1 E1 p1 (by omega) w2.go w3.go3 u3 (S.lex w2 w3 (by simp) (by simp)) (Z.lex w2 w3) (fun X hX => ?_) (fun X hX => ?_)
        · simp (disch := omega) only [eG, gd_t, if_t, u1, bnd_some, if_f, hX]
        · simp (disch := omega) only [t3, eG', gd_t, if_t, w1, ob_some, hX]
      · have k1 : 3 * (mZ Q : Int) + (g : Int) = ((3 * mZ Q + g : Nat) : Int) := by omega
        have rC : m_X9_readPeople_2 (mZ Q : Int) ((g : Int), D) = some (0, D1) := by
          unfold m_X9_readPeople_2
          refine loopF_inr ?_
          simp (disch := omega) only [eG, gd_t, if_t, u1, bnd_some, ↓reduceIte, done_some]
        have e1G : E1.2 77 3 = (mG Q : Int) := by rw [w3.2]; exact eG'
        obtain ⟨E3, y1, y2, y3, y4⟩ := Y_zone120 (n := n) (z := mZ Q) (G := mG Q) (T := T) (by omega) hz m (g + 1) (sA E1 83 (3 * mZ Q + g) 0) (by omega) (u2.2.1.a (by omega)) (by rw [sA2, if_neg (by omega)]; exact e1G)
        have rR : m_X11_zoneLine_120 (mZ Q : Int) ((g : Int), E) = m_X11_zoneLine_120 (mZ Q : Int) (((g + 1 : Nat) : Int), sA E1 83 (3 * mZ Q + g) 0) := by
          unfold m_X11_zoneLine_120
          refine loopF_inl ?_
          simp (disch := omega) only [t3, eG', gd_t, if_t, w1, ob_some, m_X11_zoneLine_140, Y_number u2.2.1, bnd_some, k1, tn, sq_eq]
          rfl
        refine ⟨D1, E3, w2.go, w3.go3.trans ((RGo.a (by omega)).trans y4), Or.inr ⟨rC, ⟨u2.1, y2, by rw [y3]; exact u2.2.2⟩, by rw [rR]; exact y1⟩⟩
    · have q0' : ¬ (0 : Int) < (g : Int) := by omega
      refine key D E p (Nat.le_refl _) (CGo.refl _) (RGo.refl _) L S Z (fun X hX => ?_) (fun X hX => ?_)
      · simp (disch := omega) only [eG, gd_t, if_t, if_f q0', hX]
      · simp (disch := omega) only [t3, eG', gd_t, if_t, if_f q0', hX]
