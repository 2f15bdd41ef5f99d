/-! ===== both read: a zone ===== -/
theorem loopF_dn {σ α : Type} {f : σ → Option (σ ⊕ α)} {s : σ} {X : Option α} (h : f s = done X) : loopF f s = X := by
  cases X with
  | none => exact loopF_none h
  | some a => exact loopF_inr h
theorem mkLZ {D E : DT} {n q q' b : Nat} {T : Nat → Int} (h : CT D n T q) (hr : RT E n T q') (hb : b ≤ n) (f2 : E.1 73 19 = -1) : m_X9_failAt (b : Int) D = some (0, sF D 55 8 (b : Int)) ∧ m_X11_failsAt (b : Int) E = some (sF E 73 19 (b : Int)) ∧ LZ (sF D 55 8 (b : Int)) (sF E 73 19 (b : Int)) n T := by
  have n400 := h.1.1
  refine ⟨?_, X11_failsAt_n f2, ⟨q, h.f6 (Or.inr (by omega))⟩, ⟨⟨q', hr.to LKp.f (by simp) (by rw [sF1, if_neg (by omega)]; exact hr.2.2.2.1) hr.2.2.2.2⟩, ?_, ?_⟩, ?_⟩
  · simp (disch := omega) only [m_X9_failAt, sq_eq]
  · rw [sF1, if_pos ⟨rfl, rfl⟩]; omega
  · rw [sF1, if_pos ⟨rfl, rfl⟩]; omega
  · rw [sF1, if_pos ⟨rfl, rfl⟩, sF1, if_pos ⟨rfl, rfl⟩]
theorem X11_zone59 {E : DT} {n b e z : Nat} {T : Nat → Int} (I : IW E n T b e) (hk : b < e ∧ e - b ≤ 6 ∧ e ≤ n) (hz : z < 8) : ∃ E', m_X11_zoneLine_59 (z : Int) ((e - b : Nat) : Int) (0, E) = ((m_X11_asksWord 16 (sF E' 73 16 (e : Int))).bind (fun D115 => m_X11_zoneLine_120 (z : Int) (0, D115))) ∧ E'.1 = E.1 ∧ (∀ a, a ≠ 85 → E'.2 a = E.2 a) ∧ (∀ j, E'.2 85 j = if 6 * z ≤ j ∧ j < 6 * z + 6 then (if j - 6 * z < e - b then T (b + (j - 6 * z)) else 0) else E.2 85 j) := by
  have n400 := I.1.1.1
  have t16 : E.1 73 16 = (b : Int) := I.1.2.2.2.1
  unfold m_X11_zoneLine_59
  obtain ⟨s', ⟨i1, i2, i3, i4⟩, ee⟩ := loop_inv (f := fun s : Int × DT =>
  gd (InR s.1 ∧ InR 6) (if s.1 < 6 then (
    gd (InR s.1 ∧ InR ((e - b : Nat) : Int)) (if s.1 < ((e - b : Nat) : Int) then (
      gd ((0 : Int) ≤ ((s.2.1 73 16) + s.1) ∧ ((s.2.1 73 16) + s.1) < (400 : Int)) (
      gd (((0 : Int) ≤ ((6 * (z : Int)) + s.1) ∧ ((6 * (z : Int)) + s.1) < (48 : Int)) ∧ ((-128 : Int) ≤ (s.2.2 74 (Int.toNat ((s.2.1 73 16) + s.1))) ∧ (s.2.2 74 (Int.toNat ((s.2.1 73 16) + s.1))) ≤ (127 : Int))) (sq (sA s.2 85 (Int.toNat ((6 * (z : Int)) + s.1)) (s.2.2 74 (Int.toNat ((s.2.1 73 16) + s.1)))) (fun D95 =>
      some ((.inl ((s.1 + 1), D95)) : (Int × DT) ⊕ DT)
      ))
      )
    ) else (
      gd (((0 : Int) ≤ ((6 * (z : Int)) + s.1) ∧ ((6 * (z : Int)) + s.1) < (48 : Int)) ∧ ((-128 : Int) ≤ 0 ∧ 0 ≤ (127 : Int))) (sq (sA s.2 85 (Int.toNat ((6 * (z : Int)) + s.1)) 0) (fun D95 =>
      some (.inl ((s.1 + 1), D95))
      ))
    ))
  ) else (
    done (
    sq (sF s.2 73 16 ((s.2.1 73 16) + ((e - b : Nat) : Int))) (fun D109 =>
    (m_X11_asksWord 16 D109).bind (fun D115 =>
    m_X11_zoneLine_120 (z : Int) (0, D115)
    ))
    )
  ))) (fun k s => s.1 = (k : Int) ∧ s.2.1 = E.1 ∧ (∀ a, a ≠ 85 → s.2.2 a = E.2 a) ∧ ∀ j, s.2.2 85 j = if 6 * z ≤ j ∧ j < 6 * z + k then (if j - 6 * z < e - b then T (b + (j - 6 * z)) else 0) else E.2 85 j) 6 (s := (0, E)) ⟨rfl, rfl, fun _ _ => rfl, fun j => by rw [if_neg (by omega)]⟩ (fun k s hk6 ⟨a1, a2, a3, a4⟩ => by
      have k1 : (b : Int) + (k : Int) = ((b + k : Nat) : Int) := by omega
      have k2 : 6 * (z : Int) + (k : Int) = ((6 * z + k : Nat) : Int) := by omega
      have t16' : s.2.1 73 16 = (b : Int) := by rw [a2]; exact t16
      have upd : ∀ v : Int, v = (if k < e - b then T (b + k) else 0) → ∀ j, (sA s.2 85 (6 * z + k) v).2 85 j = if 6 * z ≤ j ∧ j < 6 * z + (k + 1) then (if j - 6 * z < e - b then T (b + (j - 6 * z)) else 0) else E.2 85 j := fun v hv j => by
        rw [sA2]
        by_cases q : j = 6 * z + k
        · rw [if_pos ⟨rfl, q⟩, if_pos (by omega), hv, show j - 6 * z = k by omega]
        · rw [if_neg (fun hh => q hh.2), a4 j]
          by_cases q' : 6 * z ≤ j ∧ j < 6 * z + k
          · have q2 : 6 * z ≤ j ∧ j < 6 * z + (k + 1) := by omega
            rw [if_pos q', if_pos q2]
          · have q2 : ¬ (6 * z ≤ j ∧ j < 6 * z + (k + 1)) := by omega
            rw [if_neg q', if_neg q2]
      have oth : ∀ v : Int, ∀ a, a ≠ 85 → (sA s.2 85 (6 * z + k) v).2 a = E.2 a := fun v a ha => by
        rw [← a3 a ha]
        funext j
        rw [sA2, if_neg (fun hh => ha hh.1)]
      by_cases ql : k < e - b
      · have tk : s.2.2 74 (b + k) = T (b + k) := by rw [a3 74 (by omega)]; exact I.1.2.2.1 (b + k) (by omega)
        have tb := I.1.1.2 (b + k) (by omega)
        refine ⟨((k : Int) + 1, sA s.2 85 (6 * z + k) (T (b + k))), ?_, rfl, a2, oth _, upd _ (by rw [if_pos ql])⟩
        simp (disch := omega) only [a1, gd_t, if_t, t16', k1, k2, tn, tk, sq_eq]
      · refine ⟨((k : Int) + 1, sA s.2 85 (6 * z + k) 0), ?_, rfl, a2, oth _, upd _ (by rw [if_neg ql])⟩
        have ql' : ¬ (k : Int) < ((e - b : Nat) : Int) := by omega
        simp (disch := omega) only [a1, gd_t, if_t, if_f ql', k2, tn, sq_eq])
  refine ⟨s'.2, ?_, i2, i3, i4⟩
  rw [ee]
  refine loopF_dn ?_
  have i1' : s'.1 = 6 := i1
  have e16 : s'.2.1 73 16 + ((e - b : Nat) : Int) = (e : Int) := by rw [i2, t16]; omega
  simp (disch := omega) only [i1', gd_t, if_f, sq_eq, e16]
def putN (NL : Nat → Nat) (z l : Nat) : Nat → Nat := fun y => if y = z then l else NL y
def putL (N : Nat → Int) (T : Nat → Int) (z b l : Nat) : Nat → Int := fun j => if 6 * z ≤ j ∧ j < 6 * z + l then T (b + (j - 6 * z)) else N j
theorem line_zone {D E : DT} {n b e : Nat} {T : Nat → Int} {R : RS} {t : Int} {Q : MS} (L : LW D E n T b e) (S : DS D E R t Q) (w : isW T b e (strB 2)) : JR D E n T R b (m_X9_readZone D) ((m_X11_zoneLine E).bind m_X11_line_83) := by
  obtain ⟨F1, F2, F3, F4, F5⟩ := L.fail
  have O := S.2.2.2.1.1
  have z8 := O.2.2.1
  have eZ : D.1 56 2 = (mZ Q : Int) := S.2.1.1.2.1.1
  have eZ' : E.2 77 2 = (mZ Q : Int) := S.2.1.2.1.2.2.1
  by_cases q8 : mZ Q = 8
  · have q8' : (mZ Q : Int) = 8 := by omega
    have eC : m_X9_readZone D = some (0, sF D 55 8 (b : Int)) := by
      simp (disch := omega) only [m_X9_readZone, eZ, ↓gd_t, ↓if_t, ↓bnd_of F1, true_or, gd_T]
    have eR : (m_X11_zoneLine E).bind m_X11_line_83 = some (sF E 73 19 (b : Int)) := by
      simp (disch := omega) only [m_X11_zoneLine, t2, eZ', ↓gd_t, ↓if_t q8', ↓ob_of F2, ob_some, Y_83 F3]
    rw [eC, eR]
    exact JR.bad F4 F5 F3
  have q8' : ¬ (mZ Q : Int) = 8 := by omega
  obtain ⟨E1, w1, w2, L1⟩ := L.word 2 15 rfl w
  have hbe : b < e := L.2.2.2.1
  have n400 := L.1.1.1.1
  obtain ⟨D2, d1, d2, d3, d4, d5⟩ := X9_readWord L1.1.1
  obtain ⟨E2, I2, l2, y2, nn2⟩ := X11_isName L1.1.2 L1.2.2
  have hb := skp_b (T := T) L1.1.1.2.2.2.2
  have wb := wnd_b (T := T) hb.2
  generalize skp n T e = b2 at *
  generalize wnd n T b2 = e2 at *
  have S2 := S.lex d1 ((w2.trans l2).mono (ls := [16, 17, 19]) (by simp)) (by simp) (by simp)
  have gR2 : RGo E E2 := w2.go3.trans l2.go2
  have eZ2 : D2.1 56 2 = (mZ Q : Int) := S2.2.1.1.2.1.1
  have fC : ∀ v : Int, m_X9_failAt (D2.1 55 4) D2 = some (0, sF D2 55 8 (b2 : Int)) := fun v => by
    rw [d3]
    exact (mkLZ d2 I2.1 hb.2 I2.2.2.1).1
  have fC := fC 0
  have fR : m_X11_failsAt (E2.1 73 17) E2 = some (sF E2 73 19 (b2 : Int)) := by
    rw [I2.2.1]
    exact (mkLZ d2 I2.1 hb.2 I2.2.2.1).2.1
  have fZ := (mkLZ d2 I2.1 hb.2 I2.2.2.1).2.2
  have gF : RGo E (sF E2 73 19 (b2 : Int)) := gR2.trans (LKp.f.go (by simp))
  have gFC : CGo D (sF D2 55 8 (b2 : Int)) := d1.go.trans TKp.f.go
  rcases Classical.em (nmOK T b2 e2) with nm | nm
  · have eN := y2 nm
    have hw : ¬ e2 = b2 := by have := nm.1; omega
    rw [if_neg hw] at d5
    obtain ⟨d5, d6⟩ := d5
    have d6' : D2.1 55 8 = -1 := by rw [d6]; exact L1.2.1
    have len6 := nm.2.1
    have nR := (X9_isReserved d2 d3 d4 ⟨wb.1, wb.2⟩).2 nm.2.2
    obtain ⟨E3, I3, l3, tl⟩ := X11_told O S2.2.1.2 I2 ⟨nm.1, nm.2.1⟩
    have gR3 : RGo E E3 := gR2.trans l3.go2
    rcases X9_zoneNamed O S2.2.1.1 d2 d3 d4 ⟨wb.1, wb.2⟩ with ⟨z, hz, s1, s2, s3⟩ | ⟨s1, s3⟩
    · have hzt : ∃ z' : Nat, z' < mZ Q ∧ m_X11_told E2 = some ((z' : Int), E3) := by
        rcases tl with ⟨z', u1, u2, u3, u4⟩ | ⟨u1, u2⟩
        · exact ⟨z', u1, u4⟩
        · exact absurd s1 (u1 z hz)
      clear tl
      obtain ⟨z', u1, u2⟩ := hzt
      have fZ3 := mkLZ d2 I3.1 hb.2 I3.2.2.1
      have fR3 : m_X11_failsAt (E3.1 73 17) E3 = some (sF E3 73 19 (b2 : Int)) := by
        rw [I3.2.1]
        exact fZ3.2.1
      have eC : m_X9_readZone D = some (0, sF D2 55 8 (b2 : Int)) := by
        simp (disch := omega) only [m_X9_readZone, eZ, ↓gd_t, ↓if_f, ↓if_t, ↓bnd_of d5, d4, ↓ob_of nR, ↓reduceIte, ↓ob_of s3, ↓bnd_of fC, true_or, gd_T]
      have eR : (m_X11_zoneLine E).bind m_X11_line_83 = some (sF E3 73 19 (b2 : Int)) := by
        simp (disch := omega) only [m_X11_zoneLine, t2, eZ', ↓gd_t, ↓if_f q8', ↓ob_of w1, ↓bnd_of eN, ↓if_f, ↓bnd_of u2, ↓ob_of fR3, ob_some, Y_83 fZ3.2.2]
      rw [eC, eR]
      exact JR.bad gFC (gR3.trans (LKp.f.go (by simp))) fZ3.2.2
    · have hzt : m_X11_told E2 = some (-1, E3) := by
        rcases tl with ⟨z', u1, u2, u3, u4⟩ | ⟨u1, u2⟩
        · exact absurd u2 (s1 z' u1)
        · exact u2
      clear tl
      obtain ⟨E4, v1, I4, l4⟩ := I3.many
      obtain ⟨E5, x1, x2, x3, x4⟩ := X11_zone59 (z := mZ Q) I4 ⟨nm.1, nm.2.1, wb.2⟩ (by omega)
      have eR0 : (m_X11_zoneLine E).bind m_X11_line_83 = (((m_X11_asksWord 16 (sF E5 73 16 (e2 : Int))).bind (fun D115 => m_X11_zoneLine_120 (mZ Q : Int) (0, D115))).bind m_X11_line_83) := by
        congr 1
        rw [← x1]
        simp (disch := omega) only [m_X11_zoneLine, t2, eZ', ↓gd_t, ↓if_f q8', ↓ob_of w1, ↓bnd_of eN, ↓if_f, ↓bnd_of hzt, ↓reduceIte, ↓bnd_of v1]
      obtain ⟨D4, hD4⟩ : ∃ D4, D4 = sA (sCopy D2 64 b2 62 (mZ Q * 6) (e2 - b2)) 63 (mZ Q) ((e2 - b2 : Nat) : Int) := ⟨_, rfl⟩
      obtain ⟨E6, hE6⟩ : ∃ E6, E6 = sF E5 73 16 (e2 : Int) := ⟨_, rfl⟩
      rw [← hE6] at eR0
      have D4f : D4.1 = D2.1 := by subst hD4; rfl
      have D4c : ∀ k, D4.2 62 k = if 6 * mZ Q ≤ k ∧ k < 6 * mZ Q + (e2 - b2) then D2.2 64 (b2 + (k - 6 * mZ Q)) else D2.2 62 k := fun k => by
        subst hD4
        rw [sA2, if_neg (by omega)]
        show (if 62 = 62 ∧ mZ Q * 6 ≤ k ∧ k < mZ Q * 6 + (e2 - b2) then D2.2 64 (b2 + (k - mZ Q * 6)) else D2.2 62 k) = _
        rw [Nat.mul_comm (mZ Q) 6]
        simp only [true_and]
      have D4l : ∀ k, D4.2 63 k = if k = mZ Q then ((e2 - b2 : Nat) : Int) else D2.2 63 k := fun k => by
        subst hD4
        rw [sA2]
        by_cases q : k = mZ Q
        · rw [if_pos ⟨rfl, q⟩, if_pos q]
        · rw [if_neg (fun hh => q hh.2), if_neg q]
          show (if 63 = 62 ∧ mZ Q * 6 ≤ k ∧ k < mZ Q * 6 + (e2 - b2) then D2.2 64 (b2 + (k - mZ Q * 6)) else D2.2 63 k) = _
          rw [if_neg (by omega)]
      have D4o : ∀ a, a ≠ 62 → a ≠ 63 → D4.2 a = D2.2 a := fun a h1 h2 => by
        subst hD4
        funext k
        rw [sA2, if_neg (fun hh => h2 hh.1)]
        show (if a = 62 ∧ mZ Q * 6 ≤ k ∧ k < mZ Q * 6 + (e2 - b2) then D2.2 64 (b2 + (k - mZ Q * 6)) else D2.2 a k) = _
        rw [if_neg (fun hh => h1 hh.1)]
      have tx := d2.2.2.1
      have ltr : ∀ k, k < e2 - b2 → 97 ≤ T (b2 + k) ∧ T (b2 + k) ≤ 122 := fun k hk => by
        have h1 := I2.2.2.2.2
        have := scn_in (T := T) isLe (n - b2) b2 (b2 + k) (by omega) (by
          have : wnd n T b2 = scn isLe T (n - b2) b2 := rfl
          rw [← this, h1]; omega)
        exact this
      have L6 : LX D4 E6 n T e2 := by
        refine ⟨⟨⟨d2.1, by rw [D4f]; exact d2.2.1, fun k hk => by rw [D4o 64 (by omega) (by omega)]; exact tx k hk, by rw [D4f]; exact d2.2.2.2.1, wb.2⟩, ?_⟩, by rw [D4f]; exact d6', ?_⟩
        · subst hE6
          refine ⟨I4.1.1, ?_, fun k hk => ?_, by rw [sF1, if_pos ⟨rfl, rfl⟩], wb.2⟩
          · rw [sF1, if_neg (by omega), x2]; exact I4.1.2.1
          · show E5.2 74 k = T k
            rw [x3 74 (by omega)]; exact I4.1.2.2.1 k hk
        · subst hE6
          rw [sF1, if_neg (by omega), x2]; exact I4.2.2.1
      obtain ⟨Q1, hQ1⟩ : ∃ Q1 : MS, Q1 = (Q.1, Q.2.1, (mP Q, putN (mNL Q) (mZ Q) (e2 - b2), putL (mN Q) T (mZ Q) b2 (e2 - b2)), Q.2.2.2) := ⟨_, rfl⟩
      have lE : E4.2 = E.2 := by rw [l4.2, l3.2, l2.2, w2.2]
      have lE1 : ∀ k, k ∉ [16, 17, 19] → E4.1 73 k = E.1 73 k := fun k hk => by
        rw [l4.1 73 k (fun _ hh => hk (by simp at hh ⊢; omega)), l3.1 73 k (fun _ hh => hk (by simp at hh ⊢; omega)), l2.1 73 k (fun _ hh => hk (by simp at hh ⊢; omega)), w2.1 73 k (fun _ hh => hk hh)]
      have E6o : ∀ a, a ≠ 85 → E6.2 a = E.2 a := fun a ha => by subst hE6; show E5.2 a = _; rw [x3 a ha, lE]
      have E6n : ∀ j, E6.2 85 j = if 6 * mZ Q ≤ j ∧ j < 6 * mZ Q + 6 then (if j - 6 * mZ Q < e2 - b2 then T (b2 + (j - 6 * mZ Q)) else 0) else E.2 85 j := fun j => by subst hE6; show E5.2 85 j = _; rw [x4 j, lE]
      have nmb : ∀ k, k < 48 → -128 ≤ E6.2 85 k ∧ E6.2 85 k ≤ 127 := fun k hk => by
        rw [E6n]
        split
        · split
          · rename_i hh
            have := ltr _ hh
            omega
          · omega
        · exact S.2.2.1.2.2 k hk
      have gC4 : CGo D D4 := d1.go.trans ⟨fun a ha => ⟨by rw [D4f], D4o a (by omega) (by omega)⟩, fun x => ⟨fun c hc => by
        show D4.2 58 c = 0 ∨ D4.2 58 c = 1
        rw [D4o 58 (by omega) (by omega)]; exact x.1 c hc, fun k hk => by
        show -128 ≤ D4.2 62 k ∧ D4.2 62 k ≤ 127
        rw [D4c]
        split
        · rename_i hh
          rw [tx _ (by omega)]
          have := ltr (k - 6 * mZ Q) (by omega)
          omega
        · exact x.2 k hk⟩⟩
      have gR6 : RGo E E6 := by
        refine ⟨⟨fun a k hk => ?_, fun a ha => E6o a (fun hh => ha (by rw [hh]; simp))⟩, fun x c hc => by rw [E6o 81 (by omega)]; exact x c hc, fun _ => nmb⟩
        subst hE6
        rw [sF1, if_neg (fun hh => hk hh.1 (by rw [hh.2]; simp)), x2]
        by_cases q : a = 73
        · subst q
          exact lE1 k (fun hh => hk rfl (by simp at hh ⊢; omega))
        · rw [l4.1 a k (fun hh => absurd hh q), l3.1 a k (fun hh => absurd hh q), l2.1 a k (fun hh => absurd hh q), w2.1 a k (fun hh => absurd hh q)]
      have S6 : DS D4 E6 R t Q1 := by
        obtain ⟨⟨a1, a2, a3⟩, ⟨b1, b2'⟩, ⟨c1, c2⟩, ⟨O, dd2, dd3⟩, dd4⟩ := S2
        obtain ⟨⟨⟨r11, r11'⟩, r12, r13⟩, ⟨r14, r15⟩, r16, r17⟩ := b1
        obtain ⟨⟨s1', s2', s3', s4'⟩, s5', s6', s7'⟩ := S.2.1.2
        obtain ⟨o1, o2, o3, o4, o5, o6, o7, o8⟩ := O
        have eN1 : ∀ z, z < mZ Q → putN (mNL Q) (mZ Q) (e2 - b2) z = mNL Q z := fun z hz => by
          unfold putN; rw [if_neg (by omega)]
        have eN2 : ∀ z, z < mZ Q → ∀ k, k < 6 → putL (mN Q) T (mZ Q) b2 (e2 - b2) (6 * z + k) = mN Q (6 * z + k) := fun z hz k hk => by
          unfold putL; rw [if_neg (by omega)]
        subst hQ1
        refine ⟨⟨a1, by rw [D4f]; exact a2, ?_⟩, ⟨⟨⟨?_, r12, fun c hc => ?_⟩, ?_, fun k hk => ?_, fun z hz => ?_⟩, ⟨⟨?_, ?_, ?_, ?_⟩, fun c hc => ?_, fun k hk => ?_, fun z hz k hk => ?_⟩⟩, ⟨gC4.2 S.2.2.1.1, gR6.dg S.2.2.1.2⟩, ⟨⟨o1, o2, o3, o4, o5, o6, fun z hz => ?_, o8⟩, dd2, fun z hz i hi => ?_⟩, dd4⟩
        · have e21 : E6.1 73 21 = E.1 73 21 := by
            subst hE6
            rw [sF1, if_neg (by omega), x2, lE1 21 (by simp)]
          rw [e21]
          exact S.1.2.2
        · rw [D4f]; exact ⟨r11, r11'⟩
        · rw [D4o _ (by omega) (by omega), D4o _ (by omega) (by omega), D4o _ (by omega) (by omega), D4o _ (by omega) (by omega)]; exact r13 c hc
        · rw [D4f]; exact ⟨r14, r15⟩
        · rw [D4o _ (by omega) (by omega)]; exact r16 k hk
        · obtain ⟨y1, y2⟩ := r17 z hz
          have hz' : z < mZ Q := hz
          have nb := o7 z hz'
          show D4.2 63 z = ((putN (mNL Q) (mZ Q) (e2 - b2) z : Nat) : Int) ∧ ∀ k, k < putN (mNL Q) (mZ Q) (e2 - b2) z → D4.2 62 (6 * z + k) = putL (mN Q) T (mZ Q) b2 (e2 - b2) (6 * z + k)
          rw [eN1 z hz', D4l, if_neg (by omega)]
          refine ⟨y1, fun k hk => ?_⟩
          rw [eN2 z hz' k (by omega), D4c, if_neg (by omega)]
          exact y2 k hk
        · rw [E6o 77 (by omega)]; exact s1'
        · rw [E6o 77 (by omega)]; exact s2'
        · rw [E6o 77 (by omega)]; exact s3'
        · rw [E6o 77 (by omega)]; exact s4'
        · rw [E6o 79 (by omega), E6o 81 (by omega)]; exact s5' c hc
        · rw [E6o 83 (by omega)]; exact s6' k hk
        · have hz' : z < mZ Q := hz
          show E6.2 85 (6 * z + k) = if k < putN (mNL Q) (mZ Q) (e2 - b2) z then putL (mN Q) T (mZ Q) b2 (e2 - b2) (6 * z + k) else 0
          rw [eN1 z hz', eN2 z hz' k hk, E6n, if_neg (by omega)]
          exact s7' z hz' k hk
        · have hz' : z < mZ Q := hz
          have nb := o7 z hz'
          show 1 ≤ putN (mNL Q) (mZ Q) (e2 - b2) z ∧ putN (mNL Q) (mZ Q) (e2 - b2) z ≤ 6 ∧ ∀ k, k < putN (mNL Q) (mZ Q) (e2 - b2) z → 97 ≤ putL (mN Q) T (mZ Q) b2 (e2 - b2) (6 * z + k) ∧ putL (mN Q) T (mZ Q) b2 (e2 - b2) (6 * z + k) ≤ 122
          rw [eN1 z hz']
          refine ⟨nb.1, nb.2.1, fun k hk => ?_⟩
          rw [eN2 z hz' k (by omega)]
          exact nb.2.2 k hk
        · have hz' : z < mZ Q := hz
          have nb := o7 z hz'
          show ¬ (putN (mNL Q) (mZ Q) (e2 - b2) z = (strB i).length ∧ ∀ k, k < putN (mNL Q) (mZ Q) (e2 - b2) z → putL (mN Q) T (mZ Q) b2 (e2 - b2) (6 * z + k) = (strB i).getD k 0)
          rw [eN1 z hz']
          intro hh
          refine dd3 z hz' i hi ⟨hh.1, fun k hk => ?_⟩
          rw [← hh.2 k hk, eN2 z hz' k (by omega)]
      have eNL : putN (mNL Q) (mZ Q) (e2 - b2) (mZ Q) = e2 - b2 := by unfold putN; rw [if_pos rfl]
      have eNN : ∀ k, k < e2 - b2 → putL (mN Q) T (mZ Q) b2 (e2 - b2) (6 * mZ Q + k) = T (b2 + k) := fun k hk => by
        unfold putL
        rw [if_pos (by omega), show 6 * mZ Q + k - 6 * mZ Q = k by omega]
      have Z6 : ZS D4 E6 Q1 0 := by
        subst hQ1
        refine ⟨⟨?_, fun k hk => ?_⟩, fun k hk => ?_, fun j hj => by omega⟩
        · show D4.2 63 (mZ Q) = ((putN (mNL Q) (mZ Q) (e2 - b2) (mZ Q) : Nat) : Int)
          rw [eNL, D4l, if_pos rfl]
        · have hk' : k < e2 - b2 := by rw [← eNL]; exact hk
          show D4.2 62 (6 * mZ Q + k) = putL (mN Q) T (mZ Q) b2 (e2 - b2) (6 * mZ Q + k)
          rw [eNN k hk', D4c, if_pos (by omega), show 6 * mZ Q + k - 6 * mZ Q = k by omega]
          exact tx _ (by omega)
        · show E6.2 85 (6 * mZ Q + k) = if k < putN (mNL Q) (mZ Q) (e2 - b2) (mZ Q) then putL (mN Q) T (mZ Q) b2 (e2 - b2) (6 * mZ Q + k) else 0
          rw [eNL, E6n, if_pos (by omega), show 6 * mZ Q + k - 6 * mZ Q = k by omega]
          by_cases q : k < e2 - b2
          · rw [if_pos q, if_pos q, eNN k q]
          · rw [if_neg q, if_neg q]
      have hZ1 : mZ Q1 = mZ Q := by subst hQ1; rfl
      have hG1 : mG Q1 = mG Q := by subst hQ1; rfl
      have hN1 : Q1.2.2.1.2 = (putN (mNL Q) (mZ Q) (e2 - b2), putL (mN Q) T (mZ Q) b2 (e2 - b2)) := by subst hQ1; rfl
      have gq : (64 ≠ 62 ∧ ((0 : Int) ≤ (b2 : Int) ∧ ((b2 : Int)) + ((e2 - b2 : Nat) : Int) ≤ (400 : Int)) ∧ ((0 : Int) ≤ ((mZ Q : Int) * 6) ∧ ((mZ Q : Int) * 6) + ((e2 - b2 : Nat) : Int) ≤ (48 : Int)) ∧ (0 : Int) ≤ ((e2 - b2 : Nat) : Int)) ∧ ∀ i, i < e2 - b2 → -128 ≤ D2.2 64 (b2 + i) ∧ D2.2 64 (b2 + i) ≤ 127 := by
        refine ⟨by omega, fun i hi => ?_⟩
        rw [tx _ (by omega)]
        have := ltr i hi
        omega
      have tz6 : Int.toNat ((mZ Q : Int) * 6) = mZ Q * 6 := by omega
      have c45 : (sCopy D2 64 b2 62 (mZ Q * 6) (e2 - b2)).1 55 5 = ((e2 - b2 : Nat) : Int) := d4
      obtain ⟨D7, E7, k1, k2, k3, k4⟩ := J_key 3 16 (by decide) rfl L6
      have S7 := S6.lex k2 k3 (by simp) (by simp)
      have Z7 := Z6.lex k2 k3
      rcases k4 with ⟨k5, q7, k6, k7⟩ | ⟨k5, k6⟩
      · have JP := J_people (n := n) (T := T) (R := R) (t := t) (mG Q1) 0 D7 E7 q7 Q1 (by omega) (by omega) k7 S7 Z7
        rw [hZ1, hG1] at JP
        obtain ⟨D8, E8, p1, p2, p3⟩ := JP
        rcases p3 with ⟨p4, q9, Q9, p5, p6, p7, p8, p9, p10, p11⟩ | ⟨p4, p5, p6⟩
        · have eC : m_X9_readZone D = bnd (m_X9_readSign 59 D8) (fun r130 D130 => gd (InR r130) (if r130 = 0 then (some ((0 : Int), D130)) else (sq (sF D130 56 2 ((D130.1 56 2) + 1)) (fun D148 => some ((1 : Int), D148))))) := by
            have p4' : m_X9_readPeople (mZ Q : Int) D7 = some (1, D8) := p4
            simp (disch := omega) only [m_X9_readZone, eZ, ↓gd_t, ↓if_f, ↓if_t, ↓bnd_of d5, d3, d4, eZ2, ↓ob_of nR, ↓reduceIte, ↓ob_of s3, gd_t gq, sq_eq, tn, tz6, c45, ← hD4, ↓bnd_of k5, ↓bnd_of p4']
          have eR : (m_X11_zoneLine E).bind m_X11_line_83 = m_X11_line_83 (sA E8 77 2 ((mZ Q : Int) + 1)) := by
            rw [eR0]
            have p11' : m_X11_zoneLine_120 (mZ Q : Int) (0, E7) = some (sA E8 77 2 ((mZ Q : Int) + 1)) := p11
            simp only [k1, ob_some, p11']
          rw [eC, eR]
          have hZ9 : mZ Q9 = mZ Q := by show Q9.1.2.2.1 = _; rw [p6]; exact hZ1
          have hG9 : mG Q9 = mG Q := by show Q9.1.2.2.2 = _; rw [p6]; exact hG1
          have hN9 : Q9.2.2.1.2 = (putN (mNL Q) (mZ Q) (e2 - b2), putL (mN Q) T (mZ Q) b2 (e2 - b2)) := p7.trans hN1
          have lNL : mNL Q9 (mZ Q) = e2 - b2 := by show Q9.2.2.1.2.1 (mZ Q) = _; rw [hN9]; exact eNL
          have lNN : ∀ k, k < e2 - b2 → mN Q9 (6 * mZ Q + k) = T (b2 + k) := fun k hk => by show Q9.2.2.1.2.2 (6 * mZ Q + k) = _; rw [hN9]; exact eNN k hk
          have L9 : LX D8 (sA E8 77 2 ((mZ Q : Int) + 1)) n T q9 := p8.a (by omega)
          obtain ⟨D10, E10, g1, g2, g3, g4⟩ := J_sign (c := 59) (by omega) L9
          have e83 : m_X11_line_83 (sA E8 77 2 ((mZ Q : Int) + 1)) = some E10 := by simp only [m_X11_line_83, g1, ob_some]
          rw [e83]
          have gRR : RGo E E10 := gR6.trans (k3.go3.trans (p2.trans ((RGo.a (Or.inl rfl)).trans g3.go3)))
          rcases g4 with ⟨g5, q10, g6, g7⟩ | ⟨g5, g6⟩
          · have eC2 : bnd (m_X9_readSign 59 D8) (fun r130 D130 => gd (InR r130) (if r130 = 0 then (some ((0 : Int), D130)) else (sq (sF D130 56 2 ((D130.1 56 2) + 1)) (fun D148 => some ((1 : Int), D148))))) = some (1, sF D10 56 2 ((mZ Q : Int) + 1)) := by
              have ez10 : D10.1 56 2 = (mZ Q : Int) := by rw [g2.1 56 2 (by omega), p9.2.1.1.2.1.1, hZ9]
              simp (disch := omega) only [g5, bnd_some, gd_t, if_f, sq_eq, ez10]
            rw [eC2]
            refine ⟨sF D10 56 2 ((mZ Q : Int) + 1), E10, rfl, gC4.trans (k2.go.trans (p1.trans (g2.go.trans ⟨fun a ha => ⟨?_, rfl⟩, id⟩))), gRR, Or.inl ⟨rfl, q10, t, ((mW Q9, mH Q9, mZ Q9 + 1, mG Q9), Q9.2), by omega, ⟨⟨g7.1.1.f6 (Or.inl (by omega)), g7.1.2⟩, g7.2⟩, ?_⟩⟩
            · funext k
              rw [sF1, if_neg (by omega)]
            · obtain ⟨⟨a1, a2, a3⟩, ⟨b1, b2'⟩, ⟨c1, c2⟩, ⟨O9, dd2, dd3⟩, dd4⟩ := p9
              obtain ⟨⟨⟨r11, r11'⟩, r12, r13⟩, ⟨r14, r15⟩, r16, r17⟩ := b1
              obtain ⟨⟨s1', s2', s3', s4'⟩, s5', s6', s7'⟩ := b2'
              obtain ⟨o1, o2, o3, o4, o5, o6, o7, o8⟩ := O9
              obtain ⟨⟨z1, z2⟩, z3, z4⟩ := p10
              have eD : D10.2 = D8.2 := g2.2
              have eE : E10.2 = (sA E8 77 2 ((mZ Q : Int) + 1)).2 := g3.2
              refine ⟨⟨a1, ?_, ?_⟩, ⟨⟨⟨?_, r12, fun c hc => ?_⟩, ⟨?_, ?_⟩, fun k hk => ?_, fun z hz => ?_⟩, ⟨⟨?_, ?_, ?_, ?_⟩, fun c hc => ?_, fun k hk => ?_, fun z hz k hk => ?_⟩⟩, ⟨?_, ?_⟩, ⟨⟨o1, o2, ?_, o4, fun c hc => ?_, o6, fun z hz => ?_, o8⟩, dd2, fun z hz i hi => ?_⟩, dd4⟩
              · rw [sF1, if_neg (by omega), g2.1 55 9 (by simp)]; exact a2
              · rw [g3.1 73 21 (by simp)]; exact a3
              · rw [sF1, if_neg (by omega), sF1, if_neg (by omega), g2.1 56 0 (by omega), g2.1 56 1 (by omega)]; exact ⟨r11, r11'⟩
              · rw [sF2, eD]; exact r13 c hc
              · show (sF D10 56 2 ((mZ Q : Int) + 1)).1 56 2 = ((mZ Q9 + 1 : Nat) : Int)
                rw [sF1, if_pos ⟨rfl, rfl⟩, hZ9]; rfl
              · rw [sF1, if_neg (by omega), g2.1 56 3 (by omega)]; exact r15
              · have hk' : k % 3 < mG Q9 ∧ k / 3 < mZ Q9 + 1 := hk
                rw [sF2, eD]
                by_cases q : k / 3 < mZ Q9
                · exact r16 k ⟨hk'.1, q⟩
                · have := z4 (k % 3) (by omega)
                  rw [show 3 * mZ Q9 + k % 3 = k by omega] at this
                  exact this
              · have hz' : z < mZ Q9 + 1 := hz
                rw [sF2, eD]
                by_cases q : z < mZ Q9
                · exact r17 z q
                · rw [show z = mZ Q9 by omega]
                  exact ⟨z1, z2⟩
              · rw [eE, sA2, if_neg (by omega)]; exact s1'
              · rw [eE, sA2, if_neg (by omega)]; exact s2'
              · show E10.2 77 2 = ((mZ Q9 + 1 : Nat) : Int)
                rw [eE, sA2, if_pos ⟨rfl, rfl⟩, hZ9]; rfl
              · rw [eE, sA2, if_neg (by omega)]; exact s4'
              · rw [eE, sA2, if_neg (by omega), sA2, if_neg (by omega)]; exact s5' c hc
              · rw [eE, sA2, if_neg (by omega)]; exact s6' k hk
              · have hz' : z < mZ Q9 + 1 := hz
                rw [eE, sA2, if_neg (by omega)]
                by_cases q : z < mZ Q9
                · exact s7' z q k hk
                · rw [show z = mZ Q9 by omega]
                  exact z3 k hk
              · exact g2.go.2 c1
              · exact g3.go3.dg ((RGo.a (Or.inl rfl)).dg c2)
              · show mZ Q9 + 1 ≤ 8
                omega
              · have := o5 c hc
                refine ⟨⟨this.1.1, ?_⟩, this.2⟩
                have := this.1.2
                show mO Q9 c < ((mZ Q9 + 1 : Nat) : Int)
                omega
              · have hz' : z < mZ Q9 + 1 := hz
                by_cases q : z < mZ Q9
                · exact o7 z q
                · have ez : z = mZ Q := by omega
                  subst ez
                  show 1 ≤ mNL Q9 (mZ Q) ∧ mNL Q9 (mZ Q) ≤ 6 ∧ ∀ k, k < mNL Q9 (mZ Q) → 97 ≤ mN Q9 (6 * mZ Q + k) ∧ mN Q9 (6 * mZ Q + k) ≤ 122
                  rw [lNL]
                  refine ⟨by have := nm.1; omega, nm.2.1, fun k hk => ?_⟩
                  rw [lNN k hk]
                  exact ltr k hk
              · have hz' : z < mZ Q9 + 1 := hz
                by_cases q : z < mZ Q9
                · exact dd3 z q i hi
                · have ez : z = mZ Q := by omega
                  subst ez
                  show ¬ (mNL Q9 (mZ Q) = (strB i).length ∧ ∀ k, k < mNL Q9 (mZ Q) → mN Q9 (6 * mZ Q + k) = (strB i).getD k 0)
                  rw [lNL]
                  intro hh
                  refine nm.2.2 i hi ⟨hh.1, fun k hk => ?_⟩
                  rw [← hh.2 k (by omega), lNN k (by omega)]
          · have eC2 : bnd (m_X9_readSign 59 D8) (fun r130 D130 => gd (InR r130) (if r130 = 0 then (some ((0 : Int), D130)) else (sq (sF D130 56 2 ((D130.1 56 2) + 1)) (fun D148 => some ((1 : Int), D148))))) = some (0, D10) := by
              simp (disch := omega) only [g5, bnd_some, gd_t, ↓reduceIte]
            rw [eC2]
            exact JR.bad (gC4.trans (k2.go.trans (p1.trans g2.go))) gRR g6
        · have eC : m_X9_readZone D = some (0, D8) := by
            have p4' : m_X9_readPeople (mZ Q : Int) D7 = some (0, D8) := p4
            simp (disch := omega) only [m_X9_readZone, eZ, ↓gd_t, ↓if_f, ↓if_t, ↓bnd_of d5, d3, d4, eZ2, ↓ob_of nR, ↓reduceIte, ↓ob_of s3, gd_t gq, sq_eq, tn, tz6, c45, ← hD4, ↓bnd_of k5, ↓bnd_of p4']
          have eR : (m_X11_zoneLine E).bind m_X11_line_83 = some E8 := by
            rw [eR0]
            have p6' : m_X11_zoneLine_120 (mZ Q : Int) (0, E7) = some E8 := p6
            simp only [k1, ob_some, p6', Y_83 p5]
          rw [eC, eR]
          exact JR.bad (gC4.trans (k2.go.trans p1)) (gR6.trans (k3.go3.trans p2)) p5
      · have g3' := O.2.2.2.1
        obtain ⟨E8, v1', v2', v3', v4'⟩ := Y_zone120 (n := n) (z := mZ Q) (G := mG Q) (T := T) (by omega) (by omega) (mG Q) 0 E7 (by omega) k6.2.1 (by rw [S7.2.1.2.1.2.2.2, hG1])
        have eC : m_X9_readZone D = some (0, D7) := by
          simp (disch := omega) only [m_X9_readZone, eZ, ↓gd_t, ↓if_f, ↓if_t, ↓bnd_of d5, d3, d4, eZ2, ↓ob_of nR, ↓reduceIte, ↓ob_of s3, gd_t gq, sq_eq, tn, tz6, c45, ← hD4, ↓bnd_of k5]
        have z8' : LZ D7 E8 n T := ⟨k6.1, v2', by rw [v3']; exact k6.2.2⟩
        have eR : (m_X11_zoneLine E).bind m_X11_line_83 = some E8 := by
          rw [eR0]
          have v1'' : m_X11_zoneLine_120 (mZ Q : Int) (0, E7) = some E8 := v1'
          simp only [k1, ob_some, v1'', Y_83 z8']
        rw [eC, eR]
        exact JR.bad (gC4.trans k2.go) (gR6.trans (k3.go3.trans v4')) z8'
  · have eN := nn2 nm
    have eR : (m_X11_zoneLine E).bind m_X11_line_83 = some (sF E2 73 19 (b2 : Int)) := by
      simp (disch := omega) only [m_X11_zoneLine, t2, eZ', ↓gd_t, ↓if_f q8', ↓ob_of w1, ↓bnd_of eN, ↓reduceIte, ↓ob_of fR, ob_some, Y_83 fZ]
    rw [eR]
    by_cases hw : e2 = b2
    · rw [if_pos hw] at d5
      obtain ⟨d5, d6⟩ := d5
      have eC : m_X9_readZone D = some (0, D2) := by
        simp (disch := omega) only [m_X9_readZone, eZ, ↓gd_t, ↓if_f, ↓bnd_of d5, ↓reduceIte]
      rw [eC]
      exact JR.bad d1.go gF ⟨⟨_, d2⟩, fZ.2.1, by rw [d6, sF1, if_pos ⟨rfl, rfl⟩]⟩
    · rw [if_neg hw] at d5
      obtain ⟨d5, d6⟩ := d5
      have eC : m_X9_readZone D = some (0, sF D2 55 8 (b2 : Int)) := by
        by_cases l6 : e2 - b2 ≤ 6
        · have rs : ∃ i, i < 6 ∧ isW T b2 e2 (strB i) := by
            rcases Classical.em (∃ i, i < 6 ∧ isW T b2 e2 (strB i)) with hh | hh
            · exact hh
            · exact absurd ⟨by omega, l6, fun i hi hi2 => hh ⟨i, hi, hi2⟩⟩ nm
          have nR := (X9_isReserved d2 d3 d4 ⟨wb.1, wb.2⟩).1 rs
          simp (disch := omega) only [m_X9_readZone, eZ, ↓gd_t, ↓if_f, ↓if_t, ↓bnd_of d5, d4, ↓ob_of nR, ↓reduceIte, ↓bnd_of fC, true_or, gd_T]
        · simp (disch := omega) only [m_X9_readZone, eZ, ↓gd_t, ↓if_f, ↓bnd_of d5, d4, ↓reduceIte, ↓bnd_of fC, true_or, gd_T]
      rw [eC]
      exact JR.bad gFC gF fZ
