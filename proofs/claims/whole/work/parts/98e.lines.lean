/-! ===== both read: the size, all lines ===== -/
theorem X1_shape {D : DT} {w h : Nat} (hw : 1 ≤ w ∧ w ≤ 24) (hh : h ≤ 16) : ∃ D', m_X1_shape 56 (w : Int) (h : Int) D = some D' ∧ D'.1 = (sF (sF D 56 0 (w : Int)) 56 1 (h : Int)).1 ∧ (∀ q, (q < 57 ∨ 60 < q) → D'.2 q = D.2 q) ∧ (∀ c, c < w * h → D'.2 57 c = -1 ∧ D'.2 58 c = 0 ∧ D'.2 59 c = ((c % w : Nat) : Int) ∧ D'.2 60 c = ((c / w : Nat) : Int)) ∧ ∀ c, D'.2 58 c = 0 ∨ D'.2 58 c = D.2 58 c := by
  have wh := wh384 hw.2 hh
  obtain ⟨D0, hD0⟩ : ∃ D0, D0 = sF (sF D 56 0 (w : Int)) 56 1 (h : Int) := ⟨_, rfl⟩
  have e0 : D0.1 56 0 = (w : Int) := by subst hD0; rfl
  have e1 : D0.1 56 1 = (h : Int) := by subst hD0; rfl
  have e2 : D0.2 = D.2 := by subst hD0; rfl
  have inner : ∀ (y : Nat) (E : DT), y < h → E.1 = D0.1 → ∃ E', m_X1_shape_23 56 (y : Int) (0, E) = some (.inl ((y : Int) + 1, E')) ∧ E'.1 = D0.1 ∧ (∀ q, (q < 57 ∨ 60 < q) → E'.2 q = E.2 q) ∧ (∀ c, (c < y * w → (E'.2 57 c = E.2 57 c ∧ E'.2 58 c = E.2 58 c ∧ E'.2 59 c = E.2 59 c ∧ E'.2 60 c = E.2 60 c)) ∧ (y * w ≤ c ∧ c < y * w + w → E'.2 57 c = -1 ∧ E'.2 58 c = 0 ∧ E'.2 59 c = ((c - y * w : Nat) : Int) ∧ E'.2 60 c = (y : Int))) ∧ ∀ c, E'.2 58 c = 0 ∨ E'.2 58 c = E.2 58 c := by
    intro y E hy hE
    have yw : y * w + w ≤ w * h := by
      have : (y + 1) * w ≤ h * w := Nat.mul_le_mul_right _ hy
      rw [Nat.add_mul, Nat.one_mul, Nat.mul_comm h] at this
      exact this
    have ey : (y : Int) * (w : Int) = ((y * w : Nat) : Int) := by simp
    generalize y * w = yw0 at *
    unfold m_X1_shape_23
    obtain ⟨s', ⟨i1, i2, i3, i4, i5⟩, ee⟩ := loop_inv (f := fun s : Int × DT =>
  gd (InR s.1 ∧ InR (s.2.1 56 0)) (if s.1 < (s.2.1 56 0) then (
    gd ((0 : Int) ≤ (((y : Int) * (s.2.1 56 0)) + s.1) ∧ (((y : Int) * (s.2.1 56 0)) + s.1) < (384 : Int)) (sq (sA s.2 (56 + 1) (Int.toNat (((y : Int) * (s.2.1 56 0)) + s.1)) (-1)) (fun D50 =>
    gd (((0 : Int) ≤ (((y : Int) * (s.2.1 56 0)) + s.1) ∧ (((y : Int) * (s.2.1 56 0)) + s.1) < (384 : Int)) ∧ ((0 : Int) = 0 ∨ (0 : Int) = 1)) (sq (sA D50 (56 + 2) (Int.toNat (((y : Int) * (s.2.1 56 0)) + s.1)) 0) (fun D58 =>
    gd ((0 : Int) ≤ (((y : Int) * (s.2.1 56 0)) + s.1) ∧ (((y : Int) * (s.2.1 56 0)) + s.1) < (384 : Int)) (sq (sA D58 (56 + 3) (Int.toNat (((y : Int) * (s.2.1 56 0)) + s.1)) s.1) (fun D67 =>
    gd ((0 : Int) ≤ (((y : Int) * (s.2.1 56 0)) + s.1) ∧ (((y : Int) * (s.2.1 56 0)) + s.1) < (384 : Int)) (sq (sA D67 (56 + 4) (Int.toNat (((y : Int) * (s.2.1 56 0)) + s.1)) (y : Int)) (fun D75 =>
    some ((.inl ((s.1 + 1), D75)) : (Int × DT) ⊕ ((Int × DT) ⊕ DT))
    ))))))))
  ) else (
    done (
    some (.inl (((y : Int) + 1), s.2))
    )
  ))) (fun k s => s.1 = (k : Int) ∧ s.2.1 = D0.1 ∧ (∀ q, (q < 57 ∨ 60 < q) → s.2.2 q = E.2 q) ∧ (∀ c, (c < yw0 → (s.2.2 57 c = E.2 57 c ∧ s.2.2 58 c = E.2 58 c ∧ s.2.2 59 c = E.2 59 c ∧ s.2.2 60 c = E.2 60 c)) ∧ (yw0 ≤ c ∧ c < yw0 + k → s.2.2 57 c = -1 ∧ s.2.2 58 c = 0 ∧ s.2.2 59 c = ((c - yw0 : Nat) : Int) ∧ s.2.2 60 c = (y : Int))) ∧ ∀ c, s.2.2 58 c = 0 ∨ s.2.2 58 c = E.2 58 c) w (s := (0, E)) ⟨rfl, hE, fun _ _ => rfl, fun c => ⟨fun _ => ⟨rfl, rfl, rfl, rfl⟩, fun hc => by omega⟩, fun c => Or.inr rfl⟩ (fun k s hk ⟨a1, a2, a3, a4, a5⟩ => by
      have eW : s.2.1 56 0 = (w : Int) := by rw [a2]; exact e0
      have k1 : (yw0 : Int) + (k : Int) = ((yw0 + k : Nat) : Int) := by omega
      refine ⟨((k : Int) + 1, sA (sA (sA (sA s.2 (56 + 1) (yw0 + k) (-1)) (56 + 2) (yw0 + k) 0) (56 + 3) (yw0 + k) (k : Int)) (56 + 4) (yw0 + k) (y : Int)), ?_, rfl, a2, fun q hq => ?_, fun c => ⟨fun hc => ?_, fun hc => ?_⟩, fun c => ?_⟩
      · have b1 : ∀ (q : Nat) (v : Int), (sA s.2 q (yw0 + k) v).1 56 0 = (w : Int) := fun _ _ => eW
        have b2 : ∀ (q q' : Nat) (v v' : Int), (sA (sA s.2 q (yw0 + k) v) q' (yw0 + k) v').1 56 0 = (w : Int) := fun _ _ _ _ => eW
        have b3 : ∀ (q q' q'' : Nat) (v v' v'' : Int), (sA (sA (sA s.2 q (yw0 + k) v) q' (yw0 + k) v') q'' (yw0 + k) v'').1 56 0 = (w : Int) := fun _ _ _ _ _ _ => eW
        simp (disch := omega) only [a1, eW, gd_t, if_t, ey, k1, tn, sq_eq, true_or, and_true]
      · funext j
        rw [sA2, if_neg (by omega), sA2, if_neg (by omega), sA2, if_neg (by omega), sA2, if_neg (by omega), a3 q hq]
      · have := (a4 c).1 hc
        refine ⟨?_, ?_, ?_, ?_⟩
        · rw [sA2, if_neg (by omega), sA2, if_neg (by omega), sA2, if_neg (by omega), sA2, if_neg (by omega)]; exact this.1
        · rw [sA2, if_neg (by omega), sA2, if_neg (by omega), sA2, if_neg (by omega), sA2, if_neg (by omega)]; exact this.2.1
        · rw [sA2, if_neg (by omega), sA2, if_neg (by omega), sA2, if_neg (by omega), sA2, if_neg (by omega)]; exact this.2.2.1
        · rw [sA2, if_neg (by omega), sA2, if_neg (by omega), sA2, if_neg (by omega), sA2, if_neg (by omega)]; exact this.2.2.2
      · by_cases q : c = yw0 + k
        · subst q
          refine ⟨?_, ?_, ?_, ?_⟩
          · rw [sA2, if_neg (by omega), sA2, if_neg (by omega), sA2, if_neg (by omega), sA2, if_pos ⟨rfl, rfl⟩]
          · rw [sA2, if_neg (by omega), sA2, if_neg (by omega), sA2, if_pos ⟨rfl, rfl⟩]
          · rw [sA2, if_neg (by omega), sA2, if_pos ⟨rfl, rfl⟩]; omega
          · rw [sA2, if_pos ⟨rfl, rfl⟩]
        · have := (a4 c).2 (by omega)
          refine ⟨?_, ?_, ?_, ?_⟩
          · rw [sA2, if_neg (by omega), sA2, if_neg (by omega), sA2, if_neg (by omega), sA2, if_neg (by omega)]; exact this.1
          · rw [sA2, if_neg (by omega), sA2, if_neg (by omega), sA2, if_neg (by omega), sA2, if_neg (by omega)]; exact this.2.1
          · rw [sA2, if_neg (by omega), sA2, if_neg (by omega), sA2, if_neg (by omega), sA2, if_neg (by omega)]; exact this.2.2.1
          · rw [sA2, if_neg (by omega), sA2, if_neg (by omega), sA2, if_neg (by omega), sA2, if_neg (by omega)]; exact this.2.2.2
      · rw [sA2, if_neg (by omega), sA2, if_neg (by omega), sA2]
        split
        · left; rfl
        · rw [sA2, if_neg (by omega)]
          exact a5 c)
    refine ⟨s'.2, ?_, i2, i3, i4, i5⟩
    rw [ee]
    refine loopF_inr ?_
    have eW : s'.2.1 56 0 = (w : Int) := by rw [i2]; exact e0
    simp (disch := omega) only [i1, eW, gd_t, if_f, done_some]
  have outer : ∀ (m y : Nat) (E : DT), y + m = h → E.1 = D0.1 → (∀ q, (q < 57 ∨ 60 < q) → E.2 q = D.2 q) → (∀ c, c < y * w → E.2 57 c = -1 ∧ E.2 58 c = 0 ∧ E.2 59 c = ((c % w : Nat) : Int) ∧ E.2 60 c = ((c / w : Nat) : Int)) → (∀ c, E.2 58 c = 0 ∨ E.2 58 c = D.2 58 c) → ∃ D', m_X1_shape_12 56 ((y : Int), E) = some D' ∧ D'.1 = D0.1 ∧ (∀ q, (q < 57 ∨ 60 < q) → D'.2 q = D.2 q) ∧ (∀ c, c < w * h → D'.2 57 c = -1 ∧ D'.2 58 c = 0 ∧ D'.2 59 c = ((c % w : Nat) : Int) ∧ D'.2 60 c = ((c / w : Nat) : Int)) ∧ ∀ c, D'.2 58 c = 0 ∨ D'.2 58 c = D.2 58 c := by
    intro m
    induction m with
    | zero =>
      intro y E hy hE h1 h2 h3
      have eH : E.1 56 1 = (h : Int) := by rw [hE]; exact e1
      refine ⟨E, ?_, hE, h1, fun c hc => h2 c (by rw [show y = h by omega, Nat.mul_comm]; exact hc), h3⟩
      unfold m_X1_shape_12
      refine loopF_inr ?_
      simp (disch := omega) only [eH, gd_t, if_f, done_some]
    | succ m ih =>
      intro y E hy hE h1 h2 h3
      have eH : E.1 56 1 = (h : Int) := by rw [hE]; exact e1
      obtain ⟨E', j1, j2, j3, j4, j5⟩ := inner y E (by omega) hE
      obtain ⟨D', g1, g2⟩ := ih (y + 1) E' (by omega) j2 (fun q hq => by rw [j3 q hq, h1 q hq]) (fun c hc => by
        rw [Nat.add_mul, Nat.one_mul] at hc
        by_cases q : c < y * w
        · obtain ⟨x1, x2, x3, x4⟩ := (j4 c).1 q
          rw [x1, x2, x3, x4]
          exact h2 c q
        · obtain ⟨x1, x2, x3, x4⟩ := (j4 c).2 ⟨by omega, hc⟩
          have ec : c = (c - y * w) + w * y := by rw [Nat.mul_comm w]; omega
          have em : c % w = c - y * w := by
            rw [ec, Nat.add_mul_mod_self_left, Nat.mod_eq_of_lt (by omega), Nat.mul_comm w y]
            omega
          have ed : c / w = y := by
            rw [ec, Nat.add_mul_div_left _ _ (by omega), Nat.div_eq_of_lt (by omega)]
            omega
          rw [em, ed]
          exact ⟨x1, x2, x3, x4⟩) (fun c => by
          rcases j5 c with x | x
          · exact Or.inl x
          · rw [x]; exact h3 c)
      refine ⟨D', ?_, g2⟩
      rw [← g1]
      unfold m_X1_shape_12
      refine loopF_inl ?_
      simp (disch := omega) only [eH, gd_t, if_t, j1]
      rfl
  obtain ⟨D', g1, g2, g3, g4, g5⟩ := outer h 0 D0 (by omega) rfl (fun q _ => by rw [e2]) (fun c hc => by omega) (fun c => Or.inr (by rw [e2]))
  refine ⟨D', ?_, by rw [g2, hD0], g3, g4, g5⟩
  simp only [m_X1_shape, sq_eq]
  rw [← hD0]
  exact g1
/-- how both start -/
def Q0 (w h : Nat) (R : RS) : MS := ((w, h, 0, 1), (fun _ => -1, fun _ => 0), (fun _ => 0, fun _ => 0, fun _ => 0), R)
def ROK (R : RS) : Prop := ((1 ≤ R.1.1 ∧ R.1.1 ≤ 9999) ∧ (2 ≤ R.1.2.1 ∧ R.1.2.1 ≤ 10) ∧ (-1 ≤ R.1.2.2 ∧ R.1.2.2 ≤ 400)) ∧ (R.2.1.1 ≤ 400 ∧ ∀ k, k < R.2.1.1 → -128 ≤ R.2.1.2 k ∧ R.2.1.2 k ≤ 127) ∧ (R.2.2.1 ≤ 1600 ∧ ∀ k, k < R.2.2.1 → -128 ≤ R.2.2.2 k ∧ R.2.2.2 k ≤ 127)
theorem J_size {D E : DT} {n : Nat} {T : Nat → Int} {R : RS} (L : LX D E n T 0) (hR : ROK R) (h9 : D.1 55 9 = 0) (h21 : E.1 73 21 = 0) (hD : D.1 56 2 = 0 ∧ D.1 56 3 = 1) (hE : E.2 77 2 = 0 ∧ E.2 77 3 = 1) (hc : ∀ c, c < 384 → E.2 79 c = -1 ∧ E.2 81 c = 0) (hp : ∀ k, k < 24 → E.2 83 k = 0) (r1 : ChartRng D 56) (r2 : RDg E) : JR D E n T R 0 (m_X9_readSize D) (m_X11_sizeLine E) := by
  obtain ⟨D1, E1, a1, k1, l1, a4⟩ := J_key 0 13 (by decide) rfl L
  rcases a4 with ⟨a5, p1, hp1, L1⟩ | ⟨a5, L1⟩
  · obtain ⟨D2, E2, v, n1, n2, ⟨n3, n3'⟩, k2, l2, n6⟩ := J_number (lo := 2) (hi := 24) (by omega) (by omega) L1.1.1 L1.1.2 rfl L1.2.1 L1.2.2
    have gR2 : RGo E (sA E2 77 0 v) := l1.go3.trans (l2.go3.trans (RGo.a (Or.inl rfl)))
    have gC2 := k1.go.trans k2.go
    rcases n6 with ⟨m1, ⟨p2, hp2, L2⟩, m3, m4⟩ | ⟨m1, L2⟩
    · obtain ⟨w, hw⟩ : ∃ w : Nat, v = (w : Int) := ⟨v.toNat, by omega⟩
      subst hw
      obtain ⟨D3, E3, u, i1, i2, ⟨i3, i3'⟩, k3, l3, i6⟩ := J_number (lo := 2) (hi := 16) (by omega) (by omega) L2.1.1 (L2.1.2.a (a := 77) (k := 0) (v := (w : Int)) (by omega)) rfl L2.2.1 L2.2.2
      have gR3 : RGo E (sA E3 77 1 u) := gR2.trans (l3.go3.trans (RGo.a (Or.inl rfl)))
      have gC3 := gC2.trans k3.go
      rcases i6 with ⟨i7, ⟨p3, hp3, L3⟩, i8, i9⟩ | ⟨i7, L3⟩
      · obtain ⟨h, hh⟩ : ∃ h : Nat, u = (h : Int) := ⟨u.toNat, by omega⟩
        subst hh
        have wh := wh384 (w := w) (h := h) (by omega) (by omega)
        obtain ⟨D4, s1, s2, s3, s4, s5⟩ := X1_shape (D := D3) (w := w) (h := h) (by omega) (by omega)
        have d41 : ∀ a k, ¬ (a = 56 ∧ (k = 0 ∨ k = 1)) → D4.1 a k = D3.1 a k := fun a k hk => by
          rw [s2, sF1, if_neg (by omega), sF1, if_neg (by omega)]
        have gC4 : CGo D3 D4 := ⟨fun b hb => ⟨by funext k; exact d41 b k (by omega), s3 b (by omega)⟩, fun x => ⟨fun c hc => by
          show D4.2 58 c = 0 ∨ D4.2 58 c = 1
          rcases s5 c with y | y
          · exact Or.inl y
          · rw [y]; exact x.1 c hc, fun k hk => by
          show -128 ≤ D4.2 62 k ∧ D4.2 62 k ≤ 127
          rw [s3 62 (by omega)]; exact x.2 k hk⟩⟩
        have L4 : LX D4 (sA E3 77 1 (h : Int)) n T p3 := ⟨⟨⟨L3.1.1.1, by rw [d41 _ _ (by omega)]; exact L3.1.1.2.1, by rw [s3 64 (by omega)]; exact L3.1.1.2.2.1, by rw [d41 _ _ (by omega)]; exact L3.1.1.2.2.2.1, L3.1.1.2.2.2.2⟩, L3.1.2.a (by omega)⟩, by rw [d41 _ _ (by omega)]; exact L3.2.1, L3.2.2⟩
        have f3 : ∀ k, (k ≠ 3 ∧ k ≠ 4 ∧ k ≠ 5 ∧ k ≠ 6 ∧ k ≠ 7 ∧ k ≠ 8) → D3.1 55 k = D.1 55 k := fun k hk => by
          rw [k3.1 55 k (fun _ hh => by simp at hh; omega), k2.1 55 k (fun _ hh => by simp at hh; omega), k1.1 55 k (fun _ hh => by simp at hh; omega)]
        have f56 : ∀ k, D3.1 56 k = D.1 56 k := fun k => by
          rw [k3.1 56 k (by omega), k2.1 56 k (by omega), k1.1 56 k (by omega)]
        have eE : ∀ q, q ≠ 77 → (sA E3 77 1 (h : Int)).2 q = E.2 q := fun q hq => by
          funext k
          rw [sA2, if_neg (fun hh => hq hh.1), l3.2, sA2, if_neg (fun hh => hq hh.1), l2.2, l1.2]
        have eE1 : ∀ k, k ∉ [16, 17, 19] → E3.1 73 k = E.1 73 k := fun k hk => by
          rw [l3.1 73 k (fun _ => hk), sA1, l2.1 73 k (fun _ => hk), l1.1 73 k (fun _ => hk)]
        have S4 : DS D4 (sA E3 77 1 (h : Int)) R 0 (Q0 w h R) := by
          refine ⟨⟨Or.inl rfl, by rw [d41 _ _ (by omega), f3 9 (by omega)]; exact h9, by rw [sA1, eE1 21 (by simp)]; exact h21⟩, ⟨⟨⟨⟨?_, ?_⟩, ?_, s4⟩, ⟨?_, ?_⟩, fun k hk => ?_, fun z hz => ?_⟩, ⟨⟨?_, ?_, ?_, ?_⟩, fun c hc' => ?_, fun k hk => ?_, fun z hz => ?_⟩⟩, ⟨gC4.2 (gC3.2 r1), gR3.dg r2⟩, ⟨⟨Or.inr ⟨?_, ?_⟩, ⟨?_, ?_⟩, ?_, ?_, ?_, ?_, fun z hz => ?_, hR⟩, ⟨?_, ?_⟩, fun z hz => ?_⟩, rfl⟩
          · rw [s2]; rfl
          · rw [s2]; rfl
          · show w ≤ 24 ∧ h ≤ 16; omega
          · rw [d41 _ _ (by omega), f56]; exact hD.1
          · rw [d41 _ _ (by omega), f56]; exact hD.2
          · have : k / 3 < 0 := hk.2
            omega
          · have : z < 0 := hz
            omega
          · rw [sA2, if_neg (by omega), l3.2, sA2, if_pos ⟨rfl, rfl⟩]; rfl
          · rw [sA2, if_pos ⟨rfl, rfl⟩]; rfl
          · rw [sA2, if_neg (by omega), l3.2, sA2, if_neg (by omega), l2.2, l1.2]; exact hE.1
          · rw [sA2, if_neg (by omega), l3.2, sA2, if_neg (by omega), l2.2, l1.2]; exact hE.2
          · have c384 : c < 384 := Nat.lt_of_lt_of_le hc' wh
            rw [eE 79 (by omega), eE 81 (by omega)]
            exact hc c c384
          · rw [eE 83 (by omega)]; exact hp k hk
          · have : z < 0 := hz
            omega
          · show 2 ≤ w; omega
          · show 2 ≤ h; omega
          · show w ≤ 24; omega
          · show h ≤ 16; omega
          · show 0 ≤ 8; omega
          · show 1 ≤ 1 ∧ 1 ≤ 3; omega
          · intro c hc'
            refine ⟨?_, Or.inl rfl⟩
            show (-1 : Int) ≤ -1 ∧ (-1 : Int) < ((0 : Nat) : Int)
            omega
          · intro k hk
            show (0 : Int) ≤ 0 ∧ (0 : Int) ≤ 99999
            omega
          · have : z < 0 := hz
            omega
          · show 2 ≤ w; omega
          · show 2 ≤ h; omega
          · have : z < 0 := hz
            omega
        have J := J_end (b := 0) L4 S4 (by omega)
        have eC : m_X9_readSize D = m_X9_readSign 59 D4 := by
          simp (disch := omega) only [m_X9_readSize, ↓bnd_of a5, ↓bnd_of m1, ↓bnd_of i7, ↓gd_t, ↓if_f, n3, i3, ↓ob_of s1, J.r01]
        have eR : m_X11_sizeLine E = m_X11_line_83 (sA E3 77 1 (h : Int)) := by
          simp (disch := omega) only [m_X11_sizeLine, ↓ob_of a1, ↓bnd_of n1, ↓gd_t, sq_eq, t0, t1, ↓bnd_of i1]
          rfl
        rw [eC, eR]
        exact J.pre (gC3.trans gC4) gR3
      · have L4 : LZ D3 (sA E3 77 1 u) n T := L3.a (by omega)
        have eC : m_X9_readSize D = some (0, D3) := by
          simp (disch := omega) only [m_X9_readSize, ↓bnd_of a5, ↓bnd_of m1, ↓bnd_of i7, ↓gd_t, ↓if_f, ↓reduceIte]
        have eR : m_X11_sizeLine E = some (sA E3 77 1 u) := by
          simp (disch := omega) only [m_X11_sizeLine, ↓ob_of a1, ↓bnd_of n1, ↓gd_t, sq_eq, t0, t1, ↓bnd_of i1, Y_asks L4.2.1, ob_some]
        rw [eC, eR]
        exact JR.bad gC3 gR3 L4
    · have L3 : LZ D2 (sA (sA E2 77 0 v) 77 1 0) n T := (L2.a (by omega)).a (by omega)
      have y1 := Y_number (lo := 2) (hi := 16) (L2.a (a := 77) (k := 0) (v := v) (by omega)).2.1
      have eC : m_X9_readSize D = some (0, D2) := by
        simp (disch := omega) only [m_X9_readSize, ↓bnd_of a5, ↓bnd_of m1, ↓gd_t, ↓if_f, ↓reduceIte]
      have eR : m_X11_sizeLine E = some (sA (sA E2 77 0 v) 77 1 0) := by
        simp (disch := omega) only [m_X11_sizeLine, ↓ob_of a1, ↓bnd_of n1, ↓gd_t, sq_eq, t0, t1, ↓bnd_of y1, Y_asks L3.2.1, ob_some]
      rw [eC, eR]
      exact JR.bad gC2 (gR2.trans (RGo.a (Or.inl rfl))) L3
  · have y1 := Y_number (lo := 2) (hi := 24) L1.2.1
    have y2 := Y_number (lo := 2) (hi := 16) (L1.a (a := 77) (k := 0) (v := 0) (by omega)).2.1
    have L3 : LZ D1 (sA (sA E1 77 0 0) 77 1 0) n T := (L1.a (by omega)).a (by omega)
    have eC : m_X9_readSize D = some (0, D1) := by
      simp (disch := omega) only [m_X9_readSize, ↓bnd_of a5, ↓gd_t, ↓reduceIte]
    have eR : m_X11_sizeLine E = some (sA (sA E1 77 0 0) 77 1 0) := by
      simp (disch := omega) only [m_X11_sizeLine, ↓ob_of a1, ↓bnd_of y1, ↓gd_t, sq_eq, t0, t1, ↓bnd_of y2, Y_asks L3.2.1, ob_some]
    rw [eC, eR]
    exact JR.bad k1.go (l1.go3.trans ((RGo.a (Or.inl rfl)).trans (RGo.a (Or.inl rfl)))) L3
/-! how both go on -/
def Done (D E D' E' : DT) (n : Nat) (T : Nat → Int) (R : RS) : Prop := CGo D D' ∧ RGo E E' ∧ ((LX D' E' n T n ∧ ∃ t Q, DS D' E' R t Q) ∨ LZ D' E' n T)
theorem J_stop {D E : DT} {n : Nat} {T : Nat → Int} {i : Int} (L : LZ D E n T) : ∃ D' E', (m_X9_skipBlanks D).bind (fun D61 => m_X9_useUp_33 (0, i, D61)) = some (D'.1 55 8, sF D' 55 0 0) ∧ (m_X11_blanks E).bind m_X11_read_105 = m_X11_read_134 E' ∧ LZ D' E' n T ∧ CGo D D' ∧ RGo E E' := by
  obtain ⟨⟨q, hq⟩, hy, hf⟩ := L
  obtain ⟨D1, a1, a2, a3⟩ := X9_skipBlanks hq
  obtain ⟨E1, b1, b2, b3, b4⟩ := Y_blanks hy
  refine ⟨D1, E1, ?_, ?_, ⟨⟨_, a2⟩, b2, by rw [a3.1 55 8 (by simp), b3]; exact hf⟩, a3.go, b4⟩
  · rw [a1, ob_some]
    unfold m_X9_useUp_33
    refine loopF_inr ?_
    simp (disch := omega) only [gd_t, ↓reduceIte, sq_eq, done_some]
    rfl
  · rw [b1, ob_some]
    unfold m_X11_read_105
    refine loopF_dn ?_
    have q := X11_hasF_y b2.2
    simp (disch := omega) only [q, ob_some, gd_t, if_f]
theorem J_lines {n : Nat} {T : Nat → Int} {R : RS} : ∀ (m p i : Nat) (D E : DT) (t : Int) (Q : MS), n - p ≤ m → i ≤ p → LX D E n T p → DS D E R t Q → ∃ D' E', (m_X9_skipBlanks D).bind (fun D61 => m_X9_useUp_33 (1, (i : Int), D61)) = some (D'.1 55 8, sF D' 55 0 0) ∧ (m_X11_blanks E).bind m_X11_read_105 = m_X11_read_134 E' ∧ Done D E D' E' n T R := by
  intro m
  induction m with
  | zero =>
    intro p i D E t Q hm hi L S
    have pn := L.1.1.2.2.2.2
    have n400 := L.1.1.1.1
    obtain ⟨D1, a1, a2, a3⟩ := X9_skipBlanks L.1.1
    obtain ⟨E1, b1, b2, b3, b4⟩ := X11_blanks L.1.2
    have sb := skp_b (T := T) pn
    have es : skp n T p = n := by omega
    rw [es] at a2 b2
    have L1 : LX D1 E1 n T n := ⟨⟨a2, b2⟩, by rw [a3.1 55 8 (by simp)]; exact L.2.1, by rw [b3.1 73 19 (by simp)]; exact L.2.2⟩
    refine ⟨D1, E1, ?_, ?_, a3.go, b3.go2, Or.inl ⟨L1, t, Q, S.lex a3 b3 (by simp) (by simp)⟩⟩
    · rw [a1, ob_some]
      unfold m_X9_useUp_33
      refine loopF_inr ?_
      simp (disch := omega) only [gd_t, if_f, a2.2.2.2.1, a2.2.1, sq_eq, done_some]
      rfl
    · rw [b1, ob_some]
      unfold m_X11_read_105
      refine loopF_dn ?_
      have q := X11_hasF_n L1.2.2
      simp (disch := omega) only [q, ob_some, gd_t, ↓reduceIte, b2.2.2.2.1, b2.2.1, if_f]
  | succ m ih =>
    intro p i D E t Q hm hi L S
    have pn := L.1.1.2.2.2.2
    have n400 := L.1.1.1.1
    obtain ⟨D1, a1, a2, a3⟩ := X9_skipBlanks L.1.1
    obtain ⟨E1, b1, b2, b3, b4⟩ := X11_blanks L.1.2
    have sb := skp_b (T := T) pn
    have L1 : LX D1 E1 n T (skp n T p) := ⟨⟨a2, b2⟩, by rw [a3.1 55 8 (by simp)]; exact L.2.1, by rw [b3.1 73 19 (by simp)]; exact L.2.2⟩
    have S1 := S.lex a3 b3 (by simp) (by simp)
    generalize skp n T p = b at *
    have q := X11_hasF_n L1.2.2
    rw [a1, ob_some, b1, ob_some]
    by_cases hb : b < n
    · obtain ⟨D2, E2, j1, j2, j3, j4⟩ := J_line L1 S1
      have eR : m_X11_read_105 E1 = (m_X11_blanks E2).bind m_X11_read_105 := by
        cases hB : m_X11_blanks E2 with
        | none =>
          unfold m_X11_read_105
          refine loopF_none ?_
          simp (disch := omega) only [q, ob_some, gd_t, ↓reduceIte, b2.2.2.2.1, b2.2.1, if_t, j1, hB]
          rfl
        | some E3 =>
          rw [ob_some]
          unfold m_X11_read_105
          refine loopF_inl ?_
          simp (disch := omega) only [q, ob_some, gd_t, ↓reduceIte, b2.2.2.2.1, b2.2.1, if_t, j1, hB]
      rw [eR]
      rcases j4 with ⟨j5, p', t', Q', j6, j7, j8⟩ | ⟨j5, j6⟩
      · obtain ⟨D', E', x1, x2, x3, x4, x5⟩ := ih p' (i + 1) D2 E2 t' Q' (by omega) (by omega) j7 j8
        refine ⟨D', E', ?_, x2, a3.go.trans (j2.trans x3), b3.go2.trans (j3.trans x4), x5⟩
        rw [← x1]
        obtain ⟨D3, y1, y2, y3⟩ := X9_skipBlanks j7.1.1
        rw [y1, ob_some]
        unfold m_X9_useUp_33
        refine loopF_inl ?_
        simp (disch := omega) only [gd_t, if_f, if_t, a2.2.2.2.1, a2.2.1, j5, bnd_some, y1, ob_some]
        rfl
      · obtain ⟨D', E', x1, x2, x3, x4, x5⟩ := J_stop (i := (i : Int) + 1) j6
        refine ⟨D', E', ?_, x2, a3.go.trans (j2.trans x4), b3.go2.trans (j3.trans x5), Or.inr x3⟩
        rw [← x1]
        obtain ⟨q', hq'⟩ := j6.1
        obtain ⟨D3, y1, y2, y3⟩ := X9_skipBlanks hq'
        rw [y1, ob_some]
        unfold m_X9_useUp_33
        refine loopF_inl ?_
        simp (disch := omega) only [gd_t, if_f, if_t, a2.2.2.2.1, a2.2.1, j5, bnd_some, y1, ob_some]
    · have es : b = n := by omega
      subst es
      refine ⟨D1, E1, ?_, ?_, a3.go, b3.go2, Or.inl ⟨L1, t, Q, S1⟩⟩
      · unfold m_X9_useUp_33
        refine loopF_inr ?_
        simp (disch := omega) only [gd_t, if_f, a2.2.2.2.1, a2.2.1, sq_eq, done_some]
        rfl
      · unfold m_X11_read_105
        refine loopF_dn ?_
        simp (disch := omega) only [q, ob_some, gd_t, ↓reduceIte, b2.2.2.2.1, b2.2.1, if_f]
