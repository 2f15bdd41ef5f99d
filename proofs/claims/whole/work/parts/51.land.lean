/-! ===== the class's tally ===== -/
theorem CMap.cong {D D' : DT} {hc w h : Nat} {ow se : Nat → Int} (C : CMap D hc w h ow se) (e : ∀ a, hc ≤ a ∧ a ≤ hc + 7 → D'.1 a = D.1 a ∧ D'.2 a = D.2 a) : CMap D' hc w h ow se := by
  unfold CMap at *
  rw [(e hc (by omega)).1, (e (hc + 1) (by omega)).2, (e (hc + 2) (by omega)).2, (e (hc + 3) (by omega)).2, (e (hc + 4) (by omega)).2]
  exact C
theorem X8_countLand {D : DT} {p w h z : Nat} {ow se : Nat → Int} (C : CMap D (p + 1) w h ow se) (O : MapOK w h z ow se) (hz : z ≤ 8) : ∃ D', m_X8_countLand (p + 9) (p + 1) D = some D' ∧ D'.1 = D.1 ∧ (∀ a, a ≠ p + 9 + 1 → D'.2 a = D.2 a) ∧ ∀ y, y < 8 → D'.2 (p + 9 + 1) y = sumTo (fun c => b2i (ow c = (y : Int) ∧ se c = 0)) (w * h) := by
  have hn := wh384 C.2.1.1 C.2.1.2
  unfold m_X8_countLand m_X8_countLand_10
  rw [sq_eq]
  obtain ⟨s', ⟨i1, i2, i3, i4⟩, e⟩ := loop_inv (f := fun s : Int × DT =>
    (m_X1_cells (p + 1) s.2).bind (fun r12 =>
    gd (InR s.1 ∧ InR r12) (if s.1 < r12 then (
      (m_X1_isLand (p + 1) s.1 s.2).bind (fun r20 =>
      gd (InR r20) (if r20 = 0 then (
        some (.inl ((s.1 + 1), s.2))
      ) else (
        gd ((0 : Int) ≤ s.1 ∧ s.1 < (384 : Int)) (
        gd ((0 : Int) ≤ (s.2.2 (p + 1 + 1) (Int.toNat s.1)) ∧ (s.2.2 (p + 1 + 1) (Int.toNat s.1)) < (8 : Int)) (
        gd ((0 : Int) ≤ (s.2.2 (p + 1 + 1) (Int.toNat s.1)) ∧ (s.2.2 (p + 1 + 1) (Int.toNat s.1)) < (8 : Int)) (sq (sA s.2 (p + 9 + 1) (Int.toNat (s.2.2 (p + 1 + 1) (Int.toNat s.1))) ((s.2.2 (p + 9 + 1) (Int.toNat (s.2.2 (p + 1 + 1) (Int.toNat s.1)))) + 1)) (fun D40 =>
        some (.inl ((s.1 + 1), D40))
        ))))
      ))
      )
    ) else (
      done (
      some s.2
      )
    ))
    )) (fun k s => s.1 = (k : Int) ∧ s.2.1 = D.1 ∧ (∀ a, a ≠ p + 9 + 1 → s.2.2 a = D.2 a) ∧ ∀ y, y < 8 → s.2.2 (p + 9 + 1) y = sumTo (fun c => b2i (ow c = (y : Int) ∧ se c = 0)) k) (w * h) (s := (0, sFill D (p + 9 + 1) 8 0)) ⟨rfl, rfl, fun a ha => by
      funext k
      show (if a = p + 9 + 1 ∧ k < 8 then (0 : Int) else D.2 a k) = D.2 a k
      rw [if_neg (fun g => ha g.1)], fun y hy => by
      show (if p + 9 + 1 = p + 9 + 1 ∧ y < 8 then (0 : Int) else D.2 (p + 9 + 1) y) = 0
      rw [if_pos ⟨rfl, hy⟩]⟩ (fun k s hk ⟨a1, a2, a3, a4⟩ => by
      have C' : CMap s.2 (p + 1) w h ow se := C.cong (fun a ha => ⟨by rw [a2], a3 a (by omega)⟩)
      have e1 := X1_isLand C' O hk hz
      have e0 := X1_cells C'
      obtain ⟨o1, -⟩ := C'.2.2 k hk
      have ob := (O k hk).1
      have kb : k < 384 := by omega
      have k0 : (k : Int) < ((w * h : Nat) : Int) := by omega
      have k2 : InR (k : Int) ∧ InR ((w * h : Nat) : Int) := by
        generalize w * h = m at *
        omega
      by_cases q : ow k ≠ -1 ∧ se k = 0
      · rw [b2i_t q] at e1
        obtain ⟨y0, hy0⟩ := nat_of (v := ow k) (by omega)
        rw [hy0] at o1
        refine ⟨((k : Int) + 1, sA s.2 (p + 9 + 1) y0 (s.2.2 (p + 9 + 1) y0 + 1)), ?_, rfl, a2, fun a ha => ?_, fun y hy => ?_⟩
        · simp (disch := omega) only [a1, e0, ob_some, gd_t k2, if_t k0, e1, gd_t, if_f, tn, o1, sq_eq]
        · funext j
          rw [sA2, if_neg (fun g => ha g.1), a3 a ha]
        · rw [sA2, sumTo]
          by_cases qy : y = y0
          · rw [if_pos ⟨rfl, qy⟩, a4 y0 (by omega), qy, b2i_t ⟨hy0, q.2⟩]
          · rw [if_neg (fun g => qy g.2), a4 y hy, b2i_f (fun g => qy (by omega))]
            omega
      · rw [b2i_f q] at e1
        refine ⟨((k : Int) + 1, s.2), ?_, rfl, a2, a3, fun y hy => ?_⟩
        · simp (disch := omega) only [a1, e0, ob_some, gd_t k2, if_t k0, e1, gd_t, ↓reduceIte]
        · rw [a4 y hy, sumTo, b2i_f (fun g => q ⟨by omega, g.2⟩)]
          omega)
  refine ⟨s'.2, ?_, i2, i3, i4⟩
  rw [e]
  refine loopF_inr ?_
  have C' : CMap s'.2 (p + 1) w h ow se := C.cong (fun a ha => ⟨by rw [i2], i3 a (by omega)⟩)
  have e0 := X1_cells C'
  have k2 : InR ((w * h : Nat) : Int) ∧ InR ((w * h : Nat) : Int) := by
    generalize w * h = m at *
    omega
  have k0 : ¬ ((w * h : Nat) : Int) < ((w * h : Nat) : Int) := Int.lt_irrefl _
  simp only [i1, e0, ob_some, gd_t k2, if_f k0, done_some]
