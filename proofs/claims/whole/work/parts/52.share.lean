/-- a row of a table is laid -/
def rowed (A A0 : Nat → Int) (R k : Nat) (f : Nat → Int) : Prop := ∀ j, A j = if R * 8 ≤ j ∧ j < R * 8 + k then f (j - R * 8) else A0 j
theorem rowed_s {A A0 : Nat → Int} {R k : Nat} {f : Nat → Int} (h : rowed A A0 R k f) {A' : Nat → Int} (h' : ∀ j, A' j = if j = R * 8 + k then f k else A j) : rowed A' A0 R (k + 1) f := by
  intro j
  rw [h' j]
  by_cases q : j = R * 8 + k
  · rw [if_pos q, if_pos (by omega)]
    congr 1
    omega
  · rw [if_neg q, h j]
    by_cases q2 : R * 8 ≤ j ∧ j < R * 8 + k
    · rw [if_pos q2, if_pos (by omega)]
    · rw [if_neg q2, if_neg (by omega)]
theorem emod_sub (x s : Int) : x - x / s * s = x % s := by
  have := Int.emod_add_mul_ediv x s
  rw [Int.mul_comm s] at this
  omega
theorem X8_share {D : DT} {p Z g l : Nat} {a ld : Nat → Int} {s : Int} (hZ : D.1 (p + 9) 2 = (Z : Int)) (hZ8 : Z ≤ 8) (hg : g < 3) (hl : l < 5) (hs : 1 ≤ s ∧ s ≤ 9999) (hld : ∀ z, z < Z → D.2 (p + 9 + 1) z = ld z) (hldb : ∀ z, 0 ≤ ld z ∧ ld z ≤ 384) (hab : ∀ z, z < 8 → 0 ≤ a z ∧ a z ≤ 799992) (hcb : ∀ z, z ≤ 8 → 0 ≤ cry a ld s z ∧ cry a ld s z ≤ 799992) (h0 : l = 0 → ∀ z, z < Z → D.2 (p + 1 + 5) (3 * z + g) = a z) (h1 : 0 < l → ∀ z, z < Z → D.2 (p + 9 + 2) (((l - 1) * 3 + g) * 8 + z) = a z) : ∃ D', m_X8_share (p + 9) (p + 1) (g : Int) (l : Int) s D = some D' ∧ D'.1 = D.1 ∧ (∀ b, (b ≠ p + 9 + 2 ∧ b ≠ p + 9 + 3 ∧ b ≠ p + 9 + 4) → D'.2 b = D.2 b) ∧ rowed (D'.2 (p + 9 + 2)) (D.2 (p + 9 + 2)) (l * 3 + g) Z (dts a ld s) ∧ rowed (D'.2 (p + 9 + 3)) (D.2 (p + 9 + 3)) (l * 3 + g) Z (cry a ld s) ∧ ∀ j, D'.2 (p + 9 + 4) j = if j = l * 3 + g then cry a ld s Z else D.2 (p + 9 + 4) j := by
  simp (disch := omega) only [m_X8_share, gd_t, if_f]
  unfold m_X8_share_13
  obtain ⟨s', ⟨i1, i2, i3, i4, i5, i6⟩, e⟩ := loop_inv (f := fun q : Int × Int × DT =>
    gd (InR q.2.1 ∧ InR (q.2.2.1 (p + 9) 2)) (if q.2.1 < (q.2.2.1 (p + 9) 2) then (
      (m_X8_placeOf q.2.1 (g : Int) (l : Int) q.2.2).bind (fun r26 =>
      gd ((0 : Int) ≤ r26 ∧ r26 < (120 : Int)) (sq (sA q.2.2 (p + 9 + 3) (Int.toNat r26) q.1) (fun D39 =>
      gd (InR (l : Int)) (if (l : Int) = 0 then (
        (m_X1_livingIn (p + 1) q.2.1 (g : Int) D39).bind (fun r50 =>
        m_X8_share_66 (p + 9) (p + 1) (g : Int) (l : Int) s q.2.1 r26 r50 q.1 D39
        )
      ) else (
        (m_X8_dotsOf (p + 9) q.2.1 (g : Int) ((l : Int) - 1) D39).bind (fun r63 =>
        m_X8_share_66 (p + 9) (p + 1) (g : Int) (l : Int) s q.2.1 r26 r63 q.1 D39
        )
      ))
      )))
    ) else (
      done (
      gd ((0 : Int) ≤ (((l : Int) * 3) + (g : Int)) ∧ (((l : Int) * 3) + (g : Int)) < (15 : Int)) (sq (sA q.2.2 (p + 9 + 4) (Int.toNat (((l : Int) * 3) + (g : Int))) q.1) (fun D127 =>
      some D127
      ))
      )
    ))) (fun k q => q.1 = cry a ld s k ∧ q.2.1 = (k : Int) ∧ q.2.2.1 = D.1 ∧ (∀ b, (b ≠ p + 9 + 2 ∧ b ≠ p + 9 + 3) → q.2.2.2 b = D.2 b) ∧ rowed (q.2.2.2 (p + 9 + 2)) (D.2 (p + 9 + 2)) (l * 3 + g) k (dts a ld s) ∧ rowed (q.2.2.2 (p + 9 + 3)) (D.2 (p + 9 + 3)) (l * 3 + g) k (cry a ld s)) Z (s := (0, 0, D)) ⟨rfl, rfl, rfl, fun _ _ => rfl, fun j => by rw [if_neg (by omega)], fun j => by rw [if_neg (by omega)]⟩ (fun k q hk ⟨a1, a2, a3, a4, a5, a6⟩ => by
      have ab := hab k (by omega)
      have cb := hcb k (by omega)
      have lb := hldb k
      have eZ : q.2.2.1 (p + 9) 2 = (Z : Int) := by rw [a3, hZ]
      have pl : ((l : Int) * 3 + (g : Int)) * 8 + (k : Int) = (((l * 3 + g) * 8 + k : Nat) : Int) := by omega
      have n39 : p + 9 + 2 ≠ p + 9 + 3 := by omega
      -- the share's input
      have inp : (gd (InR (l : Int)) (if (l : Int) = 0 then (
        (m_X1_livingIn (p + 1) (k : Int) (g : Int) (sA q.2.2 (p + 9 + 3) ((l * 3 + g) * 8 + k) (cry a ld s k))).bind (fun r50 =>
        m_X8_share_66 (p + 9) (p + 1) (g : Int) (l : Int) s (k : Int) (((l * 3 + g) * 8 + k : Nat) : Int) r50 (cry a ld s k) (sA q.2.2 (p + 9 + 3) ((l * 3 + g) * 8 + k) (cry a ld s k))
        )
      ) else (
        (m_X8_dotsOf (p + 9) (k : Int) (g : Int) ((l : Int) - 1) (sA q.2.2 (p + 9 + 3) ((l * 3 + g) * 8 + k) (cry a ld s k))).bind (fun r63 =>
        m_X8_share_66 (p + 9) (p + 1) (g : Int) (l : Int) s (k : Int) (((l * 3 + g) * 8 + k : Nat) : Int) r63 (cry a ld s k) (sA q.2.2 (p + 9 + 3) ((l * 3 + g) * 8 + k) (cry a ld s k))
        )
      ))) = m_X8_share_66 (p + 9) (p + 1) (g : Int) (l : Int) s (k : Int) (((l * 3 + g) * 8 + k : Nat) : Int) (a k) (cry a ld s k) (sA q.2.2 (p + 9 + 3) ((l * 3 + g) * 8 + k) (cry a ld s k)) := by
        by_cases ql : l = 0
        · have ql' : (l : Int) = 0 := by omega
          have k1 : (k : Int) * 3 + (g : Int) = ((3 * k + g : Nat) : Int) := by omega
          have e1 : (sA q.2.2 (p + 9 + 3) ((l * 3 + g) * 8 + k) (cry a ld s k)).2 (p + 1 + 5) (3 * k + g) = a k := by
            rw [sA2, if_neg (by omega), a4 _ (by omega)]
            exact h0 ql k hk
          rw [gd_t (by omega), if_pos ql']
          simp (disch := omega) only [m_X1_livingIn, k1, gd_t, tn, ob_some, e1]
        · have ql' : ¬ (l : Int) = 0 := by omega
          have k1 : (((l : Int) - 1) * 3 + (g : Int)) * 8 + (k : Int) = ((((l - 1) * 3 + g) * 8 + k : Nat) : Int) := by omega
          have e1 : (sA q.2.2 (p + 9 + 3) ((l * 3 + g) * 8 + k) (cry a ld s k)).2 (p + 9 + 2) (((l - 1) * 3 + g) * 8 + k) = a k := by
            rw [sA2, if_neg (by omega), a5 _, if_neg (by omega)]
            exact h1 (by omega) k hk
          rw [gd_t (by omega), if_neg ql']
          simp (disch := omega) only [m_X8_dotsOf, m_X8_placeOf, ob_some, k1, gd_t, tn, e1]
      have eld : (sA q.2.2 (p + 9 + 3) ((l * 3 + g) * 8 + k) (cry a ld s k)).2 (p + 9 + 1) k = ld k := by
        rw [sA2, if_neg (by omega), a4 _ (by omega)]
        exact hld k hk
      refine ⟨(cry a ld s (k + 1), ((k + 1 : Nat) : Int), sA (sA q.2.2 (p + 9 + 3) ((l * 3 + g) * 8 + k) (cry a ld s k)) (p + 9 + 2) ((l * 3 + g) * 8 + k) (dts a ld s k)), ?_, rfl, rfl, a3, fun b hb => ?_, rowed_s a5 (fun j => ?_), rowed_s a6 (fun j => ?_)⟩
      · have c1 : (k : Int) + 1 = ((k + 1 : Nat) : Int) := rfl
        have pb : (0 : Int) ≤ (((l * 3 + g) * 8 + k : Nat) : Int) ∧ (((l * 3 + g) * 8 + k : Nat) : Int) < 120 := by omega
        simp (disch := omega) only [a1, a2, eZ, gd_t, if_t, m_X8_placeOf, ob_some, pl, gd_t pb, sq_eq, tn]
        rw [gd_t (show InR (l : Int) by omega)] at inp
        rw [inp]
        by_cases qd : ld k = 0
        · have qd' : ¬ 0 < ld k := by omega
          have e3 : ∀ E : DT, (sA E (p + 9 + 2) ((l * 3 + g) * 8 + k) 0).2 (p + 9 + 2) ((l * 3 + g) * 8 + k) = 0 := fun E => by rw [sA2, if_pos ⟨rfl, rfl⟩]
          simp (disch := omega) only [m_X8_share_66, gd_t, tn, eld, if_f qd', gd_t pb, sq_eq, e3, cry, dts, if_t qd, Int.zero_mul, Int.sub_zero, c1]
        · have qd' : 0 < ld k := by omega
          have e3 : ∀ E : DT, (sA E (p + 9 + 2) ((l * 3 + g) * 8 + k) ((cry a ld s k + a k) / s)).2 (p + 9 + 2) ((l * 3 + g) * 8 + k) = (cry a ld s k + a k) / s := fun E => by rw [sA2, if_pos ⟨rfl, rfl⟩]
          simp (disch := omega) only [m_X8_share_66, gd_t, tn, eld, if_t qd', gd_t pb, sq_eq, e3, cry, dts, if_f qd, emod_sub, c1]
      · funext j
        rw [sA2, if_neg (fun h => hb.1 h.1), sA2, if_neg (fun h => hb.2 h.1), a4 b hb]
      · rw [sA2]
        by_cases qj : j = (l * 3 + g) * 8 + k
        · rw [if_pos ⟨rfl, qj⟩, if_pos qj]
        · rw [if_neg (fun h => qj h.2), if_neg qj, sA2, if_neg (fun h => qj h.2)]
      · rw [sA2, if_neg (by omega), sA2]
        by_cases qj : j = (l * 3 + g) * 8 + k
        · rw [if_pos ⟨rfl, qj⟩, if_pos qj]
        · rw [if_neg (fun h => qj h.2), if_neg qj])
  have eZ : s'.2.2.1 (p + 9) 2 = (Z : Int) := by rw [i3, hZ]
  have pl : (l : Int) * 3 + (g : Int) = ((l * 3 + g : Nat) : Int) := by omega
  refine ⟨sA s'.2.2 (p + 9 + 4) (l * 3 + g) (cry a ld s Z), ?_, i3, fun b hb => ?_, fun j => ?_, fun j => ?_, fun j => ?_⟩
  · rw [e]
    refine loopF_inr ?_
    simp (disch := omega) only [i1, i2, eZ, gd_t, if_f, pl, tn, sq_eq, done_some]
  · funext j
    rw [sA2, if_neg (fun h => hb.2.2 h.1), i4 b ⟨hb.1, hb.2.1⟩]
  · rw [sA2, if_neg (by omega)]
    exact i5 j
  · rw [sA2, if_neg (by omega)]
    exact i6 j
  · rw [sA2]
    by_cases qj : j = l * 3 + g
    · rw [if_pos ⟨rfl, qj⟩, if_pos qj]
    · rw [if_neg (fun h => qj h.2), if_neg qj, i4 _ (by omega)]
