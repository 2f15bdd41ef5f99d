/-! ===== step: feed ===== -/
theorem i2b_b (x : Int) : -128 ≤ i2b x ∧ i2b x ≤ 127 := by
  unfold i2b
  have h1 := Int8.le_toInt (Int32.ofInt x).toInt8
  have h2 := Int8.toInt_lt (Int32.ofInt x).toInt8
  omega
/-- five words' bytes -/
def wdF (a b c d e : Int) : Nat → Int
  | 0 => a
  | 1 => b
  | 2 => c
  | 3 => d
  | _ => e
def byF (w : Nat → Int) (j : Nat) : Int := i2b (shr (w (j / 4)) (24 - 8 * ((j % 4 : Nat) : Int)))
def Fed (D : DT) (n : Nat) (f : Nat → Int) (j : Nat) (E : DT) : Prop := (∀ a k, (a ≠ 55 ∨ k ≠ 0) → E.1 a k = D.1 a k) ∧ (∀ a, a ≠ 64 → E.2 a = D.2 a) ∧ E.1 55 0 = ((n + j : Nat) : Int) ∧ ∀ k, E.2 64 k = if n ≤ k ∧ k < n + j then f (k - n) else D.2 64 k
theorem takeBytes_fed {D E : DT} {n j : Nat} {f : Nat → Int} {v : Int} (h : Fed D n f j E) (hn : n + j + 4 ≤ 400) (hf : ∀ i, i < 4 → f (j + i) = i2b (shr v (24 - 8 * (i : Int)))) : ∃ E', m_X9_takeBytes v E = some E' ∧ Fed D n f (j + 4) E' := by
  unfold m_X9_takeBytes m_X9_takeBytes_3
  obtain ⟨s', ⟨i1, i2⟩, e⟩ := loop_inv (f := fun s : Int × DT =>
    gd (InR s.1) (if 0 ≤ s.1 then (
      gd (InR (s.2.1 55 0) ∧ InR 400) (if (s.2.1 55 0) < 400 then (
        gd (((0 : Int) ≤ (s.2.1 55 0) ∧ (s.2.1 55 0) < (400 : Int)) ∧ ((-128 : Int) ≤ (i2b (shr v s.1)) ∧ (i2b (shr v s.1)) ≤ (127 : Int))) (sq (sA s.2 64 (Int.toNat (s.2.1 55 0)) (i2b (shr v s.1))) (fun D29 =>
        sq (sF D29 55 0 ((D29.1 55 0) + 1)) (fun D37 =>
        some (.inl ((s.1 + (-8)), D37))
        )))
      ) else (
        some (.inl ((s.1 + (-8)), s.2))
      ))
    ) else (
      done (
      some s.2
      )
    ))) (fun i s => s.1 = 24 - 8 * (i : Int) ∧ Fed D n f (j + i) s.2) 4 (s := (24, E)) ⟨by simp, h⟩ (fun i s hi ⟨a1, a2, a3, a4, a5⟩ => by
      have b := i2b_b (shr v (24 - 8 * (i : Int)))
      refine ⟨(s.1 + (-8), sF (sA s.2 64 (n + (j + i)) (i2b (shr v (24 - 8 * (i : Int))))) 55 0 (((n + (j + i) : Nat) : Int) + 1)), ?_, by simp only [a1]; omega, fun a k hk => ?_, fun a ha => ?_, ?_, fun k => ?_⟩
      · simp (disch := omega) only [a1, a4, gd_t, if_t, sq_eq, tn, sA1]
      · rw [sF1, if_neg (by omega), sA1]
        exact a2 a k hk
      · rw [sF2]
        funext k
        rw [sA2, if_neg (by omega), a3 a ha]
      · rw [sF1, if_pos ⟨rfl, rfl⟩]
        omega
      · rw [sF2, sA2]
        by_cases q : k = n + (j + i)
        · rw [if_pos ⟨rfl, q⟩, if_pos (by omega), ← hf i hi]
          congr 1
          omega
        · rw [if_neg (by omega), a5 k]
          by_cases q2 : n ≤ k ∧ k < n + (j + i)
          · rw [if_pos q2, if_pos (by omega)]
          · rw [if_neg q2, if_neg (by omega)])
  refine ⟨s'.2, ?_, i2⟩
  rw [e]
  refine loopF_inr ?_
  have i3 : s'.1 = -8 := by rw [i1]; decide
  simp (disch := omega) only [i3, gd_t, if_f, done_some]
abbrev fedT (M : MS) (f : Nat → Int) : Nat → Int := fun k => if k < mTL M then mT M k else f (k - mTL M)
theorem fedT_b {M : MS} (O : MOK M) {w : Nat → Int} (h : mTL M + 20 ≤ 400) : mTL M + 20 ≤ 400 ∧ ∀ k, k < mTL M + 20 → -128 ≤ fedT M (byF w) k ∧ fedT M (byF w) k ≤ 127 := by
  refine ⟨h, fun k hk => ?_⟩
  unfold fedT
  by_cases q : k < mTL M
  · simp only [if_t q]
    exact O.tp.2 k q
  · simp only [if_f q]
    exact i2b_b _
theorem cls_feed {D : DT} {M : MS} (hC : CInv D M) {a b c d e : Int} (h : mTL M + 20 ≤ 400) : ∃ D1, m_X10_feed a b c d e D = some (((mTL M + 20 : Nat) : Int), D1) ∧ CInv D1 (setT M (mTL M + 20) (fedT M (byF (wdF a b c d e)))) ∧ FrC D D1 := by
  have c1 := hC.2.1.2.2.2.1.1
  have F0 : Fed D (mTL M) (byF (wdF a b c d e)) 0 D := ⟨fun _ _ _ => rfl, fun _ _ => rfl, by rw [c1]; simp, fun k => by rw [if_neg (by omega)]⟩
  have z : ∀ (j q : Nat), j = 4 * q → ∀ i, i < 4 → byF (wdF a b c d e) (j + i) = i2b (shr (wdF a b c d e q) (24 - 8 * (i : Int))) := fun j q hj i hi => by
    unfold byF
    rw [show (j + i) / 4 = q by omega, show (j + i) % 4 = i by omega]
  obtain ⟨D1, e1, F1⟩ := takeBytes_fed F0 (by omega) (z 0 0 rfl)
  obtain ⟨D2, e2, F2⟩ := takeBytes_fed F1 (by omega) (z _ 1 rfl)
  obtain ⟨D3, e3, F3⟩ := takeBytes_fed F2 (by omega) (z _ 2 rfl)
  obtain ⟨D4, e4, F4⟩ := takeBytes_fed F3 (by omega) (z _ 3 rfl)
  obtain ⟨D5, e5, F5⟩ := takeBytes_fed F4 (by omega) (z _ 4 rfl)
  simp only [wdF] at e1 e2 e3 e4 e5
  obtain ⟨f1, f2, f3, f4⟩ := F5
  refine ⟨D5, ?_, hC.setT (fedT_b hC.1 h) f1 f2 f3 (fun k hk => ?_), fun q hq => ⟨by funext k; exact f1 q k (by omega), f2 q (by omega)⟩⟩
  · simp (disch := omega) only [m_X10_feed, c1, gd_t, if_f, e1, e2, e3, e4, e5, ob_some, f3]
  · rw [f4 k]
    unfold fedT
    by_cases q : k < mTL M
    · rw [if_neg (by omega)]
      simp only [if_t q]
      exact hC.2.1.2.2.2.1.2 k q
    · rw [if_pos (by omega)]
      simp only [if_f q]
