/-! the reference -/
def RFed (D : DT) (n : Nat) (w f : Nat → Int) (j : Nat) (E : DT) : Prop := E.1 = D.1 ∧ (∀ a, (a ≠ 74 ∧ a ≠ 75) → E.2 a = D.2 a) ∧ (∀ i, i < 5 → E.2 75 i = w i) ∧ ∀ k, E.2 74 k = if n ≤ k ∧ k < n + j then f (k - n) else D.2 74 k
theorem ref_feed_loop {D E : DT} {n : Nat} {w : Nat → Int} (hn : D.1 73 2 = (n : Int)) (h20 : n + 20 ≤ 400) (h : RFed D n w (byF w) 0 E) : ∃ E', m_X11_feed_60 (0, E) = some (((n + 20 : Nat) : Int), sF E' 73 2 ((n + 20 : Nat) : Int)) ∧ RFed D n w (byF w) 20 E' := by
  unfold m_X11_feed_60
  obtain ⟨s', ⟨i1, i2⟩, e⟩ := loop_inv (f := fun s : Int × DT =>
    gd (InR s.1 ∧ InR 20) (if s.1 < 20 then (
      gd ((0 : Int) ≤ s.1 ∧ s.1 ≤ (2147483647 : Int) ∧ (0 : Int) < 4 ∧ 4 ≤ (2147483647 : Int)) (
      gd ((0 : Int) ≤ (s.1 / 4) ∧ (s.1 / 4) < (5 : Int)) (
      gd ((0 : Int) ≤ s.1 ∧ s.1 ≤ (2147483647 : Int) ∧ (0 : Int) < 4 ∧ 4 ≤ (2147483647 : Int)) (
      gd (((0 : Int) ≤ ((s.2.1 73 2) + s.1) ∧ ((s.2.1 73 2) + s.1) < (400 : Int)) ∧ ((-128 : Int) ≤ (i2b (shr (s.2.2 75 (Int.toNat (s.1 / 4))) (24 - (8 * (s.1 % 4))))) ∧ (i2b (shr (s.2.2 75 (Int.toNat (s.1 / 4))) (24 - (8 * (s.1 % 4))))) ≤ (127 : Int))) (sq (sA s.2 74 (Int.toNat ((s.2.1 73 2) + s.1)) (i2b (shr (s.2.2 75 (Int.toNat (s.1 / 4))) (24 - (8 * (s.1 % 4)))))) (fun D99 =>
      some (.inl ((s.1 + 1), D99))
      )))))
    ) else (
      done (
      sq (sF s.2 73 2 ((s.2.1 73 2) + 20)) (fun D114 =>
      some ((D114.1 73 2), D114)
      )
      )
    ))) (fun j s => s.1 = (j : Int) ∧ RFed D n w (byF w) j s.2) 20 (s := (0, E)) ⟨rfl, h⟩ (fun j s hj ⟨a1, a2, a3, a4, a5⟩ => by
      have d4 : (j : Int) / 4 = ((j / 4 : Nat) : Int) := by omega
      have m4 : (j : Int) % 4 = ((j % 4 : Nat) : Int) := by omega
      have w4 := a4 (j / 4) (by omega)
      have b := i2b_b (shr (w (j / 4)) (24 - 8 * ((j % 4 : Nat) : Int)))
      have e2 : s.2.1 73 2 = (n : Int) := by rw [a2, hn]
      have nj : (n : Int) + (j : Int) = ((n + j : Nat) : Int) := by omega
      refine ⟨((j : Int) + 1, sA s.2 74 (n + j) (byF w j)), ?_, by simp, a2, fun a ha => ?_, fun i hi => ?_, fun k => ?_⟩
      · simp (disch := omega) only [a1, gd_t, if_t, d4, m4, tn, w4, e2, nj, sq_eq, byF]
      · funext k
        rw [sA2, if_neg (by omega), a3 a ha]
      · rw [sA2, if_neg (by omega), a4 i hi]
      · rw [sA2]
        by_cases q : k = n + j
        · rw [if_pos ⟨rfl, q⟩, if_pos (by omega)]
          congr 1
          omega
        · rw [if_neg (by omega), a5 k]
          by_cases q2 : n ≤ k ∧ k < n + j
          · rw [if_pos q2, if_pos (by omega)]
          · rw [if_neg q2, if_neg (by omega)])
  refine ⟨s'.2, ?_, i2⟩
  rw [e]
  refine loopF_inr ?_
  have e2 : s'.2.1 73 2 = (n : Int) := by rw [i2.1, hn]
  have n2 : (n : Int) + 20 = ((n + 20 : Nat) : Int) := by omega
  have e3 : (sF s'.2 73 2 ((n + 20 : Nat) : Int)).1 73 2 = ((n + 20 : Nat) : Int) := by rw [sF1, if_pos ⟨rfl, rfl⟩]
  simp (disch := omega) only [i1, gd_t, if_f, sq_eq, e2, n2, e3, done_some]
theorem ref_feed {D : DT} {M : MS} (R : RInv D M) {a b c d e : Int} (h : mTL M + 20 ≤ 400) : ∃ D2, m_X11_feed a b c d e D = some (((mTL M + 20 : Nat) : Int), D2) ∧ RInv D2 (setT M (mTL M + 20) (fedT M (byF (wdF a b c d e)))) ∧ FrR D D2 := by
  have c1 := (R.thr (x := 0)).2.2.2.2.2.1.1
  obtain ⟨E', e1, F1, F2, F3, F4⟩ := ref_feed_loop (D := sF D 73 0 0) (E := sA (sA (sA (sA (sA (sF D 73 0 0) 75 0 a) 75 1 b) 75 2 c) 75 3 d) 75 4 e) (n := mTL M) (w := wdF a b c d e) c1 h ⟨rfl, fun q hq => by
    funext k
    rw [sA2, if_neg (by omega), sA2, if_neg (by omega), sA2, if_neg (by omega), sA2, if_neg (by omega), sA2, if_neg (by omega)], fun i hi => by
    match i, hi with
    | 0, _ => rfl
    | 1, _ => rfl
    | 2, _ => rfl
    | 3, _ => rfl
    | 4, _ => rfl, fun k => by
    rw [if_neg (by omega), sA2, if_neg (by omega), sA2, if_neg (by omega), sA2, if_neg (by omega), sA2, if_neg (by omega), sA2, if_neg (by omega)]⟩
  refine ⟨sF E' 73 2 ((mTL M + 20 : Nat) : Int), ?_, R.setT (fedT_b R.1 h) (fun k hk => ?_) (fun q hq => ?_) rfl (fun k hk => ?_), fun q hq => ⟨?_, ?_⟩⟩
  · have n2 : (mTL M : Int) + 20 = ((mTL M + 20 : Nat) : Int) := by omega
    simp (disch := omega) only [m_X11_feed, sq_eq, c1, n2, gd_t, if_f, t0, t1, t2, t3, t4]
    exact e1
  · simp only [List.mem_cons, List.not_mem_nil, or_false] at hk
    rw [sF1, if_neg (by omega), F1, sF1, if_neg (by omega)]
  · simp only [List.mem_cons, List.not_mem_nil, or_false] at hq
    rw [sF2, F2 q (by omega), sF2]
  · rw [sF2, F4 k, sF2]
    unfold fedT
    by_cases q : k < mTL M
    · rw [if_neg (by omega)]
      simp only [if_t q]
      exact R.2.2.2.2.2.1.2 k q
    · rw [if_pos (by omega)]
      simp only [if_f q]
  · funext k
    rw [sF1, if_neg (by omega), F1, sF1, if_neg (by omega)]
  · rw [sF2, F2 q (by omega), sF2]
theorem step_feed : StepOK m_L_c0 := fun xs Ls s hx hs ⟨M, hC, hR⟩ => by
  have c1 := hC.2.1.2.2.2.1.1
  have t1 := hC.1.tp.1
  by_cases q : mTL M + 20 ≤ 400
  · exact comb_feed hx hs (v := ((mTL M + 20 : Nat) : Int)) (by omega) (cls_feed hC q) hR (fun D r => ref_feed r q)
  · refine comb_feed hx hs (M' := M) (v := -1) (by omega) ⟨s.2, ?_, hC, FrC.rfl⟩ hR (fun D r => ⟨sF D 73 0 0, ?_, r.thr, FrR.f (by omega)⟩)
    · simp (disch := omega) only [m_X10_feed, c1, gd_t, if_t]
    · have e := (r.thr (x := 0)).2.2.2.2.2.1.1
      simp (disch := omega) only [m_X11_feed, sq_eq, e, gd_t, if_t]
