def scM (M : MS) (v : Int) : Nat → Nat → Int
  | 0, _ => -1
  | k + 1, l => if slM M (mU M) l ≤ v then (l : Int) else scM M v k (l + 1)
theorem scM_b {M : MS} {v : Int} (k l : Nat) (h : l + k = 5) : -1 ≤ scM M v k l ∧ scM M v k l ≤ 5 := by
  induction k generalizing l with
  | zero => rw [scM]; omega
  | succ k ih =>
    have := ih (l + 1) (by omega)
    rw [scM]
    split
    · omega
    · exact this
theorem cls_scale {M : MS} {v : Int} (hv : InR v) (k l : Nat) (h : l + k = 5) {D : DT} (hC : CInv D M) : ∃ D', m_X10_scale_2 v ((l : Int), D) = some (scM M v k l, D') ∧ CInv D' M ∧ FrC D D' := by
  induction k generalizing l D with
  | zero =>
    refine ⟨D, ?_, hC, FrC.rfl⟩
    unfold m_X10_scale_2
    refine loopF_inr ?_
    simp (disch := omega) only [gd_t, if_f, done_some, scM]
  | succ k ih =>
    have ub := hC.1.ufx
    obtain ⟨D', e1, e2, e3, e4⟩ := X5_tallied hC
    have e5 := X8_sumOfLevel hC.1 e3 (show l < 5 by omega)
    have b := slM_b hC.1 (show 0 < mU M by omega) l
    by_cases q : slM M (mU M) l ≤ v
    · refine ⟨D', ?_, e2, fun a ha => e4 a (by omega)⟩
      rw [scM, if_pos q]
      unfold m_X10_scale_2
      refine loopF_inr ?_
      simp (disch := omega) only [gd_t, if_t, e1, e5, ob_some, done_some]
    · obtain ⟨D2, f1, f2, f3⟩ := ih (l + 1) (by omega) e2
      refine ⟨D2, ?_, f2, FrC.trans (fun a ha => e4 a (by omega)) f3⟩
      rw [scM, if_neg q, ← f1]
      unfold m_X10_scale_2
      refine loopF_inl ?_
      simp (disch := omega) only [gd_t, if_t, e1, e5, ob_some, if_f q]
      rfl
theorem X11_allD {E : DT} {M : MS} {l : Nat} (R : RInv E M) (hK : ColsOK E M (mU M) 5 0) (hl : l < 5) : m_X11_allDots (-1) (l : Int) E = some (slM M (mU M) l) := by
  have f4 := X11_allDots R hK hl (v := -1) (by omega)
  rw [f4]
  unfold slM sgM
  rw [← sum_swap (fun z g => dotM M (mU M) g l z)]
  simp only [true_or, ↓reduceIte]
theorem ref_scale {M : MS} {v : Int} (hv : InR v) {E : DT} (R : RInv E M) (hK : ColsOK E M (mU M) 5 0) (k l : Nat) (h : l + k = 5) : m_X11_scale_15 v E (l : Int) = some (scM M v k l, E) := by
  induction k generalizing l with
  | zero =>
    unfold m_X11_scale_15
    refine loopF_inr ?_
    simp (disch := omega) only [gd_t, if_f, done_some, scM]
  | succ k ih =>
    have ub := R.1.ufx
    have e5 := X11_allD R hK (show l < 5 by omega)
    have b := slM_b R.1 (show 0 < mU M by omega) l
    by_cases q : slM M (mU M) l ≤ v
    · rw [scM, if_pos q]
      unfold m_X11_scale_15
      refine loopF_inr ?_
      simp (disch := omega) only [gd_t, if_t, e5, ob_some, done_some]
    · rw [scM, if_neg q, ← ih (l + 1) (by omega)]
      unfold m_X11_scale_15
      refine loopF_inl ?_
      simp (disch := omega) only [gd_t, if_t, e5, ob_some, if_f q]
      rfl
theorem step_scale : StepOK m_L_c39 := fun xs Ls s hx hs ⟨M, hC, hR⟩ => by
  have x1 := hx (Int.toNat (s.1 + 1))
  have b := scM_b (M := M) (v := xs (Int.toNat (s.1 + 1))) 5 0 rfl
  have ub := hC.1.ufx
  refine comb_scale hx hs (M' := M) (v := scM M (xs (Int.toNat (s.1 + 1))) 5 0) (by omega) (cls_scale x1 5 0 rfl hC) hR (fun D r => ?_)
  have eu := (r.thr (x := 0)).2.2.2.2.1.1
  obtain ⟨E, f1, f2, f3⟩ := X11_laysDots (r.thr (x := 0)) (u := mU M) (by omega)
  refine ⟨E, ?_, (r.thr (x := 0)).rk f2, (FrR.f (by omega)).trans f2.frR⟩
  simp only [m_X11_scale, sq_eq, eu, f1, ob_some]
  exact ref_scale x1 ((r.thr (x := 0)).rk f2) f3 5 0 rfl
