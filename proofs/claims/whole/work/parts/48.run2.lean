section RunEdge
variable {D : DT} {hc w h z : Nat} {ow se : Nat → Int} {y : Int} {r x : Nat}
theorem X1_runEdge (C : CMap D hc w h ow se) (O : MapOK w h z ow se) (hz : z ≤ 8) (hy : InR y) (hr : r < h) {i sd n : Int} (hi : InR i) (hs : InR sd) (hn : 0 ≤ n ∧ n ≤ (x : Int)) (k : Nat) (hk : x + k = w) : m_X1_runEdge_6 hc y (r : Int) i sd D (n, (x : Int)) = some (edM ow se y w r i sd k n x) := by
  have hw := C.2.1
  induction k generalizing x n with
  | zero =>
    unfold m_X1_runEdge_6
    refine loopF_inr ?_
    simp (disch := omega) only [C.1.1, gd_t, if_f, done_some, edM]
  | succ k ih =>
    have e := X1_startsRun C O hz hy hr (x := x) (by omega)
    by_cases q : begP ow se y w r x
    · rw [b2i_t q] at e
      by_cases q1 : n = i
      · rw [edM, if_pos q, if_pos q1]
        subst q1
        unfold m_X1_runEdge_6
        refine loopF_inr ?_
        by_cases q2 : sd = 0
        · subst q2
          simp (disch := omega) only [C.1.1, gd_t, if_t, e, ob_some, if_f, ↓reduceIte, done_some]
        · have e2 := X1_runEnd C O hz hy hr (x := x) (by omega) w (by omega)
          simp (disch := omega) only [C.1.1, gd_t, if_t, e, ob_some, if_f, ↓reduceIte, if_f q2, e2, done_some]
      · have i1 := ih (x := x + 1) (n := n + 1) (by omega) (by omega)
        rw [edM, if_pos q, if_neg q1, ← i1]
        unfold m_X1_runEdge_6
        refine loopF_inl ?_
        simp (disch := omega) only [C.1.1, gd_t, if_t, e, ob_some, if_f, if_f q1]
        rfl
    · rw [b2i_f q] at e
      have i1 := ih (x := x + 1) (n := n) (by omega) (by omega)
      rw [edM, if_neg q, ← i1]
      unfold m_X1_runEdge_6
      refine loopF_inl ?_
      simp (disch := omega) only [C.1.1, gd_t, if_t, e, ob_some, ↓reduceIte]
      rfl
theorem X11_runEdge (R : RMap D w h ow se) (O : MapOK w h z ow se) (hz : z ≤ 8) (hy : InR y) (hr : r < h) {i sd n : Int} (hi : InR i) (hs : InR sd) (hn : 0 ≤ n ∧ n ≤ (x : Int)) (k : Nat) (hk : x + k = w) : m_X11_run_41 y (r : Int) i sd D (n, (x : Int)) = some (edM ow se y w r i sd k n x, D) := by
  have hw := R.2.1
  have f0 := R.1.1
  have n3 := wh384 hw.1 hw.2
  induction k generalizing x n with
  | zero =>
    unfold m_X11_run_41
    refine loopF_inr ?_
    simp (disch := omega) only [t0, f0, gd_t, if_f, done_some, edM]
  | succ k ih =>
    have e := X11_isRunBegin R O hz hy hr (x := x) (by omega)
    have e1 : (w : Int) * (r : Int) + (x : Int) = ((w * r + x : Nat) : Int) := by rw [Int.natCast_add, Int.natCast_mul]
    by_cases q : begP ow se y w r x
    · rw [b2i_t q] at e
      by_cases q1 : n = i
      · rw [edM, if_pos q, if_pos q1]
        subst q1
        unfold m_X11_run_41
        refine loopF_inr ?_
        by_cases q2 : sd = 0
        · subst q2
          simp (disch := omega) only [t0, f0, e1, gd_t, if_t, e, ob_some, if_f, ↓reduceIte, done_some]
        · have e2 := X11_runEnd R O hz hy hr (x := x) (by omega) w (by omega)
          have b := reM_b (ow := ow) (se := se) (y := y) (r := r) (w := w) (x := x) w (by omega)
          have md : ((w * r + reM ow se y w r w x : Nat) : Int) % (w : Int) = (reM ow se y w r w x : Int) := by rw [cmod, wrmod b.2]
          have lt := rowlt (h := h) hr b.2
          have lo : (0 : Int) ≤ ((w * r + reM ow se y w r w x : Nat) : Int) ∧ ((w * r + reM ow se y w r w x : Nat) : Int) ≤ (2147483647 : Int) ∧ (0 : Int) < (w : Int) ∧ (w : Int) ≤ (2147483647 : Int) := by
            generalize w * r + reM ow se y w r w x = c at *
            omega
          simp (disch := omega) only [t0, f0, e1, gd_t, if_t, e, ob_some, if_f, ↓reduceIte, if_f q2, e2, gd_t lo, md, done_some]
      · have i1 := ih (x := x + 1) (n := n + 1) (by omega) (by omega)
        rw [edM, if_pos q, if_neg q1, ← i1]
        unfold m_X11_run_41
        refine loopF_inl ?_
        simp (disch := omega) only [t0, f0, e1, gd_t, if_t, e, ob_some, if_f, if_f q1]
        rfl
    · rw [b2i_f q] at e
      have i1 := ih (x := x + 1) (n := n) (by omega) (by omega)
      rw [edM, if_neg q, ← i1]
      unfold m_X11_run_41
      refine loopF_inl ?_
      simp (disch := omega) only [t0, f0, e1, gd_t, if_t, e, ob_some, ↓reduceIte]
      rfl
end RunEdge
theorem step_run : StepOK m_L_c24 := fun xs Ls s hx hs ⟨M, hC, hR⟩ => by
  have x1 := hx (Int.toNat (s.1 + 1))
  have x2 := hx (Int.toNat (s.1 + 2))
  have x3 := hx (Int.toNat (s.1 + 3))
  have x4 : InR (nz (xs (Int.toNat (s.1 + 4)))) := by
    unfold nz
    split <;> omega
  have O := hC.1
  have C := hC.2.1
  have z1 := O.2.2.1
  have w1 := O.2.1
  have n1 := nCb O
  by_cases q1 : 0 ≤ xs (Int.toNat (s.1 + 1)) ∧ xs (Int.toNat (s.1 + 1)) < (mZ M : Int)
  · have a1 := cn_zone_t O C x1 q1
    by_cases q2 : 0 ≤ xs (Int.toNat (s.1 + 2)) ∧ xs (Int.toNat (s.1 + 2)) < (mH M : Int)
    · have a2 := cn_row_t O C x2 q2
      obtain ⟨r0, hr0⟩ := nat_of q2.1
      rw [hr0] at a2 q2 x2
      have hrr : r0 < mH M := by omega
      by_cases q3 : xs (Int.toNat (s.1 + 3)) = -1
      · have sb := sum01 (f := fun x => begP (mO M) (mS M) (xs (Int.toNat (s.1 + 1))) (mW M) r0 x) (n := mW M) (by omega)
        refine comb_run hx hs (sp := .inl (sumTo (fun x => b2i (begP (mO M) (mS M) (xs (Int.toNat (s.1 + 1))) (mW M) r0 x)) (mW M))) (by show InR _; omega) (ClsX.same hC ?_) hR (RefX.same (c := 0) (sumTo (fun x => b2i (begP (mO M) (mS M) (xs (Int.toNat (s.1 + 1))) (mW M) r0 x)) (mW M)) rfl (fun v h => by injection h) (fun D r => ?_))
        · have e := X1_runsOf C.1.1 O.2.2.2.2.1 z1 x1 hrr
          simp (disch := omega) only [m_X10_run, hr0, a1, a2, bndN_inl, gd_t, q3, ↓reduceIte, e, ob_some]
        · have y1 := rn_zone_t (r.thr (x := 0)) x1 q1
          have y2 := rn_row_t (r.thr (x := 0)) x2 q2
          have e := X11_runsIn (r.thr (x := 0)).2.1.1 O.2.2.2.2.1 z1 x1 hrr
          simp (disch := omega) only [m_X11_run, sq_eq, hr0, y1, y2, bnd_some, gd_t, q3, ↓reduceIte, e, ob_some]
      · have sb := edM_b (ow := mO M) (se := mS M) (y := xs (Int.toNat (s.1 + 1))) (w := mW M) (r := r0) (x := 0) (i := xs (Int.toNat (s.1 + 3))) (sd := nz (xs (Int.toNat (s.1 + 4)))) (n := 0) (mW M) (by omega)
        refine comb_run hx hs (sp := .inl (edM (mO M) (mS M) (xs (Int.toNat (s.1 + 1))) (mW M) r0 (xs (Int.toNat (s.1 + 3))) (nz (xs (Int.toNat (s.1 + 4)))) (mW M) 0 0)) (by show InR _; omega) (ClsX.same hC ?_) hR (RefX.same (c := 0) (edM (mO M) (mS M) (xs (Int.toNat (s.1 + 1))) (mW M) r0 (xs (Int.toNat (s.1 + 3))) (nz (xs (Int.toNat (s.1 + 4)))) (mW M) 0 0) rfl (fun v h => by injection h) (fun D r => ?_))
        · have e := X1_runEdge (x := 0) (n := 0) C.1.1 O.2.2.2.2.1 z1 x1 hrr x3 x4 (by omega) (mW M) (by omega)
          have e' : m_X1_runEdge 2 (xs (Int.toNat (s.1 + 1))) (r0 : Int) (xs (Int.toNat (s.1 + 3))) (nz (xs (Int.toNat (s.1 + 4)))) s.2 = _ := e
          simp (disch := omega) only [m_X10_run, hr0, a1, a2, bndN_inl, gd_t, if_f q3, e', ob_some]
        · have y1 := rn_zone_t (r.thr (x := 0)) x1 q1
          have y2 := rn_row_t (r.thr (x := 0)) x2 q2
          have e := X11_runEdge (x := 0) (n := 0) (r.thr (x := 0)).2.1.1 O.2.2.2.2.1 z1 x1 hrr x3 x4 (by omega) (mW M) (by omega)
          simp (disch := omega) only [m_X11_run, sq_eq, hr0, y1, y2, bnd_some, gd_t, if_f q3, ↓reduceIte]
          exact e
    · have a2 := cn_row_f O C x2 q2
      refine comb_run hx hs (sp := .inr 0) (by simp [spX]) (ClsX.same hC ?_) hR (RefX.same (c := 1) 0 rfl (fun v h => by cases h) (fun D r => ?_))
      · simp (disch := omega) only [m_X10_run, a1, a2, bndN_inl, bndN_inr]
      · have y1 := rn_zone_t (r.thr (x := 0)) x1 q1
        have y2 := rn_row_f (r.thr (x := 0)) x2 q2
        simp (disch := omega) only [m_X11_run, sq_eq, y1, y2, bnd_some, gd_t, ↓reduceIte, if_f, sFF]
  · have a1 := cn_zone_f O C x1 q1
    refine comb_run hx hs (sp := .inr 0) (by simp [spX]) (ClsX.same hC ?_) hR (RefX.same (c := 1) 0 rfl (fun v h => by cases h) (fun D r => ?_))
    · simp (disch := omega) only [m_X10_run, a1, bndN_inr]
    · have y1 := rn_zone_f (r.thr (x := 0)) x1 q1
      simp (disch := omega) only [m_X11_run, sq_eq, y1, bnd_some, gd_t, ↓reduceIte, if_f, sFF]
