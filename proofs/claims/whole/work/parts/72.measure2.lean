section RefMeasure
variable {E : DT} {l : Nat} {M : MS}
theorem ref_leastFar {sd : Int} (R : RInv E M) (hK : RCrowd E M l) {c : Nat} (hc : c < nC M) (hs : sd = 0 ∨ sd = 1) : m_X11_leastFar (c : Int) sd E = some (lsF (mW M) (fun o => if sd = 0 then dotP M l o else !(mS M o == 0)) c (nC M)) := by
  have O := R.1
  have n4 := nCb O
  have ec : m_X11_cells E = some (nC M : Int) := X11_cells R.2.1.1
  refine loop_for (st := fun o => (lsF (mW M) (fun o => if sd = 0 then dotP M l o else !(mS M o == 0)) c o, (o : Int))) (nC M) (fun o ho => ?_) ?_
  · have ef := X11_far R.2.1.1 ho hc
    have fb := farM_b O.2.1.1 O.2.1.2 ho hc
    have lb := lsF_b O (fun o => if sd = 0 then dotP M l o else !(mS M o == 0)) hc (show o ≤ nC M by omega)
    have c1 : ((o + 1 : Nat) : Int) = (o : Int) + 1 := rfl
    have eh := X11_hasDots R.1 hK ho
    have es := (R.2.1.1.2.2 o ho).2
    have sb := (O.2.2.2.2.1 o ho).2
    have tail : ∀ b : Int, -1 ≤ b ∧ b ≤ 754 → m_X11_leastFar_43 (c : Int) sd b (o : Int) E = some (.inl (if b = -1 ∨ farM (mW M) o c < b then farM (mW M) o c else b, (o : Int) + 1)) := fun b bb => by
      by_cases q2 : b = -1
      · simp (disch := omega) only [m_X11_leastFar_43, ef, ob_some, gd_t, if_t q2, if_t (Or.inl q2 : b = -1 ∨ farM (mW M) o c < b)]
      · by_cases q3 : farM (mW M) o c < b
        · simp (disch := omega) only [m_X11_leastFar_43, ef, ob_some, gd_t, if_f q2, if_t q3, if_t (Or.inr q3 : b = -1 ∨ farM (mW M) o c < b)]
        · have nq : ¬ (b = -1 ∨ farM (mW M) o c < b) := fun h => h.elim q2 q3
          simp (disch := omega) only [m_X11_leastFar_43, ef, ob_some, gd_t, if_f q2, if_f q3, if_f nq]
    have tl := tail _ lb
    rw [lsF_s]
    generalize lsF (mW M) (fun o => if sd = 0 then dotP M l o else !(mS M o == 0)) c o = b at *
    by_cases q0 : sd = 0
    · by_cases q : dotP M l o = true
      · rw [if_pos q] at eh
        simp (disch := omega) only [ec, ob_some, gd_t, if_t, if_t q0, eh, if_f, tl, c1, q, ↓reduceIte]
      · rw [if_neg q] at eh
        have q' : dotP M l o = false := by simpa using q
        simp (disch := omega) only [ec, ob_some, gd_t, if_t, if_t q0, eh, ↓reduceIte, c1, q', Bool.false_eq_true]
    · by_cases q : mS M o = 0
      · have qb : (!(mS M o == 0)) = false := by simp [q]
        simp (disch := omega) only [ec, ob_some, gd_t, if_t, if_f q0, tn, es, if_t q, c1, qb, Bool.false_eq_true, ↓reduceIte]
      · have qb : (!(mS M o == 0)) = true := by simp [q]
        simp (disch := omega) only [ec, ob_some, gd_t, if_t, if_f q0, tn, es, if_f q, tl, c1, qb, ↓reduceIte]
  · simp (disch := omega) only [ec, ob_some, gd_t, if_f, done_some]
theorem ref_within (R : RInv E M) (hK : RCrowd E M l) {c : Nat} (hc : c < nC M) {n : Int} (hn : InR n) : m_X11_measureOf_46 (c : Int) n E (0, 0) = some (sumTo (fun o => if farM (mW M) o c ≤ n then togM M l o else 0) (nC M)) := by
  have O := R.1
  have n4 := nCb O
  have ec : m_X11_cells E = some (nC M : Int) := X11_cells R.2.1.1
  refine loop_for (st := fun o => (sumTo (fun o => if farM (mW M) o c ≤ n then togM M l o else 0) o, (o : Int))) (nC M) (fun o ho => ?_) ?_
  · have ef := X11_far R.2.1.1 ho hc
    have fb := farM_b O.2.1.1 O.2.1.2 ho hc
    have et := X11_tog O hK ho
    have c1 : ((o + 1 : Nat) : Int) = (o : Int) + 1 := rfl
    by_cases q : farM (mW M) o c ≤ n
    · simp (disch := omega) only [ec, ob_some, gd_t, if_t, ef, if_t q, et, sumTo, c1]
    · simp (disch := omega) only [ec, ob_some, gd_t, if_t, ef, if_f q, sumTo, c1]
  · simp (disch := omega) only [ec, ob_some, gd_t, if_f, done_some]
theorem ref_inLine (R : RInv E M) (hK : RCrowd E M l) {c : Nat} (hc : c < nC M) : m_X11_measureOf_108 (c : Int) E (0, 0) = some (sumTo (fun o => if dotP M l o && inLn (mW M) o c then 1 else 0) (nC M)) := by
  have O := R.1
  have n4 := nCb O
  have ec : m_X11_cells E = some (nC M : Int) := X11_cells R.2.1.1
  have ew := R.2.1.1.1.1
  have d1 := (divh hc).1
  have d2 := (divh hc).2
  have d3 := O.2.1
  have w0 : 0 < mW M := by omega
  refine loop_for (st := fun o => (sumTo (fun o => if dotP M l o && inLn (mW M) o c then (1 : Int) else 0) o, (o : Int))) (nC M) (fun o ho => ?_) ?_
  · have eh := X11_hasDots R.1 hK ho
    have f1 := (divh ho).1
    have f2 := (divh ho).2
    have c1 : ((o + 1 : Nat) : Int) = (o : Int) + 1 := rfl
    have v1 : (o : Int) / (mW M : Int) = ((o / mW M : Nat) : Int) := cdiv _ _
    have v2 : (c : Int) / (mW M : Int) = ((c / mW M : Nat) : Int) := cdiv _ _
    have v3 : (o : Int) % (mW M : Int) = ((o % mW M : Nat) : Int) := cmod _ _
    have v4 : (c : Int) % (mW M : Int) = ((c % mW M : Nat) : Int) := cmod _ _
    by_cases q : dotP M l o = true
    · rw [if_pos q] at eh
      rw [sumTo]
      unfold inLn
      rw [q]
      generalize sumTo (fun o => if (dotP M l o && (decide (o / mW M = c / mW M) || decide (o % mW M = c % mW M))) = true then (1 : Int) else 0) o = S at *
      generalize c / mW M = cy at *
      generalize c % mW M = cx at *
      generalize o / mW M = oy at *
      generalize o % mW M = ox at *
      by_cases q2 : oy = cy
      · have q2' : (oy : Int) = (cy : Int) := by omega
        simp (disch := omega) only [ec, ob_some, gd_t, if_t, eh, if_f, t0, ew, v1, v2, if_t q2', c1, decide_eq_true q2, Bool.true_or, Bool.and_true, ↓reduceIte]
      · have q2' : ¬ (oy : Int) = (cy : Int) := by omega
        by_cases q3 : ox = cx
        · have q3' : (ox : Int) = (cx : Int) := by omega
          simp (disch := omega) only [ec, ob_some, gd_t, if_t, eh, if_f, t0, ew, v1, v2, v3, v4, if_f q2', if_t q3', c1, decide_eq_true q3, Bool.or_true, Bool.and_true, ↓reduceIte]
        · have q3' : ¬ (ox : Int) = (cx : Int) := by omega
          simp (disch := omega) only [ec, ob_some, gd_t, if_t, eh, if_f, t0, ew, v1, v2, v3, v4, if_f q2', if_f q3', c1, decide_eq_false q3, decide_eq_false q2, Bool.or_false, Bool.and_false, ↓reduceIte, Bool.false_eq_true]
    · rw [if_neg q] at eh
      have q' : dotP M l o = false := by simpa using q
      simp (disch := omega) only [ec, ob_some, gd_t, if_t, eh, ↓reduceIte, c1, sumTo, q', Bool.false_and, Bool.false_eq_true]
  · simp (disch := omega) only [ec, ob_some, gd_t, if_f, done_some]
theorem X11_measureOf (R : RInv E M) (hK : RCrowd E M l) {c : Nat} (hc : c < nC M) {v n : Int} (hv : 0 ≤ v ∧ v < 5) (hn : InR n) : m_X11_measureOf (c : Int) v n E = some (meaM M l v n c) := by
  unfold meaM
  by_cases q0 : v = 0
  · have e := X11_tog R.1 hK hc
    simp (disch := omega) only [m_X11_measureOf, gd_t, if_t q0, e, ob_some]
  · by_cases q1 : v = 1
    · have e := ref_within R hK hc hn
      simp (disch := omega) only [m_X11_measureOf, gd_t, if_f q0, if_t q1, e]
    · by_cases q2 : v = 2
      · have e := ref_leastFar (sd := 0) R hK hc (Or.inl rfl)
        simp only [↓reduceIte] at e
        simp (disch := omega) only [m_X11_measureOf, gd_t, if_f q0, if_f q1, if_t q2, e, ob_some]
      · by_cases q3 : v = 3
        · have e := ref_leastFar (sd := 1) R hK hc (Or.inr rfl)
          simp only [if_f (show ¬ (1 : Int) = 0 by omega)] at e
          simp (disch := omega) only [m_X11_measureOf, gd_t, if_f q0, if_f q1, if_f q2, if_t q3, e, ob_some]
        · have e := ref_inLine R hK hc
          simp (disch := omega) only [m_X11_measureOf, gd_t, if_f q0, if_f q1, if_f q2, if_f q3, e]
theorem rn_meas_t {D : DT} {v n : Int} (hv : InR v) (hn : InR n) (h : 0 ≤ v ∧ v < 5) (h2 : 0 ≤ n ∧ n ≤ 999) : m_X11_noMeasure v n D = some (0, D) := by
  have i1 := rn_in_t (D := D) (a := 0) (b := 4) hv (by omega) (by omega) (by omega)
  have i2 := rn_in_t (D := D) (a := 0) (b := 999) hn (by omega) (by omega) (by omega)
  simp (disch := omega) only [m_X11_noMeasure, m_X11_noMeasure_15, i1, i2, ob_some, gd_t, if_f, rn_th_0, bnd_some, ↓reduceIte]
theorem rn_meas_f {D : DT} {v n : Int} (hv : InR v) (h : ¬ (0 ≤ v ∧ v < 5)) : m_X11_noMeasure v n D = some (1, sF D 73 0 2) := by
  have i1 := rn_in_f (D := D) (a := 0) (b := 4) hv (by omega) (by omega) (by omega)
  simp (disch := omega) only [m_X11_noMeasure, m_X11_noMeasure_15, i1, ob_some, gd_t, if_f, rn_th_1, bnd_some, ↓reduceIte]
theorem rn_meas_n {D : DT} {v n : Int} (hv : InR v) (hn : InR n) (h : 0 ≤ v ∧ v < 5) (h2 : ¬ (0 ≤ n ∧ n ≤ 999)) : m_X11_noMeasure v n D = some (1, sF D 73 0 3) := by
  have i1 := rn_in_t (D := D) (a := 0) (b := 4) hv (by omega) (by omega) (by omega)
  have i2 := rn_in_f (D := D) (a := 0) (b := 999) hn (by omega) (by omega) (by omega)
  simp (disch := omega) only [m_X11_noMeasure, m_X11_noMeasure_15, i1, i2, ob_some, gd_t, if_f, rn_th_0, rn_th_1, bnd_some, ↓reduceIte]
theorem X11_nearestTo (R : RInv E M) (hK : RCrowd E M l) {c : Nat} (hc : c < nC M) : m_X11_nearestTo (c : Int) E = some (nrF (mW M) (dotP M l) c (nC M)) := by
  have O := R.1
  have n4 := nCb O
  have ec : m_X11_cells E = some (nC M : Int) := X11_cells R.2.1.1
  unfold nrF
  refine loop_for (st := fun o => (argB (dotP M l) (fun o b => decide (farM (mW M) o c < farM (mW M) b c)) o, (o : Int))) (nC M) (fun o ho => ?_) ?_
  · have ef := X11_far R.2.1.1 ho hc
    have fb := farM_b O.2.1.1 O.2.1.2 ho hc
    have c1 : ((o + 1 : Nat) : Int) = (o : Int) + 1 := rfl
    have eh := X11_hasDots R.1 hK ho
    have ab := argB_cases (dotP M l) (fun o b => decide (farM (mW M) o c < farM (mW M) b c)) o
    rw [argB_s]
    generalize argB (dotP M l) (fun o b => decide (farM (mW M) o c < farM (mW M) b c)) o = b at *
    by_cases q : dotP M l o = true
    · rw [if_pos q] at eh
      rcases ab with ⟨h, -⟩ | ⟨b', h1, h2, h3⟩
      · subst h
        simp (disch := omega) only [ec, ob_some, gd_t, if_t, eh, if_f, ↓reduceIte, c1, q, beq_self_eq_true, Bool.true_or, Bool.and_true]
      · subst h3
        have hbn : b' < nC M := by omega
        have ef2 := X11_far R.2.1.1 hbn hc
        have fb2 := farM_b O.2.1.1 O.2.1.2 hbn hc
        have hne2 : ¬ ((b' : Int) = -1) := by omega
        have hne3 : ((b' : Int) == -1) = false := by simp
        by_cases q2 : farM (mW M) o c < farM (mW M) b' c
        · simp (disch := omega) only [ec, ob_some, gd_t, if_t, eh, if_f, if_f hne2, ef, ef2, if_t q2, ↓reduceIte, c1, q, hne3, tn, decide_eq_true q2, Bool.or_true, Bool.and_true]
        · simp (disch := omega) only [ec, ob_some, gd_t, if_t, eh, if_f, if_f hne2, ef, ef2, if_f q2, ↓reduceIte, c1, q, hne3, tn, decide_eq_false q2, Bool.or_false, Bool.and_false, Bool.false_eq_true]
    · rw [if_neg q] at eh
      have q' : dotP M l o = false := by simpa using q
      simp (disch := omega) only [ec, ob_some, gd_t, if_t, eh, ↓reduceIte, c1, q', Bool.false_and, Bool.false_eq_true]
  · simp (disch := omega) only [ec, ob_some, gd_t, if_f, done_some]
end RefMeasure
/-- the best cell -/
def bstM (M : MS) (l : Nat) (v n : Int) : Int := argB (hasL M) (fun c b => decide (meaM M l v n b < meaM M l v n c)) (nC M)
theorem cls_top {D : DT} {k hc l : Nat} {M : MS} (O : MOK M) (C : CMap D hc (mW M) (mH M) (mO M) (mS M)) (K : CrowdAt D k M l) {v n : Int} (hv : 0 ≤ v ∧ v < 5) (hn : InR n) : m_X2_topCell k hc v n D = some (bstM M l v n) := by
  have n4 := nCb O
  have c1n := K.1
  unfold bstM
  refine loop_for (st := fun c => (argB (hasL M) (fun c b => decide (meaM M l v n b < meaM M l v n c)) c, (if argB (hasL M) (fun c b => decide (meaM M l v n b < meaM M l v n c)) c = -1 then 0 else meaM M l v n (argB (hasL M) (fun c b => decide (meaM M l v n b < meaM M l v n c)) c).toNat), (c : Int))) (nC M) (fun c hcc => ?_) ?_
  · have el := X1_isLand C O.2.2.2.2.1 hcc O.2.2.1
    have eg := X2_gauge O C K hcc hv hn
    have gb := meaM_b O l v n hcc
    have c1 : ((c + 1 : Nat) : Int) = (c : Int) + 1 := rfl
    have ab := argB_cases (hasL M) (fun c b => decide (meaM M l v n b < meaM M l v n c)) c
    rw [argB_s]
    generalize argB (hasL M) (fun c b => decide (meaM M l v n b < meaM M l v n c)) c = b at *
    have hne : ¬ ((c : Int) = -1) := by omega
    by_cases q : hasL M c = true
    · rw [b2i_t (hasL_iff.mp q)] at el
      rcases ab with ⟨h, -⟩ | ⟨b', h1, h2, h3⟩
      · subst h
        simp (disch := omega) only [c1n, gd_t, if_t, el, ob_some, if_f, eg, ↓reduceIte, c1, q, beq_self_eq_true, Bool.true_or, Bool.and_true, if_f hne, tn]
      · subst h3
        have gb2 := meaM_b O l v n (show b' < nC M by omega)
        have hne2 : ¬ ((b' : Int) = -1) := by omega
        have hne3 : ((b' : Int) == -1) = false := by simp
        by_cases q2 : meaM M l v n b' < meaM M l v n c
        · simp (disch := omega) only [c1n, gd_t, if_t, el, ob_some, if_f, eg, if_f hne2, tn, if_t q2, ↓reduceIte, c1, q, hne3, decide_eq_true q2, Bool.or_true, Bool.and_true, if_f hne]
        · simp (disch := omega) only [c1n, gd_t, if_t, el, ob_some, if_f, eg, if_f hne2, tn, if_f q2, ↓reduceIte, c1, q, hne3, decide_eq_false q2, Bool.or_false, Bool.and_false, Bool.false_eq_true]
    · rw [b2i_f (fun h => q (hasL_iff.mpr h))] at el
      have q' : hasL M c = false := by simpa using q
      simp (disch := omega) only [c1n, gd_t, if_t, el, ob_some, ↓reduceIte, c1, q', Bool.false_and, Bool.false_eq_true]
  · simp (disch := omega) only [c1n, gd_t, if_f, done_some]
theorem ref_best {E : DT} {l : Nat} {M : MS} (R : RInv E M) (hK : RCrowd E M l) {v n : Int} (hv : 0 ≤ v ∧ v < 5) (hn : InR n) : m_X11_best_38 v n E (-1, 0, 0) = some (bstM M l v n, E) := by
  have O := R.1
  have n4 := nCb O
  have ec : m_X11_cells E = some (nC M : Int) := X11_cells R.2.1.1
  unfold bstM
  refine loop_for (st := fun c => (argB (hasL M) (fun c b => decide (meaM M l v n b < meaM M l v n c)) c, (if argB (hasL M) (fun c b => decide (meaM M l v n b < meaM M l v n c)) c = -1 then 0 else meaM M l v n (argB (hasL M) (fun c b => decide (meaM M l v n b < meaM M l v n c)) c).toNat), (c : Int))) (nC M) (fun c hcc => ?_) ?_
  · have el := X11_isLand R.2.1.1 O.2.2.2.2.1 hcc O.2.2.1
    have eg := X11_measureOf R hK hcc hv hn
    have gb := meaM_b O l v n hcc
    have c1 : ((c + 1 : Nat) : Int) = (c : Int) + 1 := rfl
    have ab := argB_cases (hasL M) (fun c b => decide (meaM M l v n b < meaM M l v n c)) c
    rw [argB_s]
    generalize argB (hasL M) (fun c b => decide (meaM M l v n b < meaM M l v n c)) c = b at *
    have hne : ¬ ((c : Int) = -1) := by omega
    by_cases q : hasL M c = true
    · rw [b2i_t (hasL_iff.mp q)] at el
      rcases ab with ⟨h, -⟩ | ⟨b', h1, h2, h3⟩
      · subst h
        simp (disch := omega) only [ec, ob_some, gd_t, if_t, el, if_f, eg, ↓reduceIte, c1, q, beq_self_eq_true, Bool.true_or, Bool.and_true, if_f hne, tn]
      · subst h3
        have gb2 := meaM_b O l v n (show b' < nC M by omega)
        have hne2 : ¬ ((b' : Int) = -1) := by omega
        have hne3 : ((b' : Int) == -1) = false := by simp
        by_cases q2 : meaM M l v n b' < meaM M l v n c
        · have q2' : ¬ meaM M l v n c ≤ meaM M l v n b' := by omega
          simp (disch := omega) only [ec, ob_some, gd_t, if_t, el, if_f, eg, if_f hne2, tn, if_f q2', ↓reduceIte, c1, q, hne3, decide_eq_true q2, Bool.or_true, Bool.and_true, if_f hne]
        · have q2' : meaM M l v n c ≤ meaM M l v n b' := by omega
          simp (disch := omega) only [ec, ob_some, gd_t, if_t, el, if_f, eg, if_f hne2, tn, if_t q2', ↓reduceIte, c1, q, hne3, decide_eq_false q2, Bool.or_false, Bool.and_false, Bool.false_eq_true]
    · rw [b2i_f (fun h => q (hasL_iff.mpr h))] at el
      have q' : hasL M c = false := by simpa using q
      simp (disch := omega) only [ec, gd_t, if_t, el, ob_some, ↓reduceIte, c1, q', Bool.false_and, Bool.false_eq_true]
  · simp (disch := omega) only [ec, ob_some, gd_t, if_f, done_some]
theorem step_measure : StepOK m_L_c26 := fun xs Ls s hx hs ⟨M, hC, hR⟩ => by
  have x1 := hx (Int.toNat (s.1 + 1))
  have x2 := hx (Int.toNat (s.1 + 2))
  have x3 := hx (Int.toNat (s.1 + 3))
  have x4 := hx (Int.toNat (s.1 + 4))
  have O := hC.1
  have C := hC.2.1
  have n4 := nCb O
  by_cases q1 : 0 ≤ xs (Int.toNat (s.1 + 1)) ∧ xs (Int.toNat (s.1 + 1)) < (nC M : Int)
  · have a1 := cn_cell_t O C x1 q1
    by_cases q3 : 0 ≤ xs (Int.toNat (s.1 + 3)) ∧ xs (Int.toNat (s.1 + 3)) < 5
    · have a3 := cn_level_t (D := s.2) x3 q3
      by_cases q2 : 0 ≤ xs (Int.toNat (s.1 + 2)) ∧ xs (Int.toNat (s.1 + 2)) < 5
      · have a2 := cn_measure_t (D := s.2) x2 q2
        by_cases q4 : 0 ≤ xs (Int.toNat (s.1 + 4)) ∧ xs (Int.toNat (s.1 + 4)) ≤ 999
        · have a4 := cn_far_t (D := s.2) x4 q4
          obtain ⟨c, hc⟩ := nat_of q1.1
          obtain ⟨l, hl⟩ := nat_of q3.1
          rw [hc] at a1 q1 x1
          rw [hl] at a3 q3 x3
          have hcn : c < nC M := by omega
          have hl5 : l < 5 := by omega
          obtain ⟨D1, e1, e2, e3, e4⟩ := cls_crowd hC hl5
          have gb := meaM_b O l (xs (Int.toNat (s.1 + 2))) (xs (Int.toNat (s.1 + 4))) hcn
          refine comb_measure hx hs (M' := M) (sp := .inl (meaM M l (xs (Int.toNat (s.1 + 2))) (xs (Int.toNat (s.1 + 4))) c)) (by show InR _; omega) ⟨D1, ?_, e2, e4⟩ hR (fun D r => ?_)
          · have e5 := X2_gauge (hc := 2) O e2.2.1.1.1 e3 hcn q2 x4
            simp (disch := omega) only [m_X10_measure, hc, hl, a1, a2, a3, a4, bndN_inl, e1, ob_some, e5]
          · obtain ⟨E, f1, f2, f3, f4, f5⟩ := ref_crowd (r.thr (x := 0)) hl5
            have y1 := rn_cell_t (r.thr (x := 0)) x1 (by omega)
            have y3 := rn_level_t (D := sF D 73 0 0) x3 q3
            have y2 := rn_meas_t (D := sF D 73 0 0) x2 x4 q2 q4
            have f6 := X11_measureOf f2 f5 hcn q2 x4
            refine ⟨_, E, ?_, f2, (FrR.f (by omega)).trans f3, by rw [f4]; rfl, fun v h => by injection h⟩
            simp (disch := omega) only [m_X11_measure, sq_eq, hc, hl, y1, y2, y3, bnd_some, gd_t, ↓reduceIte, f1, ob_some, f6]
        · have a4 := cn_far_f (D := s.2) x4 q4
          refine comb_measure hx hs (sp := .inr 2) (by simp [spX]) (ClsX.same hC ?_) hR (RefX.same (c := 3) 0 rfl (fun v h => by cases h) (fun D r => ?_))
          · simp (disch := omega) only [m_X10_measure, a1, a2, a3, a4, bndN_inl, bndN_inr]
          · have y1 := rn_cell_t (r.thr (x := 0)) x1 (by omega)
            have y3 := rn_level_t (D := sF D 73 0 0) x3 q3
            have y2 := rn_meas_n (D := sF D 73 0 0) x2 x4 q2 q4
            simp (disch := omega) only [m_X11_measure, sq_eq, y1, y2, y3, bnd_some, gd_t, ↓reduceIte, if_f, sFF]
      · have a2 := cn_measure_f (D := s.2) x2 q2
        refine comb_measure hx hs (sp := .inr 1) (by simp [spX]) (ClsX.same hC ?_) hR (RefX.same (c := 2) 0 rfl (fun v h => by cases h) (fun D r => ?_))
        · simp (disch := omega) only [m_X10_measure, a1, a2, a3, bndN_inl, bndN_inr]
        · have y1 := rn_cell_t (r.thr (x := 0)) x1 (by omega)
          have y3 := rn_level_t (D := sF D 73 0 0) x3 q3
          have y2 := rn_meas_f (D := sF D 73 0 0) (n := xs (Int.toNat (s.1 + 4))) x2 q2
          simp (disch := omega) only [m_X11_measure, sq_eq, y1, y2, y3, bnd_some, gd_t, ↓reduceIte, if_f, sFF]
    · have a3 := cn_level_f (D := s.2) x3 q3
      refine comb_measure hx hs (sp := .inr 0) (by simp [spX]) (ClsX.same hC ?_) hR (RefX.same (c := 1) 0 rfl (fun v h => by cases h) (fun D r => ?_))
      · simp (disch := omega) only [m_X10_measure, a1, a3, bndN_inl, bndN_inr]
      · have y1 := rn_cell_t (r.thr (x := 0)) x1 (by omega)
        have y3 := rn_level_f (D := sF D 73 0 0) x3 q3
        simp (disch := omega) only [m_X11_measure, sq_eq, y1, y3, bnd_some, gd_t, ↓reduceIte, if_f, sFF]
  · have a1 := cn_cell_f O C x1 q1
    refine comb_measure hx hs (sp := .inr 0) (by simp [spX]) (ClsX.same hC ?_) hR (RefX.same (c := 1) 0 rfl (fun v h => by cases h) (fun D r => ?_))
    · simp (disch := omega) only [m_X10_measure, a1, bndN_inr]
    · have y1 := rn_cell_f (r.thr (x := 0)) x1 q1
      simp (disch := omega) only [m_X11_measure, sq_eq, y1, bnd_some, gd_t, if_f, sFF]
theorem step_best : StepOK m_L_c27 := fun xs Ls s hx hs ⟨M, hC, hR⟩ => by
  have x1 := hx (Int.toNat (s.1 + 1))
  have x2 := hx (Int.toNat (s.1 + 2))
  have x3 := hx (Int.toNat (s.1 + 3))
  have O := hC.1
  have C := hC.2.1
  have n4 := nCb O
  by_cases q3 : 0 ≤ xs (Int.toNat (s.1 + 2)) ∧ xs (Int.toNat (s.1 + 2)) < 5
  · have a3 := cn_level_t (D := s.2) x2 q3
    by_cases q2 : 0 ≤ xs (Int.toNat (s.1 + 1)) ∧ xs (Int.toNat (s.1 + 1)) < 5
    · have a2 := cn_measure_t (D := s.2) x1 q2
      by_cases q4 : 0 ≤ xs (Int.toNat (s.1 + 3)) ∧ xs (Int.toNat (s.1 + 3)) ≤ 999
      · have a4 := cn_far_t (D := s.2) x3 q4
        obtain ⟨l, hl⟩ := nat_of q3.1
        rw [hl] at a3 q3 x2
        have hl5 : l < 5 := by omega
        obtain ⟨D1, e1, e2, e3, e4⟩ := cls_crowd hC hl5
        have bb := argB_b (hasL M) (fun c b => decide (meaM M l (xs (Int.toNat (s.1 + 1))) (xs (Int.toNat (s.1 + 3))) b < meaM M l (xs (Int.toNat (s.1 + 1))) (xs (Int.toNat (s.1 + 3))) c)) (nC M)
        have bb2 : -1 ≤ bstM M l (xs (Int.toNat (s.1 + 1))) (xs (Int.toNat (s.1 + 3))) ∧ bstM M l (xs (Int.toNat (s.1 + 1))) (xs (Int.toNat (s.1 + 3))) < (nC M : Int) := bb
        refine comb_best hx hs (M' := M) (sp := .inl (bstM M l (xs (Int.toNat (s.1 + 1))) (xs (Int.toNat (s.1 + 3))))) (by show InR _; omega) ⟨D1, ?_, e2, e4⟩ hR (fun D r => ?_)
        · have e5 := cls_top (hc := 2) O e2.2.1.1.1 e3 q2 x3
          simp (disch := omega) only [m_X10_best, hl, a2, a3, a4, bndN_inl, e1, ob_some, e5]
        · obtain ⟨E, f1, f2, f3, f4, f5⟩ := ref_crowd (r.thr (x := 0)) hl5
          have y3 := rn_level_t (D := sF D 73 0 0) x2 q3
          have y2 := rn_meas_t (D := sF D 73 0 0) x1 x3 q2 q4
          have f6 := ref_best f2 f5 q2 x3
          refine ⟨_, E, ?_, f2, (FrR.f (by omega)).trans f3, by rw [f4]; rfl, fun v h => by injection h⟩
          simp (disch := omega) only [m_X11_best, sq_eq, hl, y2, y3, bnd_some, gd_t, ↓reduceIte, f1, ob_some, f6]
      · have a4 := cn_far_f (D := s.2) x3 q4
        refine comb_best hx hs (sp := .inr 2) (by simp [spX]) (ClsX.same hC ?_) hR (RefX.same (c := 3) 0 rfl (fun v h => by cases h) (fun D r => ?_))
        · simp (disch := omega) only [m_X10_best, a2, a3, a4, bndN_inl, bndN_inr]
        · have y3 := rn_level_t (D := sF D 73 0 0) x2 q3
          have y2 := rn_meas_n (D := sF D 73 0 0) x1 x3 q2 q4
          simp (disch := omega) only [m_X11_best, sq_eq, y2, y3, bnd_some, gd_t, ↓reduceIte, if_f, sFF]
    · have a2 := cn_measure_f (D := s.2) x1 q2
      refine comb_best hx hs (sp := .inr 1) (by simp [spX]) (ClsX.same hC ?_) hR (RefX.same (c := 2) 0 rfl (fun v h => by cases h) (fun D r => ?_))
      · simp (disch := omega) only [m_X10_best, a2, a3, bndN_inl, bndN_inr]
      · have y3 := rn_level_t (D := sF D 73 0 0) x2 q3
        have y2 := rn_meas_f (D := sF D 73 0 0) (n := xs (Int.toNat (s.1 + 3))) x1 q2
        simp (disch := omega) only [m_X11_best, sq_eq, y2, y3, bnd_some, gd_t, ↓reduceIte, if_f, sFF]
  · have a3 := cn_level_f (D := s.2) x2 q3
    refine comb_best hx hs (sp := .inr 0) (by simp [spX]) (ClsX.same hC ?_) hR (RefX.same (c := 1) 0 rfl (fun v h => by cases h) (fun D r => ?_))
    · simp (disch := omega) only [m_X10_best, a3, bndN_inr]
    · have y3 := rn_level_f (D := sF D 73 0 0) x2 q3
      simp (disch := omega) only [m_X11_best, sq_eq, y3, bnd_some, gd_t, if_f, sFF]
theorem step_nearest : StepOK m_L_c28 := fun xs Ls s hx hs ⟨M, hC, hR⟩ => by
  have x1 := hx (Int.toNat (s.1 + 1))
  have x2 := hx (Int.toNat (s.1 + 2))
  have O := hC.1
  have C := hC.2.1
  have n4 := nCb O
  by_cases q1 : 0 ≤ xs (Int.toNat (s.1 + 1)) ∧ xs (Int.toNat (s.1 + 1)) < (nC M : Int)
  · have a1 := cn_cell_t O C x1 q1
    by_cases q3 : 0 ≤ xs (Int.toNat (s.1 + 2)) ∧ xs (Int.toNat (s.1 + 2)) < 5
    · have a3 := cn_level_t (D := s.2) x2 q3
      obtain ⟨c, hc⟩ := nat_of q1.1
      obtain ⟨l, hl⟩ := nat_of q3.1
      rw [hc] at a1 q1 x1
      rw [hl] at a3 q3 x2
      have hcn : c < nC M := by omega
      have hl5 : l < 5 := by omega
      obtain ⟨D1, e1, e2, e3, e4⟩ := cls_crowd hC hl5
      have bb : -1 ≤ nrF (mW M) (dotP M l) c (nC M) ∧ nrF (mW M) (dotP M l) c (nC M) < (nC M : Int) := argB_b _ _ _
      refine comb_nearest hx hs (M' := M) (sp := .inl (nrF (mW M) (dotP M l) c (nC M))) (by show InR _; omega) ⟨D1, ?_, e2, e4⟩ hR (fun D r => ?_)
      · have e5 := X2_nextSpot (hc := 2) O e2.2.1.1.1 e3 hcn
        simp (disch := omega) only [m_X10_nearest, hc, hl, a1, a3, bndN_inl, e1, ob_some, e5]
      · obtain ⟨E, f1, f2, f3, f4, f5⟩ := ref_crowd (r.thr (x := 0)) hl5
        have y1 := rn_cell_t (r.thr (x := 0)) x1 (by omega)
        have y3 := rn_level_t (D := sF D 73 0 0) x2 q3
        have f6 := X11_nearestTo f2 f5 hcn
        refine ⟨_, E, ?_, f2, (FrR.f (by omega)).trans f3, by rw [f4]; rfl, fun v h => by injection h⟩
        simp (disch := omega) only [m_X11_nearest, sq_eq, hc, hl, y1, y3, bnd_some, gd_t, ↓reduceIte, f1, ob_some, f6]
    · have a3 := cn_level_f (D := s.2) x2 q3
      refine comb_nearest hx hs (sp := .inr 0) (by simp [spX]) (ClsX.same hC ?_) hR (RefX.same (c := 1) 0 rfl (fun v h => by cases h) (fun D r => ?_))
      · simp (disch := omega) only [m_X10_nearest, a1, a3, bndN_inl, bndN_inr]
      · have y1 := rn_cell_t (r.thr (x := 0)) x1 (by omega)
        have y3 := rn_level_f (D := sF D 73 0 0) x2 q3
        simp (disch := omega) only [m_X11_nearest, sq_eq, y1, y3, bnd_some, gd_t, ↓reduceIte, if_f, sFF]
  · have a1 := cn_cell_f O C x1 q1
    refine comb_nearest hx hs (sp := .inr 0) (by simp [spX]) (ClsX.same hC ?_) hR (RefX.same (c := 1) 0 rfl (fun v h => by cases h) (fun D r => ?_))
    · simp (disch := omega) only [m_X10_nearest, a1, bndN_inr]
    · have y1 := rn_cell_f (r.thr (x := 0)) x1 q1
      simp (disch := omega) only [m_X11_nearest, sq_eq, y1, bnd_some, gd_t, if_f, sFF]
