/-! ===== served, line ===== -/
theorem argB_min (p : Nat → Bool) (f : Nat → Int) (n : Nat) {r : Nat} (h : argB p (fun o b => decide (f o < f b)) n = (r : Int)) : ∀ s, s < n → p s = true → f r < f s ∨ (f r = f s ∧ r ≤ s) := by
  induction n generalizing r with
  | zero =>
    have : argB p (fun o b => decide (f o < f b)) 0 = -1 := rfl
    omega
  | succ n ih =>
    intro s hs hp
    rw [argB_s] at h
    rcases argB_cases p (fun o b => decide (f o < f b)) n with ⟨h1, h2⟩ | ⟨b, h1, h2, h3⟩
    · rw [h1] at h
      by_cases q : p n = true
      · simp only [q, beq_self_eq_true, Bool.true_or, Bool.and_true, ↓reduceIte] at h
        have : r = n := by omega
        subst this
        by_cases qs : s = r
        · subst qs; exact Or.inr ⟨rfl, Nat.le_refl _⟩
        · have := h2 s (by omega)
          rw [hp] at this
          cases this
      · have q' : p n = false := by simpa using q
        simp only [q', Bool.false_and, Bool.false_eq_true, ↓reduceIte] at h
        omega
    · have i := ih h3
      rw [h3] at h
      have ne2 : ((b : Int) == -1) = false := by simp
      by_cases q : p n = true
      · by_cases q2 : f n < f b
        · simp only [q, ne2, tn, decide_eq_true q2, Bool.false_or, Bool.and_true, ↓reduceIte] at h
          have : r = n := by omega
          subst this
          by_cases qs : s = r
          · subst qs; exact Or.inr ⟨rfl, Nat.le_refl _⟩
          · have := i s (by omega) hp
            omega
        · simp only [q, ne2, tn, decide_eq_false q2, Bool.false_or, Bool.and_false, Bool.false_eq_true, ↓reduceIte] at h
          have : r = b := by omega
          subst this
          by_cases qs : s = n
          · subst qs
            omega
          · exact i s (by omega) hp
      · have q' : p n = false := by simpa using q
        simp only [q', Bool.false_and, Bool.false_eq_true, ↓reduceIte] at h
        have : r = b := by omega
        subst this
        by_cases qs : s = n
        · subst qs; exact absurd hp q
        · exact i s (by omega) hp
/-- none nearer -/
def nnr (M : MS) (l o c : Nat) : Prop := ∀ s, s < nC M → dotP M l s = true → ¬ (farM (mW M) s o < farM (mW M) c o ∨ (farM (mW M) s o = farM (mW M) c o ∧ s < c))
theorem nnr_iff {M : MS} {l o c : Nat} (hc : c < nC M) (hp : dotP M l c = true) : nnr M l o c ↔ nrF (mW M) (dotP M l) o (nC M) = (c : Int) := by
  unfold nrF
  rcases argB_cases (dotP M l) (fun a b => decide (farM (mW M) a o < farM (mW M) b o)) (nC M) with ⟨h1, h2⟩ | ⟨b, h1, h2, h3⟩
  · have := h2 c hc
    rw [hp] at this
    cases this
  · have m := argB_min (dotP M l) (fun a => farM (mW M) a o) (nC M) h3
    constructor
    · intro h
      have a1 := h b h1 h2
      have a2 := m c hc hp
      have : b = c := by omega
      rw [h3, this]
    · intro h s hs hps hh
      have : b = c := by omega
      subst this
      have := m s hs hps
      omega
theorem X2_hasNoneNearer {D : DT} {k hc l : Nat} {M : MS} (O : MOK M) (C : CMap D hc (mW M) (mH M) (mO M) (mS M)) (K : CrowdAt D k M l) {o c : Nat} (ho : o < nC M) (hcc : c < nC M) (hp : dotP M l c = true) : m_X2_hasNoneNearer k hc (o : Int) (c : Int) D = some (if nrF (mW M) (dotP M l) o (nC M) = (c : Int) then 1 else 0) := by
  have n4 := nCb O
  have sl := spt_le M l
  obtain ⟨-, -, -, c5, c3⟩ := K
  have hmem : ∀ i (hi : i < (sptM M l).length), (sptM M l)[i] < nC M ∧ dotP M l (sptM M l)[i] = true := fun i hi => spt_mem.mp (List.getElem_mem hi)
  have ef0 := X1_far C ho hcc
  rw [farM_comm] at ef0
  have fb0 := farM_b O.2.1.1 O.2.1.2 hcc ho
  have main : ∀ (n i : Nat), i + n = (sptM M l).length → (∀ j (hj : j < (sptM M l).length), j < i → ¬ (farM (mW M) (sptM M l)[j] o < farM (mW M) c o ∨ (farM (mW M) (sptM M l)[j] o = farM (mW M) c o ∧ (sptM M l)[j] < c))) → m_X2_hasNoneNearer_11 k hc (o : Int) (c : Int) (farM (mW M) c o) D (i : Int) = some (if nrF (mW M) (dotP M l) o (nC M) = (c : Int) then 1 else 0) := by
    intro n
    induction n with
    | zero =>
      intro i hi hall
      have hn : nnr M l o c := fun s hs hps => by
        obtain ⟨j, hj, rfl⟩ := List.getElem_of_mem (spt_mem.mpr ⟨hs, hps⟩)
        exact hall j hj (by omega)
      rw [if_pos ((nnr_iff hcc hp).mp hn)]
      unfold m_X2_hasNoneNearer_11
      refine loopF_inr ?_
      simp (disch := omega) only [c5, gd_t, if_f, done_some]
    | succ n ih =>
      intro i hi hall
      have hil : i < (sptM M l).length := by omega
      have e1 := c3 i hil
      have hm := hmem i hil
      have ef := X1_far C ho hm.1
      rw [farM_comm] at ef
      have fb := farM_b O.2.1.1 O.2.1.2 hm.1 ho
      have nxt : ¬ (farM (mW M) (sptM M l)[i] o < farM (mW M) c o ∨ (farM (mW M) (sptM M l)[i] o = farM (mW M) c o ∧ (sptM M l)[i] < c)) → m_X2_hasNoneNearer_11 k hc (o : Int) (c : Int) (farM (mW M) c o) D ((i : Int) + 1) = some (if nrF (mW M) (dotP M l) o (nC M) = (c : Int) then 1 else 0) := fun h => ih (i + 1) (by omega) (fun j hj hji => by
        by_cases q : j = i
        · subst q; exact h
        · exact hall j hj (by omega))
      have no : (farM (mW M) (sptM M l)[i] o < farM (mW M) c o ∨ (farM (mW M) (sptM M l)[i] o = farM (mW M) c o ∧ (sptM M l)[i] < c)) → (if nrF (mW M) (dotP M l) o (nC M) = (c : Int) then (1 : Int) else 0) = 0 := fun h => by
        rw [if_neg]
        intro hh
        exact (nnr_iff hcc hp).mpr hh _ hm.1 hm.2 h
      generalize (sptM M l)[i] = x at *
      by_cases q : farM (mW M) c o ≤ farM (mW M) x o
      · by_cases q2 : farM (mW M) x o = farM (mW M) c o
        · by_cases q3 : x < c
          · rw [no (Or.inr ⟨q2, q3⟩)]
            unfold m_X2_hasNoneNearer_11
            refine loopF_inr ?_
            simp (disch := omega) only [c5, gd_t, if_t, tn, e1, ef, ob_some, if_t q, if_t q2, done_some]
          · rw [← nxt (by omega)]
            unfold m_X2_hasNoneNearer_11
            refine loopF_inl ?_
            simp (disch := omega) only [c5, gd_t, if_t, tn, e1, ef, ob_some, if_t q, if_t q2, if_f]
        · rw [← nxt (by omega)]
          unfold m_X2_hasNoneNearer_11
          refine loopF_inl ?_
          simp (disch := omega) only [c5, gd_t, if_t, tn, e1, ef, ob_some, if_t q, if_f q2]
      · rw [no (Or.inl (by omega))]
        unfold m_X2_hasNoneNearer_11
        refine loopF_inr ?_
        simp (disch := omega) only [c5, gd_t, if_t, tn, e1, ef, ob_some, if_f q, done_some]
  have := main (sptM M l).length 0 (by omega) (fun j hj h => by omega)
  simp only [m_X2_hasNoneNearer, ef0, ob_some]
  exact this
/-- how many it serves -/
def srvM (M : MS) (l c : Nat) : Int := if dotP M l c then sumTo (fun o => b2i (hasL M o = true ∧ nrF (mW M) (dotP M l) o (nC M) = (c : Int))) (nC M) else 0
theorem srv_b {M : MS} (O : MOK M) (l c : Nat) : 0 ≤ srvM M l c ∧ srvM M l c ≤ 384 := by
  have n4 := nCb O
  unfold srvM
  split
  · have := sumTo_bounds (f := fun o => b2i (hasL M o = true ∧ nrF (mW M) (dotP M l) o (nC M) = (c : Int))) (n := nC M) (a := 0) (b := 1) (fun k _ => b2i_01)
    omega
  · omega
theorem X2_clientsOf {D : DT} {k hc l : Nat} {M : MS} (O : MOK M) (C : CMap D hc (mW M) (mH M) (mO M) (mS M)) (K : CrowdAt D k M l) {c : Nat} (hcc : c < nC M) : m_X2_clientsOf k hc (c : Int) D = some (srvM M l c) := by
  have n4 := nCb O
  have c1n := K.1
  have et := K.2.2.1 c hcc
  have tb := tog_b O l c hcc
  unfold srvM
  by_cases qd : 0 < togM M l c
  · have hp : dotP M l c = true := by simpa using qd
    rw [if_pos hp]
    refine loop_for (st := fun o => (sumTo (fun o => b2i (hasL M o = true ∧ nrF (mW M) (dotP M l) o (nC M) = (c : Int))) o, (o : Int))) (nC M) (fun o ho => ?_) ?_
    · have el := X1_isLand C O.2.2.2.2.1 ho O.2.2.1
      have en := X2_hasNoneNearer O C K ho hcc hp
      have c1 : ((o + 1 : Nat) : Int) = (o : Int) + 1 := rfl
      by_cases q : hasL M o = true
      · rw [b2i_t (hasL_iff.mp q)] at el
        by_cases q2 : nrF (mW M) (dotP M l) o (nC M) = (c : Int)
        · rw [if_pos q2] at en
          simp (disch := omega) only [c1n, gd_t, if_t, tn, et, if_t qd, el, ob_some, if_f, en, c1, sumTo, b2i_t (And.intro q q2)]
        · rw [if_neg q2] at en
          simp (disch := omega) only [c1n, gd_t, if_t, tn, et, if_t qd, el, ob_some, if_f, en, ↓reduceIte, c1, sumTo, b2i_f (fun h : hasL M o = true ∧ nrF (mW M) (dotP M l) o (nC M) = (c : Int) => q2 h.2), Int.add_zero]
      · rw [b2i_f (fun h => q (hasL_iff.mpr h))] at el
        simp (disch := omega) only [c1n, gd_t, if_t, tn, et, if_t qd, el, ob_some, ↓reduceIte, c1, sumTo, b2i_f (fun h : hasL M o = true ∧ nrF (mW M) (dotP M l) o (nC M) = (c : Int) => q h.1), Int.add_zero]
    · simp (disch := omega) only [c1n, gd_t, if_f, done_some]
  · have hp : ¬ dotP M l c = true := by simpa using qd
    rw [if_neg hp]
    unfold m_X2_clientsOf m_X2_clientsOf_5
    refine loopF_inr ?_
    simp (disch := omega) only [c1n, gd_t, if_t, tn, et, if_f qd, done_some]
theorem ref_served {E : DT} {l : Nat} {M : MS} (R : RInv E M) (hK : RCrowd E M l) {c : Nat} (hc : c < nC M) : m_X11_served_33 (c : Int) E (0, 0) = some (srvM M l c, E) := by
  have O := R.1
  have n4 := nCb O
  have ec : m_X11_cells E = some (nC M : Int) := X11_cells R.2.1.1
  have eh := X11_hasDots O hK hc
  unfold srvM
  by_cases hp : dotP M l c = true
  · rw [if_pos hp] at eh ⊢
    refine loop_for (st := fun o => (sumTo (fun o => b2i (hasL M o = true ∧ nrF (mW M) (dotP M l) o (nC M) = (c : Int))) o, (o : Int))) (nC M) (fun o ho => ?_) ?_
    · have el := X11_isLand R.2.1.1 O.2.2.2.2.1 ho O.2.2.1
      have en := X11_nearestTo R hK ho
      have nb : -1 ≤ nrF (mW M) (dotP M l) o (nC M) ∧ nrF (mW M) (dotP M l) o (nC M) < (nC M : Int) := argB_b _ _ _
      have c1 : ((o + 1 : Nat) : Int) = (o : Int) + 1 := rfl
      by_cases q : hasL M o = true
      · rw [b2i_t (hasL_iff.mp q)] at el
        by_cases q2 : nrF (mW M) (dotP M l) o (nC M) = (c : Int)
        · simp (disch := omega) only [ec, ob_some, gd_t, if_t, eh, if_f, el, en, if_t q2, c1, sumTo, b2i_t (And.intro q q2)]
        · simp (disch := omega) only [ec, ob_some, gd_t, if_t, eh, if_f, el, en, if_f q2, c1, sumTo, b2i_f (fun h : hasL M o = true ∧ nrF (mW M) (dotP M l) o (nC M) = (c : Int) => q2 h.2)]
      · rw [b2i_f (fun h => q (hasL_iff.mpr h))] at el
        simp (disch := omega) only [ec, ob_some, gd_t, if_t, eh, if_f, el, ↓reduceIte, c1, sumTo, b2i_f (fun h : hasL M o = true ∧ nrF (mW M) (dotP M l) o (nC M) = (c : Int) => q h.1)]
    · simp (disch := omega) only [ec, ob_some, gd_t, if_f, done_some]
  · rw [if_neg hp] at eh ⊢
    unfold m_X11_served_33
    refine loopF_inr ?_
    simp (disch := omega) only [ec, ob_some, gd_t, if_t, eh, ↓reduceIte, done_some]
theorem step_served : StepOK m_L_c29 := fun xs Ls s hx hs ⟨M, hC, hR⟩ => by
  have x1 := hx (Int.toNat (s.1 + 1))
  have x2 := hx (Int.toNat (s.1 + 2))
  have O := hC.1
  have C := hC.2.1
  have n4 := nCb O
  by_cases q1 : 0 ≤ xs (Int.toNat (s.1 + 1)) ∧ xs (Int.toNat (s.1 + 1)) < (nC M : Int)
  · have a1 := cn_cell_t O C x1 q1
    by_cases q3 : 0 ≤ xs (Int.toNat (s.1 + 2)) ∧ xs (Int.toNat (s.1 + 2)) < 5
    · have a3 := cn_level_t (D := s.2) x2 q3
      obtain ⟨c, hc⟩ := nat_of q1.1
      obtain ⟨l, hl⟩ := nat_of q3.1
      rw [hc] at a1 q1 x1
      rw [hl] at a3 q3 x2
      have hcn : c < nC M := by omega
      have hl5 : l < 5 := by omega
      obtain ⟨D1, e1, e2, e3, e4⟩ := cls_crowd hC hl5
      have bb := srv_b O l c
      refine comb_served hx hs (M' := M) (sp := .inl (srvM M l c)) (by show InR _; omega) ⟨D1, ?_, e2, e4⟩ hR (fun D r => ?_)
      · have e5 := X2_clientsOf (hc := 2) O e2.2.1.1.1 e3 hcn
        simp (disch := omega) only [m_X10_served, hc, hl, a1, a3, bndN_inl, e1, ob_some, e5]
      · obtain ⟨E, f1, f2, f3, f4, f5⟩ := ref_crowd (r.thr (x := 0)) hl5
        have y1 := rn_cell_t (r.thr (x := 0)) x1 (by omega)
        have y3 := rn_level_t (D := sF D 73 0 0) x2 q3
        have f6 := ref_served f2 f5 hcn
        refine ⟨_, E, ?_, f2, (FrR.f (by omega)).trans f3, by rw [f4]; rfl, fun v h => by injection h⟩
        simp (disch := omega) only [m_X11_served, sq_eq, hc, hl, y1, y3, bnd_some, gd_t, ↓reduceIte, f1, ob_some, f6]
    · have a3 := cn_level_f (D := s.2) x2 q3
      refine comb_served hx hs (sp := .inr 0) (by simp [spX]) (ClsX.same hC ?_) hR (RefX.same (c := 1) 0 rfl (fun v h => by cases h) (fun D r => ?_))
      · simp (disch := omega) only [m_X10_served, a1, a3, bndN_inl, bndN_inr]
      · have y1 := rn_cell_t (r.thr (x := 0)) x1 (by omega)
        have y3 := rn_level_f (D := sF D 73 0 0) x2 q3
        simp (disch := omega) only [m_X11_served, sq_eq, y1, y3, bnd_some, gd_t, ↓reduceIte, if_f, sFF]
  · have a1 := cn_cell_f O C x1 q1
    refine comb_served hx hs (sp := .inr 0) (by simp [spX]) (ClsX.same hC ?_) hR (RefX.same (c := 1) 0 rfl (fun v h => by cases h) (fun D r => ?_))
    · simp (disch := omega) only [m_X10_served, a1, bndN_inr]
    · have y1 := rn_cell_f (r.thr (x := 0)) x1 q1
      simp (disch := omega) only [m_X11_served, sq_eq, y1, bnd_some, gd_t, if_f, sFF]
/-! line -/
theorem sumTo_app (f : Nat → Int) (m n : Nat) : sumTo f (m + n) = sumTo f m + sumTo (fun k => f (m + k)) n := by
  induction n with
  | zero => simp [sumTo]
  | succ n ih =>
    show sumTo f ((m + n) + 1) = _
    rw [sumTo, sumTo, ih]
    omega
theorem sum_row (f : Nat → Int) {w : Nat} (hw : 0 < w) (r h : Nat) : sumTo (fun c => if c / w = r then f c else 0) (w * h) = if r < h then sumTo (fun x => f (w * r + x)) w else 0 := by
  induction h with
  | zero => simp [sumTo]
  | succ h ih =>
    rw [Nat.mul_succ, sumTo_app, ih]
    have e : ∀ x, x < w → (w * h + x) / w = h := fun x hx => by
      rw [Nat.mul_add_div hw, Nat.div_eq_of_lt hx]; rfl
    by_cases q : r = h
    · subst q
      rw [if_neg (by omega), if_pos (by omega), Int.zero_add]
      exact sumTo_congr (fun x hx => by rw [if_pos (e x hx)])
    · have z : sumTo (fun k => if (w * h + k) / w = r then f (w * h + k) else 0) w = 0 := by
        refine Eq.trans (sumTo_congr (g := fun _ => 0) (fun x hx => ?_)) (sumTo_zero w)
        rw [e x hx, if_neg (fun hh => q hh.symm)]
      rw [z, Int.add_zero]
      by_cases q2 : r < h
      · rw [if_pos q2, if_pos (by omega)]
      · rw [if_neg q2, if_neg (by omega)]
theorem sum_col (f : Nat → Int) {w : Nat} {x : Nat} (hx : x < w) (h : Nat) : sumTo (fun c => if c % w = x then f c else 0) (w * h) = sumTo (fun r => f (w * r + x)) h := by
  induction h with
  | zero => simp [sumTo]
  | succ h ih =>
    rw [Nat.mul_succ, sumTo_app, ih, sumTo, ← sum_pick (fun y => f (w * h + y)) hx]
    congr 1
    refine sumTo_congr (fun y hy => ?_)
    rw [Nat.mul_add_mod, Nat.mod_eq_of_lt hy]
def linM (M : MS) (l : Nat) (sd : Int) (i : Nat) : Int := if sd = 0 then sumTo (fun x => togM M l (mW M * i + x)) (mW M) else sumTo (fun r => togM M l (mW M * r + i)) (mH M)
theorem row_lt {M : MS} {i x : Nat} (hi : i < mH M) (hx : x < mW M) : mW M * i + x < nC M := by
  have : mW M * (i + 1) ≤ mW M * mH M := Nat.mul_le_mul_left _ hi
  rw [Nat.mul_succ] at this
  show _ < mW M * mH M
  omega
theorem lin_b {M : MS} (O : MOK M) (l : Nat) (sd : Int) {i : Nat} (hi : if sd = 0 then i < mH M else i < mW M) : 0 ≤ linM M l sd i ∧ linM M l sd i ≤ 60000000 := by
  have d := O.2.1
  unfold linM
  split
  · rename_i q
    rw [if_pos q] at hi
    have := sumTo_bounds (f := fun x => togM M l (mW M * i + x)) (n := mW M) (a := 0) (b := 2399976) (fun x hx => tog_b O l _ (row_lt hi hx))
    omega
  · rename_i q
    rw [if_neg q] at hi
    have := sumTo_bounds (f := fun r => togM M l (mW M * r + i)) (n := mH M) (a := 0) (b := 2399976) (fun r hr => tog_b O l _ (row_lt hr hi))
    omega
theorem X2_sumOfRow {D : DT} {k hc l : Nat} {M : MS} (O : MOK M) (C : CMap D hc (mW M) (mH M) (mO M) (mS M)) (K : CrowdAt D k M l) {i : Nat} (hi : i < mH M) : m_X2_sumOfRow k hc (i : Int) D = some (linM M l 0 i) := by
  have d := O.2.1
  have n4 := nCb O
  have ew := C.1.1
  unfold linM
  rw [if_pos rfl]
  refine loop_for (st := fun x => (sumTo (fun x => togM M l (mW M * i + x)) x, (x : Int))) (mW M) (fun x hx => ?_) ?_
  · have hl := row_lt hi hx
    have e := K.2.2.1 _ hl
    have v1 : (i : Int) * (mW M : Int) + (x : Int) = ((mW M * i + x : Nat) : Int) := by rw [Int.natCast_add, Int.natCast_mul, Int.mul_comm]
    have v2 : (0 : Int) ≤ ((mW M * i + x : Nat) : Int) ∧ ((mW M * i + x : Nat) : Int) < 384 := by
      generalize mW M * i + x = y at hl
      omega
    have c1 : ((x + 1 : Nat) : Int) = (x : Int) + 1 := rfl
    simp (disch := omega) only [ew, gd_t, if_t, v1, gd_t v2, tn, e, sumTo, c1]
  · simp (disch := omega) only [ew, gd_t, if_f, done_some]
theorem X2_sumOfColumn {D : DT} {k hc l : Nat} {M : MS} (O : MOK M) (C : CMap D hc (mW M) (mH M) (mO M) (mS M)) (K : CrowdAt D k M l) {i : Nat} (hi : i < mW M) : m_X2_sumOfColumn k hc (i : Int) D = some (linM M l 1 i) := by
  have d := O.2.1
  have n4 := nCb O
  have ew := C.1.1
  have eh := C.1.2
  unfold linM
  rw [if_neg (by omega)]
  refine loop_for (st := fun r => (sumTo (fun r => togM M l (mW M * r + i)) r, (r : Int))) (mH M) (fun r hr => ?_) ?_
  · have hl := row_lt hr hi
    have e := K.2.2.1 _ hl
    have v1 : (r : Int) * (mW M : Int) + (i : Int) = ((mW M * r + i : Nat) : Int) := by rw [Int.natCast_add, Int.natCast_mul, Int.mul_comm]
    have v2 : (0 : Int) ≤ ((mW M * r + i : Nat) : Int) ∧ ((mW M * r + i : Nat) : Int) < 384 := by
      generalize mW M * r + i = y at hl
      omega
    have c1 : ((r + 1 : Nat) : Int) = (r : Int) + 1 := rfl
    simp (disch := omega) only [eh, ew, gd_t, if_t, v1, gd_t v2, tn, e, sumTo, c1]
  · simp (disch := omega) only [eh, gd_t, if_f, done_some]
theorem ref_line {E : DT} {l : Nat} {M : MS} (R : RInv E M) (hK : RCrowd E M l) {sd : Int} (hsd : sd = 0 ∨ sd = 1) {i : Nat} (hi : if sd = 0 then i < mH M else i < mW M) : m_X11_line__68 sd (i : Int) E (0, 0) = some (linM M l sd i, E) := by
  have O := R.1
  have n4 := nCb O
  have d := O.2.1
  have ec : m_X11_cells E = some (nC M : Int) := X11_cells R.2.1.1
  have ew := R.2.1.1.1.1
  have es : linM M l sd i = sumTo (fun c => if (if sd = 0 then c / mW M else c % mW M) = i then togM M l c else 0) (nC M) := by
    unfold linM
    by_cases q : sd = 0
    · simp only [if_t q] at hi ⊢
      rcases Nat.eq_zero_or_pos (mW M) with e0 | e0
      · have : nC M = 0 := by show mW M * mH M = 0; rw [e0, Nat.zero_mul]
        rw [this, e0]; rfl
      · have := sum_row (fun c => togM M l c) e0 i (mH M)
        rw [if_pos hi] at this
        exact this.symm
    · simp only [if_f q] at hi ⊢
      exact (sum_col (fun c => togM M l c) hi (mH M)).symm
  rw [es]
  refine loop_for (st := fun c => (sumTo (fun c => if (if sd = 0 then c / mW M else c % mW M) = i then togM M l c else 0) c, (c : Int))) (nC M) (fun c hc => ?_) ?_
  · have et := X11_tog O hK hc
    have d1 := (divh hc).1
    have d2 := (divh hc).2
    have w0 : 0 < mW M := by omega
    have v1 : (c : Int) / (mW M : Int) = ((c / mW M : Nat) : Int) := cdiv _ _
    have v3 : (c : Int) % (mW M : Int) = ((c % mW M : Nat) : Int) := cmod _ _
    have c1 : ((c + 1 : Nat) : Int) = (c : Int) + 1 := rfl
    rw [sumTo]
    generalize sumTo (fun c => if (if sd = 0 then c / mW M else c % mW M) = i then togM M l c else 0) c = S at *
    by_cases q : sd = 0
    · simp only [if_t q] at hi ⊢
      generalize c / mW M = cy at *
      by_cases q2 : cy = i
      · have q2' : (cy : Int) = (i : Int) := by omega
        simp (disch := omega) only [ec, ob_some, gd_t, if_t, t0, ew, v1, m_X11_line__104, if_t q2', et, c1, if_t q2]
      · have q2' : ¬ (cy : Int) = (i : Int) := by omega
        simp (disch := omega) only [ec, ob_some, gd_t, if_t, t0, ew, v1, m_X11_line__104, if_f q2', c1, if_f q2]
    · simp only [if_f q] at hi ⊢
      generalize c % mW M = cx at *
      by_cases q2 : cx = i
      · have q2' : (cx : Int) = (i : Int) := by omega
        simp (disch := omega) only [ec, ob_some, gd_t, if_t, t0, ew, v3, m_X11_line__104, if_t q2', et, c1, if_t q2]
      · have q2' : ¬ (cx : Int) = (i : Int) := by omega
        simp (disch := omega) only [ec, ob_some, gd_t, if_t, t0, ew, v3, m_X11_line__104, if_f q2', c1, if_f q2]
  · simp (disch := omega) only [ec, ob_some, gd_t, if_f, done_some]
theorem step_line : StepOK m_L_c36 := fun xs Ls s hx hs ⟨M, hC, hR⟩ => by
  have hv := nz01 (xs (Int.toNat (s.1 + 1)))
  have x2 := hx (Int.toNat (s.1 + 2))
  have x3 := hx (Int.toNat (s.1 + 3))
  have O := hC.1
  have C := hC.2.1
  have d := O.2.1
  have ew := C.1.1.1.1
  have eh := C.1.1.1.2
  generalize hw : nz (xs (Int.toNat (s.1 + 1))) = sd at hv
  obtain ⟨m, hm⟩ : ∃ m : Nat, m = if sd = 0 then mH M else mW M := ⟨_, rfl⟩
  have mb : m ≤ 24 := by rw [hm]; split <;> omega
  by_cases q2 : 0 ≤ xs (Int.toNat (s.1 + 2)) ∧ xs (Int.toNat (s.1 + 2)) < (m : Int)
  · obtain ⟨i, hi⟩ := nat_of q2.1
    rw [hi] at q2 x2
    have hi2 : if sd = 0 then i < mH M else i < mW M := by
      rcases hv with e | e
      · rw [if_pos e] at hm ⊢; omega
      · rw [if_neg (by omega)] at hm ⊢; omega
    have cls0 : m_X10_line sd (i : Int) (xs (Int.toNat (s.1 + 3))) s.2 = m_X10_line_32 sd (i : Int) (xs (Int.toNat (s.1 + 3))) (m : Int) (i : Int) s.2 := by
      by_cases e : sd = 0
      · rw [if_pos e] at hm
        rw [hm]
        simp (disch := omega) only [m_X10_line, gd_t, if_t, if_t e, eh]
      · rw [if_neg e] at hm
        rw [hm]
        simp (disch := omega) only [m_X10_line, gd_t, if_t, if_f e, ew]
    have ref0 : ∀ D, RInv D M → m_X11_line_ sd (i : Int) (xs (Int.toNat (s.1 + 3))) D = m_X11_line__40 sd (i : Int) (xs (Int.toNat (s.1 + 3))) 0 (sF D 73 0 0) := fun D r => by
      have rw1 := (r.thr (x := 0)).2.1.1.1.1
      have rh1 := (r.thr (x := 0)).2.1.1.1.2
      have i2 := rn_in_t (D := sF D 73 0 0) (v := (i : Int)) (a := 0) (b := (m : Int) - 1) (by omega) (by omega) (by omega) (by omega)
      by_cases e : sd = 0
      · rw [if_pos e] at hm
        rw [hm] at i2
        simp (disch := omega) only [m_X11_line_, sq_eq, gd_t, if_t e, t1, rh1, i2, ob_some, if_f]
      · rw [if_neg e] at hm
        rw [hm] at i2
        simp (disch := omega) only [m_X11_line_, sq_eq, gd_t, if_f e, t0, rw1, i2, ob_some, if_f]
    by_cases q3 : 0 ≤ xs (Int.toNat (s.1 + 3)) ∧ xs (Int.toNat (s.1 + 3)) < 5
    · have a3 := cn_level_t (D := s.2) x3 q3
      obtain ⟨l, hl⟩ := nat_of q3.1
      rw [hl] at a3 q3 x3 cls0 ref0
      have hl5 : l < 5 := by omega
      obtain ⟨D1, e1, e2, e3, e4⟩ := cls_crowd hC hl5
      have bb := lin_b O l sd hi2
      refine comb_line hx hs (M' := M) (sp := .inl (linM M l sd i)) (by show InR _; omega) ⟨D1, ?_, e2, e4⟩ hR (fun D r => ?_)
      · rw [hw, hi, hl, cls0]
        by_cases e : sd = 0
        · rw [if_pos e] at hi2
          have e5 := X2_sumOfRow (hc := 2) O e2.2.1.1.1 e3 hi2
          rw [← e] at e5
          simp (disch := omega) only [m_X10_line_32, gd_t, if_f, a3, bndN_inl, if_t e, e1, ob_some, e5]
        · rw [if_neg e] at hi2
          have e5 := X2_sumOfColumn (hc := 2) O e2.2.1.1.1 e3 hi2
          have e' : sd = 1 := by omega
          rw [← e'] at e5
          simp (disch := omega) only [m_X10_line_32, gd_t, if_f, a3, bndN_inl, if_f e, e1, ob_some, e5]
      · obtain ⟨E, f1, f2, f3, f4, f5⟩ := ref_crowd (r.thr (x := 0)) hl5
        have y3 := rn_level_t (D := sF D 73 0 0) x3 q3
        have f6 := ref_line f2 f5 hv hi2
        refine ⟨_, E, ?_, f2, (FrR.f (by omega)).trans f3, by rw [f4]; rfl, fun v h => by injection h⟩
        rw [hw, hi, hl, ref0 D r]
        simp (disch := omega) only [m_X11_line__40, rn_th_0, y3, bnd_some, gd_t, ↓reduceIte, f1, ob_some, f6]
    · have a3 := cn_level_f (D := s.2) x3 q3
      refine comb_line hx hs (sp := .inr 0) (by simp [spX]) (ClsX.same hC ?_) hR (RefX.same (c := 1) 0 rfl (fun v h => by cases h) (fun D r => ?_))
      · rw [hw, hi, cls0]
        simp (disch := omega) only [m_X10_line_32, gd_t, if_f, a3, bndN_inr]
      · have y3 := rn_level_f (D := sF D 73 0 0) x3 q3
        rw [hw, hi, ref0 D r]
        simp (disch := omega) only [m_X11_line__40, rn_th_0, y3, bnd_some, gd_t, ↓reduceIte, if_f, sFF]
  · refine comb_line hx hs (sp := .inr 0) (by simp [spX]) (ClsX.same hC ?_) hR (RefX.same (c := 1) 0 rfl (fun v h => by cases h) (fun D r => ?_))
    · rw [hw]
      by_cases q0 : 0 ≤ xs (Int.toNat (s.1 + 2))
      · by_cases e : sd = 0
        · rw [if_pos e] at hm
          simp (disch := omega) only [m_X10_line, gd_t, if_t q0, if_t e, eh, m_X10_line_32, if_t]
        · rw [if_neg e] at hm
          simp (disch := omega) only [m_X10_line, gd_t, if_t q0, if_f e, ew, m_X10_line_32, if_t]
      · simp (disch := omega) only [m_X10_line, gd_t, if_f q0]
    · have rw1 := (r.thr (x := 0)).2.1.1.1.1
      have rh1 := (r.thr (x := 0)).2.1.1.1.2
      have i2 := rn_in_f (D := sF D 73 0 0) (a := 0) (b := (m : Int) - 1) x2 (by omega) (by omega) (by omega)
      rw [hw]
      by_cases e : sd = 0
      · rw [if_pos e] at hm
        rw [hm] at i2
        simp (disch := omega) only [m_X11_line_, sq_eq, gd_t, if_t e, t1, rh1, i2, ob_some, ↓reduceIte, m_X11_line__40, rn_th_1, bnd_some, if_f, sFF]
      · rw [if_neg e] at hm
        rw [hm] at i2
        simp (disch := omega) only [m_X11_line_, sq_eq, gd_t, if_f e, t0, rw1, i2, ob_some, ↓reduceIte, m_X11_line__40, rn_th_1, bnd_some, if_f, sFF]
