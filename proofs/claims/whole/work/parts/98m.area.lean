/-! ===== twice the area ===== -/
def nth (H : List Nat) (i : Nat) : Nat := H[i]?.getD 0
theorem nth_lt {H : List Nat} {i : Nat} (hi : i < H.length) : nth H i = H[i] := by
  unfold nth
  rw [List.getElem?_eq_getElem hi]
  rfl
theorem ArrL.nth {A : Nat → Int} {H : List Nat} (h : ArrL A H) {i : Nat} (hi : i < H.length) : A i = (nth H i : Int) := by
  rw [nth_lt hi]
  exact h i hi
theorem nth_mem {H : List Nat} {n : Nat} (h : ∀ c, c ∈ H → c < n) {i : Nat} (hi : i < H.length) : nth H i < n := by
  rw [nth_lt hi]
  exact h _ (List.getElem_mem hi)
def crM (w a b : Nat) : Int := clX w a * clY w b - clX w b * clY w a
/-- from a corner to the next -/
def egH (w : Nat) (H : List Nat) (i : Nat) : Int := crM w (nth H i) (nth H (if i + 1 < H.length then i + 1 else 0))
def areaM (w : Nat) (H : List Nat) : Int := sumTo (egH w H) H.length
def fanM (w : Nat) (H : List Nat) (i : Nat) : Int := handM w (nth H 0) (nth H (i - 1)) (nth H i)
theorem fan_0 (w a b : Nat) : handM w a a b = 0 := by
  unfold handM
  simp
theorem fan_cr (w a b c : Nat) : handM w a b c = crM w b c + crM w c a - crM w b a := by
  unfold handM crM clX clY
  generalize ((a / w : Nat) : Int) = x1
  generalize ((b / w : Nat) : Int) = x2
  generalize ((c / w : Nat) : Int) = x3
  generalize ((a % w : Nat) : Int) = y1
  generalize ((b % w : Nat) : Int) = y2
  generalize ((c % w : Nat) : Int) = y3
  grind
theorem cr_0 (w a : Nat) : crM w a a = 0 := by
  unfold crM
  omega
theorem fan_sum (w : Nat) (H : List Nat) (j : Nat) : sumTo (fanM w H) (j + 1) = sumTo (fun i => crM w (nth H i) (nth H (i + 1))) j + crM w (nth H j) (nth H 0) := by
  induction j with
  | zero =>
    have e : fanM w H 0 = 0 := fan_0 _ _ _
    have e1 : sumTo (fanM w H) (0 + 1) = sumTo (fanM w H) 0 + fanM w H 0 := rfl
    have z1 : sumTo (fanM w H) 0 = 0 := rfl
    have z2 : sumTo (fun i => crM w (nth H i) (nth H (i + 1))) 0 = 0 := rfl
    rw [e1, z1, z2, e, cr_0]
  | succ j ih =>
    have e : fanM w H (j + 1) = handM w (nth H 0) (nth H j) (nth H (j + 1)) := rfl
    have e2 : sumTo (fun i => crM w (nth H i) (nth H (i + 1))) (j + 1) = sumTo (fun i => crM w (nth H i) (nth H (i + 1))) j + crM w (nth H j) (nth H (j + 1)) := rfl
    have e3 : sumTo (fanM w H) (j + 1 + 1) = sumTo (fanM w H) (j + 1) + fanM w H (j + 1) := rfl
    rw [e3, ih, e, e2, fan_cr]
    omega
theorem area_fan (w : Nat) (H : List Nat) : areaM w H = sumTo (fanM w H) H.length := by
  unfold areaM
  rcases Nat.eq_zero_or_pos H.length with h | h
  · rw [h]
    rfl
  · obtain ⟨j, hj⟩ : ∃ j, H.length = j + 1 := ⟨H.length - 1, by omega⟩
    rw [hj, fan_sum]
    have e1 : sumTo (egH w H) (j + 1) = sumTo (egH w H) j + egH w H j := rfl
    have e2 : egH w H j = crM w (nth H j) (nth H 0) := by
      unfold egH
      rw [if_neg (by omega)]
    have e3 : sumTo (egH w H) j = sumTo (fun i => crM w (nth H i) (nth H (i + 1))) j := sumTo_congr (fun k hk => by
      unfold egH
      rw [if_pos (by omega)])
    rw [e1, e2, e3]
theorem cr_b {w h a b : Nat} (hw : w ≤ 24) (hh : h ≤ 16) (ha : a < w * h) (hb : b < w * h) : -690 ≤ crM w a b ∧ crM w a b ≤ 690 := by
  obtain ⟨a1, a2⟩ := divh ha
  obtain ⟨b1, b2⟩ := divh hb
  unfold crM clX clY
  generalize a / w = x1 at *
  generalize b / w = x2 at *
  generalize a % w = y1 at *
  generalize b % w = y2 at *
  have q1 := mulb (x := (y1 : Int)) (y := (x2 : Int)) (by omega) (by omega)
  have q2 := mulb (x := (y2 : Int)) (y := (x1 : Int)) (by omega) (by omega)
  generalize (y1 : Int) * (x2 : Int) = u at *
  generalize (y2 : Int) * (x1 : Int) = v at *
  omega
theorem area_b {w h : Nat} {H : List Nat} (hw : w ≤ 24) (hh : h ≤ 16) (hm : ∀ c, c ∈ H → c < w * h) (hl : H.length ≤ 384) : -300000 ≤ areaM w H ∧ areaM w H ≤ 300000 := by
  have := sumTo_bounds (f := egH w H) (n := H.length) (a := -690) (b := 690) (fun k hk => by
    unfold egH
    refine cr_b hw hh (nth_mem hm hk) (nth_mem hm ?_)
    split <;> omega)
  unfold areaM
  omega
theorem X4_area {D : DT} {M : MS} (O : MOK M) (C : CMap D 2 (mW M) (mH M) (mO M) (mS M)) {H : List Nat} (h0 : D.1 70 0 = (H.length : Int)) (hA : ArrL (D.2 71) H) (hm : ∀ c, c ∈ H → c < nC M) (hl : H.length ≤ 384) : m_X4_doubleArea 2 D = some (areaM (mW M) H) := by
  have n4 := nCb O
  refine loop_for (st := fun k => (sumTo (egH (mW M) H) k, (k : Int))) H.length (fun k hk => ?_) ?_
  · have c1 : ((k + 1 : Nat) : Int) = (k : Int) + 1 := rfl
    have ek := hA.nth hk
    have mk := nth_mem hm hk
    have es : sumTo (egH (mW M) H) (k + 1) = sumTo (egH (mW M) H) k + egH (mW M) H k := rfl
    obtain ⟨-, -, a1, a2⟩ := C.2.2 _ mk
    by_cases q : k + 1 < H.length
    · have q' : (k : Int) + 1 < (H.length : Int) := by omega
      have en := hA.nth q
      have mn := nth_mem hm q
      obtain ⟨-, -, b1, b2⟩ := C.2.2 _ mn
      have ed : egH (mW M) H k = (((nth H k) % mW M : Nat) : Int) * (((nth H (k + 1)) / mW M : Nat) : Int) - (((nth H (k + 1)) % mW M : Nat) : Int) * (((nth H k) / mW M : Nat) : Int) := by
        unfold egH
        rw [if_pos q]
        rfl
      have t1' : Int.toNat ((k : Int) + 1) = k + 1 := by omega
      rw [es, ed]
      generalize nth H (k + 1) = y at *
      generalize nth H k = x at *
      simp (disch := omega) only [h0, gd_t, if_t, if_t q', m_X4_doubleArea_41, tn, t1', ek, en, a1, a2, b1, b2, c1]
    · have q' : ¬ ((k : Int) + 1 < (H.length : Int)) := by omega
      have p0 : 0 < H.length := by omega
      have en := hA.nth p0
      have mn := nth_mem hm p0
      obtain ⟨-, -, b1, b2⟩ := C.2.2 _ mn
      have ed : egH (mW M) H k = (((nth H k) % mW M : Nat) : Int) * (((nth H 0) / mW M : Nat) : Int) - (((nth H 0) % mW M : Nat) : Int) * (((nth H k) / mW M : Nat) : Int) := by
        unfold egH
        rw [if_neg q]
        rfl
      rw [es, ed]
      have ek' : D.2 71 k = ((nth H k : Nat) : Int) := ek
      simp (disch := omega) only [h0, gd_t, if_t, if_f q', m_X4_doubleArea_41, tn, t0, ek', en, a1, a2, b1, b2, c1]
  · simp (disch := omega) only [h0, gd_t, if_f, done_some]
    rfl
theorem X11_areas {D : DT} {M : MS} (R : RInv D M) {H : List Nat} (h0 : D.1 73 36 = (H.length : Int)) (hA : ArrL (D.2 99) H) (hm : ∀ c, c ∈ H → c < nC M) (hl : H.length ≤ 384) : m_X11_area_24 D (0, 2) = some (areaM (mW M) H, D) := by
  have O := R.1
  have n4 := nCb O
  have z0 : fanM (mW M) H 0 = 0 := fan_0 _ _ _
  have z1 : fanM (mW M) H 1 = 0 := fan_0 _ _ _
  have s0 : sumTo (fanM (mW M) H) 0 = 0 := rfl
  have s1 : sumTo (fanM (mW M) H) 1 = sumTo (fanM (mW M) H) 0 + fanM (mW M) H 0 := rfl
  have s2 : sumTo (fanM (mW M) H) 2 = sumTo (fanM (mW M) H) 1 + fanM (mW M) H 1 := rfl
  have s2' : sumTo (fanM (mW M) H) 2 = 0 := by omega
  rw [area_fan]
  by_cases q : 2 ≤ H.length
  · have st0 : ((0 : Int), (2 : Int)) = (sumTo (fanM (mW M) H) (0 + 2), ((0 + 2 : Nat) : Int)) := by
      show ((0 : Int), (2 : Int)) = (sumTo (fanM (mW M) H) 2, (2 : Int))
      rw [s2']
    rw [st0]
    unfold m_X11_area_24
    refine loop_for (st := fun k => (sumTo (fanM (mW M) H) (k + 2), ((k + 2 : Nat) : Int))) (H.length - 2) (fun k hk => ?_) ?_
    · have c1 : ((k + 1 + 2 : Nat) : Int) = ((k + 2 : Nat) : Int) + 1 := by omega
      have es : sumTo (fanM (mW M) H) (k + 1 + 2) = sumTo (fanM (mW M) H) (k + 2) + fanM (mW M) H (k + 2) := rfl
      have k0 : 0 < H.length := by omega
      have k1 : k + 1 < H.length := by omega
      have k2 : k + 2 < H.length := by omega
      have eg := X11_hand R.2.1.1 (nth_mem hm k0) (nth_mem hm k1) (nth_mem hm k2)
      have ef : fanM (mW M) H (k + 2) = handM (mW M) (nth H 0) (nth H (k + 1)) (nth H (k + 2)) := rfl
      have e0 := hA.nth k0
      have e1 := hA.nth k1
      have e2 := hA.nth k2
      have tN1 : Int.toNat (((k + 2 : Nat) : Int) - 1) = k + 1 := by omega
      have g1 : ((k + 2 : Nat) : Int) < (H.length : Int) := by omega
      have g2 : (0 : Int) ≤ ((k + 2 : Nat) : Int) - 1 ∧ ((k + 2 : Nat) : Int) - 1 < (384 : Int) := by omega
      have g3 : (0 : Int) ≤ ((k + 2 : Nat) : Int) ∧ ((k + 2 : Nat) : Int) < (384 : Int) := by omega
      rw [es, ef]
      simp (disch := omega) only [h0, gd_t, if_t g1, t0, gd_t g2, gd_t g3, tN1, tn, e0, e1, e2, eg, ob_some, c1]
    · have e : H.length - 2 + 2 = H.length := by omega
      rw [e]
      simp (disch := omega) only [h0, gd_t, if_f, done_some]
  · have ez : sumTo (fanM (mW M) H) H.length = 0 := by
      have : H.length = 0 ∨ H.length = 1 := by omega
      rcases this with h | h
      · exact (congrArg (sumTo (fanM (mW M) H)) h).trans s0
      · exact (congrArg (sumTo (fanM (mW M) H)) h).trans (by omega)
    rw [ez]
    unfold m_X11_area_24
    refine loopF_inr ?_
    simp (disch := omega) only [h0, gd_t, if_f, done_some]
theorem step_area : StepOK m_L_c34 := fun xs Ls s hx hs ⟨M, hC, hR⟩ => by
  have x1 := hx (Int.toNat (s.1 + 1))
  have O := hC.1
  have n4 := nCb O
  by_cases q1 : 0 ≤ xs (Int.toNat (s.1 + 1)) ∧ xs (Int.toNat (s.1 + 1)) < 5
  · have a1 := cn_level_t (D := s.2) x1 q1
    obtain ⟨l, hl⟩ := nat_of q1.1
    rw [hl] at a1 q1 x1
    have hl5 : l < 5 := by omega
    obtain ⟨D1, e1, e2, e3, e4⟩ := bring hC (k := 2) (by omega) hl5 (n := 0) (by omega) (fun E hE K => cls_wrap hE K)
    obtain ⟨tl, tm⟩ := hull_facts M l
    have bb := area_b (H := hullN (mW M) (dotP M l) (nC M) (nC M)) O.2.1.1 O.2.1.2 tm (by omega)
    refine comb_area hx hs (M' := M) (sp := .inl (areaM (mW M) (hullN (mW M) (dotP M l) (nC M) (nC M)))) (by show InR _; omega) ⟨D1, ?_, e2, e3⟩ hR (fun D r => ?_)
    · have ea := X4_area (H := hullN (mW M) (dotP M l) (nC M) (nC M)) O e2.2.1.1.1 e4.1 e4.2.1 tm (by omega)
      have z : ((2 : Nat) : Int) = 2 := rfl
      rw [z] at e1
      simp (disch := omega) only [m_X10_area, hl, a1, bndN_inl, e1, ob_some, ea]
    · obtain ⟨E, f1, f2, f3, f4, f5, f6⟩ := X11_hulls (r.thr (x := 0)) hl5
      have y1 := rn_level_t (D := sF D 73 0 0) x1 q1
      have ea := X11_areas f2 f5 f6 tm (by omega)
      refine ⟨_, E, ?_, f2, (FrR.f (by omega)).trans f3, by rw [f4]; rfl, fun v h => by injection h⟩
      simp (disch := omega) only [m_X11_area, sq_eq, hl, y1, bnd_some, gd_t, ↓reduceIte, f1, ob_some, ea]
  · have a1 := cn_level_f (D := s.2) x1 q1
    refine comb_area hx hs (sp := .inr 0) (by simp [spX]) (ClsX.same hC ?_) hR (RefX.same (c := 1) 0 rfl (fun v h => by cases h) (fun D r => ?_))
    · simp (disch := omega) only [m_X10_area, a1, bndN_inr]
    · have y1 := rn_level_f (D := sF D 73 0 0) x1 q1
      simp (disch := omega) only [m_X11_area, sq_eq, y1, bnd_some, gd_t, if_f, sFF]
