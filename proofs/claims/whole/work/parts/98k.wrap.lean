/-! ===== the hull, down and up ===== -/
theorem ArrL.get {A : Nat → Int} {l1 l2 : List Nat} {x : Nat} (h : ArrL A (l1 ++ x :: l2)) : A l1.length = (x : Int) := by
  have := h l1.length (by simp)
  rw [this, List.getElem_append_right (Nat.le_refl _)]
  simp
theorem ArrL.left {A : Nat → Int} {l1 l2 : List Nat} (h : ArrL A (l1 ++ l2)) : ArrL A l1 := fun i hi => by
  have := h i (by rw [List.length_append]; omega)
  rw [this, List.getElem_append_left hi]
theorem ge_eq {l : List Nat} {a b : Nat} (ha : a < l.length) (hb : b < l.length) (h : a = b) : l[a] = l[b] := by
  subst h
  rfl
theorem mulb {x y : Int} (h1 : -23 ≤ x ∧ x ≤ 23) (h2 : -15 ≤ y ∧ y ≤ 15) : -345 ≤ x * y ∧ x * y ≤ 345 := by
  have a1 := Int.mul_nonneg (show 0 ≤ 23 - x by omega) (show 0 ≤ 15 + y by omega)
  have a2 := Int.mul_nonneg (show 0 ≤ 23 + x by omega) (show 0 ≤ 15 - y by omega)
  have a3 := Int.mul_nonneg (show 0 ≤ 23 - x by omega) (show 0 ≤ 15 - y by omega)
  have a4 := Int.mul_nonneg (show 0 ≤ 23 + x by omega) (show 0 ≤ 15 + y by omega)
  have e1 : (23 - x) * (15 + y) = 345 + 23 * y - 15 * x - x * y := by grind
  have e2 : (23 + x) * (15 - y) = 345 - 23 * y + 15 * x - x * y := by grind
  have e3 : (23 - x) * (15 - y) = 345 - 23 * y - 15 * x + x * y := by grind
  have e4 : (23 + x) * (15 + y) = 345 + 23 * y + 15 * x + x * y := by grind
  rw [e1] at a1
  rw [e2] at a2
  rw [e3] at a3
  rw [e4] at a4
  generalize x * y = z at *
  omega
theorem hd_b {w h a b c : Nat} (hw : w ≤ 24) (hh : h ≤ 16) (ha : a < w * h) (hb : b < w * h) (hc : c < w * h) : -690 ≤ hd (clX w) (clY w) a b c ∧ hd (clX w) (clY w) a b c ≤ 690 := by
  obtain ⟨a1, a2⟩ := divh ha
  obtain ⟨b1, b2⟩ := divh hb
  obtain ⟨c1, c2⟩ := divh hc
  unfold hd clX clY
  generalize a / w = x1 at *
  generalize b / w = x2 at *
  generalize c / w = x3 at *
  generalize a % w = y1 at *
  generalize b % w = y2 at *
  generalize c % w = y3 at *
  have q1 := mulb (x := (y2 : Int) - (y1 : Int)) (y := (x3 : Int) - (x1 : Int)) (by omega) (by omega)
  have q2 := mulb (x := (y3 : Int) - (y1 : Int)) (y := (x2 : Int) - (x1 : Int)) (by omega) (by omega)
  rw [Int.mul_comm ((y3 : Int) - (y1 : Int)) ((x2 : Int) - (x1 : Int))] at q2
  generalize ((y2 : Int) - (y1 : Int)) * ((x3 : Int) - (x1 : Int)) = u at *
  generalize ((x2 : Int) - (x1 : Int)) * ((y3 : Int) - (y1 : Int)) = v at *
  omega
theorem X4_turn {D : DT} {hc w h : Nat} {ow se : Nat → Int} (C : CMap D hc w h ow se) {a b c : Nat} (ha : a < w * h) (hb : b < w * h) (hcc : c < w * h) : m_X4_turn hc (a : Int) (b : Int) (c : Int) D = some (hd (clX w) (clY w) a b c) := by
  obtain ⟨-, ⟨w1, w2⟩, h3⟩ := C
  have hn := wh384 w1 w2
  obtain ⟨-, -, a1, a2⟩ := h3 a ha
  obtain ⟨-, -, b1, b2⟩ := h3 b hb
  obtain ⟨-, -, c1, c2⟩ := h3 c hcc
  simp (disch := omega) only [m_X4_turn, gd_t, tn, a1, a2, b1, b2, c1, c2]
  have e : hd (clX w) (clY w) a b c = (((b % w : Nat) : Int) - ((a % w : Nat) : Int)) * (((c / w : Nat) : Int) - ((b / w : Nat) : Int)) - (((b / w : Nat) : Int) - ((a / w : Nat) : Int)) * (((c % w : Nat) : Int) - ((b % w : Nat) : Int)) := by
    unfold hd clX clY
    generalize ((a / w : Nat) : Int) = x1
    generalize ((b / w : Nat) : Int) = x2
    generalize ((c / w : Nat) : Int) = x3
    generalize ((a % w : Nat) : Int) = y1
    generalize ((b % w : Nat) : Int) = y2
    generalize ((c % w : Nat) : Int) = y3
    grind
  rw [e]
theorem popR_sub (X Y : Nat → Int) (q : Nat) : ∀ r, (popR X Y q r).length ≤ r.length ∧ ∀ c, c ∈ popR X Y q r → c ∈ r := by
  intro r
  induction r with
  | nil => exact ⟨Nat.le_refl _, fun _ h => h⟩
  | cons t r ih =>
    cases r with
    | nil => exact ⟨Nat.le_refl _, fun _ h => h⟩
    | cons s r =>
      by_cases g : hd X Y s t q ≤ 0
      · have e : popR X Y q (t :: s :: r) = popR X Y q (s :: r) := by rw [popR, if_pos g]
        rw [e]
        refine ⟨?_, fun c hc => List.mem_cons_of_mem _ (ih.2 c hc)⟩
        have := ih.1
        simp only [List.length_cons] at this ⊢
        omega
      · have e : popR X Y q (t :: s :: r) = t :: s :: r := by rw [popR, if_neg g]
        rw [e]
        exact ⟨Nat.le_refl _, fun _ h => h⟩
theorem chn_sub (X Y : Nat → Int) : ∀ (n : Nat) (l : List Nat), l.length = n → (chn X Y l).length ≤ n ∧ ∀ c, c ∈ chn X Y l → c ∈ l := by
  intro n
  induction n with
  | zero =>
    intro l hl
    have : l = [] := by simpa using hl
    subst this
    exact ⟨Nat.le_refl _, fun _ h => h⟩
  | succ n ih =>
    intro l hl
    rcases List.eq_nil_or_concat l with h | ⟨l2, b, h⟩
    · subst h; simp at hl
    · rw [List.concat_eq_append] at h
      subst h
      have hl2 : l2.length = n := by simpa using hl
      obtain ⟨i1, i2⟩ := ih l2 hl2
      obtain ⟨j1, j2⟩ := popR_sub X Y b (chn X Y l2)
      rw [chn_snoc]
      refine ⟨by simp only [List.length_cons]; omega, fun c hc => ?_⟩
      rcases List.mem_cons.mp hc with h | h
      · rw [h]; simp
      · exact List.mem_append_left _ (i2 c (j2 c h))
theorem turn_push {q : Nat} {base R : List Nat} {D : DT} (hl : base.length + R.length < 768) (h0 : D.1 70 0 = ((base.length + R.length : Nat) : Int)) (hA : ArrL (D.2 71) (base ++ R.reverse)) : ∃ D', m_X4_push (q : Int) D = some D' ∧ PKp D D' ∧ D'.1 70 0 = ((base.length + (q :: R).length : Nat) : Int) ∧ ArrL (D'.2 71) (base ++ (q :: R).reverse) := by
  have hlen : (base ++ R.reverse).length = base.length + R.length := by rw [List.length_append, List.length_reverse]
  have e := X4_push (P := base ++ R.reverse) (by rw [hlen]; exact h0) (by omega) (q : Int)
  refine ⟨_, e, (PKp.a (Or.inl rfl)).trans PKp.f, ?_, ?_⟩
  · rw [sF1, if_pos ⟨rfl, rfl⟩, hlen]
    simp only [List.length_cons]
    omega
  · have := arr_push (D := D) (a := 71) (h := 70) (k := 0) (c := q) (v := ((base ++ R.reverse).length : Int) + 1) hA
    rw [List.reverse_cons, ← List.append_assoc]
    exact this
theorem X4_turnTo0 {M : MS} (O : MOK M) {q : Nat} (hq : q < nC M) {base : List Nat} (hb : base.length ≤ 383) : ∀ (R : List Nat) (D : DT), CMap D 2 (mW M) (mH M) (mO M) (mS M) → (∀ c, c ∈ R → c < nC M) → R.length ≤ 384 → D.1 70 0 = ((base.length + R.length : Nat) : Int) → ArrL (D.2 71) (base ++ R.reverse) → ∃ D', m_X4_turnTo_0 2 (q : Int) ((base.length : Int) + 1) D = some D' ∧ PKp D D' ∧ D'.1 70 0 = ((base.length + (q :: popR (clX (mW M)) (clY (mW M)) q R).length : Nat) : Int) ∧ ArrL (D'.2 71) (base ++ (q :: popR (clX (mW M)) (clY (mW M)) q R).reverse) := by
  intro R
  induction R with
  | nil =>
    intro D C hm hl h0 hA
    obtain ⟨D', p1, p2, p3, p4⟩ := turn_push (q := q) (by simp only [List.length_nil]; omega) h0 hA
    refine ⟨D', ?_, p2, p3, p4⟩
    have e0 : D.1 70 0 = (base.length : Int) := by
      have h9 := h0
      simp only [List.length_nil] at h9
      omega
    unfold m_X4_turnTo_0
    refine loopF_inr ?_
    simp (disch := omega) only [e0, gd_t, if_f, p1, ob_some, done_some]
  | cons t R ih =>
    intro D C hm hl h0 hA
    cases R with
    | nil =>
      obtain ⟨D', p1, p2, p3, p4⟩ := turn_push (q := q) (by simp only [List.length_cons, List.length_nil]; omega) h0 hA
      refine ⟨D', ?_, p2, p3, p4⟩
      have e0 : D.1 70 0 = (base.length : Int) + 1 := by
        have h9 := h0
        simp only [List.length_cons, List.length_nil] at h9
        omega
      unfold m_X4_turnTo_0
      refine loopF_inr ?_
      simp (disch := omega) only [e0, gd_t, if_f, p1, ob_some, done_some]
    | cons s r =>
      have hl' : r.length + 2 ≤ 384 := hl
      have e0 : D.1 70 0 = (base.length : Int) + (r.length : Int) + 2 := by
        rw [h0]
        simp only [List.length_cons]
        omega
      have is : D.2 71 (base.length + r.length) = (s : Int) := by
        have e : base ++ (t :: s :: r).reverse = (base ++ r.reverse) ++ s :: [t] := by simp
        rw [e] at hA
        have := hA.get
        rw [List.length_append, List.length_reverse] at this
        exact this
      have it : D.2 71 (base.length + r.length + 1) = (t : Int) := by
        have e : base ++ (t :: s :: r).reverse = (base ++ r.reverse ++ [s]) ++ t :: [] := by simp
        rw [e] at hA
        have := hA.get
        rw [List.length_append, List.length_append, List.length_reverse] at this
        exact this
      have tN1 : Int.toNat ((base.length : Int) + (r.length : Int) + 2 - 2) = base.length + r.length := by omega
      have tN2 : Int.toNat ((base.length : Int) + (r.length : Int) + 2 - 1) = base.length + r.length + 1 := by omega
      have hs : s < nC M := hm s (by simp)
      have ht : t < nC M := hm t (by simp)
      have et := X4_turn C hs ht hq
      have hbd := hd_b O.2.1.1 O.2.1.2 hs ht hq
      by_cases g : hd (clX (mW M)) (clY (mW M)) s t q ≤ 0
      · have e : popR (clX (mW M)) (clY (mW M)) q (t :: s :: r) = popR (clX (mW M)) (clY (mW M)) q (s :: r) := by rw [popR, if_pos g]
        rw [e]
        have k0 : (sF D 70 0 ((base.length : Int) + (r.length : Int) + 2 - 1)).1 70 0 = ((base.length + (s :: r).length : Nat) : Int) := by
          rw [sF1, if_pos ⟨rfl, rfl⟩]
          simp only [List.length_cons]
          omega
        have kA : ArrL ((sF D 70 0 ((base.length : Int) + (r.length : Int) + 2 - 1)).2 71) (base ++ (s :: r).reverse) := by
          have e : base ++ (t :: s :: r).reverse = (base ++ (s :: r).reverse) ++ [t] := by simp
          rw [e] at hA
          rw [sF2]
          exact hA.left
        obtain ⟨D', p1, p2, p3, p4⟩ := ih (sF D 70 0 ((base.length : Int) + (r.length : Int) + 2 - 1)) (PKp.f.map C) (fun c hc => hm c (List.mem_cons_of_mem _ hc)) (by simp only [List.length_cons]; omega) k0 kA
        refine ⟨D', ?_, PKp.f.trans p2, p3, p4⟩
        rw [← p1]
        unfold m_X4_turnTo_0
        refine loopF_inl ?_
        simp (disch := omega) only [e0, gd_t, if_t, tN1, tN2, is, it, et, ob_some, if_t g, sq_eq]
      · have e : popR (clX (mW M)) (clY (mW M)) q (t :: s :: r) = t :: s :: r := by rw [popR, if_neg g]
        rw [e]
        obtain ⟨D', p1, p2, p3, p4⟩ := turn_push (q := q) (by simp only [List.length_cons]; omega) h0 hA
        refine ⟨D', ?_, p2, p3, p4⟩
        unfold m_X4_turnTo_0
        refine loopF_inr ?_
        simp (disch := omega) only [e0, gd_t, if_t, tN1, tN2, is, it, et, ob_some, if_f g, p1, done_some]
theorem X4_turnTo {M : MS} (O : MOK M) {q : Nat} (hq : q < nC M) {base R : List Nat} {D : DT} (hb : base.length ≤ 383) (C : CMap D 2 (mW M) (mH M) (mO M) (mS M)) (hm : ∀ c, c ∈ R → c < nC M) (hl : R.length ≤ 384) (h0 : D.1 70 0 = ((base.length + R.length : Nat) : Int)) (hA : ArrL (D.2 71) (base ++ R.reverse)) {v : Int} (hv : v = (base.length : Int) + 1) : ∃ D', m_X4_turnTo 2 (q : Int) v D = some D' ∧ PKp D D' ∧ D'.1 70 0 = ((base.length + (q :: popR (clX (mW M)) (clY (mW M)) q R).length : Nat) : Int) ∧ ArrL (D'.2 71) (base ++ (q :: popR (clX (mW M)) (clY (mW M)) q R).reverse) := by
  subst hv
  exact X4_turnTo0 O hq hb R D C hm hl h0 hA
/-- up again -/
theorem X4_up {D : DT} {M : MS} {l : Nat} (O : MOK M) (C : CMap D 2 (mW M) (mH M) (mO M) (mS M)) (K : CrowdAt D 23 M l) {base l2 : List Nat} {b : Nat} (hS : sptM M l = l2 ++ [b]) (hb : base.length ≤ 383) (h0 : D.1 70 0 = ((base.length + 1 : Nat) : Int)) (hA : ArrL (D.2 71) (base ++ [b])) : ∃ D', m_X4_wrap_41 2 23 (D.1 70 0) (D.1 23 5 - 2, D) = some D' ∧ PKp D D' ∧ D'.1 70 0 = (((if 1 < (base ++ (chn (clX (mW M)) (clY (mW M)) (sptM M l).reverse).reverse).length then (base ++ (chn (clX (mW M)) (clY (mW M)) (sptM M l).reverse).reverse).dropLast else base ++ (chn (clX (mW M)) (clY (mW M)) (sptM M l).reverse).reverse).length : Nat) : Int) ∧ ArrL (D'.2 71) (if 1 < (base ++ (chn (clX (mW M)) (clY (mW M)) (sptM M l).reverse).reverse).length then (base ++ (chn (clX (mW M)) (clY (mW M)) (sptM M l).reverse).reverse).dropLast else base ++ (chn (clX (mW M)) (clY (mW M)) (sptM M l).reverse).reverse) := by
  have n4 := nCb O
  have sl := spt_le M l
  have wm : ∀ x, x ∈ sptM M l → x < nC M := fun x h => (spt_mem.mp h).1
  have nl : (sptM M l).length = l2.length + 1 := by rw [hS, List.length_append]; rfl
  have e5 : D.1 23 5 = ((sptM M l).length : Int) := K.2.2.2.1
  have tr : (sptM M l).reverse.length = l2.length + 1 := by rw [List.length_reverse, nl]
  have t1' : (sptM M l).reverse.take 1 = [b] := by rw [hS, List.reverse_append]; rfl
  unfold m_X4_wrap_41
  obtain ⟨s', ⟨i1, i2, i3, i4⟩, e⟩ := loop_inv (f := fun s : Int × DT =>
    gd (InR s.1) (if 0 ≤ s.1 then (
      gd ((0 : Int) ≤ s.1 ∧ s.1 < (384 : Int)) (
      (m_X4_turnTo 2 (s.2.2 (23 + 3) (Int.toNat s.1)) (D.1 70 0) s.2).bind (fun D56 =>
      some ((.inl ((s.1 + (-1)), D56)) : (Int × DT) ⊕ DT)
      ))
    ) else (
      done (
      gd (InR (s.2.1 70 0) ∧ InR 1) (if 1 < (s.2.1 70 0) then (
        sq (sF s.2 70 0 ((s.2.1 70 0) - 1)) (fun D80 =>
        some D80
        )
      ) else (
        some s.2
      ))
      )
    ))) (fun j s => s.1 = (l2.length : Int) - 1 - (j : Int) ∧ PKp D s.2 ∧ s.2.1 70 0 = ((base.length + (chn (clX (mW M)) (clY (mW M)) ((sptM M l).reverse.take (j + 1))).length : Nat) : Int) ∧ ArrL (s.2.2 71) (base ++ (chn (clX (mW M)) (clY (mW M)) ((sptM M l).reverse.take (j + 1))).reverse)) l2.length (s := (D.1 23 5 - 2, D)) ⟨by
      show D.1 23 5 - 2 = (l2.length : Int) - 1 - ((0 : Nat) : Int)
      omega, PKp.refl D, by
      show D.1 70 0 = ((base.length + (chn (clX (mW M)) (clY (mW M)) ((sptM M l).reverse.take 1)).length : Nat) : Int)
      rw [t1']
      exact h0, by
      show ArrL (D.2 71) (base ++ (chn (clX (mW M)) (clY (mW M)) ((sptM M l).reverse.take 1)).reverse)
      rw [t1']
      exact hA⟩ (fun j s hj ⟨a1, a2, a3, a4⟩ => by
      have hj1 : j + 1 < (sptM M l).reverse.length := by omega
      have hlt : l2.length - 1 - j < (sptM M l).length := by omega
      have cs := chn_sub (clX (mW M)) (clY (mW M)) _ ((sptM M l).reverse.take (j + 1)) rfl
      have tl : ((sptM M l).reverse.take (j + 1)).length ≤ j + 1 := by rw [List.length_take]; omega
      have ts : (sptM M l).reverse.take (j + 1 + 1) = (sptM M l).reverse.take (j + 1) ++ [(sptM M l).reverse[j + 1]] := List.take_succ_eq_append_getElem hj1
      have ge : (sptM M l).reverse[j + 1] = (sptM M l)[l2.length - 1 - j] := by
        rw [List.getElem_reverse]
        exact ge_eq _ _ (by omega)
      have e1 : s.2.2 (23 + 3) (l2.length - 1 - j) = ((sptM M l)[l2.length - 1 - j] : Int) := (a2.crowd K).2.2.2.2 _ hlt
      have hci := wm _ (List.getElem_mem hlt)
      rw [ts, chn_snoc, ge]
      generalize (sptM M l)[l2.length - 1 - j] = c at *
      obtain ⟨D', p1, p2, p3, p4⟩ := X4_turnTo O hci hb (a2.map C) (fun x hx => wm x (List.mem_reverse.mp (List.mem_of_mem_take (cs.2 x hx)))) (by omega) a3 a4 (v := D.1 70 0) (by omega)
      refine ⟨(s.1 + (-1), D'), ?_, ?_, a2.trans p2, p3, p4⟩
      · have tn1 : Int.toNat ((l2.length : Int) - 1 - (j : Int)) = l2.length - 1 - j := by omega
        simp (disch := omega) only [a1, gd_t, if_t, tn1, e1, p1, ob_some]
      · show s.1 + (-1) = _
        rw [a1]
        omega)
  have full : (sptM M l).reverse.take (l2.length + 1) = (sptM M l).reverse := by rw [← tr, List.take_length]
  rw [full] at i3 i4
  have cs := chn_sub (clX (mW M)) (clY (mW M)) _ (sptM M l).reverse rfl
  have hlen : (base ++ (chn (clX (mW M)) (clY (mW M)) (sptM M l).reverse).reverse).length = base.length + (chn (clX (mW M)) (clY (mW M)) (sptM M l).reverse).length := by rw [List.length_append, List.length_reverse]
  rw [← hlen] at i3
  have ub : (base ++ (chn (clX (mW M)) (clY (mW M)) (sptM M l).reverse).reverse).length ≤ 768 := by omega
  rw [e]
  generalize base ++ (chn (clX (mW M)) (clY (mW M)) (sptM M l).reverse).reverse = st at *
  by_cases q : 1 < st.length
  · rw [if_pos q]
    have q' : (1 : Int) < (st.length : Int) := by omega
    refine ⟨sF s'.2 70 0 ((st.length : Int) - 1), ?_, i2.trans PKp.f, ?_, fun i hi => ?_⟩
    · refine loopF_inr ?_
      simp (disch := omega) only [i1, i3, gd_t, if_f, if_t q', sq_eq, done_some]
    · rw [sF1, if_pos ⟨rfl, rfl⟩, List.length_dropLast]
      omega
    · have hi2 : i < st.length := by rw [List.length_dropLast] at hi; omega
      rw [sF2, i4 i hi2, List.getElem_dropLast]
  · rw [if_neg q]
    have q' : ¬ (1 : Int) < (st.length : Int) := by omega
    refine ⟨s'.2, ?_, i2, i3, i4⟩
    refine loopF_inr ?_
    simp (disch := omega) only [i1, i3, gd_t, if_f, if_f q', done_some]
theorem cls_wrap {D : DT} {M : MS} {l : Nat} (hC : CInv D M) (K : CrowdAt D 23 M l) {n : Int} : ∃ D', m_X4_follow 2 23 ((2 : Nat) : Int) n D = some D' ∧ PKp D D' ∧ PathAt D' M 2 l n := by
  have O := hC.1
  have n4 := nCb O
  have sl := spt_le M l
  have wm : ∀ x, x ∈ sptM M l → x < nC M := fun x h => (spt_mem.mp h).1
  have loop : ∃ D', m_X4_wrap 2 23 (sF (sF D 70 0 0) 70 1 0) = some D' ∧ PKp D D' ∧ D'.1 70 0 = ((wrp (clX (mW M)) (clY (mW M)) (sptM M l)).length : Int) ∧ ArrL (D'.2 71) (wrp (clX (mW M)) (clY (mW M)) (sptM M l)) := by
    unfold m_X4_wrap m_X4_wrap_2
    obtain ⟨s', ⟨i1, i2, i3, i4⟩, e⟩ := loop_inv (f := fun s : Int × DT =>
      gd (InR s.1 ∧ InR (s.2.1 23 5)) (if s.1 < (s.2.1 23 5) then (
        gd ((0 : Int) ≤ s.1 ∧ s.1 < (384 : Int)) (
        (m_X4_turnTo 2 (s.2.2 (23 + 3) (Int.toNat s.1)) 1 s.2).bind (fun D19 =>
        some ((.inl ((s.1 + 1), D19)) : (Int × DT) ⊕ DT)
        ))
      ) else (
        done (
        m_X4_wrap_41 2 23 (s.2.1 70 0) (((s.2.1 23 5) - 2), s.2)
        )
      ))) (fun i s => s.1 = (i : Int) ∧ PKp D s.2 ∧ s.2.1 70 0 = ((chn (clX (mW M)) (clY (mW M)) ((sptM M l).take i)).length : Int) ∧ ArrL (s.2.2 71) (chn (clX (mW M)) (clY (mW M)) ((sptM M l).take i)).reverse) (sptM M l).length (s := (0, sF (sF D 70 0 0) 70 1 0)) ⟨rfl, PKp.f.trans PKp.f, rfl, ArrL.nil⟩ (fun i s hi ⟨a1, a2, a3, a4⟩ => by
        have K2 := a2.crowd K
        have e5 := K2.2.2.2.1
        have e1 := K2.2.2.2.2 i hi
        have hci := wm _ (List.getElem_mem hi)
        have ts : (sptM M l).take (i + 1) = (sptM M l).take i ++ [(sptM M l)[i]] := List.take_succ_eq_append_getElem hi
        have cs := chn_sub (clX (mW M)) (clY (mW M)) _ ((sptM M l).take i) rfl
        have tl : ((sptM M l).take i).length ≤ i := by rw [List.length_take]; omega
        rw [ts, chn_snoc]
        generalize (sptM M l)[i] = c at *
        obtain ⟨D', p1, p2, p3, p4⟩ := X4_turnTo (base := []) O hci (by simp) (a2.map hC.2.1.1.1) (fun x hx => wm x (List.mem_of_mem_take (cs.2 x hx))) (by omega) (by rw [a3, List.length_nil, Nat.zero_add]) a4 (v := 1) rfl
        rw [List.length_nil, Nat.zero_add] at p3
        refine ⟨((i : Int) + 1, D'), ?_, rfl, a2.trans p2, p3, p4⟩
        simp (disch := omega) only [a1, e5, gd_t, if_t, tn, e1, p1, ob_some])
    rw [List.take_length] at i3 i4
    have K2 := i2.crowd K
    have e5 := K2.2.2.2.1
    have fin : ∃ D', m_X4_wrap_41 2 23 (s'.2.1 70 0) (s'.2.1 23 5 - 2, s'.2) = some D' ∧ PKp s'.2 D' ∧ D'.1 70 0 = ((wrp (clX (mW M)) (clY (mW M)) (sptM M l)).length : Int) ∧ ArrL (D'.2 71) (wrp (clX (mW M)) (clY (mW M)) (sptM M l)) := by
      rcases List.eq_nil_or_concat (sptM M l) with h | ⟨l2, b, h⟩
      · rw [h] at i3 i4 e5 ⊢
        have i3' : s'.2.1 70 0 = 0 := i3
        have e5' : s'.2.1 23 5 = 0 := e5
        refine ⟨s'.2, ?_, PKp.refl _, i3', i4⟩
        unfold m_X4_wrap_41
        refine loopF_inr ?_
        simp (disch := omega) only [i3', e5', gd_t, if_f, done_some]
      · rw [List.concat_eq_append] at h
        have cb := chn_snoc (clX (mW M)) (clY (mW M)) l2 b
        have ps := popR_sub (clX (mW M)) (clY (mW M)) b (chn (clX (mW M)) (clY (mW M)) l2)
        have cs := chn_sub (clX (mW M)) (clY (mW M)) _ l2 rfl
        have nl : (sptM M l).length = l2.length + 1 := by rw [h, List.length_append]; rfl
        have er : (chn (clX (mW M)) (clY (mW M)) (sptM M l)).reverse = (popR (clX (mW M)) (clY (mW M)) b (chn (clX (mW M)) (clY (mW M)) l2)).reverse ++ [b] := by rw [h, cb, List.reverse_cons]
        have el : (chn (clX (mW M)) (clY (mW M)) (sptM M l)).length = (popR (clX (mW M)) (clY (mW M)) b (chn (clX (mW M)) (clY (mW M)) l2)).reverse.length + 1 := by
          have := congrArg List.length er
          rw [List.length_reverse, List.length_append] at this
          exact this
        have hb' : (popR (clX (mW M)) (clY (mW M)) b (chn (clX (mW M)) (clY (mW M)) l2)).reverse.length ≤ 383 := by rw [List.length_reverse]; omega
        have ew : wrp (clX (mW M)) (clY (mW M)) (sptM M l) = if 1 < ((popR (clX (mW M)) (clY (mW M)) b (chn (clX (mW M)) (clY (mW M)) l2)).reverse ++ (chn (clX (mW M)) (clY (mW M)) (sptM M l).reverse).reverse).length then ((popR (clX (mW M)) (clY (mW M)) b (chn (clX (mW M)) (clY (mW M)) l2)).reverse ++ (chn (clX (mW M)) (clY (mW M)) (sptM M l).reverse).reverse).dropLast else (popR (clX (mW M)) (clY (mW M)) b (chn (clX (mW M)) (clY (mW M)) l2)).reverse ++ (chn (clX (mW M)) (clY (mW M)) (sptM M l).reverse).reverse := by
          unfold wrp wst
          rw [er, List.dropLast_concat]
        rw [ew]
        rw [er] at i4
        rw [el] at i3
        exact X4_up O (i2.map hC.2.1.1.1) K2 h hb' i3 i4
    obtain ⟨D', g1, g2, g3, g4⟩ := fin
    refine ⟨D', ?_, i2.trans g2, g3, g4⟩
    rw [e]
    refine loopF_inr ?_
    rw [e5] at g1
    simp (disch := omega) only [i1, e5, gd_t, if_f, g1, done_some]
  obtain ⟨D', f1, f2, f3, f4⟩ := loop
  obtain ⟨ok1, ok2, ok3⟩ := hull_wrp (w := mW M) (n := nC M) (p := dotP M l) (S := sptM M l) rfl
  have eh : pthM M 2 l n = wrp (clX (mW M)) (clY (mW M)) (sptM M l) := hull_eq ok1 ok2
  refine ⟨D', ?_, f2, by rw [eh]; exact f3, by rw [eh]; exact f4, fun h => by omega⟩
  have z : ((2 : Nat) : Int) = 2 := rfl
  simp (disch := omega) only [m_X4_follow, sq_eq, z, gd_t, if_f, f1, ob_some]
