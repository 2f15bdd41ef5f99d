/-! ===== step: count ===== -/
section CountEval
variable {D : DT} {hc w h z : Nat} {ow se : Nat → Int}
theorem X1_seaCells (C : CMap D hc w h ow se) (O : MapOK w h z ow se) : m_X1_seaCells hc D = some (sumTo (fun c => b2i (se c ≠ 0)) (w * h)) := by
  have hn := wh384 C.2.1.1 C.2.1.2
  refine loop_for (st := fun k => (sumTo (fun c => b2i (se c ≠ 0)) k, (k : Int))) (w * h) (fun k hk => ?_) ?_
  · obtain ⟨-, e1, -⟩ := C.2.2 k hk
    have o := O k hk
    by_cases q : se k = 0
    · have nq : ¬ (se k ≠ 0) := fun x => x q
      simp (disch := omega) only [X1_cells C, ob_some, gd_t, if_t, tn, e1, if_t q, sumTo, b2i_f nq, Int.natCast_add]
      simp
    · simp (disch := omega) only [X1_cells C, ob_some, gd_t, if_t, tn, e1, if_f q, sumTo, b2i_t q, Int.natCast_add]
      simp
  · simp (disch := omega) only [X1_cells C, ob_some, gd_t, if_f, done_some]
theorem X1_landCells (C : CMap D hc w h ow se) (O : MapOK w h z ow se) (hz : z ≤ 8) : m_X1_landCells hc D = some (sumTo (fun c => b2i (ow c ≠ -1 ∧ se c = 0)) (w * h)) := by
  have hn := wh384 C.2.1.1 C.2.1.2
  refine loop_for (st := fun k => (sumTo (fun c => b2i (ow c ≠ -1 ∧ se c = 0)) k, (k : Int))) (w * h) (fun k hk => ?_) ?_
  · have e := X1_isLand C O hk hz
    by_cases q : ow k ≠ -1 ∧ se k = 0
    · simp (disch := omega) only [X1_cells C, ob_some, gd_t, if_t, e, b2i_t q, if_f, sumTo, Int.natCast_add]
      simp
    · simp (disch := omega) only [X1_cells C, ob_some, gd_t, if_t, e, b2i_f q, ↓reduceIte, sumTo, Int.natCast_add]
      simp
  · simp (disch := omega) only [X1_cells C, ob_some, gd_t, if_f, done_some]
theorem X11_cellsOf4 (R : RMap D w h ow se) (O : MapOK w h z ow se) : m_X11_cellsOf 4 D = some (sumTo (fun c => b2i (se c ≠ 0)) (w * h)) := by
  have hn := wh384 R.2.1.1 R.2.1.2
  refine loop_for (st := fun k => (sumTo (fun c => b2i (se c ≠ 0)) k, (k : Int))) (w * h) (fun k hk => ?_) ?_
  · obtain ⟨-, e1⟩ := R.2.2 k hk
    have o := O k hk
    by_cases q : se k = 0
    · have nq : ¬ (se k ≠ 0) := fun x => x q
      simp (disch := omega) only [X11_cells R, ob_some, gd_t, if_t, ↓reduceIte, tn, e1, if_t q, sumTo, b2i_f nq, Int.natCast_add, m_X11_cellsOf_80]
      simp
    · simp (disch := omega) only [X11_cells R, ob_some, gd_t, if_t, ↓reduceIte, tn, e1, if_f q, sumTo, b2i_t q, Int.natCast_add, m_X11_cellsOf_80]
      simp
  · simp (disch := omega) only [X11_cells R, ob_some, gd_t, if_f, done_some]
theorem X11_cellsOf5 (R : RMap D w h ow se) (O : MapOK w h z ow se) (hz : z ≤ 8) : m_X11_cellsOf 5 D = some (sumTo (fun c => b2i (ow c ≠ -1 ∧ se c = 0)) (w * h)) := by
  have hn := wh384 R.2.1.1 R.2.1.2
  refine loop_for (st := fun k => (sumTo (fun c => b2i (ow c ≠ -1 ∧ se c = 0)) k, (k : Int))) (w * h) (fun k hk => ?_) ?_
  · have e := X11_isLand R O hk hz
    by_cases q : ow k ≠ -1 ∧ se k = 0
    · simp (disch := omega) only [X11_cells R, ob_some, gd_t, if_t, if_f, ↓reduceIte, e, b2i_t q, sumTo, Int.natCast_add, m_X11_cellsOf_80]
      simp
    · simp (disch := omega) only [X11_cells R, ob_some, gd_t, if_t, if_f, ↓reduceIte, e, b2i_f q, sumTo, Int.natCast_add, m_X11_cellsOf_80]
      simp
  · simp (disch := omega) only [X11_cells R, ob_some, gd_t, if_f, done_some]
theorem X11_cellsOf6 (R : RMap D w h ow se) (O : MapOK w h z ow se) (hz : z ≤ 8) : m_X11_cellsOf 6 D = some (sumTo (fun c => b2i (ow c = -1 ∧ se c = 0)) (w * h)) := by
  have hn := wh384 R.2.1.1 R.2.1.2
  refine loop_for (st := fun k => (sumTo (fun c => b2i (ow c = -1 ∧ se c = 0)) k, (k : Int))) (w * h) (fun k hk => ?_) ?_
  · obtain ⟨e0, e1⟩ := R.2.2 k hk
    have o := O k hk
    by_cases q : ow k = -1
    · by_cases p : se k = 0
      · simp (disch := omega) only [X11_cells R, ob_some, gd_t, if_t, if_f, tn, e0, e1, if_t q, if_t p, sumTo, b2i_t (And.intro q p), Int.natCast_add, m_X11_cellsOf_80]
        simp
      · simp (disch := omega) only [X11_cells R, ob_some, gd_t, if_t, if_f, tn, e0, e1, if_t q, if_f p, sumTo, b2i_f (fun x => p (And.right x)), Int.natCast_add, m_X11_cellsOf_80]
        simp
    · simp (disch := omega) only [X11_cells R, ob_some, gd_t, if_t, if_f, tn, e0, if_f q, sumTo, b2i_f (fun x => q (And.left x)), Int.natCast_add, m_X11_cellsOf_80]
      simp
  · simp (disch := omega) only [X11_cells R, ob_some, gd_t, if_f, done_some]
theorem sum_three (f g h : Nat → Int) (n : Nat) (H : ∀ k, f k + g k + h k = 1) : (n : Int) - sumTo f n - sumTo g n = sumTo h n := by
  induction n with
  | zero => rfl
  | succ n ih =>
    have := H n
    simp only [sumTo]
    omega
theorem free_sum (ow se : Nat → Int) (n : Nat) : (n : Int) - sumTo (fun c => b2i (se c ≠ 0)) n - sumTo (fun c => b2i (ow c ≠ -1 ∧ se c = 0)) n = sumTo (fun c => b2i (ow c = -1 ∧ se c = 0)) n := by
  refine sum_three _ _ _ n (fun k => ?_)
  by_cases p : se k = 0
  · by_cases q : ow k = -1
    · rw [b2i_f (fun x => x p), b2i_f (fun x => x.1 q), b2i_t ⟨q, p⟩]; rfl
    · rw [b2i_f (fun x => x p), b2i_t ⟨q, p⟩, b2i_f (fun x => q x.1)]; rfl
  · rw [b2i_t p, b2i_f (fun x => p x.2), b2i_f (fun x => p x.2)]; rfl
end CountEval
/-- everybody -/
def evrM (M : MS) : Int := sumTo (fun z => sumTo (fun g => mP M (3 * z + g)) (mG M)) (mZ M)
theorem evrM_b {M : MS} (O : MOK M) : 0 ≤ evrM M ∧ evrM M ≤ 2399976 := by
  have b1 := O.2.2.1
  have b2 := O.2.2.2.1
  have h := sumTo_bounds (f := fun z => sumTo (fun g => mP M (3 * z + g)) (mG M)) (n := mZ M) (a := 0) (b := 299997) (fun z hz => by
    have h := sumTo_bounds (f := fun g => mP M (3 * z + g)) (n := mG M) (a := 0) (b := 99999) (fun g hg => O.p (by omega))
    omega)
  unfold evrM
  omega
theorem cls_everybody {D : DT} {M : MS} (O : MOK M) (C : CBase D M) : m_X1_everybody 2 D = some (evrM M) := by
  have b1 := O.2.2.1
  have b2 := O.2.2.2.1
  have e2 := C.1.2.1.1
  have e3 := C.1.2.1.2
  refine loop_for (st := fun k => (sumTo (fun z => sumTo (fun g => mP M (3 * z + g)) (mG M)) k, (k : Int))) (mZ M) (fun k hk => ?_) ?_
  · have inner : m_X1_everybody_14 2 (k : Int) D (sumTo (fun z => sumTo (fun g => mP M (3 * z + g)) (mG M)) k, 0) = some (.inl (sumTo (fun z => sumTo (fun g => mP M (3 * z + g)) (mG M)) (k + 1), ((k + 1 : Nat) : Int))) := by
      have := loop_for (f := fun s : Int × Int =>
        gd (InR s.2 ∧ InR (D.1 2 3)) (if s.2 < (D.1 2 3) then (
          (m_X1_livingIn 2 (k : Int) s.2 D).bind (fun r26 =>
          some (.inl ((s.1 + r26), (s.2 + 1)))
          )
        ) else (
          done (
          some ((.inl (s.1, ((k : Int) + 1)) : (Int × Int) ⊕ Int))
          )
        ))) (st := fun g => (sumTo (fun z => sumTo (fun g => mP M (3 * z + g)) (mG M)) k + sumTo (fun g => mP M (3 * k + g)) g, (g : Int))) (r := (.inl (sumTo (fun z => sumTo (fun g => mP M (3 * z + g)) (mG M)) k + sumTo (fun g => mP M (3 * k + g)) (mG M), ((k : Int) + 1)) : (Int × Int) ⊕ Int)) (mG M) (fun g hg => by
          have hk' : 3 * k + g < 24 := by omega
          have e1 := C.1.2.2.1 (3 * k + g) (by omega)
          have k1 : (k : Int) * 3 + (g : Int) = ((3 * k + g : Nat) : Int) := by omega
          have c1 : ((g + 1 : Nat) : Int) = (g : Int) + 1 := by omega
          simp (disch := omega) only [e3, gd_t, if_t, m_X1_livingIn, k1, tn, ob_some, e1, sumTo, c1, Int.add_assoc]) (by
          simp (disch := omega) only [e3, gd_t, if_f, done_some])
      unfold m_X1_everybody_14
      simp only [sumTo, Int.add_zero] at this ⊢
      exact this
    simp (disch := omega) only [e2, gd_t, if_t, inner]
  · simp (disch := omega) only [e2, gd_t, if_f, done_some, evrM]
theorem ref_everybody {D : DT} {M : MS} (R : RInv D M) : m_X11_count_110 D (0, 0) = some (evrM M, D) := by
  have b1 := R.1.2.2.1
  have b2 := R.1.2.2.2.1
  have e2 := R.2.1.2.1
  have e3 := R.2.1.2.2
  refine loop_for (st := fun k => (sumTo (fun z => sumTo (fun g => mP M (3 * z + g)) (mG M)) k, (k : Int))) (mZ M) (fun k hk => ?_) ?_
  · have inner : m_X11_count_121 (k : Int) D (sumTo (fun z => sumTo (fun g => mP M (3 * z + g)) (mG M)) k, 0) = some (.inl (sumTo (fun z => sumTo (fun g => mP M (3 * z + g)) (mG M)) (k + 1), ((k + 1 : Nat) : Int))) := by
      have := loop_for (f := fun s : Int × Int =>
        gd ((0 : Int) ≤ 3 ∧ 3 < (4 : Int)) (
        gd (InR s.2 ∧ InR (D.2 76 (Int.toNat 3))) (if s.2 < (D.2 76 (Int.toNat 3)) then (
          gd ((0 : Int) ≤ ((3 * (k : Int)) + s.2) ∧ ((3 * (k : Int)) + s.2) < (24 : Int)) (
          some (.inl ((s.1 + (D.2 82 (Int.toNat ((3 * (k : Int)) + s.2)))), (s.2 + 1)))
          )
        ) else (
          done (
          some ((.inl (s.1, ((k : Int) + 1)) : (Int × Int) ⊕ (Int × DT)))
          )
        )))) (st := fun g => (sumTo (fun z => sumTo (fun g => mP M (3 * z + g)) (mG M)) k + sumTo (fun g => mP M (3 * k + g)) g, (g : Int))) (r := (.inl (sumTo (fun z => sumTo (fun g => mP M (3 * z + g)) (mG M)) k + sumTo (fun g => mP M (3 * k + g)) (mG M), ((k : Int) + 1)) : (Int × Int) ⊕ (Int × DT))) (mG M) (fun g hg => by
          have hk' : 3 * k + g < 24 := by omega
          have e1 := R.2.2.1 (3 * k + g) hk'
          have k1 : 3 * (k : Int) + (g : Int) = ((3 * k + g : Nat) : Int) := by omega
          have c1 : ((g + 1 : Nat) : Int) = (g : Int) + 1 := by omega
          simp (disch := omega) only [t3, e3, gd_t, if_t, k1, tn, e1, sumTo, c1, Int.add_assoc]) (by
          simp (disch := omega) only [t3, e3, gd_t, if_f, done_some])
      unfold m_X11_count_121
      simp only [sumTo, Int.add_zero] at this ⊢
      exact this
    simp (disch := omega) only [m_X11_zones, t2, e2, ob_some, gd_t, if_t, inner]
  · simp (disch := omega) only [m_X11_zones, t2, e2, ob_some, gd_t, if_f, done_some, evrM]
theorem sum01 {f : Nat → Prop} [∀ k, Decidable (f k)] {n : Nat} (h : n ≤ 384) : 0 ≤ sumTo (fun c => b2i (f c)) n ∧ sumTo (fun c => b2i (f c)) n ≤ 384 := by
  have := sumTo_bounds (f := fun c => b2i (f c)) (n := n) (a := 0) (b := 1) (fun k _ => b2i_01)
  omega
theorem step_count : StepOK m_L_c42 := fun xs Ls s hx hs ⟨M, hC, hR⟩ => by
  have x1 := hx (Int.toNat (s.1 + 1))
  have O := hC.1
  have C := hC.2.1
  have n1 := nCb O
  have b1 := O.2.1
  have b2 := O.2.2.1
  have b3 := O.2.2.2.1
  have b4 := O.ufx
  have b5 := O.wr.1
  have ev := evrM_b O
  have mk : ∀ (v : Int), InR v → m_X10_count (xs (Int.toNat (s.1 + 1))) s.2 = some v → (∀ D, RInv D M → m_X11_count (xs (Int.toNat (s.1 + 1))) D = some (v, sF D 73 0 0)) → ∃ D', m_L_c42 xs Ls s = some (.inl (s.1 + 7, D')) ∧ Good D' := fun v hv h1 h2 => comb_count hx hs hv h1 hC hR (fun D r => ⟨sF D 73 0 0, h2 D r, r.thr, FrR.f (by omega)⟩)
  generalize xs (Int.toNat (s.1 + 1)) = v at *
  by_cases q0 : v = 0
  · subst q0
    refine mk (mW M : Int) (by omega) ?_ (fun D r => ?_)
    · simp (disch := omega) only [m_X10_count, gd_t, ↓reduceIte, C.1.1.1.1]
    · have e := (r.thr (x := 0)).2.1.1.1.1
      simp (disch := omega) only [m_X11_count, sq_eq, gd_t, ↓reduceIte, t0, e]
  by_cases q1 : v = 1
  · subst q1
    refine mk (mH M : Int) (by omega) ?_ (fun D r => ?_)
    · simp (disch := omega) only [m_X10_count, gd_t, if_f, ↓reduceIte, C.1.1.1.2]
    · have e := (r.thr (x := 0)).2.1.1.1.2
      simp (disch := omega) only [m_X11_count, sq_eq, gd_t, if_f, ↓reduceIte, t1, e]
  by_cases q2 : v = 2
  · subst q2
    refine mk (mZ M : Int) (by omega) ?_ (fun D r => ?_)
    · simp (disch := omega) only [m_X10_count, gd_t, if_f, ↓reduceIte, C.1.2.1.1]
    · have e := (r.thr (x := 0)).2.1.2.1
      simp (disch := omega) only [m_X11_count, sq_eq, gd_t, if_f, ↓reduceIte, t2, e]
  by_cases q3 : v = 3
  · subst q3
    refine mk (mG M : Int) (by omega) ?_ (fun D r => ?_)
    · simp (disch := omega) only [m_X10_count, gd_t, if_f, ↓reduceIte, C.1.2.1.2]
    · have e := (r.thr (x := 0)).2.1.2.2
      simp (disch := omega) only [m_X11_count, sq_eq, gd_t, if_f, ↓reduceIte, t3, e]
  by_cases q4 : v = 4
  · subst q4
    have sb := sum01 (f := fun c => mS M c ≠ 0) n1
    refine mk (sumTo (fun c => b2i (mS M c ≠ 0)) (nC M)) (by omega) ?_ (fun D r => ?_)
    · have e := X1_seaCells C.1.1 O.2.2.2.2.1
      simp (disch := omega) only [m_X10_count, gd_t, if_f, ↓reduceIte, e, ob_some]
    · have e := X11_cellsOf4 (r.thr (x := 0)).2.1.1 O.2.2.2.2.1
      simp (disch := omega) only [m_X11_count, sq_eq, gd_t, if_f, ↓reduceIte, e, ob_some]
  by_cases q5 : v = 5
  · subst q5
    have sb := sum01 (f := fun c => mO M c ≠ -1 ∧ mS M c = 0) n1
    refine mk (sumTo (fun c => b2i (mO M c ≠ -1 ∧ mS M c = 0)) (nC M)) (by omega) ?_ (fun D r => ?_)
    · have e := X1_landCells C.1.1 O.2.2.2.2.1 b2
      simp (disch := omega) only [m_X10_count, gd_t, if_f, ↓reduceIte, e, ob_some]
    · have e := X11_cellsOf5 (r.thr (x := 0)).2.1.1 O.2.2.2.2.1 b2
      simp (disch := omega) only [m_X11_count, sq_eq, gd_t, if_f, ↓reduceIte, e, ob_some]
  by_cases q6 : v = 6
  · subst q6
    have sb := sum01 (f := fun c => mO M c = -1 ∧ mS M c = 0) n1
    refine mk (sumTo (fun c => b2i (mO M c = -1 ∧ mS M c = 0)) (nC M)) (by omega) ?_ (fun D r => ?_)
    · have e := X1_landCells C.1.1 O.2.2.2.2.1 b2
      have e' := X1_seaCells C.1.1 O.2.2.2.2.1
      have e'' := X1_cells C.1.1
      simp (disch := omega) only [m_X10_count, m_X1_freeCells, gd_t, if_f, ↓reduceIte, e, e', e'', ob_some, free_sum]
    · have e := X11_cellsOf6 (r.thr (x := 0)).2.1.1 O.2.2.2.2.1 b2
      simp (disch := omega) only [m_X11_count, sq_eq, gd_t, if_f, ↓reduceIte, e, ob_some]
  by_cases q7 : v = 7
  · subst q7
    refine mk (mU M) (by omega) ?_ (fun D r => ?_)
    · simp (disch := omega) only [m_X10_count, gd_t, if_f, ↓reduceIte, C.2.2.1.1]
    · have e := (r.thr (x := 0)).2.2.2.2.1.1
      simp (disch := omega) only [m_X11_count, sq_eq, gd_t, if_f, ↓reduceIte, e]
  by_cases q8 : v = 8
  · subst q8
    refine mk (mF M) (by omega) ?_ (fun D r => ?_)
    · simp (disch := omega) only [m_X10_count, gd_t, if_f, ↓reduceIte, C.2.2.1.2.1]
    · have e := (r.thr (x := 0)).2.2.2.2.1.2.1
      simp (disch := omega) only [m_X11_count, sq_eq, gd_t, if_f, ↓reduceIte, e]
  by_cases q9 : v = 9
  · subst q9
    refine mk (mWL M : Int) (by omega) ?_ (fun D r => ?_)
    · simp (disch := omega) only [m_X10_count, gd_t, if_f, ↓reduceIte, C.2.2.2.2.1]
    · have e := (r.thr (x := 0)).2.2.2.2.2.2.1.1
      simp (disch := omega) only [m_X11_count, sq_eq, gd_t, if_f, ↓reduceIte, e]
  by_cases q10 : v = 10
  · subst q10
    refine mk (evrM M) (by omega) ?_ (fun D r => ?_)
    · simp (disch := omega) only [m_X10_count, gd_t, if_f, ↓reduceIte, cls_everybody O C, ob_some]
    · simp (disch := omega) only [m_X11_count, sq_eq, gd_t, if_f, ↓reduceIte, ref_everybody (r.thr (x := 0))]
  · refine mk (-1) (by omega) ?_ (fun D r => ?_)
    · simp only [m_X10_count, gd_t x1, if_neg q0, if_neg q1, if_neg q2, if_neg q3, if_neg q4, if_neg q5, if_neg q6, if_neg q7, if_neg q8, if_neg q9, if_neg q10]
    · simp only [m_X11_count, sq_eq, gd_t x1, if_neg q0, if_neg q1, if_neg q2, if_neg q3, if_neg q4, if_neg q5, if_neg q6, if_neg q7, if_neg q8, if_neg q9, if_neg q10]
