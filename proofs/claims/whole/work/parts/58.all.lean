/-! ===== all dots of a level ===== -/
theorem sumTo_add (f g : Nat → Int) (n : Nat) : sumTo (fun k => f k + g k) n = sumTo f n + sumTo g n := by
  induction n with
  | zero => rfl
  | succ n ih =>
    simp only [sumTo]
    rw [ih]
    omega
theorem sumTo_zero (n : Nat) : sumTo (fun _ => 0) n = 0 := by
  induction n with
  | zero => rfl
  | succ n ih => rw [sumTo, ih]; rfl
theorem sum_swap (f : Nat → Nat → Int) (m n : Nat) : sumTo (fun z => sumTo (fun g => f z g) n) m = sumTo (fun g => sumTo (fun z => f z g) m) n := by
  induction m with
  | zero => simp only [sumTo]; rw [sumTo_zero]
  | succ m ih =>
    simp only [sumTo]
    rw [ih, sumTo_add]
theorem sum_pick (a : Nat → Int) {n g0 : Nat} (h : g0 < n) : sumTo (fun g => if g = g0 then a g else 0) n = a g0 := by
  have z : ∀ m, m ≤ g0 → sumTo (fun g => if g = g0 then a g else 0) m = 0 := by
    intro m
    induction m with
    | zero => intro _; rfl
    | succ m ih =>
      intro hm
      rw [sumTo, ih (by omega)]
      simp (disch := omega) only [if_f]
      rfl
  have y : ∀ m, g0 < m → sumTo (fun g => if g = g0 then a g else 0) m = a g0 := by
    intro m
    induction m with
    | zero => intro h; omega
    | succ m ih =>
      intro hm
      rw [sumTo]
      by_cases q : m = g0
      · subst q
        rw [z _ (Nat.le_refl _)]
        simp
      · rw [ih (by omega)]
        simp only [if_f q, Int.add_zero]
  exact y n h
def sgM (M : MS) (u : Int) (l g : Nat) : Int := sumTo (fun z => dotM M u g l z) (mZ M)
theorem sgM_b {M : MS} (O : MOK M) {u : Int} (hu : 0 < u) (l : Nat) {g : Nat} (hg : g < 3) : 0 ≤ sgM M u l g ∧ sgM M u l g ≤ 799992 := (inM_b O hu hg (l + 1)).2 (mZ M) O.2.2.1
def slM (M : MS) (u : Int) (l : Nat) : Int := sumTo (sgM M u l) (mG M)
theorem slM_b {M : MS} (O : MOK M) {u : Int} (hu : 0 < u) (l : Nat) : 0 ≤ slM M u l ∧ slM M u l ≤ 2399976 := by
  have g3 := O.2.2.2.1
  have := sumTo_bounds (f := sgM M u l) (n := mG M) (a := 0) (b := 799992) (fun g hg => sgM_b O hu l (by omega))
  unfold slM
  omega
theorem X8_sumOfGroup {D : DT} {t l g : Nat} {M : MS} (O : MOK M) (T : TallyRep D t M) (hl : l < 5) (hg : g < mG M) : m_X8_sumOfGroup t (g : Int) (l : Int) D = some (sgM M (mU M) l g) := by
  have z8 := O.2.2.1
  have g3 := O.2.2.2.1
  have hZ := T.2.1.1
  refine loop_for (st := fun k => (sumTo (fun z => dotM M (mU M) g l z) k, (k : Int))) (mZ M) (fun k hk => ?_) ?_
  · have e := (T.2.2.1 l g k hl hg hk).1
    have k1 : ((l : Int) * 3 + (g : Int)) * 8 + (k : Int) = (((l * 3 + g) * 8 + k : Nat) : Int) := by omega
    have c1 : ((k + 1 : Nat) : Int) = (k : Int) + 1 := rfl
    simp (disch := omega) only [hZ, gd_t, if_t, m_X8_dotsOf, m_X8_placeOf, ob_some, k1, tn, e, sumTo, c1]
  · simp (disch := omega) only [hZ, gd_t, if_f, done_some, sgM]
theorem X8_sumOfLevel {D : DT} {t l : Nat} {M : MS} (O : MOK M) (T : TallyRep D t M) (hl : l < 5) : m_X8_sumOfLevel t (l : Int) D = some (slM M (mU M) l) := by
  have g3 := O.2.2.2.1
  have hG := T.2.1.2
  refine loop_for (st := fun k => (sumTo (sgM M (mU M) l) k, (k : Int))) (mG M) (fun k hk => ?_) ?_
  · have e := X8_sumOfGroup O T hl hk
    have c1 : ((k + 1 : Nat) : Int) = (k : Int) + 1 := rfl
    simp (disch := omega) only [hG, gd_t, if_t, e, ob_some, sumTo, c1]
  · simp (disch := omega) only [hG, gd_t, if_f, done_some, slM]
/-- the reference: of a group, or of all (-1) -/
theorem X11_allDots {D : DT} {l : Nat} {M : MS} {u v : Int} (R : RInv D M) (hK : ColsOK D M u 5 0) (hl : l < 5) (hv : InR v) : m_X11_allDots v (l : Int) D = some (sumTo (fun z => sumTo (fun g => if v = -1 ∨ (g : Int) = v then dotM M u g l z else 0) (mG M)) (mZ M)) := by
  have O := R.1
  have z8 := O.2.2.1
  have g3 := O.2.2.2.1
  have hZ := R.2.1.2.1
  have hG := R.2.1.2.2
  refine loop_for (st := fun k => (sumTo (fun z => sumTo (fun g => if v = -1 ∨ (g : Int) = v then dotM M u g l z else 0) (mG M)) k, (k : Int))) (mZ M) (fun k hk => ?_) ?_
  · generalize hS : sumTo (fun z => sumTo (fun g => if v = -1 ∨ (g : Int) = v then dotM M u g l z else 0) (mG M)) k = S
    have inner : m_X11_allDots_17 v (l : Int) (k : Int) D (S, 0) = some (.inl (S + sumTo (fun g => if v = -1 ∨ (g : Int) = v then dotM M u g l k else 0) (mG M), (k : Int) + 1)) := by
      have := loop_for (f := fun s : Int × Int =>
        gd ((0 : Int) ≤ 3 ∧ 3 < (4 : Int)) (
        gd (InR s.2 ∧ InR (D.2 76 (Int.toNat 3))) (if s.2 < (D.2 76 (Int.toNat 3)) then (
          gd (InR v ∧ InR (-1)) (if v = (-1) then (
            (m_X11_dotsAt (l : Int) (k : Int) s.2 D).bind (fun r49 =>
            gd ((0 : Int) ≤ r49 ∧ r49 < (120 : Int)) (
            some (.inl ((s.1 + (D.2 90 (Int.toNat r49))), (s.2 + 1)))
            ))
          ) else (
            gd (InR s.2 ∧ InR v) (if s.2 = v then (
              (m_X11_dotsAt (l : Int) (k : Int) s.2 D).bind (fun r49 =>
              gd ((0 : Int) ≤ r49 ∧ r49 < (120 : Int)) (
              some (.inl ((s.1 + (D.2 90 (Int.toNat r49))), (s.2 + 1)))
              ))
            ) else (
              some (.inl ((s.1 + 0), (s.2 + 1)))
            ))
          ))
        ) else (
          done (
          some ((.inl (s.1, ((k : Int) + 1))) : (Int × Int) ⊕ Int)
          )
        ))
        )) (st := fun g => (S + sumTo (fun g => if v = -1 ∨ (g : Int) = v then dotM M u g l k else 0) g, (g : Int))) (r := (.inl (S + sumTo (fun g => if v = -1 ∨ (g : Int) = v then dotM M u g l k else 0) (mG M), (k : Int) + 1) : (Int × Int) ⊕ Int)) (mG M) (fun g hg => by
          have e1 := ((hK l g hl hg (Or.inl hl)).1 k hk).1
          have k1 : 3 * (8 * (l : Int) + (k : Int)) + (g : Int) = ((3 * (8 * l + k) + g : Nat) : Int) := by omega
          have c1 : ((g + 1 : Nat) : Int) = (g : Int) + 1 := rfl
          by_cases q : v = -1
          · simp (disch := omega) only [t3, hG, gd_t, if_t, m_X11_dotsAt, ob_some, k1, tn, e1, sumTo, c1, Int.add_assoc]
          · by_cases q2 : (g : Int) = v
            · simp (disch := omega) only [t3, hG, gd_t, if_t, if_f q, if_t q2, m_X11_dotsAt, ob_some, k1, tn, e1, sumTo, if_t (Or.inr q2 : v = -1 ∨ (g : Int) = v), c1, Int.add_assoc]
            · have nq : ¬ (v = -1 ∨ (g : Int) = v) := fun h => h.elim q q2
              simp (disch := omega) only [t3, hG, gd_t, if_t, if_f q, if_f q2, sumTo, if_f nq, c1, Int.add_assoc]) (by
          simp (disch := omega) only [t3, hG, gd_t, if_f, done_some])
      unfold m_X11_allDots_17
      simp only [sumTo, Int.add_zero] at this ⊢
      exact this
    have c1 : ((k + 1 : Nat) : Int) = (k : Int) + 1 := rfl
    simp (disch := omega) only [m_X11_zones, t2, hZ, ob_some, gd_t, if_t, inner, sumTo, hS, c1]
  · simp (disch := omega) only [m_X11_zones, t2, hZ, ob_some, gd_t, if_f, done_some]
