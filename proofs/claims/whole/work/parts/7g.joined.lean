/-! ===== step: joined ===== -/
def ownJ (ow : Nat → Int) (a b : Int) (n : Nat) : Nat → Int := fun c => if c < n ∧ ow c = b then a else ow c
def pplJ (P : Nat → Int) (a b n : Nat) : Nat → Int := fun k => if k % 3 < n ∧ k / 3 = a then min 99999 (P k + P (3 * b + k % 3)) else if k % 3 < n ∧ k / 3 = b then 0 else P k
def joiM (M : MS) (a b : Nat) : MS := (M.1, (ownJ (mO M) (a : Int) (b : Int) (nC M), mS M), (pplJ (mP M) a b (mG M), M.2.2.1.2), M.2.2.2)
theorem MOK.joi {M : MS} (O : MOK M) {a b : Nat} (ha : a < mZ M) (hb : b < mZ M) : MOK (joiM M a b) := by
  have g3 := O.2.2.2.1
  have z8 := O.2.2.1
  obtain ⟨o1, o2, o3, o4, o5, o6, o7⟩ := O
  refine ⟨o1, o2, o3, o4, fun c hc => ⟨?_, (o5 c hc).2⟩, fun j hj => ?_, o7⟩
  · show -1 ≤ ownJ (mO M) (a : Int) (b : Int) (nC M) c ∧ ownJ (mO M) (a : Int) (b : Int) (nC M) c < (mZ M : Int)
    unfold ownJ
    have := (o5 c hc).1
    split
    · omega
    · exact this
  · show 0 ≤ pplJ (mP M) a b (mG M) j ∧ pplJ (mP M) a b (mG M) j ≤ 99999
    unfold pplJ
    have pj := o6 j hj
    have pb := o6 (3 * b + j % 3) (by omega)
    split
    · omega
    · split
      · omega
      · exact pj
theorem joi_isL {M : MS} {a b y : Nat} (h : y ≠ a ∧ y ≠ b) : isL (joiM M a b) (y : Int) = isL M (y : Int) := by
  funext c
  unfold isL
  show (ownJ (mO M) (a : Int) (b : Int) (nC M) c == (y : Int) && mS M c == 0) = _
  unfold ownJ
  split
  · rename_i q
    have e1 : ((a : Int) == (y : Int)) = false := by simp; omega
    have e2 : (mO M c == (y : Int)) = false := by rw [q.2]; simp; omega
    rw [e1, e2]
  · rfl
theorem ownJ_s (ow : Nat → Int) (a b : Int) (n c : Nat) : ownJ ow a b (n + 1) c = if c = n then (if ow c = b then a else ow c) else ownJ ow a b n c := by
  unfold ownJ
  by_cases q : c = n
  · rw [if_pos q]
    by_cases q2 : ow c = b
    · rw [if_pos ⟨by omega, q2⟩, if_pos q2]
    · rw [if_neg (fun h => q2 h.2), if_neg q2]
  · rw [if_neg q]
    by_cases q2 : c < n ∧ ow c = b
    · rw [if_pos q2, if_pos ⟨by omega, q2.2⟩]
    · rw [if_neg q2, if_neg (fun h => q2 ⟨by omega, h.2⟩)]
theorem pplJ_s {P : Nat → Int} {a b n : Nat} (hab : a ≠ b) (hn : n < 3) (j : Nat) : pplJ P a b (n + 1) j = if j = 3 * a + n then min 99999 (P j + P (3 * b + n)) else if j = 3 * b + n then 0 else pplJ P a b n j := by
  unfold pplJ
  by_cases q1 : j = 3 * a + n
  · have e : j % 3 = n := by omega
    rw [if_pos q1, if_pos (by omega), e]
  · rw [if_neg q1]
    by_cases q2 : j = 3 * b + n
    · rw [if_pos q2, if_neg (by omega), if_pos (by omega)]
    · rw [if_neg q2]
      by_cases q3 : j % 3 < n ∧ j / 3 = a
      · rw [if_pos q3, if_pos (by omega)]
      · rw [if_neg q3, if_neg (by omega)]
        by_cases q4 : j % 3 < n ∧ j / 3 = b
        · rw [if_pos q4, if_pos (by omega)]
        · rw [if_neg q4, if_neg (by omega)]
theorem pplJ_0 (P : Nat → Int) (a b : Nat) : pplJ P a b 0 = P := by
  funext j
  unfold pplJ
  rw [if_neg (by omega), if_neg (by omega)]
theorem X1_join {D : DT} {hc a b : Nat} {M : MS} (O : MOK M) (C : ChartRep D hc M) (ha : a < mZ M) (hb : b < mZ M) (hab : a ≠ b) : ∃ D', m_X1_join hc (a : Int) (b : Int) D = some D' ∧ ChartRep D' hc (joiM M a b) ∧ D'.1 = D.1 ∧ ∀ q, q ≠ hc + 1 → q ≠ hc + 5 → D'.2 q = D.2 q := by
  have n4 := nCb O
  have z8 := O.2.2.1
  have g3 := O.2.2.2.1
  obtain ⟨⟨⟨c1, c1'⟩, c2, c3⟩, ⟨c4, c5⟩, c6, c7⟩ := C
  have people : ∀ E : DT, E.1 = D.1 → E.2 (hc + 5) = D.2 (hc + 5) → ∃ F, m_X1_join_35 hc (a : Int) (b : Int) (0, E) = some F ∧ F.1 = D.1 ∧ (∀ q, q ≠ hc + 5 → F.2 q = E.2 q) ∧ ∀ k, (k % 3 < mG M ∧ k / 3 < mZ M) → F.2 (hc + 5) k = pplJ (mP M) a b (mG M) k := fun E hE1 hE2 => by
    unfold m_X1_join_35
    obtain ⟨s', ⟨i1, i2, i3, i4⟩, e⟩ := loop_inv (f := fun s : Int × DT =>
      gd (InR s.1 ∧ InR (s.2.1 hc 3)) (if s.1 < (s.2.1 hc 3) then (
        (m_X1_livingIn hc (a : Int) s.1 s.2).bind (fun r49 =>
        (m_X1_livingIn hc (b : Int) s.1 s.2).bind (fun r55 =>
        (m_X1_settle hc (a : Int) s.1 (r49 + r55) s.2).bind (fun D59 =>
        (m_X1_settle hc (b : Int) s.1 0 D59).bind (fun D66 =>
        some ((.inl ((s.1 + 1), D66)) : (Int × DT) ⊕ DT)
        ))))
      ) else (
        done (
        some s.2
        )
      ))) (fun g s => s.1 = (g : Int) ∧ s.2.1 = D.1 ∧ (∀ q, q ≠ hc + 5 → s.2.2 q = E.2 q) ∧ ∀ k, (k % 3 < mG M ∧ k / 3 < mZ M) → s.2.2 (hc + 5) k = pplJ (mP M) a b g k) (mG M) (s := (0, E)) ⟨rfl, hE1, fun _ _ => rfl, fun k hk => by rw [hE2, pplJ_0]; exact c6 k hk⟩ (fun g s hg ⟨a1, a2, a3, a4⟩ => by
        have eG : s.2.1 hc 3 = (mG M : Int) := by rw [a2]; exact c5
        have hg3 : g < 3 := by omega
        have pa : pplJ (mP M) a b g (3 * a + g) = mP M (3 * a + g) := by
          unfold pplJ
          rw [if_neg (by omega), if_neg (by omega)]
        have pb : pplJ (mP M) a b g (3 * b + g) = mP M (3 * b + g) := by
          unfold pplJ
          rw [if_neg (by omega), if_neg (by omega)]
        have e1 := X1_living (D := s.2) (hc := hc) (show a < 8 by omega) hg3
        rw [a4 _ (by omega), pa] at e1
        have e2 := X1_living (D := s.2) (hc := hc) (show b < 8 by omega) hg3
        rw [a4 _ (by omega), pb] at e2
        have pab := O.p (k := 3 * a + g) (by omega)
        have pbb := O.p (k := 3 * b + g) (by omega)
        have e3 := X1_settle (D := s.2) (hc := hc) (z := a) (g := g) (by omega) hg3 (v := mP M (3 * a + g) + mP M (3 * b + g)) (by omega)
        have e4 := X1_settle (D := sA s.2 (hc + 5) (3 * a + g) (min 99999 (mP M (3 * a + g) + mP M (3 * b + g)))) (hc := hc) (z := b) (g := g) (by omega) hg3 (v := 0) (by omega)
        refine ⟨((g : Int) + 1, sA (sA s.2 (hc + 5) (3 * a + g) (min 99999 (mP M (3 * a + g) + mP M (3 * b + g)))) (hc + 5) (3 * b + g) (min 99999 0)), ?_, rfl, a2, fun q hq => ?_, fun k hk => ?_⟩
        · simp (disch := omega) only [a1, eG, gd_t, if_t, e1, e2, ob_some, e3, e4]
        · funext j
          rw [sA2, if_neg (fun h => hq h.1), sA2, if_neg (fun h => hq h.1), a3 q hq]
        · rw [pplJ_s hab hg3, sA2]
          by_cases q1 : k = 3 * b + g
          · rw [if_pos ⟨rfl, q1⟩, if_neg (by omega), if_pos q1]
            rfl
          · rw [if_neg (fun h => q1 h.2), sA2]
            by_cases q2 : k = 3 * a + g
            · rw [if_pos ⟨rfl, q2⟩, if_pos q2, q2]
            · rw [if_neg (fun h => q2 h.2), if_neg q2, if_neg q1]
              exact a4 k hk)
    refine ⟨s'.2, ?_, i2, i3, i4⟩
    rw [e]
    refine loopF_inr ?_
    have eG : s'.2.1 hc 3 = (mG M : Int) := by rw [i2]; exact c5
    simp (disch := omega) only [i1, eG, gd_t, if_f, done_some]
  have owners : ∃ E, m_X1_join_2 hc (a : Int) (b : Int) (0, D) = m_X1_join_35 hc (a : Int) (b : Int) (0, E) ∧ E.1 = D.1 ∧ (∀ q, q ≠ hc + 1 → E.2 q = D.2 q) ∧ ∀ c, c < nC M → E.2 (hc + 1) c = ownJ (mO M) (a : Int) (b : Int) (nC M) c := by
    unfold m_X1_join_2
    obtain ⟨s', ⟨i1, i2, i3, i4⟩, e⟩ := loop_inv (f := fun s : Int × DT =>
      (m_X1_cells hc s.2).bind (fun r4 =>
      gd (InR s.1 ∧ InR r4) (if s.1 < r4 then (
        gd ((0 : Int) ≤ s.1 ∧ s.1 < (384 : Int)) (
        gd (InR (s.2.2 (hc + 1) (Int.toNat s.1)) ∧ InR (b : Int)) (if (s.2.2 (hc + 1) (Int.toNat s.1)) = (b : Int) then (
          gd ((0 : Int) ≤ s.1 ∧ s.1 < (384 : Int)) (sq (sA s.2 (hc + 1) (Int.toNat s.1) (a : Int)) (fun D26 =>
          some (.inl ((s.1 + 1), D26))
          ))
        ) else (
          some (.inl ((s.1 + 1), s.2))
        ))
        )
      ) else (
        done (
        m_X1_join_35 hc (a : Int) (b : Int) (0, s.2)
        )
      ))
      )) (fun k s => s.1 = (k : Int) ∧ s.2.1 = D.1 ∧ (∀ q, q ≠ hc + 1 → s.2.2 q = D.2 q) ∧ ∀ c, c < nC M → s.2.2 (hc + 1) c = ownJ (mO M) (a : Int) (b : Int) k c) (nC M) (s := (0, D)) ⟨rfl, rfl, fun _ _ => rfl, fun c hcc => by
        unfold ownJ
        rw [if_neg (by omega)]
        exact (c3 c hcc).1⟩ (fun k s hk ⟨a1, a2, a3, a4⟩ => by
        have ec : m_X1_cells hc s.2 = some (nC M : Int) := by
          simp only [m_X1_cells, a2, c1, c1']
          show some ((mW M : Int) * (mH M : Int)) = some ((mW M * mH M : Nat) : Int)
          rw [Int.natCast_mul]
        have eo : s.2.2 (hc + 1) k = mO M k := by
          rw [a4 k hk]
          unfold ownJ
          rw [if_neg (by omega)]
        have ob := (O.2.2.2.2.1 _ hk).1
        by_cases q : mO M k = (b : Int)
        · refine ⟨((k : Int) + 1, sA s.2 (hc + 1) k (a : Int)), ?_, rfl, a2, fun q' hq' => ?_, fun c hcc => ?_⟩
          · simp (disch := omega) only [a1, ec, ob_some, gd_t, if_t, tn, eo, if_t q, sq_eq]
          · funext j
            rw [sA2, if_neg (fun h => hq' h.1), a3 q' hq']
          · rw [sA2, ownJ_s]
            by_cases qc : c = k
            · rw [if_pos ⟨rfl, qc⟩, if_pos qc, qc, if_pos q]
            · rw [if_neg (fun h => qc h.2), if_neg qc]
              exact a4 c hcc
        · refine ⟨((k : Int) + 1, s.2), ?_, rfl, a2, a3, fun c hcc => ?_⟩
          · simp (disch := omega) only [a1, ec, ob_some, gd_t, if_t, tn, eo, if_f q]
          · show s.2.2 (hc + 1) c = _
            rw [ownJ_s]
            by_cases qc : c = k
            · rw [if_pos qc, qc, if_neg q]
              exact eo
            · rw [if_neg qc]
              exact a4 c hcc)
    refine ⟨s'.2, ?_, i2, i3, i4⟩
    have ec : m_X1_cells hc s'.2 = some (nC M : Int) := by
      simp only [m_X1_cells, i2, c1, c1']
      show some ((mW M : Int) * (mH M : Int)) = some ((mW M * mH M : Nat) : Int)
      rw [Int.natCast_mul]
    rw [e]
    cases hh : m_X1_join_35 hc (a : Int) (b : Int) (0, s'.2) with
    | none =>
      refine loopF_none ?_
      simp (disch := omega) only [i1, ec, ob_some, gd_t, if_f, hh]
      rfl
    | some v =>
      refine loopF_inr ?_
      simp (disch := omega) only [i1, ec, ob_some, gd_t, if_f, hh, done_some]
  obtain ⟨E, o1, o2, o3, o4⟩ := owners
  obtain ⟨F, f1, f2, f3, f4⟩ := people E o2 (o3 _ (by omega))
  refine ⟨F, by unfold m_X1_join; rw [o1, f1], ⟨⟨by rw [f2]; exact ⟨c1, c1'⟩, c2, fun c hcc => ?_⟩, by rw [f2]; exact ⟨c4, c5⟩, f4, ?_⟩, f2, fun q h1 h2 => by rw [f3 q h2, o3 q h1]⟩
  · obtain ⟨-, d2, d3, d4⟩ := c3 c hcc
    rw [f3 (hc + 1) (by omega), f3 (hc + 2) (by omega), f3 (hc + 3) (by omega), f3 (hc + 4) (by omega), o3 (hc + 2) (by omega), o3 (hc + 3) (by omega), o3 (hc + 4) (by omega)]
    exact ⟨o4 c hcc, d2, d3, d4⟩
  · rw [f3 (hc + 7) (by omega), f3 (hc + 6) (by omega), o3 (hc + 7) (by omega), o3 (hc + 6) (by omega)]
    exact c7
def szoM (M : MS) (l z : Nat) : Int := sumTo (fun g => dotM M (mU M) g l z) (mG M)
theorem szo_b {M : MS} (O : MOK M) (l : Nat) {z : Nat} (hz : z < 8) : 0 ≤ szoM M l z ∧ szoM M l z ≤ 2399976 := by
  have g3 := O.2.2.2.1
  have ub := O.ufx
  have := sumTo_bounds (f := fun g => dotM M (mU M) g l z) (n := mG M) (a := 0) (b := 799992) (fun g hg => dotM_b O (u := mU M) (by omega) (by omega) l hz)
  unfold szoM
  omega
theorem X8_sumOfZone {D : DT} {t l z : Nat} {M : MS} (O : MOK M) (T : TallyRep D t M) (hl : l < 5) (hz : z < mZ M) : m_X8_sumOfZone t (z : Int) (l : Int) D = some (szoM M l z) := by
  have z8 := O.2.2.1
  have g3 := O.2.2.2.1
  have hG := T.2.1.2
  refine loop_for (st := fun k => (sumTo (fun g => dotM M (mU M) g l z) k, (k : Int))) (mG M) (fun k hk => ?_) ?_
  · have e := (T.2.2.1 l k z hl hk hz).1
    have k1 : ((l : Int) * 3 + (k : Int)) * 8 + (z : Int) = (((l * 3 + k) * 8 + z : Nat) : Int) := by omega
    have c1 : ((k + 1 : Nat) : Int) = (k : Int) + 1 := rfl
    simp (disch := omega) only [hG, gd_t, if_t, m_X8_dotsOf, m_X8_placeOf, ob_some, k1, tn, e, sumTo, c1]
  · simp (disch := omega) only [hG, gd_t, if_f, done_some, szoM]
theorem ref_joined {D : DT} {a b l : Nat} {M : MS} (R : RInv D M) (ha : a < mZ M) (hb : b < mZ M) (hab : a ≠ b) (hl5 : l < 5) : ∃ E, (m_X11_keepsAll D).bind (fun D50 => m_X11_joined_56 (a : Int) (b : Int) (l : Int) (0, D50)) = some (szoM (joiM M a b) l a, E) ∧ RInv E M ∧ FrR D E ∧ E.1 = D.1 := by
  have O := R.1
  have n4 := nCb O
  have z8 := O.2.2.1
  have g3 := O.2.2.2.1
  have ub := O.ufx
  have OM := O.joi ha hb
  obtain ⟨H, h1, h2, h3, h4, h5⟩ := X11_keepsAll D
  have RH : RInv H M := R.keep (fun q hq => h3 q (by
    simp only [List.mem_cons, List.not_mem_nil, or_false] at hq
    omega) (by
    simp only [List.mem_cons, List.not_mem_nil, or_false] at hq
    omega)) (fun k _ => by rw [h2])
  have ec0 : ∀ X : DT, X.2 76 = H.2 76 → m_X11_cells X = some (nC M : Int) := fun X hX => by
    have m1 := RH.2.1.1.1
    rw [← hX] at m1
    simp (disch := omega) only [m_X11_cells, gd_t, t0, t1, m1.1, m1.2]
    show some ((mW M : Int) * (mH M : Int)) = some ((mW M * mH M : Nat) : Int)
    rw [Int.natCast_mul]
  have owners : ∃ E, m_X11_joined_56 (a : Int) (b : Int) (l : Int) (0, H) = m_X11_joined_93 (a : Int) (b : Int) (l : Int) (0, E) ∧ E.1 = H.1 ∧ (∀ q, q ≠ 78 → E.2 q = H.2 q) ∧ ∀ c, c < nC M → E.2 78 c = ownJ (mO M) (a : Int) (b : Int) (nC M) c := by
    unfold m_X11_joined_56
    obtain ⟨s', ⟨i1, i2, i3, i4⟩, e⟩ := loop_inv (f := fun s : Int × DT =>
      (m_X11_cells s.2).bind (fun r59 =>
      gd (InR s.1 ∧ InR r59) (if s.1 < r59 then (
        gd ((0 : Int) ≤ s.1 ∧ s.1 < (384 : Int)) (
        gd (InR (s.2.2 78 (Int.toNat s.1)) ∧ InR (b : Int)) (if (s.2.2 78 (Int.toNat s.1)) = (b : Int) then (
          gd ((0 : Int) ≤ s.1 ∧ s.1 < (384 : Int)) (sq (sA s.2 78 (Int.toNat s.1) (a : Int)) (fun D83 =>
          some (.inl ((s.1 + 1), D83))
          ))
        ) else (
          some (.inl ((s.1 + 1), s.2))
        ))
        )
      ) else (
        done (
        m_X11_joined_93 (a : Int) (b : Int) (l : Int) (0, s.2)
        )
      ))
      )) (fun k s => s.1 = (k : Int) ∧ s.2.1 = H.1 ∧ (∀ q, q ≠ 78 → s.2.2 q = H.2 q) ∧ ∀ c, c < nC M → s.2.2 78 c = ownJ (mO M) (a : Int) (b : Int) k c) (nC M) (s := (0, H)) ⟨rfl, rfl, fun _ _ => rfl, fun c hcc => by
        unfold ownJ
        rw [if_neg (by omega)]
        exact (RH.2.1.1.2.2 c hcc).1⟩ (fun k s hk ⟨a1, a2, a3, a4⟩ => by
        have ec := ec0 s.2 (a3 76 (by omega))
        have eo : s.2.2 78 k = mO M k := by
          rw [a4 k hk]
          unfold ownJ
          rw [if_neg (by omega)]
        have ob := (O.2.2.2.2.1 _ hk).1
        by_cases q : mO M k = (b : Int)
        · refine ⟨((k : Int) + 1, sA s.2 78 k (a : Int)), ?_, rfl, a2, fun q' hq' => ?_, fun c hcc => ?_⟩
          · simp (disch := omega) only [a1, ec, ob_some, gd_t, if_t, tn, eo, if_t q, sq_eq]
          · funext j
            rw [sA2, if_neg (fun h => hq' h.1), a3 q' hq']
          · rw [sA2, ownJ_s]
            by_cases qc : c = k
            · rw [if_pos ⟨rfl, qc⟩, if_pos qc, qc, if_pos q]
            · rw [if_neg (fun h => qc h.2), if_neg qc]
              exact a4 c hcc
        · refine ⟨((k : Int) + 1, s.2), ?_, rfl, a2, a3, fun c hcc => ?_⟩
          · simp (disch := omega) only [a1, ec, ob_some, gd_t, if_t, tn, eo, if_f q]
          · show s.2.2 78 c = _
            rw [ownJ_s]
            by_cases qc : c = k
            · rw [if_pos qc, qc, if_neg q]
              exact eo
            · rw [if_neg qc]
              exact a4 c hcc)
    refine ⟨s'.2, ?_, i2, i3, i4⟩
    have ec := ec0 s'.2 (i3 76 (by omega))
    rw [e]
    cases hh : m_X11_joined_93 (a : Int) (b : Int) (l : Int) (0, s'.2) with
    | none =>
      refine loopF_none ?_
      simp (disch := omega) only [i1, ec, ob_some, gd_t, if_f, hh]
      rfl
    | some v =>
      refine loopF_inr ?_
      simp (disch := omega) only [i1, ec, ob_some, gd_t, if_f, hh, done_some]
  obtain ⟨E, o1, o2, o3, o4⟩ := owners
  have people : ∃ F, m_X11_joined_93 (a : Int) (b : Int) (l : Int) (0, E) = ((m_X11_laysOrders F).bind (fun D173 => (m_X11_laysDots (D173.1 73 14) D173).bind (fun D181 => m_X11_joined_190 (a : Int) (l : Int) D181 (0, 0)))) ∧ F.1 = H.1 ∧ (∀ q, q ≠ 82 → F.2 q = E.2 q) ∧ ∀ k, k < 24 → F.2 82 k = pplJ (mP M) a b (mG M) k := by
    unfold m_X11_joined_93
    obtain ⟨s', ⟨i1, i2, i3, i4⟩, e⟩ := loop_inv (f := fun s : Int × DT =>
      gd ((0 : Int) ≤ 3 ∧ 3 < (4 : Int)) (
      gd (InR s.1 ∧ InR (s.2.2 76 (Int.toNat 3))) (if s.1 < (s.2.2 76 (Int.toNat 3)) then (
        gd ((0 : Int) ≤ ((3 * (a : Int)) + s.1) ∧ ((3 * (a : Int)) + s.1) < (24 : Int)) (
        gd ((0 : Int) ≤ ((3 * (b : Int)) + s.1) ∧ ((3 * (b : Int)) + s.1) < (24 : Int)) (
        gd (InR ((s.2.2 82 (Int.toNat ((3 * (a : Int)) + s.1))) + (s.2.2 82 (Int.toNat ((3 * (b : Int)) + s.1)))) ∧ InR 99999) (if 99999 < ((s.2.2 82 (Int.toNat ((3 * (a : Int)) + s.1))) + (s.2.2 82 (Int.toNat ((3 * (b : Int)) + s.1)))) then (
          gd ((0 : Int) ≤ ((3 * (a : Int)) + s.1) ∧ ((3 * (a : Int)) + s.1) < (24 : Int)) (sq (sA s.2 82 (Int.toNat ((3 * (a : Int)) + s.1)) 99999) (fun D153 =>
          gd ((0 : Int) ≤ ((3 * (b : Int)) + s.1) ∧ ((3 * (b : Int)) + s.1) < (24 : Int)) (sq (sA D153 82 (Int.toNat ((3 * (b : Int)) + s.1)) 0) (fun D165 =>
          some (.inl ((s.1 + 1), D165))
          ))))
        ) else (
          gd ((0 : Int) ≤ ((3 * (a : Int)) + s.1) ∧ ((3 * (a : Int)) + s.1) < (24 : Int)) (sq (sA s.2 82 (Int.toNat ((3 * (a : Int)) + s.1)) ((s.2.2 82 (Int.toNat ((3 * (a : Int)) + s.1))) + (s.2.2 82 (Int.toNat ((3 * (b : Int)) + s.1))))) (fun D153 =>
          gd ((0 : Int) ≤ ((3 * (b : Int)) + s.1) ∧ ((3 * (b : Int)) + s.1) < (24 : Int)) (sq (sA D153 82 (Int.toNat ((3 * (b : Int)) + s.1)) 0) (fun D165 =>
          some (.inl ((s.1 + 1), D165))
          ))))
        ))
        ))
      ) else (
        done (
        (m_X11_laysOrders s.2).bind (fun D173 =>
        (m_X11_laysDots (D173.1 73 14) D173).bind (fun D181 =>
        m_X11_joined_190 (a : Int) (l : Int) D181 (0, 0)
        ))
        )
      ))
      )) (fun g s => s.1 = (g : Int) ∧ s.2.1 = H.1 ∧ (∀ q, q ≠ 82 → s.2.2 q = E.2 q) ∧ ∀ k, k < 24 → s.2.2 82 k = pplJ (mP M) a b g k) (mG M) (s := (0, E)) ⟨rfl, o2, fun _ _ => rfl, fun k hk => by
        rw [pplJ_0]
        show E.2 82 k = _
        rw [o3 82 (by omega)]
        exact RH.2.2.1 k hk⟩ (fun g s hg ⟨a1, a2, a3, a4⟩ => by
        have eG : s.2.2 76 3 = (mG M : Int) := by rw [a3 76 (by omega), o3 76 (by omega)]; exact RH.2.1.2.2
        have hg3 : g < 3 := by omega
        have pa : pplJ (mP M) a b g (3 * a + g) = mP M (3 * a + g) := by
          unfold pplJ
          rw [if_neg (by omega), if_neg (by omega)]
        have pb : pplJ (mP M) a b g (3 * b + g) = mP M (3 * b + g) := by
          unfold pplJ
          rw [if_neg (by omega), if_neg (by omega)]
        have e1 := a4 (3 * a + g) (by omega)
        rw [pa] at e1
        have e2 := a4 (3 * b + g) (by omega)
        rw [pb] at e2
        have pab := O.p (k := 3 * a + g) (by omega)
        have pbb := O.p (k := 3 * b + g) (by omega)
        have ka : 3 * (a : Int) + (g : Int) = ((3 * a + g : Nat) : Int) := by omega
        have kb : 3 * (b : Int) + (g : Int) = ((3 * b + g : Nat) : Int) := by omega
        have nx : ∀ v, v = min 99999 (mP M (3 * a + g) + mP M (3 * b + g)) → (∀ q, q ≠ 82 → (sA (sA s.2 82 (3 * a + g) v) 82 (3 * b + g) 0).2 q = E.2 q) ∧ ∀ k, k < 24 → (sA (sA s.2 82 (3 * a + g) v) 82 (3 * b + g) 0).2 82 k = pplJ (mP M) a b (g + 1) k := fun v hv => by
          refine ⟨fun q hq => ?_, fun k hk => ?_⟩
          · funext j
            rw [sA2, if_neg (fun h => hq h.1), sA2, if_neg (fun h => hq h.1), a3 q hq]
          · rw [pplJ_s hab hg3, sA2]
            by_cases q1 : k = 3 * b + g
            · rw [if_pos ⟨rfl, q1⟩, if_neg (by omega), if_pos q1]
            · rw [if_neg (fun h => q1 h.2), sA2]
              by_cases q2 : k = 3 * a + g
              · rw [if_pos ⟨rfl, q2⟩, if_pos q2, q2]
                exact hv
              · rw [if_neg (fun h => q2 h.2), if_neg q2, if_neg q1]
                exact a4 k hk
        by_cases q : 99999 < mP M (3 * a + g) + mP M (3 * b + g)
        · refine ⟨((g : Int) + 1, sA (sA s.2 82 (3 * a + g) 99999) 82 (3 * b + g) 0), ?_, rfl, a2, nx _ (by omega)⟩
          simp (disch := omega) only [a1, t3, eG, gd_t, if_t, ka, kb, tn, e1, e2, if_t q, sq_eq]
        · refine ⟨((g : Int) + 1, sA (sA s.2 82 (3 * a + g) (mP M (3 * a + g) + mP M (3 * b + g))) 82 (3 * b + g) 0), ?_, rfl, a2, nx _ (by omega)⟩
          simp (disch := omega) only [a1, t3, eG, gd_t, if_t, ka, kb, tn, e1, e2, if_f q, sq_eq])
    refine ⟨s'.2, ?_, i2, i3, i4⟩
    have eG : s'.2.2 76 3 = (mG M : Int) := by rw [i3 76 (by omega), o3 76 (by omega)]; exact RH.2.1.2.2
    rw [e]
    cases hh : ((m_X11_laysOrders s'.2).bind (fun D173 => (m_X11_laysDots (D173.1 73 14) D173).bind (fun D181 => m_X11_joined_190 (a : Int) (l : Int) D181 (0, 0)))) with
    | none =>
      refine loopF_none ?_
      simp (disch := omega) only [i1, t3, eG, gd_t, if_f, hh]
      rfl
    | some v =>
      refine loopF_inr ?_
      simp (disch := omega) only [i1, t3, eG, gd_t, if_f, hh, done_some]
  obtain ⟨F, p1, p2, p3, p4⟩ := people
  have RM : RMap F (mW M) (mH M) (mO (joiM M a b)) (mS (joiM M a b)) := by
    refine ⟨?_, RH.2.1.1.2.1, fun c hc => ⟨?_, ?_⟩⟩
    · rw [p3 76 (by omega), o3 76 (by omega)]; exact RH.2.1.1.1
    · rw [p3 78 (by omega)]; exact o4 c hc
    · rw [p3 80 (by omega), o3 80 (by omega)]; exact (RH.2.1.1.2.2 c hc).2
  obtain ⟨G, g1, g2, g4⟩ := X11_laysOrders (M := joiM M a b) RM OM (by rw [p3 76 (by omega), o3 76 (by omega)]; exact RH.2.1.2.1)
  have Gk : ∀ q, (q ≠ 78 ∧ q ≠ 82 ∧ q ≠ 86 ∧ q ≠ 87 ∧ q ≠ 88 ∧ q ≠ 89) → G.2 q = H.2 q := fun q hq => by
    rw [g2.2 q (by omega), p3 q (by omega), o3 q (by omega)]
  have G1 : G.1 = H.1 := by rw [g2.1, p2]
  have RG : RInv G (joiM M a b) := by
    obtain ⟨c1, ⟨c2, c2', c2''⟩, c3, c4, c5, c6, c7, c8, c9⟩ := RH
    refine ⟨OM, ⟨g2.map RM, ?_, ?_⟩, fun k hk => ?_, ?_, by rw [G1]; exact c5, ?_, ?_, ?_, g4⟩
    · rw [Gk 76 (by omega)]; exact c2'
    · rw [Gk 76 (by omega)]; exact c2''
    · rw [g2.2 82 (by omega)]; exact p4 k hk
    · rw [Gk 84 (by omega)]; exact c4
    · rw [G1, Gk 74 (by omega)]; exact c6
    · rw [G1, Gk 101 (by omega)]; exact c7
    · rw [Gk 85 (by omega)]; exact c8
  have eu : G.1 73 14 = mU M := RG.2.2.2.2.1.1
  obtain ⟨I, i1, i2, i3⟩ := X11_laysDots RG (u := mU M) (by omega)
  have Ik : ∀ q, q ∈ [74, 76, 80, 84, 85, 101] → I.2 q = D.2 q := fun q hq => by
    simp only [List.mem_cons, List.not_mem_nil, or_false] at hq
    rw [i2.2 q (by omega), Gk q (by omega), h3 q (by omega) (by omega)]
  obtain ⟨J, j1, j2, j3, j4⟩ := X11_bringsBack (D := I) R (by rw [i2.1, G1, h2]) Ik (fun c hc => by rw [i2.2 97 (by omega), Gk 97 (by omega)]; exact h4 c hc) (fun k hk => by rw [i2.2 98 (by omega), Gk 98 (by omega)]; exact h5 k hk)
  have fin : m_X11_joined_190 (a : Int) (l : Int) I (0, 0) = some (szoM (joiM M a b) l a, J) := by
    have eG : I.2 76 3 = (mG M : Int) := by rw [Ik 76 (by simp)]; exact R.2.1.2.2
    refine loop_for (st := fun k => (sumTo (fun g => dotM (joiM M a b) (mU M) g l a) k, (k : Int))) (mG M) (fun k hk => ?_) ?_
    · have e := ((i3 l k hl5 hk (Or.inl hl5)).1 a ha).1
      have k1 : 3 * (8 * (l : Int) + (a : Int)) + (k : Int) = ((3 * (8 * l + a) + k : Nat) : Int) := by omega
      have c1 : ((k + 1 : Nat) : Int) = (k : Int) + 1 := rfl
      simp (disch := omega) only [t3, eG, gd_t, if_t, m_X11_dotsAt, ob_some, k1, tn, e, sumTo, c1]
    · have es : sumTo (fun g => dotM (joiM M a b) (mU M) g l a) (mG M) = szoM (joiM M a b) l a := rfl
      simp (disch := omega) only [t3, eG, gd_t, if_f, j1, ob_some, done_some, es]
  have J1 : J.1 = D.1 := by rw [j3, i2.1, G1, h2]
  refine ⟨J, ?_, j2, fun q hq => ⟨by rw [J1], ?_⟩, J1⟩
  · rw [h1]
    simp only [ob_some]
    rw [o1, p1, g1]
    simp only [ob_some, eu, i1, fin]
  · rw [j4 q (by omega), i2.2 q (by omega), Gk q (by omega), h3 q (by omega) (by omega)]
theorem step_joined : StepOK m_L_c37 := fun xs Ls s hx hs ⟨M, hC, hR⟩ => by
  have x1 := hx (Int.toNat (s.1 + 1))
  have x2 := hx (Int.toNat (s.1 + 2))
  have x3 := hx (Int.toNat (s.1 + 3))
  have O := hC.1
  have C := hC.2.1
  have z8 := O.2.2.1
  by_cases q1 : 0 ≤ xs (Int.toNat (s.1 + 1)) ∧ xs (Int.toNat (s.1 + 1)) < (mZ M : Int)
  · have a1 := cn_zone_t O C x1 q1
    by_cases q2 : 0 ≤ xs (Int.toNat (s.1 + 2)) ∧ xs (Int.toNat (s.1 + 2)) < (mZ M : Int)
    · have a2 := cn_zone_t O C x2 q2
      by_cases q3 : 0 ≤ xs (Int.toNat (s.1 + 3)) ∧ xs (Int.toNat (s.1 + 3)) < 5
      · have a3 := cn_level_t (D := s.2) x3 q3
        by_cases q4 : xs (Int.toNat (s.1 + 1)) = xs (Int.toNat (s.1 + 2))
        · have a4 := cn_two_f (D := s.2) x1 x2 q4
          refine comb_joined hx hs (sp := .inr 2) (by simp [spX]) (ClsX.same hC ?_) hR (RefX.same (c := 2) 0 rfl (fun v h => by cases h) (fun D r => ?_))
          · simp (disch := omega) only [m_X10_joined, a1, a2, a3, a4, bndN_inl, bndN_inr]
          · have y1 := rn_zone_t (r.thr (x := 0)) x1 q1
            have y2 := rn_zone_t (r.thr (x := 0)) x2 q2
            have y3 := rn_level_t (D := sF D 73 0 0) x3 q3
            simp (disch := omega) only [m_X11_joined, sq_eq, y1, y2, y3, bnd_some, gd_t, ↓reduceIte, if_t q4, rn_th_1, if_f, sFF]
        · have a4 := cn_two_t (D := s.2) x1 x2 q4
          obtain ⟨a, ha⟩ := nat_of q1.1
          obtain ⟨b, hb⟩ := nat_of q2.1
          obtain ⟨l, hl⟩ := nat_of q3.1
          rw [ha, hb] at q4 a4
          rw [ha] at q1 x1 a1
          rw [hb] at q2 x2 a2
          rw [hl] at q3 x3 a3
          have han : a < mZ M := by omega
          have hbn : b < mZ M := by omega
          have hl5 : l < 5 := by omega
          have hab : a ≠ b := fun h => q4 (by rw [h])
          have OM := O.joi han hbn
          have sb := szo_b OM l (z := a) (by omega)
          obtain ⟨D2, c1, c2, c3, c4, c5⟩ := X5_copyFrom hC
          obtain ⟨D3, s1, s2, s3, s4⟩ := X1_join O c2 han hbn hab
          have l1 := X5_landChanged D3 (p := 28) (z := a) (by omega)
          have l2 := X5_landChanged (frgL D3 28 a) (p := 28) (z := b) (by omega)
          have P := PlanOK.frg2 (p := 28) (a := a) (b := b) (M := M) OM s2 (by rw [s3]; exact c3) (c4.fr (fun q hq => ⟨by rw [s3], s4 q (by omega) (by omega)⟩)) rfl (fun y h1 h2 => joi_isL ⟨h1, h2⟩)
          have k3 : KpO D2 D3 28 54 := fun q hq => ⟨by rw [s3], s4 q (by omega) (by omega)⟩
          have k4 := frg2_kp D3 28 a b
          obtain ⟨D5, g1, g2, g3, g4⟩ := tallied_p P
          have kall : KpO s.2 D5 28 54 := ((c5.trans k3 (l := 28) (h := 54) (by omega)).trans k4 (l := 28) (h := 54) (by omega)).trans g4 (l := 28) (h := 54) (by omega)
          have c5' : CInv D5 M := by
            obtain ⟨h1, h2, ⟨h3, h4, h5⟩, h6⟩ := hC
            refine ⟨h1, h2.fr (fun q hq => (kall q (by omega)).1) (fun q hq => (kall q (by omega)).2), ⟨?_, h4.fr (fun q hq => kall q (by omega)), h5.fr (fun q hq => kall q (by omega))⟩, ?_⟩
            · rw [(kall (1 + 9) (by omega)).1]
              rcases h3 with t | t
              · exact Or.inl t
              · exact Or.inr ⟨t.1, t.2.fr (fun q hq => kall q (by omega))⟩
            · unfold PathRep PathAt at *
              simp only [(kall 70 (by omega)).1, (kall 71 (by omega)).2]
              exact h6
          have ez := X8_sumOfZone OM g3 hl5 (show a < mZ (joiM M a b) from han)
          refine comb_joined hx hs (M' := M) (sp := .inl (szoM (joiM M a b) l a)) (by show InR _; omega) ⟨D5, ?_, c5', kall.frC (by omega)⟩ hR (fun D r => ?_)
          · rw [ha, hb, hl]
            have g1' : m_X5_tallied 28 (frgL (frgL D3 28 a) 28 b) = some D5 := g1
            have ez' : m_X8_sumOfZone 37 (a : Int) (l : Int) D5 = some (szoM (joiM M a b) l a) := ez
            simp (disch := omega) only [m_X10_joined, a1, a2, a3, a4, bndN_inl, c1, ob_some, s1, l1, l2, g1', ez']
          · obtain ⟨E, f1, f2, f3, f4⟩ := ref_joined (r.thr (x := 0)) han hbn hab hl5
            have y1 := rn_zone_t (r.thr (x := 0)) x1 q1
            have y2 := rn_zone_t (r.thr (x := 0)) x2 q2
            have y3 := rn_level_t (D := sF D 73 0 0) x3 q3
            refine ⟨_, E, ?_, f2, (FrR.f (by omega)).trans f3, by rw [f4]; rfl, fun v h => by injection h⟩
            rw [ha, hb, hl]
            simp (disch := omega) only [m_X11_joined, sq_eq, y1, y2, y3, bnd_some, gd_t, ↓reduceIte, if_f q4, rn_th_0, f1]
      · have a3 := cn_level_f (D := s.2) x3 q3
        refine comb_joined hx hs (sp := .inr 0) (by simp [spX]) (ClsX.same hC ?_) hR (RefX.same (c := 1) 0 rfl (fun v h => by cases h) (fun D r => ?_))
        · simp (disch := omega) only [m_X10_joined, a1, a2, a3, bndN_inl, bndN_inr]
        · have y1 := rn_zone_t (r.thr (x := 0)) x1 q1
          have y2 := rn_zone_t (r.thr (x := 0)) x2 q2
          have y3 := rn_level_f (D := sF D 73 0 0) x3 q3
          simp (disch := omega) only [m_X11_joined, sq_eq, y1, y2, y3, bnd_some, gd_t, ↓reduceIte, if_f, sFF]
    · have a2 := cn_zone_f O C x2 q2
      refine comb_joined hx hs (sp := .inr 0) (by simp [spX]) (ClsX.same hC ?_) hR (RefX.same (c := 1) 0 rfl (fun v h => by cases h) (fun D r => ?_))
      · simp (disch := omega) only [m_X10_joined, a1, a2, bndN_inl, bndN_inr]
      · have y1 := rn_zone_t (r.thr (x := 0)) x1 q1
        have y2 := rn_zone_f (r.thr (x := 0)) x2 q2
        simp (disch := omega) only [m_X11_joined, sq_eq, y1, y2, bnd_some, gd_t, ↓reduceIte, if_f, sFF]
  · have a1 := cn_zone_f O C x1 q1
    refine comb_joined hx hs (sp := .inr 0) (by simp [spX]) (ClsX.same hC ?_) hR (RefX.same (c := 1) 0 rfl (fun v h => by cases h) (fun D r => ?_))
    · simp (disch := omega) only [m_X10_joined, a1, bndN_inr]
    · have y1 := rn_zone_f (r.thr (x := 0)) x1 q1
      simp (disch := omega) only [m_X11_joined, sq_eq, y1, bnd_some, gd_t, if_f, sFF]
