/-! ===== an edge moves ===== -/
def ownT (ow : Nat → Int) (a b : Int) (lo k : Nat) : Nat → Int := fun c => if (lo ≤ c ∧ c < lo + k) ∧ ow c = a then b else ow c
def cntA (M : MS) (a : Int) (lo k : Nat) : Int := sumTo (fun i => b2i (mO M (lo + i) = a)) k
def cntL (M : MS) (a : Int) (lo k : Nat) : Int := sumTo (fun i => b2i (mO M (lo + i) = a ∧ mS M (lo + i) = 0)) k
/-- how many people of a group go with the land -/
def goM (M : MS) (a lo k g : Nat) : Int := if ldM M a = 0 then 0 else mP M (3 * a + g) * cntL M (a : Int) lo k / ldM M a
def pplT (P : Nat → Int) (a b n : Nat) (mv : Nat → Int) : Nat → Int := fun k => if k % 3 < n ∧ k / 3 = a then P k - mv (k % 3) else if k % 3 < n ∧ k / 3 = b then min 99999 (P k + mv (k % 3)) else P k
def movM (M : MS) (a b lo k : Nat) : MS := (M.1, (ownT (mO M) (a : Int) (b : Int) lo k, mS M), (pplT (mP M) a b (mG M) (goM M a lo k), M.2.2.1.2), M.2.2.2)
theorem cntL_b {M : MS} (O : MOK M) (a : Int) {lo k : Nat} (h : lo + k ≤ nC M) : 0 ≤ cntL M a lo k ∧ cntL M a lo k ≤ lnd M a := by
  unfold cntL
  have n0 : ∀ n, 0 ≤ sumTo (fun c => b2i (mO M c = a ∧ mS M c = 0)) n := fun n => by
    have := sumTo_bounds (f := fun c => b2i (mO M c = a ∧ mS M c = 0)) (n := n) (a := 0) (b := 1) (fun c _ => b2i_01)
    omega
  have e := sumTo_app (fun c => b2i (mO M c = a ∧ mS M c = 0)) lo k
  have m := sumTo_mono (f := fun c => b2i (mO M c = a ∧ mS M c = 0)) h (fun c _ => b2i_01.1)
  have l := n0 lo
  have b := sumTo_bounds (f := fun i => b2i (mO M (lo + i) = a ∧ mS M (lo + i) = 0)) (n := k) (a := 0) (b := 1) (fun c _ => b2i_01)
  unfold lnd
  omega
theorem cntA_b (M : MS) (a : Int) (lo k : Nat) : 0 ≤ cntA M a lo k ∧ cntA M a lo k ≤ (k : Int) := by
  have b := sumTo_bounds (f := fun i => b2i (mO M (lo + i) = a)) (n := k) (a := 0) (b := 1) (fun c _ => b2i_01)
  unfold cntA
  omega
theorem goM_b {M : MS} (O : MOK M) {a lo k g : Nat} (ha : a < mZ M) (hg : g < 3) (h : lo + k ≤ nC M) : 0 ≤ goM M a lo k g ∧ goM M a lo k g ≤ mP M (3 * a + g) := by
  have z8 := O.2.2.1
  have pb := O.p (k := 3 * a + g) (by omega)
  have lb := ldM_b O a
  have cb := cntL_b O (a : Int) h
  have cb2 : cntL M (a : Int) lo k ≤ ldM M a := cb.2
  unfold goM
  split
  · omega
  · have h1 : 0 ≤ mP M (3 * a + g) * cntL M (a : Int) lo k := Int.mul_nonneg pb.1 cb.1
    refine ⟨Int.ediv_nonneg h1 (by omega), ?_⟩
    have h2 : mP M (3 * a + g) * cntL M (a : Int) lo k ≤ mP M (3 * a + g) * ldM M a := Int.mul_le_mul_of_nonneg_left cb2 pb.1
    have h3 : mP M (3 * a + g) * cntL M (a : Int) lo k / ldM M a ≤ mP M (3 * a + g) * ldM M a / ldM M a := Int.ediv_le_ediv (by omega) h2
    rwa [Int.mul_ediv_cancel _ (by omega)] at h3
theorem MOK.mov {M : MS} (O : MOK M) {a b lo k : Nat} (ha : a < mZ M) (hb : b < mZ M) (h : lo + k ≤ nC M) : MOK (movM M a b lo k) := by
  have g3 := O.2.2.2.1
  have z8 := O.2.2.1
  obtain ⟨o1, o2, o3, o4, o5, o6, o7⟩ := O
  refine ⟨o1, o2, o3, o4, fun c hc => ⟨?_, (o5 c hc).2⟩, fun j hj => ?_, o7⟩
  · show -1 ≤ ownT (mO M) (a : Int) (b : Int) lo k c ∧ ownT (mO M) (a : Int) (b : Int) lo k c < (mZ M : Int)
    unfold ownT
    have := (o5 c hc).1
    split
    · omega
    · exact this
  · show 0 ≤ pplT (mP M) a b (mG M) (goM M a lo k) j ∧ pplT (mP M) a b (mG M) (goM M a lo k) j ≤ 99999
    unfold pplT
    have pj := o6 j hj
    have gb := goM_b ⟨o1, o2, o3, o4, o5, o6, o7⟩ (k := k) (g := j % 3) ha (by omega) h
    have pa := o6 (3 * a + j % 3) (by omega)
    split
    · rename_i q
      have : 3 * a + j % 3 = j := by omega
      rw [this] at gb
      omega
    · split
      · omega
      · exact pj
theorem mov_isL {M : MS} {a b lo k y : Nat} (h : y ≠ a ∧ y ≠ b) : isL (movM M a b lo k) (y : Int) = isL M (y : Int) := by
  funext c
  unfold isL
  show (ownT (mO M) (a : Int) (b : Int) lo k c == (y : Int) && mS M c == 0) = _
  unfold ownT
  split
  · rename_i q
    have e1 : ((b : Int) == (y : Int)) = false := by simp; omega
    have e2 : (mO M c == (y : Int)) = false := by rw [q.2]; simp; omega
    rw [e1, e2]
  · rfl
/-- what is left of the land -/
theorem sum_rng (f : Nat → Int) {lo k n : Nat} (h : lo + k ≤ n) : sumTo (fun c => if lo ≤ c ∧ c < lo + k then f c else 0) n = sumTo (fun i => f (lo + i)) k := by
  obtain ⟨m, rfl⟩ : ∃ m, n = lo + k + m := ⟨n - (lo + k), by omega⟩
  rw [sumTo_app, sumTo_app]
  have e1 : sumTo (fun c => if lo ≤ c ∧ c < lo + k then f c else 0) lo = 0 := Eq.trans (sumTo_congr (g := fun _ => 0) (fun c hc => by rw [if_neg (by omega)])) (sumTo_zero lo)
  have e2 : sumTo (fun c => if lo ≤ lo + k + c ∧ lo + k + c < lo + k then f (lo + k + c) else 0) m = 0 := Eq.trans (sumTo_congr (g := fun _ => 0) (fun c hc => by rw [if_neg (by omega)])) (sumTo_zero m)
  have e3 : sumTo (fun c => if lo ≤ lo + c ∧ lo + c < lo + k then f (lo + c) else 0) k = sumTo (fun i => f (lo + i)) k := sumTo_congr (fun c hc => by rw [if_pos (by omega)])
  rw [e1, e2, e3]
  omega
theorem lnd_mov {M : MS} {a b lo k : Nat} (hab : a ≠ b) (h : lo + k ≤ nC M) : lnd (movM M a b lo k) (a : Int) = lnd M (a : Int) - cntL M (a : Int) lo k := by
  have e := sum_rng (fun c => b2i (mO M c = (a : Int) ∧ mS M c = 0)) h
  have s : sumTo (fun c => b2i (ownT (mO M) (a : Int) (b : Int) lo k c = (a : Int) ∧ mS M c = 0)) (nC M) + sumTo (fun c => if lo ≤ c ∧ c < lo + k then b2i (mO M c = (a : Int) ∧ mS M c = 0) else 0) (nC M) = lnd M (a : Int) := by
    rw [← sumTo_add]
    unfold lnd
    refine sumTo_congr (fun c _ => ?_)
    unfold ownT
    by_cases q : lo ≤ c ∧ c < lo + k
    · rw [if_pos q]
      by_cases q2 : mO M c = (a : Int)
      · rw [if_pos ⟨q, q2⟩, b2i_f (fun hh => by omega), Int.zero_add]
      · rw [if_neg (fun hh => q2 hh.2), b2i_f (fun hh => q2 hh.1)]
        rfl
    · rw [if_neg (fun hh => q hh.1), if_neg q, Int.add_zero]
  show sumTo (fun c => b2i (ownT (mO M) (a : Int) (b : Int) lo k c = (a : Int) ∧ mS M c = 0)) (nC M) = _
  unfold cntL
  omega
theorem ownT_s (ow : Nat → Int) (a b : Int) (lo k c : Nat) : ownT ow a b lo (k + 1) c = if c = lo + k then (if ow c = a then b else ow c) else ownT ow a b lo k c := by
  unfold ownT
  by_cases q : c = lo + k
  · rw [if_pos q]
    by_cases q2 : ow c = a
    · rw [if_pos ⟨by omega, q2⟩, if_pos q2]
    · rw [if_neg (fun h => q2 h.2), if_neg q2]
  · rw [if_neg q]
    by_cases q2 : (lo ≤ c ∧ c < lo + k) ∧ ow c = a
    · rw [if_pos q2, if_pos ⟨by omega, q2.2⟩]
    · rw [if_neg q2, if_neg (fun h => q2 ⟨by omega, h.2⟩)]
/-- settling people -/
theorem X1_settle {D : DT} {hc : Nat} {z g : Nat} (hz : z < 8) (hg : g < 3) {v : Int} (hv : InR v) : m_X1_settle hc (z : Int) (g : Int) v D = some (sA D (hc + 5) (3 * z + g) (min 99999 v)) := by
  have k1 : (z : Int) * 3 + (g : Int) = ((3 * z + g : Nat) : Int) := by omega
  by_cases q : v < 99999
  · have e : min 99999 v = v := by omega
    rw [e]
    simp (disch := omega) only [m_X1_settle, gd_t, if_t q, k1, tn, sq_eq]
  · have e : min 99999 v = 99999 := by omega
    rw [e]
    simp (disch := omega) only [m_X1_settle, gd_t, if_f q, k1, tn, sq_eq]
theorem X1_living {D : DT} {hc : Nat} {z g : Nat} (hz : z < 8) (hg : g < 3) : m_X1_livingIn hc (z : Int) (g : Int) D = some (D.2 (hc + 5) (3 * z + g)) := by
  have k1 : (z : Int) * 3 + (g : Int) = ((3 * z + g : Nat) : Int) := by omega
  simp (disch := omega) only [m_X1_livingIn, k1, gd_t, tn]
theorem pplT_s {P : Nat → Int} {a b n : Nat} {mv : Nat → Int} (hab : a ≠ b) (hn : n < 3) (j : Nat) : pplT P a b (n + 1) mv j = if j = 3 * a + n then P j - mv n else if j = 3 * b + n then min 99999 (P j + mv n) else pplT P a b n mv j := by
  unfold pplT
  by_cases q1 : j = 3 * a + n
  · have e : j % 3 = n := by omega
    rw [if_pos q1, if_pos (by omega), e]
  · rw [if_neg q1]
    by_cases q2 : j = 3 * b + n
    · have e : j % 3 = n := by omega
      rw [if_pos q2, if_neg (by omega), if_pos (by omega), e]
    · rw [if_neg q2]
      by_cases q3 : j % 3 < n ∧ j / 3 = a
      · rw [if_pos q3, if_pos (by omega)]
      · rw [if_neg q3, if_neg (by omega)]
        by_cases q4 : j % 3 < n ∧ j / 3 = b
        · rw [if_pos q4, if_pos (by omega)]
        · rw [if_neg q4, if_neg (by omega)]
theorem pplT_0 (P : Nat → Int) (a b : Nat) (mv : Nat → Int) : pplT P a b 0 mv = P := by
  funext j
  unfold pplT
  rw [if_neg (by omega), if_neg (by omega)]
theorem X1_shift {D : DT} {hc a b r x1 x2 : Nat} {M : MS} (O : MOK M) (C : ChartRep D hc M) (ha : a < mZ M) (hb : b < mZ M) (hab : a ≠ b) (hr : r < mH M) (h12 : x1 ≤ x2) (h2w : x2 < mW M) : ∃ D', m_X1_shift hc (a : Int) (b : Int) (r : Int) (x1 : Int) (x2 : Int) D = some (cntA M (a : Int) (mW M * r + x1) (x2 + 1 - x1), D') ∧ ChartRep D' hc (movM M a b (mW M * r + x1) (x2 + 1 - x1)) ∧ D'.1 = D.1 ∧ ∀ q, q ≠ hc + 1 → q ≠ hc + 5 → D'.2 q = D.2 q := by
  have n4 := nCb O
  have z8 := O.2.2.1
  have g3 := O.2.2.2.1
  have d := O.2.1
  obtain ⟨⟨⟨c1, c1'⟩, c2, c3⟩, ⟨c4, c5⟩, c6, c7⟩ := C
  have lo_hi : mW M * r + x1 + (x2 + 1 - x1) ≤ nC M := by
    have := wr_lt (w := mW M) (x := x2) hr h2w
    show _ ≤ mW M * mH M
    omega
  have eL : m_X1_landOf hc (a : Int) D = some (ldM M a) := X1_landOf ⟨⟨c1, c1'⟩, c2, c3⟩ O.2.2.2.2.1 z8 (by omega)
  have lb := ldM_b O a
  have cb := cntL_b O (a : Int) lo_hi
  have ab := cntA_b M (a : Int) (mW M * r + x1) (x2 + 1 - x1)
  obtain ⟨lo, hlo⟩ : ∃ lo, lo = mW M * r + x1 := ⟨_, rfl⟩
  obtain ⟨kk, hkk⟩ : ∃ kk, kk = x2 + 1 - x1 := ⟨_, rfl⟩
  rw [← hlo, ← hkk] at lo_hi cb ab ⊢
  -- the people
  have people : ∀ E : DT, E.1 = D.1 → E.2 (hc + 5) = D.2 (hc + 5) → 0 < ldM M a → ∃ F, m_X1_shift_91 hc (a : Int) (b : Int) (ldM M a) (cntA M (a : Int) lo kk) (cntL M (a : Int) lo kk) (0, E) = some (cntA M (a : Int) lo kk, F) ∧ F.1 = D.1 ∧ (∀ q, q ≠ hc + 5 → F.2 q = E.2 q) ∧ ∀ k, (k % 3 < mG M ∧ k / 3 < mZ M) → F.2 (hc + 5) k = pplT (mP M) a b (mG M) (goM M a lo kk) k := fun E hE1 hE2 hL => by
    unfold m_X1_shift_91
    obtain ⟨s', ⟨i1, i2, i3, i4⟩, e⟩ := loop_inv (f := fun s : Int × DT =>
      gd (InR s.1 ∧ InR (s.2.1 hc 3)) (if s.1 < (s.2.1 hc 3) then (
        (m_X1_livingIn hc (a : Int) s.1 s.2).bind (fun r104 =>
        gd ((0 : Int) ≤ (r104 * cntL M (a : Int) lo kk) ∧ (r104 * cntL M (a : Int) lo kk) ≤ (2147483647 : Int) ∧ (0 : Int) < ldM M a ∧ ldM M a ≤ (2147483647 : Int)) (
        (m_X1_livingIn hc (a : Int) s.1 s.2).bind (fun r123 =>
        (m_X1_settle hc (a : Int) s.1 (r123 - ((r104 * cntL M (a : Int) lo kk) / ldM M a)) s.2).bind (fun D129 =>
        (m_X1_livingIn hc (b : Int) s.1 D129).bind (fun r140 =>
        (m_X1_settle hc (b : Int) s.1 (r140 + ((r104 * cntL M (a : Int) lo kk) / ldM M a)) D129).bind (fun D146 =>
        some (.inl ((s.1 + 1), D146))
        ))))))
      ) else (
        done (
        some (cntA M (a : Int) lo kk, s.2)
        )
      ))) (fun g s => s.1 = (g : Int) ∧ s.2.1 = D.1 ∧ (∀ q, q ≠ hc + 5 → s.2.2 q = E.2 q) ∧ ∀ k, (k % 3 < mG M ∧ k / 3 < mZ M) → s.2.2 (hc + 5) k = pplT (mP M) a b g (goM M a lo kk) k) (mG M) (s := (0, E)) ⟨rfl, hE1, fun _ _ => rfl, fun k hk => by rw [hE2, pplT_0]; exact c6 k hk⟩ (fun g s hg ⟨a1, a2, a3, a4⟩ => by
        have eG : s.2.1 hc 3 = (mG M : Int) := by rw [a2]; exact c5
        have hg3 : g < 3 := by omega
        have pa : pplT (mP M) a b g (goM M a lo kk) (3 * a + g) = mP M (3 * a + g) := by
          unfold pplT
          rw [if_neg (by omega), if_neg (by omega)]
        have pb : pplT (mP M) a b g (goM M a lo kk) (3 * b + g) = mP M (3 * b + g) := by
          unfold pplT
          rw [if_neg (by omega), if_neg (by omega)]
        have e1 := X1_living (D := s.2) (hc := hc) (show a < 8 by omega) hg3
        rw [a4 _ (by omega), pa] at e1
        have pab := O.p (k := 3 * a + g) (by omega)
        have pbb := O.p (k := 3 * b + g) (by omega)
        have gb := goM_b O ha hg3 lo_hi
        have eg : mP M (3 * a + g) * cntL M (a : Int) lo kk / ldM M a = goM M a lo kk g := by
          unfold goM
          rw [if_neg (by omega)]
        have cl2 : cntL M (a : Int) lo kk ≤ ldM M a := cb.2
        have mb := mul_b pab.1 pab.2 cb.1 (show cntL M (a : Int) lo kk ≤ 384 by omega)
        have gq : (0 : Int) ≤ mP M (3 * a + g) * cntL M (a : Int) lo kk ∧ mP M (3 * a + g) * cntL M (a : Int) lo kk ≤ (2147483647 : Int) ∧ (0 : Int) < ldM M a ∧ ldM M a ≤ (2147483647 : Int) := by
          generalize mP M (3 * a + g) * cntL M (a : Int) lo kk = y at mb
          omega
        have e2 := X1_settle (D := s.2) (hc := hc) (z := a) (g := g) (by omega) hg3 (v := mP M (3 * a + g) - goM M a lo kk g) (by omega)
        have e3 := X1_living (D := sA s.2 (hc + 5) (3 * a + g) (min 99999 (mP M (3 * a + g) - goM M a lo kk g))) (hc := hc) (show b < 8 by omega) hg3
        have e3' : (sA s.2 (hc + 5) (3 * a + g) (min 99999 (mP M (3 * a + g) - goM M a lo kk g))).2 (hc + 5) (3 * b + g) = mP M (3 * b + g) := by
          rw [sA2, if_neg (by omega), a4 _ (by omega), pb]
        rw [e3'] at e3
        have e4 := X1_settle (D := sA s.2 (hc + 5) (3 * a + g) (min 99999 (mP M (3 * a + g) - goM M a lo kk g))) (hc := hc) (z := b) (g := g) (by omega) hg3 (v := mP M (3 * b + g) + goM M a lo kk g) (by omega)
        refine ⟨((g : Int) + 1, sA (sA s.2 (hc + 5) (3 * a + g) (min 99999 (mP M (3 * a + g) - goM M a lo kk g))) (hc + 5) (3 * b + g) (min 99999 (mP M (3 * b + g) + goM M a lo kk g))), ?_, rfl, a2, fun q hq => ?_, fun k hk => ?_⟩
        · simp (disch := omega) only [a1, eG, gd_t, if_t, e1, ob_some, gd_t gq, eg, e2, e3, e4]
        · funext j
          rw [sA2, if_neg (fun h => hq h.1), sA2, if_neg (fun h => hq h.1), a3 q hq]
        · rw [pplT_s hab hg3, sA2]
          by_cases q1 : k = 3 * b + g
          · rw [if_pos ⟨rfl, q1⟩, if_neg (by omega), if_pos q1, q1]
          · rw [if_neg (fun h => q1 h.2), sA2]
            by_cases q2 : k = 3 * a + g
            · rw [if_pos ⟨rfl, q2⟩, if_pos q2, q2]
              omega
            · rw [if_neg (fun h => q2 h.2), if_neg q2, if_neg q1]
              exact a4 k hk)
    refine ⟨s'.2, ?_, i2, i3, i4⟩
    rw [e]
    refine loopF_inr ?_
    have eG : s'.2.1 hc 3 = (mG M : Int) := by rw [i2]; exact c5
    simp (disch := omega) only [i1, eG, gd_t, if_f, done_some]
  have owners : ∃ E, m_X1_shift_17 hc (a : Int) (b : Int) (r : Int) (x2 : Int) (ldM M a) (0, 0, (x1 : Int), D) = (if 0 < ldM M a then m_X1_shift_91 hc (a : Int) (b : Int) (ldM M a) (cntA M (a : Int) lo kk) (cntL M (a : Int) lo kk) (0, E) else some (cntA M (a : Int) lo kk, E)) ∧ E.1 = D.1 ∧ (∀ q, q ≠ hc + 1 → E.2 q = D.2 q) ∧ ∀ c, c < nC M → E.2 (hc + 1) c = ownT (mO M) (a : Int) (b : Int) lo kk c := by
    unfold m_X1_shift_17
    obtain ⟨s', ⟨i1, i2, i3, i4, i5, i6⟩, e⟩ := loop_inv (f := fun s : Int × Int × Int × DT =>
      gd (InR s.2.2.1 ∧ InR (x2 : Int)) (if s.2.2.1 ≤ (x2 : Int) then (
        gd ((0 : Int) ≤ (((r : Int) * (s.2.2.2.1 hc 0)) + s.2.2.1) ∧ (((r : Int) * (s.2.2.2.1 hc 0)) + s.2.2.1) < (384 : Int)) (
        gd (InR (s.2.2.2.2 (hc + 1) (Int.toNat (((r : Int) * (s.2.2.2.1 hc 0)) + s.2.2.1))) ∧ InR (a : Int)) (if (s.2.2.2.2 (hc + 1) (Int.toNat (((r : Int) * (s.2.2.2.1 hc 0)) + s.2.2.1))) = (a : Int) then (
          gd ((0 : Int) ≤ (((r : Int) * (s.2.2.2.1 hc 0)) + s.2.2.1) ∧ (((r : Int) * (s.2.2.2.1 hc 0)) + s.2.2.1) < (384 : Int)) (sq (sA s.2.2.2 (hc + 1) (Int.toNat (((r : Int) * (s.2.2.2.1 hc 0)) + s.2.2.1)) (b : Int)) (fun D53 =>
          gd ((0 : Int) ≤ (((r : Int) * (s.2.2.2.1 hc 0)) + s.2.2.1) ∧ (((r : Int) * (s.2.2.2.1 hc 0)) + s.2.2.1) < (384 : Int)) (
          gd (InR (D53.2 (hc + 2) (Int.toNat (((r : Int) * (s.2.2.2.1 hc 0)) + s.2.2.1)))) (if (D53.2 (hc + 2) (Int.toNat (((r : Int) * (s.2.2.2.1 hc 0)) + s.2.2.1))) = 0 then (
            some (.inl ((s.1 + 1), (s.2.1 + 1), (s.2.2.1 + 1), D53))
          ) else (
            some (.inl ((s.1 + 1), (s.2.1 + 0), (s.2.2.1 + 1), D53))
          ))
          )))
        ) else (
          some (.inl (s.1, s.2.1, (s.2.2.1 + 1), s.2.2.2))
        ))
        )
      ) else (
        done (
        gd (InR (ldM M a)) (if 0 < ldM M a then (
          m_X1_shift_91 hc (a : Int) (b : Int) (ldM M a) s.1 s.2.1 (0, s.2.2.2)
        ) else (
          some (s.1, s.2.2.2)
        ))
        )
      ))) (fun k s => s.1 = cntA M (a : Int) lo k ∧ s.2.1 = cntL M (a : Int) lo k ∧ s.2.2.1 = ((x1 + k : Nat) : Int) ∧ s.2.2.2.1 = D.1 ∧ (∀ q, q ≠ hc + 1 → s.2.2.2.2 q = D.2 q) ∧ ∀ c, c < nC M → s.2.2.2.2 (hc + 1) c = ownT (mO M) (a : Int) (b : Int) lo k c) kk (s := (0, 0, (x1 : Int), D)) ⟨rfl, rfl, rfl, rfl, fun _ _ => rfl, fun c hcc => by
        unfold ownT
        rw [if_neg (by omega)]
        exact (c3 c hcc).1⟩ (fun k s hk ⟨a1, a2, a3, a4, a5, a6⟩ => by
        have ew : s.2.2.2.1 hc 0 = (mW M : Int) := by rw [a4]; exact c1
        have hck : lo + k < nC M := by omega
        have vi : (r : Int) * (mW M : Int) + ((x1 + k : Nat) : Int) = ((lo + k : Nat) : Int) := by
          rw [hlo, show mW M * r + x1 + k = mW M * r + (x1 + k) by omega, Int.natCast_add (mW M * r), Int.natCast_mul, Int.mul_comm]
        have eo : s.2.2.2.2 (hc + 1) (lo + k) = mO M (lo + k) := by
          rw [a6 _ hck]
          unfold ownT
          rw [if_neg (by omega)]
        have ob := (O.2.2.2.2.1 _ hck).1
        have sb := (O.2.2.2.2.1 _ hck).2
        have k1 : ((x1 + (k + 1) : Nat) : Int) = ((x1 + k : Nat) : Int) + 1 := rfl
        have es : (sA s.2.2.2 (hc + 1) (lo + k) (b : Int)).2 (hc + 2) (lo + k) = mS M (lo + k) := by
          rw [sA2, if_neg (by omega), a5 _ (by omega)]
          exact (c3 _ hck).2.1
        have sA' : cntA M (a : Int) lo (k + 1) = cntA M (a : Int) lo k + b2i (mO M (lo + k) = (a : Int)) := rfl
        have sL' : cntL M (a : Int) lo (k + 1) = cntL M (a : Int) lo k + b2i (mO M (lo + k) = (a : Int) ∧ mS M (lo + k) = 0) := rfl
        rw [sA', sL']
        by_cases q : mO M (lo + k) = (a : Int)
        · have nx : (∀ q', q' ≠ hc + 1 → (sA s.2.2.2 (hc + 1) (lo + k) (b : Int)).2 q' = D.2 q') ∧ ∀ c, c < nC M → (sA s.2.2.2 (hc + 1) (lo + k) (b : Int)).2 (hc + 1) c = ownT (mO M) (a : Int) (b : Int) lo (k + 1) c := by
            refine ⟨fun q' hq' => ?_, fun c hcc => ?_⟩
            · funext j
              rw [sA2, if_neg (fun h => hq' h.1), a5 q' hq']
            · rw [sA2, ownT_s]
              by_cases qc : c = lo + k
              · rw [if_pos ⟨rfl, qc⟩, if_pos qc, qc, if_pos q]
              · rw [if_neg (fun h => qc h.2), if_neg qc]
                exact a6 c hcc
          by_cases q2 : mS M (lo + k) = 0
          · rw [b2i_t q, b2i_t ⟨q, q2⟩]
            refine ⟨(cntA M (a : Int) lo k + 1, cntL M (a : Int) lo k + 1, ((x1 + k : Nat) : Int) + 1, sA s.2.2.2 (hc + 1) (lo + k) (b : Int)), ?_, rfl, rfl, rfl, a4, nx⟩
            simp (disch := omega) only [a1, a2, a3, ew, vi, gd_t, if_t, tn, eo, if_t q, sq_eq, es, if_t q2]
          · rw [b2i_t q, b2i_f (fun h => q2 h.2)]
            refine ⟨(cntA M (a : Int) lo k + 1, cntL M (a : Int) lo k + 0, ((x1 + k : Nat) : Int) + 1, sA s.2.2.2 (hc + 1) (lo + k) (b : Int)), ?_, rfl, rfl, rfl, a4, nx⟩
            simp (disch := omega) only [a1, a2, a3, ew, vi, gd_t, if_t, tn, eo, if_t q, sq_eq, es, if_f q2]
        · rw [b2i_f q, b2i_f (fun h => q h.1)]
          refine ⟨(cntA M (a : Int) lo k, cntL M (a : Int) lo k, ((x1 + k : Nat) : Int) + 1, s.2.2.2), ?_, by simp only [Int.add_zero], by simp only [Int.add_zero], rfl, a4, a5, fun c hcc => ?_⟩
          · simp (disch := omega) only [a1, a2, a3, ew, vi, gd_t, if_t, tn, eo, if_f q]
          · show s.2.2.2.2 (hc + 1) c = _
            rw [ownT_s]
            by_cases qc : c = lo + k
            · rw [if_pos qc, qc, if_neg q]
              exact eo
            · rw [if_neg qc]
              exact a6 c hcc)
    have i3' : s'.2.2.1 = (x2 : Int) + 1 := by rw [i3]; omega
    refine ⟨s'.2.2.2, ?_, i4, i5, i6⟩
    rw [e]
    by_cases q : 0 < ldM M a
    · rw [if_pos q]
      cases hh : m_X1_shift_91 hc (a : Int) (b : Int) (ldM M a) (cntA M (a : Int) lo kk) (cntL M (a : Int) lo kk) (0, s'.2.2.2) with
      | none =>
        refine loopF_none ?_
        simp (disch := omega) only [i3', i1, i2, gd_t, if_f, if_t q, hh]
        rfl
      | some v =>
        refine loopF_inr ?_
        simp (disch := omega) only [i3', i1, i2, gd_t, if_f, if_t q, hh, done_some]
    · rw [if_neg q]
      refine loopF_inr ?_
      simp (disch := omega) only [i3', i1, i2, gd_t, if_f, if_f q, done_some]
  obtain ⟨E, o1, o2, o3, o4⟩ := owners
  have fin : ∃ F, m_X1_shift_17 hc (a : Int) (b : Int) (r : Int) (x2 : Int) (ldM M a) (0, 0, (x1 : Int), D) = some (cntA M (a : Int) lo kk, F) ∧ F.1 = D.1 ∧ (∀ q, q ≠ hc + 5 → F.2 q = E.2 q) ∧ ∀ k, (k % 3 < mG M ∧ k / 3 < mZ M) → F.2 (hc + 5) k = pplT (mP M) a b (mG M) (goM M a lo kk) k := by
    by_cases q : 0 < ldM M a
    · rw [if_pos q] at o1
      obtain ⟨F, p1, p2, p3, p4⟩ := people E o2 (o3 _ (by omega)) q
      exact ⟨F, by rw [o1, p1], p2, p3, p4⟩
    · rw [if_neg q] at o1
      refine ⟨E, o1, o2, fun _ _ => rfl, fun k hk => ?_⟩
      have z : ∀ g, goM M a lo kk g = 0 := fun g => by unfold goM; rw [if_pos (by omega)]
      have pk := O.p (k := k) (by omega)
      rw [o3 _ (by omega), c6 k hk]
      unfold pplT
      simp only [z]
      split
      · omega
      · split <;> omega
  obtain ⟨F, f1, f2, f3, f4⟩ := fin
  refine ⟨F, by simp only [m_X1_shift, eL, ob_some, f1], ⟨⟨by rw [f2]; exact ⟨c1, c1'⟩, c2, fun c hcc => ?_⟩, by rw [f2]; exact ⟨c4, c5⟩, f4, ?_⟩, f2, fun q h1 h2 => by rw [f3 q h2, o3 q h1]⟩
  · obtain ⟨-, d2, d3, d4⟩ := c3 c hcc
    rw [f3 (hc + 1) (by omega), f3 (hc + 2) (by omega), f3 (hc + 3) (by omega), f3 (hc + 4) (by omega), o3 (hc + 2) (by omega), o3 (hc + 3) (by omega), o3 (hc + 4) (by omega)]
    exact ⟨o4 c hcc, d2, d3, d4⟩
  · rw [f3 _ (by omega), f3 _ (by omega), o3 _ (by omega), o3 _ (by omega)]
    exact c7
