/-! ===== the reference's orders ===== -/
theorem if_b {c : Bool} {x y : Int} (h : c = true) : (if c then x else y) = x := by rw [h]; rfl
theorem X11_isL {D : DT} {M : MS} {z : Int} (R : RMap D (mW M) (mH M) (mO M) (mS M)) (O : MOK M) {c : Nat} (hc : c < nC M) (hz : InR z) : m_X11_isLandOf (c : Int) z D = some (if isL M z c then 1 else 0) := by
  rw [X11_isLandOf R O.2.2.2.2.1 hc hz O.2.2.1, isL_b]
theorem ref_mid_in {D : DT} {M : MS} {z : Int} (R : RMap D (mW M) (mH M) (mO M) (mS M)) (O : MOK M) (hz : InR z) {c : Nat} (hc : c < nC M) {b g : Int} (hb : InR b) (hg : InR g) : m_X11_middleOf_35 z b g (c : Int) D (0, 0) = some (.inl (if b = -1 ∨ sumFar M z c < g then ((c : Int), sumFar M z c, (c : Int) + 1) else (b, g, (c : Int) + 1))) := by
  have n4 := nCb O
  have sb := sumFar_b O z hc
  have ec : m_X11_cells D = some (nC M : Int) := X11_cells R
  refine loop_for (st := fun o => (sumTo (fun o => if isL M z o then farM (mW M) c o else 0) o, (o : Int))) (nC M) (fun o ho => ?_) ?_
  · have el := X11_isL R O ho hz
    have ef := X11_far R hc ho
    have c1 : ((o + 1 : Nat) : Int) = (o : Int) + 1 := rfl
    by_cases q : isL M z o = true
    · rw [if_pos q] at el
      simp (disch := omega) only [ec, ob_some, gd_t, if_t, el, if_f, ef, sumTo, if_t q, c1]
    · rw [if_neg q] at el
      simp (disch := omega) only [ec, ob_some, gd_t, if_t, el, ↓reduceIte, sumTo, if_f q, c1]
  · have es : sumTo (fun o => if isL M z o then farM (mW M) c o else 0) (nC M) = sumFar M z c := rfl
    simp only [es]
    by_cases q : b = -1
    · simp (disch := omega) only [ec, ob_some, gd_t, if_f, done_some, if_t q, q, true_or, ↓reduceIte]
    · by_cases q2 : g ≤ sumFar M z c
      · have nq : ¬ (b = -1 ∨ sumFar M z c < g) := by omega
        simp (disch := omega) only [ec, ob_some, gd_t, if_f, done_some, if_f q, if_t q2, if_f nq]
      · have nq : b = -1 ∨ sumFar M z c < g := by omega
        simp (disch := omega) only [ec, ob_some, gd_t, if_f, done_some, if_f q, if_f q2, if_t nq]
theorem X11_middleOf {D : DT} {M : MS} {z : Int} (R : RMap D (mW M) (mH M) (mO M) (mS M)) (O : MOK M) (hz : InR z) : m_X11_middleOf z D = some (midM M z) := by
  have n4 := nCb O
  have ec : m_X11_cells D = some (nC M : Int) := X11_cells R
  unfold midM
  refine loop_for (st := fun c => (argB (isL M z) (fun c b => decide (sumFar M z c < sumFar M z b)) c, (if argB (isL M z) (fun c b => decide (sumFar M z c < sumFar M z b)) c = -1 then 0 else sumFar M z (argB (isL M z) (fun c b => decide (sumFar M z c < sumFar M z b)) c).toNat), (c : Int))) (nC M) (fun c hc => ?_) ?_
  · have el := X11_isL R O hc hz
    have c1 : ((c + 1 : Nat) : Int) = (c : Int) + 1 := rfl
    have as := argB_s (isL M z) (fun c b => decide (sumFar M z c < sumFar M z b)) c
    have sb := sumFar_b O z hc
    rw [as]
    have ab := argB_cases (isL M z) (fun c b => decide (sumFar M z c < sumFar M z b)) c
    generalize argB (isL M z) (fun c b => decide (sumFar M z c < sumFar M z b)) c = b at *
    by_cases q : isL M z c = true
    · rw [if_pos q] at el
      have hne : ¬ ((c : Int) = -1) := by omega
      rcases ab with ⟨h, -⟩ | ⟨b', h1, h2, h3⟩
      · have ei := ref_mid_in R O hz hc (b := -1) (g := 0) (by omega) (by omega)
        rw [if_pos (Or.inl rfl)] at ei
        subst h
        simp (disch := omega) only [ec, ob_some, gd_t, if_t, el, if_f, ei, ↓reduceIte, c1, q, beq_self_eq_true, Bool.true_or, Bool.and_true, if_f hne, tn]
      · have sb2 := sumFar_b O z (show b' < nC M by omega)
        have ei := ref_mid_in R O hz hc (b := (b' : Int)) (g := sumFar M z b') (by omega) (by omega)
        have hne2 : ¬ ((b' : Int) = -1) := by omega
        have hne3 : ((b' : Int) == -1) = false := by simp
        subst h3
        by_cases q2 : sumFar M z c < sumFar M z b'
        · rw [if_pos (Or.inr q2)] at ei
          simp (disch := omega) only [ec, ob_some, gd_t, if_t, el, if_f, if_f hne2, tn, ei, ↓reduceIte, c1, q, hne3, decide_eq_true q2, Bool.or_true, Bool.and_true, if_f hne]
        · rw [if_neg (by omega)] at ei
          simp (disch := omega) only [ec, ob_some, gd_t, if_t, el, if_f, if_f hne2, tn, ei, ↓reduceIte, c1, q, hne3, decide_eq_false q2, Bool.or_false, Bool.and_false, Bool.false_eq_true]
    · rw [if_neg q] at el
      have q' : isL M z c = false := by simpa using q
      simp (disch := omega) only [ec, ob_some, gd_t, if_t, el, ↓reduceIte, c1, q', Bool.false_and, Bool.false_eq_true]
  · simp (disch := omega) only [ec, ob_some, gd_t, if_f, done_some]
def OKeep (D E : DT) : Prop := E.1 = D.1 ∧ ∀ b, (b ≠ 86 ∧ b ≠ 87 ∧ b ≠ 88 ∧ b ≠ 89) → E.2 b = D.2 b
theorem OKeep.trans {D E F : DT} (h : OKeep D E) (h' : OKeep E F) : OKeep D F := ⟨h'.1.trans h.1, fun b hb => (h'.2 b hb).trans (h.2 b hb)⟩
theorem OKeep.map {D E : DT} {w h : Nat} {ow se : Nat → Int} (k : OKeep D E) (R : RMap D w h ow se) : RMap E w h ow se := by
  unfold RMap at *
  rw [k.2 76 (by omega), k.2 78 (by omega), k.2 80 (by omega)]
  exact R
/-- one pass of the reference -/
theorem ref_pass {D : DT} {M : MS} {z : Nat} (R : RMap D (mW M) (mH M) (mO M) (mS M)) (O : MOK M) (hz : z < mZ M) {l : List Nat} {v : Nat} (hv : v < nC M) {k : Int} (hpl : ∀ c, c < nC M → isL M z c = true → (D.2 88 c = -1 ∧ c ∉ l ++ [v]) ∨ (0 ≤ D.2 88 c ∧ D.2 88 c < 384 ∧ c ∈ l ++ [v])) (hg : ∀ c, c < nC M → isL M z c = true → c ∉ l ++ [v] → (D.2 89 c = 268435456 ∧ gapM (mW M) l c = 1000) ∨ (D.2 89 c = gapM (mW M) l c ∧ 0 ≤ gapM (mW M) l c ∧ gapM (mW M) l c ≤ 1000)) : ∃ E, m_X11_laysOrders_109 (z : Int) k (v : Int) (-1, 0, D) = some (.inl (k, nxO M z (l ++ [v]), E)) ∧ E.1 = D.1 ∧ (∀ b, b ≠ 89 → E.2 b = D.2 b) ∧ ∀ c, c < nC M → isL M z c = true → c ∉ l ++ [v] → E.2 89 c = gapM (mW M) (l ++ [v]) c := by
  have n4 := nCb O
  have z8 := O.2.2.1
  have gs : ∀ c, gapM (mW M) (l ++ [v]) c = min (gapM (mW M) l c) (farM (mW M) c v) := gapM_snoc (mW M) l v
  have en : nxO M z (l ++ [v]) = argB (fun c => isL M z c && !((l ++ [v]).contains c)) (fun c b => decide (gapM (mW M) (l ++ [v]) b < gapM (mW M) (l ++ [v]) c)) (nC M) := by
    unfold nxO
    rw [if_neg (by simp)]
    rfl
  rw [en]
  unfold m_X11_laysOrders_109
  obtain ⟨s', ⟨i1, i2, i3, i4, i5⟩, e⟩ := loop_inv (f := fun s : Int × Int × DT =>
    (m_X11_cells s.2.2).bind (fun r112 =>
    gd (InR s.2.1 ∧ InR r112) (if s.2.1 < r112 then (
      (m_X11_isLandOf s.2.1 (z : Int) s.2.2).bind (fun r122 =>
      gd (InR r122) (if r122 = 0 then (
        some (.inl (s.1, (s.2.1 + 1), s.2.2))
      ) else (
        gd ((0 : Int) ≤ s.2.1 ∧ s.2.1 < (384 : Int)) (
        gd (InR (s.2.2.2 88 (Int.toNat s.2.1)) ∧ InR (-1)) (if (s.2.2.2 88 (Int.toNat s.2.1)) = (-1) then (
          (m_X11_far s.2.1 (v : Int) s.2.2).bind (fun r146 =>
          gd ((0 : Int) ≤ s.2.1 ∧ s.2.1 < (384 : Int)) (
          gd (InR r146 ∧ InR (s.2.2.2 89 (Int.toNat s.2.1))) (if r146 < (s.2.2.2 89 (Int.toNat s.2.1)) then (
            gd ((0 : Int) ≤ s.2.1 ∧ s.2.1 < (384 : Int)) (sq (sA s.2.2 89 (Int.toNat s.2.1) r146) (fun D171 =>
            m_X11_laysOrders_172 (z : Int) k (v : Int) s.1 s.2.1 D171
            ))
          ) else (
            m_X11_laysOrders_172 (z : Int) k (v : Int) s.1 s.2.1 s.2.2
          ))
          ))
        ) else (
          some (.inl (s.1, (s.2.1 + 1), s.2.2))
        ))
        )
      ))
      )
    ) else (
      done (
      some ((.inl (k, s.1, s.2.2)) : (Int × Int × DT) ⊕ ((Int × DT) ⊕ DT))
      )
    ))
    )) (fun c s => s.1 = argB (fun c => isL M z c && !((l ++ [v]).contains c)) (fun c b => decide (gapM (mW M) (l ++ [v]) b < gapM (mW M) (l ++ [v]) c)) c ∧ s.2.1 = (c : Int) ∧ s.2.2.1 = D.1 ∧ (∀ b, b ≠ 89 → s.2.2.2 b = D.2 b) ∧ ∀ x, s.2.2.2 89 x = if x < c ∧ isL M z x = true ∧ x ∉ l ++ [v] then gapM (mW M) (l ++ [v]) x else D.2 89 x) (nC M) (s := (-1, 0, D)) ⟨rfl, rfl, rfl, fun _ _ => rfl, fun x => by rw [if_neg (by omega)]⟩ (fun c s hc ⟨a1, a2, a3, a4, a5⟩ => by
      have R2 : RMap s.2.2 (mW M) (mH M) (mO M) (mS M) := by
        unfold RMap at *
        rw [a4 76 (by omega), a4 78 (by omega), a4 80 (by omega)]
        exact R
      have ec : m_X11_cells s.2.2 = some (nC M : Int) := X11_cells R2
      have el := X11_isL R2 O hc (z := (z : Int)) (by omega)
      have ef := X11_far R2 hc hv
      have fb := farM_b O.2.1.1 O.2.1.2 hc hv
      have as := argB_s (fun c => isL M z c && !((l ++ [v]).contains c)) (fun c b => decide (gapM (mW M) (l ++ [v]) b < gapM (mW M) (l ++ [v]) c)) c
      rw [← a1] at as
      have ab := argB_cases (fun c => isL M z c && !((l ++ [v]).contains c)) (fun c b => decide (gapM (mW M) (l ++ [v]) b < gapM (mW M) (l ++ [v]) c)) c
      rw [← a1] at ab
      have stay : ¬ (isL M z c = true ∧ c ∉ l ++ [v]) → (argB (fun c => isL M z c && !((l ++ [v]).contains c)) (fun c b => decide (gapM (mW M) (l ++ [v]) b < gapM (mW M) (l ++ [v]) c)) (c + 1) = s.1) ∧ ∀ x, s.2.2.2 89 x = if x < c + 1 ∧ isL M z x = true ∧ x ∉ l ++ [v] then gapM (mW M) (l ++ [v]) x else D.2 89 x := fun h => by
        refine ⟨?_, fun x => ?_⟩
        · rw [as, if_neg]
          intro hh
          simp only [Bool.and_eq_true] at hh
          exact h ⟨hh.1.1, by have := hh.1.2; simpa using this⟩
        · rw [a5 x]
          by_cases qx : x = c
          · subst qx
            rw [if_neg (fun hh => by omega), if_neg (fun hh => h hh.2)]
          · by_cases q2 : x < c ∧ isL M z x = true ∧ x ∉ l ++ [v]
            · rw [if_pos q2, if_pos ⟨by omega, q2.2⟩]
            · rw [if_neg q2, if_neg (fun hh => q2 ⟨by omega, hh.2⟩)]
      by_cases q : isL M z c = true
      · rw [if_pos q] at el
        have e88 : s.2.2.2 88 c = D.2 88 c := by rw [a4 88 (by omega)]
        rcases hpl c hc q with ⟨p1, p2⟩ | ⟨p1, p1', p2⟩
        · have e89 : s.2.2.2 89 c = D.2 89 c := by rw [a5 c, if_neg (by omega)]
          have hgc := hg c hc q p2
          rw [p1] at e88
          have gsc := gs c
          have gb : 0 ≤ gapM (mW M) (l ++ [v]) c ∧ gapM (mW M) (l ++ [v]) c ≤ 1000 := by omega
          have pc : (isL M z c && !((l ++ [v]).contains c)) = true := by simp [q]; simpa using p2
          -- the write, or none, comes out the same
          have wr : ∀ E : DT, E.1 = s.2.2.1 → (∀ b, b ≠ 89 → E.2 b = s.2.2.2 b) → (∀ x, E.2 89 x = if x = c then gapM (mW M) (l ++ [v]) c else s.2.2.2 89 x) → ∃ b, m_X11_laysOrders_172 (z : Int) k (v : Int) s.1 (c : Int) E = some (.inl (b, (c : Int) + 1, E)) ∧ b = argB (fun c => isL M z c && !((l ++ [v]).contains c)) (fun c b => decide (gapM (mW M) (l ++ [v]) b < gapM (mW M) (l ++ [v]) c)) (c + 1) ∧ ∀ x, E.2 89 x = if x < c + 1 ∧ isL M z x = true ∧ x ∉ l ++ [v] then gapM (mW M) (l ++ [v]) x else D.2 89 x := fun E h1 h2 h3 => by
            have tail : ∀ x, E.2 89 x = if x < c + 1 ∧ isL M z x = true ∧ x ∉ l ++ [v] then gapM (mW M) (l ++ [v]) x else D.2 89 x := fun x => by
              rw [h3 x]
              by_cases qx : x = c
              · subst qx
                rw [if_pos rfl, if_pos ⟨by omega, q, p2⟩]
              · rw [if_neg qx, a5 x]
                by_cases q2 : x < c ∧ isL M z x = true ∧ x ∉ l ++ [v]
                · rw [if_pos q2, if_pos ⟨by omega, q2.2⟩]
                · rw [if_neg q2, if_neg (fun hh => q2 ⟨by omega, hh.2⟩)]
            rcases ab with ⟨h, -⟩ | ⟨b', b1, b2, b3⟩
            · refine ⟨(c : Int), ?_, ?_, tail⟩
              · simp (disch := omega) only [m_X11_laysOrders_172, h, gd_t, ↓reduceIte]
              · rw [as, h, pc]; rfl
            · have ec2 : E.2 89 c = gapM (mW M) (l ++ [v]) c := by rw [h3 c, if_pos rfl]
              have bm : isL M z b' = true ∧ b' ∉ l ++ [v] := by
                simp only [Bool.and_eq_true] at b2
                exact ⟨b2.1, by have := b2.2; simpa using this⟩
              have eb2 : E.2 89 b' = gapM (mW M) (l ++ [v]) b' := by rw [tail b', if_pos ⟨by omega, bm⟩]
              have hgb := hg b' (by omega) bm.1 bm.2
              have fbb := farM_b O.2.1.1 O.2.1.2 (show b' < nC M by omega) hv
              have gsb := gs b'
              have gbb : 0 ≤ gapM (mW M) (l ++ [v]) b' ∧ gapM (mW M) (l ++ [v]) b' ≤ 1000 := by omega
              have hne2 : ¬ ((b' : Int) = -1) := by omega
              have hne3 : ((b' : Int) == -1) = false := by simp
              by_cases q3 : gapM (mW M) (l ++ [v]) b' < gapM (mW M) (l ++ [v]) c
              · refine ⟨(c : Int), ?_, ?_, tail⟩
                · simp (disch := omega) only [m_X11_laysOrders_172, b3, gd_t, if_f hne2, tn, ec2, eb2, if_t q3]
                · rw [as, b3, pc, tn, hne3, decide_eq_true q3]; rfl
              · refine ⟨(b' : Int), ?_, ?_, tail⟩
                · simp (disch := omega) only [m_X11_laysOrders_172, b3, gd_t, if_f hne2, tn, ec2, eb2, if_f q3]
                · rw [as, b3, pc, tn, hne3, decide_eq_false q3]; rfl
          by_cases q4 : farM (mW M) c v < D.2 89 c
          · obtain ⟨b, w1, w2, w3⟩ := wr (sA s.2.2 89 c (farM (mW M) c v)) rfl (fun b hb => by funext j; rw [sA2, if_neg (fun h => hb h.1)]) (fun x => by
              rw [sA2]
              by_cases qx : x = c
              · rw [if_pos ⟨rfl, qx⟩, if_pos qx]; omega
              · rw [if_neg (fun h => qx h.2), if_neg qx])
            refine ⟨(b, (c : Int) + 1, sA s.2.2 89 c (farM (mW M) c v)), ?_, w2, rfl, a3, fun b hb => ?_, w3⟩
            · simp (disch := omega) only [a2, ec, ob_some, gd_t, if_t, el, if_f, tn, e88, ↓reduceIte, ef, e89, if_t q4, sq_eq, w1]
            · funext j
              rw [sA2, if_neg (fun h => hb h.1), a4 b hb]
          · obtain ⟨b, w1, w2, w3⟩ := wr s.2.2 rfl (fun b hb => rfl) (fun x => by
              by_cases qx : x = c
              · rw [if_pos qx, qx, e89]; omega
              · rw [if_neg qx])
            refine ⟨(b, (c : Int) + 1, s.2.2), ?_, w2, rfl, a3, a4, w3⟩
            simp (disch := omega) only [a2, ec, ob_some, gd_t, if_t, el, if_f, tn, e88, ↓reduceIte, ef, e89, if_f q4, w1]
        · obtain ⟨t1, t2⟩ := stay (fun h => h.2 p2)
          refine ⟨(s.1, (c : Int) + 1, s.2.2), ?_, t1.symm, rfl, a3, a4, t2⟩
          have ne : ¬ D.2 88 c = -1 := by omega
          simp (disch := omega) only [a2, ec, ob_some, gd_t, if_t, el, if_f, tn, e88, if_f ne]
      · rw [if_neg q] at el
        obtain ⟨t1, t2⟩ := stay (fun h => q h.1)
        refine ⟨(s.1, (c : Int) + 1, s.2.2), ?_, t1.symm, rfl, a3, a4, t2⟩
        simp (disch := omega) only [a2, ec, ob_some, gd_t, if_t, el, ↓reduceIte])
  refine ⟨s'.2.2, ?_, i3, i4, fun c hc hl hn => by rw [i5, if_pos ⟨hc, hl, hn⟩]⟩
  rw [e]
  refine loopF_inr ?_
  have R2 : RMap s'.2.2 (mW M) (mH M) (mO M) (mS M) := by
    unfold RMap at *
    rw [i4 76 (by omega), i4 78 (by omega), i4 80 (by omega)]
    exact R
  have ec : m_X11_cells s'.2.2 = some (nC M : Int) := X11_cells R2
  simp (disch := omega) only [i2, ec, ob_some, gd_t, if_f, done_some, i1]
