/-! ===== cells beside a cell ===== -/
def bsM (w h c k : Nat) : Int := if k = 0 then (if 0 < c / w then (c : Int) - (w : Int) else -1) else if k = 1 then (if 0 < c % w then (c : Int) - 1 else -1) else if k = 2 then (if c % w + 1 < w then (c : Int) + 1 else -1) else (if c / w + 1 < h then (c : Int) + (w : Int) else -1)
theorem wr_lt {w h r x : Nat} (hr : r < h) (hx : x < w) : w * r + x < w * h := by
  have : w * (r + 1) ≤ w * h := Nat.mul_le_mul_left _ hr
  rw [Nat.mul_succ] at this
  omega
theorem wr_div {w r x : Nat} (hx : x < w) : (w * r + x) / w = r ∧ (w * r + x) % w = x := by
  refine ⟨?_, ?_⟩
  · rw [Nat.mul_add_div (by omega), Nat.div_eq_of_lt hx]; rfl
  · rw [Nat.mul_add_mod, Nat.mod_eq_of_lt hx]
/-- beside, by rows and columns -/
theorem bs_rc {w h r x : Nat} (hx : x < w) (k : Nat) : bsM w h (w * r + x) k = if k = 0 then (if 0 < r then ((w * (r - 1) + x : Nat) : Int) else -1) else if k = 1 then (if 0 < x then ((w * r + (x - 1) : Nat) : Int) else -1) else if k = 2 then (if x + 1 < w then ((w * r + (x + 1) : Nat) : Int) else -1) else (if r + 1 < h then ((w * (r + 1) + x : Nat) : Int) else -1) := by
  obtain ⟨e1, e2⟩ := wr_div (r := r) hx
  unfold bsM
  rw [e1, e2]
  split
  · split
    · obtain ⟨r', rfl⟩ : ∃ r', r = r' + 1 := ⟨r - 1, by omega⟩
      rw [Nat.add_sub_cancel, Nat.mul_succ]
      generalize w * r' = y
      omega
    · rfl
  · split
    · split
      · generalize w * r = y
        omega
      · rfl
    · split
      · split
        · generalize w * r = y
          omega
        · rfl
      · split
        · rw [Nat.mul_succ]
          generalize w * r = y
          omega
        · rfl
theorem cell_rc {w h c : Nat} (hc : c < w * h) : ∃ r x, r < h ∧ x < w ∧ c = w * r + x := ⟨c / w, c % w, (divh hc).1, (divh hc).2, (Nat.div_add_mod c w).symm⟩
theorem bs_b {w h c : Nat} (hc : c < w * h) (k : Nat) : bsM w h c k = -1 ∨ ∃ b : Nat, b < w * h ∧ bsM w h c k = (b : Int) := by
  obtain ⟨r, x, hr, hx, rfl⟩ := cell_rc hc
  rw [bs_rc hx]
  split
  · split
    · exact Or.inr ⟨_, wr_lt (by omega) hx, rfl⟩
    · exact Or.inl rfl
  · split
    · split
      · exact Or.inr ⟨_, wr_lt hr (by omega), rfl⟩
      · exact Or.inl rfl
    · split
      · split
        · exact Or.inr ⟨_, wr_lt hr (by omega), rfl⟩
        · exact Or.inl rfl
      · split
        · exact Or.inr ⟨_, wr_lt (by omega) hx, rfl⟩
        · exact Or.inl rfl
def adjM (w h a b : Nat) : Prop := a < w * h ∧ ∃ k, k < 4 ∧ bsM w h a k = (b : Int)
theorem adj_lt {w h a b : Nat} (H : adjM w h a b) : b < w * h := by
  obtain ⟨h1, k, -, h2⟩ := H
  rcases bs_b h1 k with h | ⟨b', h3, h4⟩
  · omega
  · have : b = b' := by omega
    omega
theorem adj_sym {w h a b : Nat} (H : adjM w h a b) : adjM w h b a := by
  refine ⟨adj_lt H, ?_⟩
  obtain ⟨h1, k, hk, h2⟩ := H
  obtain ⟨r, x, hr, hx, rfl⟩ := cell_rc h1
  rw [bs_rc hx] at h2
  split at h2
  · split at h2
    · have e : b = w * (r - 1) + x := by omega
      subst e
      refine ⟨3, by omega, ?_⟩
      rw [bs_rc hx, if_neg (by omega), if_neg (by omega), if_neg (by omega), if_pos (by omega), show r - 1 + 1 = r by omega]
    · omega
  · split at h2
    · split at h2
      · have e : b = w * r + (x - 1) := by omega
        subst e
        refine ⟨2, by omega, ?_⟩
        rw [bs_rc (by omega), if_neg (by omega), if_neg (by omega), if_pos rfl, if_pos (by omega), show x - 1 + 1 = x by omega]
      · omega
    · split at h2
      · split at h2
        · have e : b = w * r + (x + 1) := by omega
          subst e
          refine ⟨1, by omega, ?_⟩
          rw [bs_rc (by omega), if_neg (by omega), if_pos rfl, if_pos (by omega), show x + 1 - 1 = x by omega]
        · omega
      · split at h2
        · have e : b = w * (r + 1) + x := by omega
          subst e
          refine ⟨0, by omega, ?_⟩
          rw [bs_rc hx, if_pos rfl, if_pos (by omega), show r + 1 - 1 = r by omega]
        · omega
theorem X1_beside {D : DT} {hc : Nat} {w h : Nat} {ow se : Nat → Int} (C : CMap D hc w h ow se) {c k : Nat} (hcc : c < w * h) (hk : k < 4) : m_X1_beside hc (c : Int) (k : Int) D = some (bsM w h c k) := by
  obtain ⟨⟨h1, h2⟩, ⟨w1, w2⟩, h3⟩ := C
  have n4 := wh384 w1 w2
  obtain ⟨-, -, m3, m4⟩ := h3 c hcc
  have d1 := (divh hcc).1
  have d2 := (divh hcc).2
  unfold bsM
  generalize c / w = r at *
  generalize c % w = x at *
  have hk4 : k = 0 ∨ k = 1 ∨ k = 2 ∨ k = 3 := by omega
  rcases hk4 with rfl | rfl | rfl | rfl
  · have z : ((0 : Nat) : Int) = 0 := rfl
    by_cases q : 0 < r
    · simp (disch := omega) only [m_X1_beside, z, gd_t, ↓reduceIte, tn, m4, if_t, h1, if_t q]
    · simp (disch := omega) only [m_X1_beside, z, gd_t, ↓reduceIte, tn, m4, if_f, h1, if_f q]
  · have z : ((1 : Nat) : Int) = 1 := rfl
    by_cases q : 0 < x
    · simp (disch := omega) only [m_X1_beside, z, gd_t, if_f, ↓reduceIte, tn, m3, if_t, if_t q]
    · simp (disch := omega) only [m_X1_beside, z, gd_t, if_f, ↓reduceIte, tn, m3, if_f q]
  · have z : ((2 : Nat) : Int) = 2 := rfl
    by_cases q : x + 1 < w
    · simp (disch := omega) only [m_X1_beside, z, gd_t, if_f, ↓reduceIte, tn, m3, h1, if_t, if_t q]
    · simp (disch := omega) only [m_X1_beside, z, gd_t, if_f, ↓reduceIte, tn, m3, h1, if_f q]
  · have z : ((3 : Nat) : Int) = 3 := rfl
    by_cases q : r + 1 < h
    · simp (disch := omega) only [m_X1_beside, z, gd_t, if_f, tn, m4, h1, h2, if_t, if_t q]
    · simp (disch := omega) only [m_X1_beside, z, gd_t, if_f, tn, m4, h1, h2, if_f q]
/-- the reference's sides stand in another order -/
def prm (k : Nat) : Nat := if k = 0 then 1 else if k = 1 then 2 else if k = 2 then 0 else 3
theorem X11_beside {D : DT} {w h : Nat} {ow se : Nat → Int} (R : RMap D w h ow se) {c k : Nat} (hcc : c < w * h) (hk : k < 4) : m_X11_beside (c : Int) (k : Int) D = some (bsM w h c (prm k)) := by
  obtain ⟨⟨h1, h2⟩, ⟨w1, w2⟩, h3⟩ := R
  have n4 := wh384 w1 w2
  have d1 := (divh hcc).1
  have d2 := (divh hcc).2
  have w0 : 0 < w := by omega
  have v1 : (c : Int) / (w : Int) = ((c / w : Nat) : Int) := cdiv _ _
  have v3 : (c : Int) % (w : Int) = ((c % w : Nat) : Int) := cmod _ _
  unfold bsM prm
  generalize c / w = r at *
  generalize c % w = x at *
  have hk4 : k = 0 ∨ k = 1 ∨ k = 2 ∨ k = 3 := by omega
  rcases hk4 with rfl | rfl | rfl | rfl
  · have z : ((0 : Nat) : Int) = 0 := rfl
    by_cases q : 0 < x
    · simp (disch := omega) only [m_X11_beside, z, gd_t, ↓reduceIte, t0, h1, v3, v1, if_f, if_t q]
    · simp (disch := omega) only [m_X11_beside, z, gd_t, ↓reduceIte, t0, h1, v3, v1, if_f, if_t, if_f q]
  · have z : ((1 : Nat) : Int) = 1 := rfl
    by_cases q : x + 1 < w
    · simp (disch := omega) only [m_X11_beside, z, gd_t, if_f, ↓reduceIte, t0, h1, v3, v1, if_t q]
    · simp (disch := omega) only [m_X11_beside, z, gd_t, if_f, ↓reduceIte, t0, h1, v3, v1, if_t, if_f q]
  · have z : ((2 : Nat) : Int) = 2 := rfl
    by_cases q : 0 < r
    · simp (disch := omega) only [m_X11_beside, z, gd_t, if_f, ↓reduceIte, t0, h1, v3, v1, if_t q]
    · simp (disch := omega) only [m_X11_beside, z, gd_t, if_f, ↓reduceIte, t0, h1, v3, v1, if_t, if_f q]
  · have z : ((3 : Nat) : Int) = 3 := rfl
    by_cases q : r + 1 < h
    · simp (disch := omega) only [m_X11_beside, z, gd_t, if_f, ↓reduceIte, t0, t1, h1, h2, v3, v1, if_t q]
    · simp (disch := omega) only [m_X11_beside, z, gd_t, if_f, ↓reduceIte, t0, t1, h1, h2, v3, v1, if_t, if_f q]
/-! shore and border -/
def shoM (M : MS) (b : Int) : Int := if b = -1 then 0 else if mS M b.toNat = 0 then 0 else 1
def brd (M : MS) (z b : Int) : Int := if b = -1 then 0 else if hasL M b.toNat = true then (if mO M b.toNat = z then 0 else 1) else 0
def sdM (M : MS) (z : Int) (f : Int → Int) : Int := sumTo (fun c => if isL M z c then sumTo (fun k => f (bsM (mW M) (mH M) c k)) 4 else 0) (nC M)
theorem sd_prm (M : MS) (f : Int → Int) (c : Nat) : sumTo (fun k => f (bsM (mW M) (mH M) c (prm k))) 4 = sumTo (fun k => f (bsM (mW M) (mH M) c k)) 4 := by
  simp only [sumTo, prm]
  simp only [↓reduceIte, if_f (show ¬ (1 : Nat) = 0 by omega), if_f (show ¬ (2 : Nat) = 0 by omega), if_f (show ¬ (2 : Nat) = 1 by omega), if_f (show ¬ (3 : Nat) = 0 by omega), if_f (show ¬ (3 : Nat) = 1 by omega), if_f (show ¬ (3 : Nat) = 2 by omega)]
  omega
theorem sd_b {M : MS} (O : MOK M) (z : Int) {f : Int → Int} (hf : ∀ b, 0 ≤ f b ∧ f b ≤ 1) : 0 ≤ sdM M z f ∧ sdM M z f ≤ 1536 := by
  have n4 := nCb O
  have := sumTo_bounds (f := fun c => if isL M z c then sumTo (fun k => f (bsM (mW M) (mH M) c k)) 4 else 0) (n := nC M) (a := 0) (b := 4) (fun c _ => by
    have := sumTo_bounds (f := fun k => f (bsM (mW M) (mH M) c k)) (n := 4) (a := 0) (b := 1) (fun k _ => hf _)
    split <;> omega)
  unfold sdM
  omega
theorem shoM_b (M : MS) (b : Int) : 0 ≤ shoM M b ∧ shoM M b ≤ 1 := by unfold shoM; split <;> (try split) <;> omega
theorem brd_b (M : MS) (z b : Int) : 0 ≤ brd M z b ∧ brd M z b ≤ 1 := by unfold brd; split <;> (try split) <;> (try split) <;> omega
theorem X1_isL {D : DT} {hc : Nat} {M : MS} {z : Int} (C : CMap D hc (mW M) (mH M) (mO M) (mS M)) (O : MOK M) {c : Nat} (hcc : c < nC M) (hz : InR z) : m_X1_isLandOf hc (c : Int) z D = some (if isL M z c then 1 else 0) := by
  rw [X1_isLandOf C O.2.2.2.2.1 hcc hz O.2.2.1, isL_b]
theorem X1_hasL {D : DT} {hc : Nat} {M : MS} (C : CMap D hc (mW M) (mH M) (mO M) (mS M)) (O : MOK M) {c : Nat} (hcc : c < nC M) : m_X1_isLand hc (c : Int) D = some (if hasL M c then 1 else 0) := by
  rw [X1_isLand C O.2.2.2.2.1 hcc O.2.2.1]
  by_cases q : hasL M c = true
  · rw [b2i_t (hasL_iff.mp q), if_pos q]
  · rw [b2i_f (fun h => q (hasL_iff.mpr h)), if_neg q]
theorem X11_hasL {D : DT} {M : MS} (R : RMap D (mW M) (mH M) (mO M) (mS M)) (O : MOK M) {c : Nat} (hcc : c < nC M) : m_X11_isLand (c : Int) D = some (if hasL M c then 1 else 0) := by
  rw [X11_isLand R O.2.2.2.2.1 hcc O.2.2.1]
  by_cases q : hasL M c = true
  · rw [b2i_t (hasL_iff.mp q), if_pos q]
  · rw [b2i_f (fun h => q (hasL_iff.mpr h)), if_neg q]
theorem X1_shoreOf {D : DT} {hc : Nat} {M : MS} {z : Int} (C : CMap D hc (mW M) (mH M) (mO M) (mS M)) (O : MOK M) (hz : InR z) : m_X1_shoreOf hc z D = some (sdM M z (shoM M)) := by
  have n4 := nCb O
  have ec : m_X1_cells hc D = some (nC M : Int) := X1_cells C
  unfold sdM
  refine loop_for (st := fun c => (sumTo (fun c => if isL M z c then sumTo (fun k => shoM M (bsM (mW M) (mH M) c k)) 4 else 0) c, (c : Int))) (nC M) (fun c hcc => ?_) ?_
  · have c1 : ((c + 1 : Nat) : Int) = (c : Int) + 1 := rfl
    rw [sumTo]
    generalize sumTo (fun c => if isL M z c then sumTo (fun k => shoM M (bsM (mW M) (mH M) c k)) 4 else 0) c = S
    have el := X1_isL C O hcc hz
    have inner : m_X1_shoreOf_15 hc z (c : Int) D (S, 0) = some (.inl (S + (if isL M z c then sumTo (fun k => shoM M (bsM (mW M) (mH M) c k)) 4 else 0), (c : Int) + 1)) := by
      by_cases q : isL M z c = true
      · rw [if_pos q] at el
        simp only [if_t q]
        have key := loop_for (f := fun s : Int × Int =>
          gd (InR s.2 ∧ InR 4) (if s.2 < 4 then (
            (m_X1_isLandOf hc (c : Int) z D).bind (fun r24 =>
            gd (InR r24) (if r24 = 0 then (
              done (
              some ((.inl (s.1, ((c : Int) + 1))) : (Int × Int) ⊕ Int)
              )
            ) else (
              (m_X1_beside hc (c : Int) s.2 D).bind (fun r34 =>
              gd (InR r34 ∧ InR (-1)) (if r34 = (-1) then (
                some (.inl ((s.1 + 0), (s.2 + 1)))
              ) else (
                gd ((0 : Int) ≤ r34 ∧ r34 < (384 : Int)) (
                gd (InR (D.2 (hc + 2) (Int.toNat r34))) (if (D.2 (hc + 2) (Int.toNat r34)) = 0 then (
                  some (.inl ((s.1 + 0), (s.2 + 1)))
                ) else (
                  some (.inl ((s.1 + 1), (s.2 + 1)))
                ))
                )
              ))
              )
            ))
            )
          ) else (
            done (
            some (.inl (s.1, ((c : Int) + 1)))
            )
          ))) (st := fun k => (S + sumTo (fun k => shoM M (bsM (mW M) (mH M) c k)) k, (k : Int))) (r := (.inl (S + sumTo (fun k => shoM M (bsM (mW M) (mH M) c k)) 4, (c : Int) + 1) : (Int × Int) ⊕ Int)) 4 (fun k hk => by
            have eb := X1_beside C hcc hk
            have k1 : ((k + 1 : Nat) : Int) = (k : Int) + 1 := rfl
            rw [sumTo]
            generalize sumTo (fun k => shoM M (bsM (mW M) (mH M) c k)) k = T
            rcases bs_b hcc k with h | ⟨b, h1, h2⟩
            · rw [h] at eb ⊢
              have s0 : shoM M (-1) = 0 := rfl
              simp (disch := omega) only [gd_t, if_t, el, ob_some, if_f, eb, ↓reduceIte, k1, s0, Int.add_assoc]
            · rw [h2] at eb ⊢
              have hbn : b < nC M := h1
              have m2 := (C.2.2 b h1).2.1
              have sb := (O.2.2.2.2.1 b h1).2
              have ne : ¬ ((b : Int) = -1) := by omega
              by_cases q2 : mS M b = 0
              · have s0 : shoM M (b : Int) = 0 := by unfold shoM; rw [if_neg ne, tn, if_pos q2]
                simp (disch := omega) only [gd_t, if_t, el, ob_some, if_f, eb, if_f ne, tn, m2, if_t q2, k1, s0, Int.add_assoc]
              · have s0 : shoM M (b : Int) = 1 := by unfold shoM; rw [if_neg ne, tn, if_neg q2]
                simp (disch := omega) only [gd_t, if_t, el, ob_some, if_f, eb, if_f ne, tn, m2, if_f q2, k1, s0, Int.add_assoc]) (by
            have k4 : ((4 : Nat) : Int) = 4 := rfl
            simp (disch := omega) only [k4, gd_t, if_f, done_some])
        have s00 : S + sumTo (fun k => shoM M (bsM (mW M) (mH M) c k)) 0 = S := by rw [sumTo, Int.add_zero]
        rw [s00] at key
        exact key
      · rw [if_neg q] at el
        simp only [if_f q, Int.add_zero]
        unfold m_X1_shoreOf_15
        refine loopF_inr ?_
        simp (disch := omega) only [gd_t, if_t, el, ob_some, ↓reduceIte, done_some]
    simp (disch := omega) only [ec, ob_some, gd_t, if_t, inner, c1]
  · simp (disch := omega) only [ec, ob_some, gd_t, if_f, done_some]
theorem X1_borderOf {D : DT} {hc : Nat} {M : MS} {z : Int} (C : CMap D hc (mW M) (mH M) (mO M) (mS M)) (O : MOK M) (hz : InR z) : m_X1_borderOf hc z D = some (sdM M z (brd M z)) := by
  have n4 := nCb O
  have z8 := O.2.2.1
  have ec : m_X1_cells hc D = some (nC M : Int) := X1_cells C
  unfold sdM
  refine loop_for (st := fun c => (sumTo (fun c => if isL M z c then sumTo (fun k => brd M z (bsM (mW M) (mH M) c k)) 4 else 0) c, (c : Int))) (nC M) (fun c hcc => ?_) ?_
  · have c1 : ((c + 1 : Nat) : Int) = (c : Int) + 1 := rfl
    rw [sumTo]
    generalize sumTo (fun c => if isL M z c then sumTo (fun k => brd M z (bsM (mW M) (mH M) c k)) 4 else 0) c = S
    have el := X1_isL C O hcc hz
    have inner : m_X1_borderOf_15 hc z (c : Int) D (S, 0) = some (.inl (S + (if isL M z c then sumTo (fun k => brd M z (bsM (mW M) (mH M) c k)) 4 else 0), (c : Int) + 1)) := by
      by_cases q : isL M z c = true
      · rw [if_pos q] at el
        simp only [if_t q]
        have key := loop_for (f := fun s : Int × Int =>
          gd (InR s.2 ∧ InR 4) (if s.2 < 4 then (
            (m_X1_isLandOf hc (c : Int) z D).bind (fun r24 =>
            gd (InR r24) (if r24 = 0 then (
              done (
              some ((.inl (s.1, ((c : Int) + 1))) : (Int × Int) ⊕ Int)
              )
            ) else (
              (m_X1_beside hc (c : Int) s.2 D).bind (fun r34 =>
              gd (InR r34 ∧ InR (-1)) (if r34 = (-1) then (
                some (.inl ((s.1 + 0), (s.2 + 1)))
              ) else (
                (m_X1_isLand hc r34 D).bind (fun r49 =>
                gd (InR r49) (if r49 = 0 then (
                  some (.inl ((s.1 + 0), (s.2 + 1)))
                ) else (
                  gd ((0 : Int) ≤ r34 ∧ r34 < (384 : Int)) (
                  gd (InR (D.2 (hc + 1) (Int.toNat r34)) ∧ InR z) (if (D.2 (hc + 1) (Int.toNat r34)) = z then (
                    some (.inl ((s.1 + 0), (s.2 + 1)))
                  ) else (
                    some (.inl ((s.1 + 1), (s.2 + 1)))
                  ))
                  )
                ))
                )
              ))
              )
            ))
            )
          ) else (
            done (
            some (.inl (s.1, ((c : Int) + 1)))
            )
          ))) (st := fun k => (S + sumTo (fun k => brd M z (bsM (mW M) (mH M) c k)) k, (k : Int))) (r := (.inl (S + sumTo (fun k => brd M z (bsM (mW M) (mH M) c k)) 4, (c : Int) + 1) : (Int × Int) ⊕ Int)) 4 (fun k hk => by
            have eb := X1_beside C hcc hk
            have k1 : ((k + 1 : Nat) : Int) = (k : Int) + 1 := rfl
            rw [sumTo]
            generalize sumTo (fun k => brd M z (bsM (mW M) (mH M) c k)) k = T
            rcases bs_b hcc k with h | ⟨b, h1, h2⟩
            · rw [h] at eb ⊢
              have s0 : brd M z (-1) = 0 := rfl
              simp (disch := omega) only [gd_t, if_t, el, ob_some, if_f, eb, ↓reduceIte, k1, s0, Int.add_assoc]
            · rw [h2] at eb ⊢
              have hbn : b < nC M := h1
              have m1 := (C.2.2 b h1).1
              have ob := (O.2.2.2.2.1 b h1).1
              have eh := X1_hasL C O h1
              have ne : ¬ ((b : Int) = -1) := by omega
              by_cases q2 : hasL M b = true
              · rw [if_pos q2] at eh
                by_cases q3 : mO M b = z
                · have s0 : brd M z (b : Int) = 0 := by unfold brd; rw [if_neg ne, tn, if_pos q2, if_pos q3]
                  simp (disch := omega) only [gd_t, if_t, el, ob_some, if_f, eb, if_f ne, eh, tn, m1, if_t q3, k1, s0, Int.add_assoc]
                · have s0 : brd M z (b : Int) = 1 := by unfold brd; rw [if_neg ne, tn, if_pos q2, if_neg q3]
                  simp (disch := omega) only [gd_t, if_t, el, ob_some, if_f, eb, if_f ne, eh, tn, m1, if_f q3, k1, s0, Int.add_assoc]
              · rw [if_neg q2] at eh
                have s0 : brd M z (b : Int) = 0 := by unfold brd; rw [if_neg ne, tn, if_neg q2]
                simp (disch := omega) only [gd_t, if_t, el, ob_some, if_f, eb, if_f ne, eh, ↓reduceIte, k1, s0, Int.add_assoc]) (by
            have k4 : ((4 : Nat) : Int) = 4 := rfl
            simp (disch := omega) only [k4, gd_t, if_f, done_some])
        have s00 : S + sumTo (fun k => brd M z (bsM (mW M) (mH M) c k)) 0 = S := by rw [sumTo, Int.add_zero]
        rw [s00] at key
        exact key
      · rw [if_neg q] at el
        simp only [if_f q, Int.add_zero]
        unfold m_X1_borderOf_15
        refine loopF_inr ?_
        simp (disch := omega) only [gd_t, if_t, el, ob_some, ↓reduceIte, done_some]
    simp (disch := omega) only [ec, ob_some, gd_t, if_t, inner, c1]
  · simp (disch := omega) only [ec, ob_some, gd_t, if_f, done_some]
theorem X11_sides {D : DT} {M : MS} {z sd : Int} (R : RMap D (mW M) (mH M) (mO M) (mS M)) (O : MOK M) (hz : InR z) (hsd : sd = 0 ∨ sd = 1) : m_X11_sides z sd D = some (sdM M z (if sd = 0 then brd M z else shoM M)) := by
  have n4 := nCb O
  have z8 := O.2.2.1
  have ec : m_X11_cells D = some (nC M : Int) := X11_cells R
  obtain ⟨f, hf⟩ : ∃ f : Int → Int, f = if sd = 0 then brd M z else shoM M := ⟨_, rfl⟩
  rw [← hf]
  unfold sdM
  refine loop_for (st := fun c => (sumTo (fun c => if isL M z c then sumTo (fun k => f (bsM (mW M) (mH M) c k)) 4 else 0) c, (c : Int))) (nC M) (fun c hcc => ?_) ?_
  · have c1 : ((c + 1 : Nat) : Int) = (c : Int) + 1 := rfl
    rw [sumTo]
    generalize sumTo (fun c => if isL M z c then sumTo (fun k => f (bsM (mW M) (mH M) c k)) 4 else 0) c = S
    have el := X11_isL R O hcc hz
    have inner : m_X11_sides_17 z sd (c : Int) D (S, 0) = some (.inl (S + (if isL M z c then sumTo (fun k => f (bsM (mW M) (mH M) c k)) 4 else 0), (c : Int) + 1)) := by
      by_cases q : isL M z c = true
      · rw [if_pos q] at el
        simp only [if_t q]
        rw [← sd_prm]
        have key := loop_for (f := fun s : Int × Int =>
          gd (InR s.2 ∧ InR 4) (if s.2 < 4 then (
            (m_X11_isLandOf (c : Int) z D).bind (fun r27 =>
            gd (InR r27) (if r27 = 0 then (
              done (
              some ((.inl (s.1, ((c : Int) + 1))) : (Int × Int) ⊕ Int)
              )
            ) else (
              (m_X11_beside (c : Int) s.2 D).bind (fun r38 =>
              gd (InR r38 ∧ InR (-1)) (if r38 = (-1) then (
                some (.inl (s.1, (s.2 + 1)))
              ) else (
                gd (InR sd) (if sd = 0 then (
                  (m_X11_isLand r38 D).bind (fun r69 =>
                  gd (InR r69) (if r69 = 0 then (
                    some (.inl (s.1, (s.2 + 1)))
                  ) else (
                    gd ((0 : Int) ≤ r38 ∧ r38 < (384 : Int)) (
                    gd (InR (D.2 78 (Int.toNat r38)) ∧ InR z) (if (D.2 78 (Int.toNat r38)) = z then (
                      some (.inl (s.1, (s.2 + 1)))
                    ) else (
                      some (.inl ((s.1 + 1), (s.2 + 1)))
                    ))
                    )
                  ))
                  )
                ) else (
                  gd ((0 : Int) ≤ r38 ∧ r38 < (384 : Int)) (
                  gd (InR (D.2 80 (Int.toNat r38))) (if (D.2 80 (Int.toNat r38)) = 0 then (
                    some (.inl (s.1, (s.2 + 1)))
                  ) else (
                    some (.inl ((s.1 + 1), (s.2 + 1)))
                  ))
                  )
                ))
              ))
              )
            ))
            )
          ) else (
            done (
            some (.inl (s.1, ((c : Int) + 1)))
            )
          ))) (st := fun k => (S + sumTo (fun k => f (bsM (mW M) (mH M) c (prm k))) k, (k : Int))) (r := (.inl (S + sumTo (fun k => f (bsM (mW M) (mH M) c (prm k))) 4, (c : Int) + 1) : (Int × Int) ⊕ Int)) 4 (fun k hk => by
            have eb := X11_beside R hcc hk
            have k1 : ((k + 1 : Nat) : Int) = (k : Int) + 1 := rfl
            rw [sumTo]
            generalize sumTo (fun k => f (bsM (mW M) (mH M) c (prm k))) k = T
            rcases bs_b hcc (prm k) with h | ⟨b, h1, h2⟩
            · rw [h] at eb ⊢
              have s0 : f (-1) = 0 := by rw [hf]; split <;> rfl
              simp (disch := omega) only [gd_t, if_t, el, ob_some, if_f, eb, ↓reduceIte, k1, s0, Int.add_zero]
            · rw [h2] at eb ⊢
              have hbn : b < nC M := h1
              obtain ⟨m1, m2⟩ := R.2.2 b h1
              have ob := O.2.2.2.2.1 b h1
              have eh := X11_hasL R O h1
              have ne : ¬ ((b : Int) = -1) := by omega
              by_cases qs : sd = 0
              · rw [if_pos qs] at hf
                by_cases q2 : hasL M b = true
                · rw [if_pos q2] at eh
                  by_cases q3 : mO M b = z
                  · have s0 : f (b : Int) = 0 := by rw [hf]; unfold brd; rw [if_neg ne, tn, if_pos q2, if_pos q3]
                    simp (disch := omega) only [gd_t, if_t, el, ob_some, if_f, eb, if_f ne, if_t qs, eh, tn, m1, if_t q3, k1, s0, Int.add_zero]
                  · have s0 : f (b : Int) = 1 := by rw [hf]; unfold brd; rw [if_neg ne, tn, if_pos q2, if_neg q3]
                    simp (disch := omega) only [gd_t, if_t, el, ob_some, if_f, eb, if_f ne, if_t qs, eh, tn, m1, if_f q3, k1, s0, Int.add_assoc]
                · rw [if_neg q2] at eh
                  have s0 : f (b : Int) = 0 := by rw [hf]; unfold brd; rw [if_neg ne, tn, if_neg q2]
                  simp (disch := omega) only [gd_t, if_t, el, ob_some, if_f, eb, if_f ne, if_t qs, eh, ↓reduceIte, k1, s0, Int.add_zero]
              · rw [if_neg qs] at hf
                by_cases q2 : mS M b = 0
                · have s0 : f (b : Int) = 0 := by rw [hf]; unfold shoM; rw [if_neg ne, tn, if_pos q2]
                  simp (disch := omega) only [gd_t, if_t, el, ob_some, if_f, eb, if_f ne, if_f qs, tn, m2, if_t q2, k1, s0, Int.add_zero]
                · have s0 : f (b : Int) = 1 := by rw [hf]; unfold shoM; rw [if_neg ne, tn, if_neg q2]
                  simp (disch := omega) only [gd_t, if_t, el, ob_some, if_f, eb, if_f ne, if_f qs, tn, m2, if_f q2, k1, s0, Int.add_assoc]) (by
            have k4 : ((4 : Nat) : Int) = 4 := rfl
            simp (disch := omega) only [k4, gd_t, if_f, done_some])
        have s00 : S + sumTo (fun k => f (bsM (mW M) (mH M) c (prm k))) 0 = S := by rw [sumTo, Int.add_zero]
        rw [s00] at key
        exact key
      · rw [if_neg q] at el
        simp only [if_f q, Int.add_zero]
        unfold m_X11_sides_17
        refine loopF_inr ?_
        simp (disch := omega) only [gd_t, if_t, el, ob_some, ↓reduceIte, done_some]
    simp (disch := omega) only [ec, ob_some, gd_t, if_t, inner, c1]
  · simp (disch := omega) only [ec, ob_some, gd_t, if_f, done_some]
