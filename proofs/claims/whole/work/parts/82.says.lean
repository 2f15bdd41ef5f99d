/-! ===== the reference writes ===== -/
def SKp (D E : DT) : Prop := (∀ a k, (a = 73 → k ≠ 40) → E.1 a k = D.1 a k) ∧ ∀ b, b ≠ 101 → E.2 b = D.2 b
theorem SKp.refl (D : DT) : SKp D D := ⟨fun _ _ _ => rfl, fun _ _ => rfl⟩
theorem SKp.trans {D E F : DT} (h : SKp D E) (h' : SKp E F) : SKp D F := ⟨fun a k hk => (h'.1 a k hk).trans (h.1 a k hk), fun b hb => (h'.2 b hb).trans (h.2 b hb)⟩
theorem SKp.map {D E : DT} {w h : Nat} {ow se : Nat → Int} (f : SKp D E) (R : RMap D w h ow se) : RMap E w h ow se := by
  unfold RMap at *
  rw [f.2 76 (by omega), f.2 78 (by omega), f.2 80 (by omega)]
  exact R
def SR (D : DT) (t : List Int) : Prop := D.1 73 40 = (t.length : Int) ∧ ArrT (D.2 101) t
theorem X11_says {D : DT} {v : Int} (hv : -128 ≤ v ∧ v ≤ 127) {t : List Int} (h : SR D t) (hl : t.length < 20000) : ∃ E, m_X11_says v D = some E ∧ SKp D E ∧ SR E (t ++ [v]) := by
  have e := i2b_id hv
  obtain ⟨h1, h2⟩ := h
  have gq : ((0 : Int) ≤ (t.length : Int) ∧ (t.length : Int) < (20000 : Int)) ∧ ((-128 : Int) ≤ v ∧ v ≤ (127 : Int)) := ⟨by omega, hv⟩
  refine ⟨sF (sA D 101 t.length v) 73 40 ((t.length : Int) + 1), ?_, ⟨fun a k hk => by rw [sF1, if_neg (fun hh => hk hh.1 hh.2)]; rfl, fun b hb => by funext k; rw [sF2, sA2, if_neg (by omega)]⟩, ⟨?_, h2.snoc (fun j => ?_)⟩⟩
  · simp (disch := omega) only [m_X11_says, h1, e, gd_t gq, tn, sq_eq, sA1]
  · rw [sF1, if_pos ⟨rfl, rfl⟩, List.length_append]; rfl
  · rw [sF2, sA2]
    by_cases q : j = t.length
    · rw [if_pos ⟨rfl, q⟩, if_pos q]
    · rw [if_neg (fun h => q h.2), if_neg q]
theorem X11_saysWord {D : DT} {i : Nat} (hb : BT (strB i)) (hl : (strB i).length ≤ 100) {t : List Int} (h : SR D t) (hn : t.length + (strB i).length ≤ 20000) : ∃ E, m_X11_saysWord i D = some E ∧ SKp D E ∧ SR E (t ++ strB i) := by
  have eL : strL i = ((strB i).length : Int) := rfl
  unfold m_X11_saysWord m_X11_saysWord_2
  obtain ⟨s', ⟨i1, i2, i3⟩, e⟩ := loop_inv (f := fun s : Int × DT =>
    gd (InR s.1 ∧ InR (strL i)) (if s.1 < (strL i) then (
      gd (0 ≤ s.1 ∧ s.1 < strL i) (
      (m_X11_says (strC i (Int.toNat s.1)) s.2).bind (fun D16 =>
      some (.inl ((s.1 + 1), D16))
      ))
    ) else (
      done (
      some s.2
      )
    ))) (fun k s => s.1 = (k : Int) ∧ SKp D s.2 ∧ SR s.2 (t ++ (strB i).take k)) (strB i).length (s := (0, D)) ⟨rfl, SKp.refl _, by simpa using h⟩ (fun k s hk ⟨a1, a2, a3⟩ => by
      have ec : strC i k = (strB i)[k] := by
        unfold strC
        rw [List.getD_eq_getElem?_getD, List.getElem?_eq_getElem hk]
        rfl
      have hv := hb _ (List.getElem_mem hk)
      rw [← ec] at hv
      obtain ⟨D', w1, w2, w3⟩ := X11_says hv a3 (by
        rw [List.length_append, List.length_take]
        omega)
      refine ⟨((k : Int) + 1, D'), ?_, rfl, a2.trans w2, ?_⟩
      · simp (disch := omega) only [a1, eL, gd_t, if_t, tn, w1, ob_some]
      · rw [List.take_succ_eq_append_getElem hk, ← ec, ← List.append_assoc]
        exact w3)
  rw [List.take_length] at i3
  refine ⟨s'.2, ?_, i2, i3⟩
  rw [e]
  refine loopF_inr ?_
  simp (disch := omega) only [i1, eL, gd_t, if_f, done_some]
theorem X11_saysNumber {D : DT} {n : Int} (h : 0 ≤ n ∧ n ≤ 99) {t : List Int} (hw : SR D t) (hl : t.length + 2 ≤ 20000) : ∃ E, m_X11_saysNumber n D = some E ∧ SKp D E ∧ SR E (t ++ numT n) := by
  unfold numT
  by_cases q : 10 ≤ n
  · rw [if_pos q]
    obtain ⟨D1, e1, e2, e3⟩ := X11_says (v := 48 + n / 10) (by omega) hw (by omega)
    obtain ⟨D2, f1, f2, f3⟩ := X11_says (v := 48 + n % 10) (by omega) e3 (by rw [List.length_append]; simp only [List.length_cons, List.length_nil]; omega)
    refine ⟨D2, ?_, e2.trans f2, by rw [List.append_assoc] at f3; exact f3⟩
    have m0 : n / 10 % 10 = n / 10 := by omega
    have e4 : m_X11_saysNumber0 (n / 10) D = some D1 := by
      simp (disch := omega) only [m_X11_saysNumber0, gd_t, if_f, m0, e1, ob_some]
    simp (disch := omega) only [m_X11_saysNumber, gd_t, if_t, e4, f1, ob_some]
  · rw [if_neg q]
    obtain ⟨D2, f1, f2, f3⟩ := X11_says (v := 48 + n % 10) (by omega) hw (by omega)
    refine ⟨D2, ?_, f2, f3⟩
    simp (disch := omega) only [m_X11_saysNumber, gd_t, if_f, f1, ob_some]
theorem bt19 : BT (strB 19) := by intro v hv; simp [strB, strBs] at hv; omega
theorem bt20 : BT (strB 20) := by intro v hv; simp [strB, strBs] at hv; omega
theorem bt21 : BT (strB 21) := by intro v hv; simp [strB, strBs] at hv; omega
theorem ref_run {D : DT} {M : MS} (O : MOK M) {z r x : Nat} (hz : z < mZ M) (hr : r < mH M) (hx : x < mW M) (R : RMap D (mW M) (mH M) (mO M) (mS M)) {t : List Int} (hw : SR D t) (hl : t.length + 5 ≤ 20000) : ∃ E, m_X11_write_165 (z : Int) (r : Int) (x : Int) ((mW M * r + x : Nat) : Int) D = some (.inl (1, (x : Int) + 1, E)) ∧ SKp D E ∧ SR E (t ++ runT M (z : Int) r x) := by
  have d := O.2.1
  have n4 := nCb O
  have z8 := O.2.2.1
  have rb := reM_b (ow := mO M) (se := mS M) (y := (z : Int)) (r := r) (w := mW M) (x := x) (mW M) hx
  have nx := num_len (x : Int)
  unfold runT
  obtain ⟨D1, e1, e2, e3⟩ := X11_saysNumber (n := (x : Int)) (by omega) hw (by omega)
  obtain ⟨D2, f1, f2, f3⟩ := X11_says (v := 45) (by omega) e3 (by rw [List.length_append]; omega)
  have R2 := (e2.trans f2).map R
  have er := X11_runEnd R2 O.2.2.2.2.1 z8 (y := (z : Int)) (by omega) hr hx (mW M) (by omega)
  have ew := R2.1.1
  have em : ((mW M * r + reM (mO M) (mS M) (z : Int) (mW M) r (mW M) x : Nat) : Int) % (mW M : Int) = (reM (mO M) (mS M) (z : Int) (mW M) r (mW M) x : Int) := by
    rw [cmod, wrmod rb.2]
  have rl := rowlt hr rb.2
  have gq : (0 : Int) ≤ ((mW M * r + reM (mO M) (mS M) (z : Int) (mW M) r (mW M) x : Nat) : Int) ∧ ((mW M * r + reM (mO M) (mS M) (z : Int) (mW M) r (mW M) x : Nat) : Int) ≤ (2147483647 : Int) ∧ (0 : Int) < (mW M : Int) ∧ (mW M : Int) ≤ (2147483647 : Int) := by
    have : mW M * r + reM (mO M) (mS M) (z : Int) (mW M) r (mW M) x < nC M := rl
    generalize mW M * r + reM (mO M) (mS M) (z : Int) (mW M) r (mW M) x = y at *
    omega
  obtain ⟨D3, g1, g2, g3⟩ := X11_saysNumber (n := (reM (mO M) (mS M) (z : Int) (mW M) r (mW M) x : Int)) (by omega) f3 (by simp only [List.length_append, List.length_cons, List.length_nil]; omega)
  refine ⟨D3, ?_, (e2.trans f2).trans g2, ?_⟩
  · simp (disch := omega) only [m_X11_write_165, e1, ob_some, f1, er, gd_t, t0, ew, gd_t gq, em, g1]
  · simp only [List.append_assoc] at g3 ⊢
    exact g3
theorem ref_runs_row {D : DT} {M : MS} (O : MOK M) {z r : Nat} (hz : z < mZ M) (hr : r < mH M) (R : RMap D (mW M) (mH M) (mO M) (mS M)) {t : List Int} (hw : SR D t) (hl : t.length + 85 ≤ 20000) : ∃ E, m_X11_write_117 (z : Int) (r : Int) (0, 0, D) = some (.inl ((r : Int) + 1, E)) ∧ SKp D E ∧ SR E (t ++ rnL M (z : Int) r (begL M (z : Int) r) ++ [59]) := by
  have d := O.2.1
  have n4 := nCb O
  have z8 := O.2.2.1
  have bl := beg_le O (z : Int) r
  have sub : ∀ x, x ≤ mW M → ((List.range x).filter (begB M (z : Int) r)).length ≤ (begL M (z : Int) r).length := fun x hx => by
    have : ∀ k, ((List.range x).filter (begB M (z : Int) r)).length ≤ ((List.range (x + k)).filter (begB M (z : Int) r)).length := by
      intro k
      induction k with
      | zero => exact Nat.le_refl _
      | succ k ih =>
        show _ ≤ ((List.range ((x + k) + 1)).filter (begB M (z : Int) r)).length
        by_cases q : begB M (z : Int) r (x + k) = true
        · rw [frs_t q, List.length_append]; omega
        · rw [frs_f q]; exact ih
    have := this (mW M - x)
    rw [show x + (mW M - x) = mW M by omega] at this
    exact this
  unfold m_X11_write_117
  obtain ⟨s', ⟨i1, i2, i3, i4⟩, e⟩ := loop_inv (f := fun s : Int × Int × DT =>
    gd ((0 : Int) ≤ 0 ∧ 0 < (4 : Int)) (
    gd (InR s.2.1 ∧ InR (s.2.2.2 76 (Int.toNat 0))) (if s.2.1 < (s.2.2.2 76 (Int.toNat 0)) then (
      gd ((0 : Int) ≤ 0 ∧ 0 < (4 : Int)) (
      (m_X11_isRunBegin (z : Int) (((s.2.2.2 76 (Int.toNat 0)) * (r : Int)) + s.2.1) s.2.2).bind (fun r145 =>
      gd (InR r145) (if r145 = 0 then (
        some (.inl (s.1, (s.2.1 + 1), s.2.2))
      ) else (
        gd (InR s.1) (if s.1 = 0 then (
          m_X11_write_165 (z : Int) (r : Int) s.2.1 (((s.2.2.2 76 (Int.toNat 0)) * (r : Int)) + s.2.1) s.2.2
        ) else (
          (m_X11_saysWord 21 s.2.2).bind (fun D162 =>
          m_X11_write_165 (z : Int) (r : Int) s.2.1 (((s.2.2.2 76 (Int.toNat 0)) * (r : Int)) + s.2.1) D162
          )
        ))
      ))
      ))
    ) else (
      done (
      (m_X11_says 59 s.2.2).bind (fun D206 =>
      some ((.inl (((r : Int) + 1), D206)) : (Int × DT) ⊕ (Int × DT))
      )
      )
    ))
    )) (fun x s => s.2.1 = (x : Int) ∧ (s.1 = if ((List.range x).filter (begB M (z : Int) r)).length = 0 then 0 else 1) ∧ SKp D s.2.2 ∧ SR s.2.2 (t ++ rnL M (z : Int) r ((List.range x).filter (begB M (z : Int) r)))) (mW M) (s := (0, 0, D)) ⟨rfl, rfl, SKp.refl _, by simpa [rnL, rnF] using hw⟩ (fun x s hx ⟨a1, a2, a3, a4⟩ => by
      have R2 := a3.map R
      have ew := R2.1.1
      have v1 : (mW M : Int) * (r : Int) + (x : Int) = ((mW M * r + x : Nat) : Int) := by rw [Int.natCast_add, Int.natCast_mul]
      have eb := X11_isRunBegin R2 O.2.2.2.2.1 z8 (y := (z : Int)) (by omega) hr hx
      have sl := sub x (by omega)
      have rl := rn_len M (z : Int) r ((List.range x).filter (begB M (z : Int) r))
      by_cases q : begP (mO M) (mS M) (z : Int) (mW M) r x
      · rw [b2i_t q] at eb
        have qb : begB M (z : Int) r x = true := decide_eq_true q
        have sl2 := sub (x + 1) (by omega)
        rw [frs_t qb, List.length_append] at sl2
        simp only [List.length_cons, List.length_nil] at sl2
        rw [frs_t qb, rnL_snoc]
        have lne : ¬ ((List.range x).filter (begB M (z : Int) r) ++ [x]).length = 0 := by rw [List.length_append]; simp
        by_cases q0 : ((List.range x).filter (begB M (z : Int) r)).length = 0
        · rw [if_pos q0] at a2
          obtain ⟨E, w1, w2, w3⟩ := ref_run O hz hr hx R2 a4 (by rw [List.length_append]; omega)
          refine ⟨(1, (x : Int) + 1, E), ?_, rfl, by rw [if_neg lne], a3.trans w2, ?_⟩
          · simp (disch := omega) only [a1, a2, t0, ew, gd_t, if_t, v1, eb, ob_some, if_f, ↓reduceIte, w1]
          · rw [if_pos q0, List.append_nil, ← List.append_assoc]
            exact w3
        · rw [if_neg q0] at a2
          obtain ⟨D2, u1, u2, u3⟩ := X11_saysWord bt21 (by decide) a4 (by
            rw [List.length_append]
            show t.length + _ + 2 ≤ 20000
            omega)
          have u3' : SR D2 (t ++ rnL M (z : Int) r ((List.range x).filter (begB M (z : Int) r)) ++ [44, 32]) := u3
          obtain ⟨E, w1, w2, w3⟩ := ref_run O hz hr hx (u2.map R2) u3' (by
            simp only [List.length_append, List.length_cons, List.length_nil]
            omega)
          refine ⟨(1, (x : Int) + 1, E), ?_, rfl, by rw [if_neg lne], (a3.trans u2).trans w2, ?_⟩
          · simp (disch := omega) only [a1, a2, t0, ew, gd_t, if_t, v1, eb, ob_some, if_f, u1, w1]
          · rw [if_neg q0]
            simp only [← List.append_assoc] at w3 ⊢
            exact w3
      · rw [b2i_f q] at eb
        have qb : ¬ begB M (z : Int) r x = true := fun h => q (of_decide_eq_true h)
        rw [frs_f qb]
        refine ⟨(s.1, (x : Int) + 1, s.2.2), ?_, rfl, a2, a3, a4⟩
        simp (disch := omega) only [a1, t0, ew, gd_t, if_t, v1, eb, ob_some, ↓reduceIte])
  have ew := (i3.map R).1.1
  have rl := rn_len M (z : Int) r (begL M (z : Int) r)
  obtain ⟨D2, w1, w2, w3⟩ := X11_says (v := 59) (by omega) i4 (by
    rw [List.length_append]
    have : ((rnL M (z : Int) r ((List.range (mW M)).filter (begB M (z : Int) r))).length) ≤ 84 := by
      show (rnL M (z : Int) r (begL M (z : Int) r)).length ≤ 84
      omega
    omega)
  refine ⟨D2, ?_, i3.trans w2, w3⟩
  rw [e]
  refine loopF_inr ?_
  simp (disch := omega) only [i1, t0, ew, gd_t, if_f, w1, ob_some, done_some]
theorem ref_row {D : DT} {M : MS} (R : RInv D M) {E : DT} (k0 : SKp D E) {z r : Nat} (hz : z < mZ M) (hr : r < mH M) {t : List Int} (hw : SR E t) (hl : t.length + 100 ≤ 20000) : ∃ F, (m_X11_saysWord 19 E).bind (fun D48 => m_X11_write_53 (z : Int) (r : Int) (0, D48)) = some (.inl ((r : Int) + 1, F)) ∧ SKp D F ∧ SR F (t ++ [114, 111, 119, 32] ++ nameT M z ++ [32] ++ numT (r : Int) ++ [58, 32] ++ rnL M (z : Int) r (begL M (z : Int) r) ++ [59]) := by
  have O := R.1
  have d := O.2.1
  have z8 := O.2.2.1
  have nm := O.nm hz
  have c4 := R.2.2.2.1 z hz
  obtain ⟨D1, e1, e2, e3⟩ := X11_saysWord bt19 (by decide) hw (by show t.length + 4 ≤ 20000; omega)
  have e3' : SR D1 (t ++ [114, 111, 119, 32]) := e3
  have k1 := k0.trans e2
  -- behind the name
  have behind : ∀ G, SKp D G → SR G (t ++ [114, 111, 119, 32] ++ nameT M z) → ∃ F, ((m_X11_says 32 G).bind (fun D97 => (m_X11_saysNumber (r : Int) D97).bind (fun D102 => (m_X11_saysWord 20 D102).bind (fun D109 => m_X11_write_117 (z : Int) (r : Int) (0, 0, D109))))) = some (.inl ((r : Int) + 1, F)) ∧ SKp D F ∧ SR F (t ++ [114, 111, 119, 32] ++ nameT M z ++ [32] ++ numT (r : Int) ++ [58, 32] ++ rnL M (z : Int) r (begL M (z : Int) r) ++ [59]) := fun G kG wG => by
    have nl := name_len M z
    have rl := num_len (r : Int)
    obtain ⟨D3, f1, f2, f3⟩ := X11_says (v := 32) (by omega) wG (by
      simp only [List.length_append, List.length_cons, List.length_nil, nl]
      omega)
    obtain ⟨D4, g1, g2, g3⟩ := X11_saysNumber (n := (r : Int)) (by omega) f3 (by
      simp only [List.length_append, List.length_cons, List.length_nil, nl]
      omega)
    obtain ⟨D5, h1, h2, h3⟩ := X11_saysWord bt20 (by decide) g3 (by
      simp only [List.length_append, List.length_cons, List.length_nil, nl]
      show t.length + 4 + mNL M z + 1 + (numT (r : Int)).length + 2 ≤ 20000
      omega)
    have h3' : SR D5 (t ++ [114, 111, 119, 32] ++ nameT M z ++ [32] ++ numT (r : Int) ++ [58, 32]) := h3
    have k5 := ((kG.trans f2).trans g2).trans h2
    obtain ⟨F, m1, m2, m3⟩ := ref_runs_row O hz hr (k5.map R.2.1.1) h3' (by
      simp only [List.length_append, List.length_cons, List.length_nil, nl]
      omega)
    refine ⟨F, ?_, k5.trans m2, m3⟩
    simp only [f1, ob_some, g1, h1, m1]
  have loop : ∃ F, m_X11_write_53 (z : Int) (r : Int) (0, D1) = some (.inl ((r : Int) + 1, F)) ∧ SKp D F ∧ SR F (t ++ [114, 111, 119, 32] ++ nameT M z ++ [32] ++ numT (r : Int) ++ [58, 32] ++ rnL M (z : Int) r (begL M (z : Int) r) ++ [59]) := by
    unfold m_X11_write_53
    obtain ⟨s', ⟨i1, i2, i3⟩, e⟩ := loop_inv (f := fun s : Int × DT =>
      gd (InR s.1 ∧ InR 6) (if s.1 < 6 then (
        gd ((0 : Int) ≤ ((6 * (z : Int)) + s.1) ∧ ((6 * (z : Int)) + s.1) < (48 : Int)) (
        gd (InR (s.2.2 84 (Int.toNat ((6 * (z : Int)) + s.1)))) (if (s.2.2 84 (Int.toNat ((6 * (z : Int)) + s.1))) = 0 then (
          done (
          (m_X11_says 32 s.2).bind (fun D97 =>
          (m_X11_saysNumber (r : Int) D97).bind (fun D102 =>
          (m_X11_saysWord 20 D102).bind (fun D109 =>
          m_X11_write_117 (z : Int) (r : Int) (0, 0, D109)
          )))
          )
        ) else (
          gd ((0 : Int) ≤ ((6 * (z : Int)) + s.1) ∧ ((6 * (z : Int)) + s.1) < (48 : Int)) (
          (m_X11_says (s.2.2 84 (Int.toNat ((6 * (z : Int)) + s.1))) s.2).bind (fun D85 =>
          some (.inl ((s.1 + 1), D85))
          ))
        ))
        )
      ) else (
        done (
        (m_X11_says 32 s.2).bind (fun D97 =>
        (m_X11_saysNumber (r : Int) D97).bind (fun D102 =>
        (m_X11_saysWord 20 D102).bind (fun D109 =>
        m_X11_write_117 (z : Int) (r : Int) (0, 0, D109)
        )))
        )
      ))) (fun k s => s.1 = (k : Int) ∧ SKp D s.2 ∧ SR s.2 (t ++ [114, 111, 119, 32] ++ (List.range k).map (fun k => mN M (6 * z + k)))) (mNL M z) (s := (0, D1)) ⟨rfl, k1, by simpa using e3'⟩ (fun k s hk ⟨a1, a2, a3⟩ => by
        have n3 : s.2.2 84 (6 * z + k) = mN M (6 * z + k) := by
          rw [a2.2 84 (by omega), c4 k (by omega), if_pos hk]
        have nb := nm.2.2 k hk
        have k1 : 6 * (z : Int) + (k : Int) = ((6 * z + k : Nat) : Int) := by omega
        obtain ⟨D', w1, w2, w3⟩ := X11_says (v := mN M (6 * z + k)) (by omega) a3 (by
          simp only [List.length_append, List.length_map, List.length_range, List.length_cons, List.length_nil]
          omega)
        refine ⟨((k : Int) + 1, D'), ?_, rfl, a2.trans w2, ?_⟩
        · simp (disch := omega) only [a1, gd_t, if_t, k1, tn, n3, if_f, w1, ob_some]
        · rw [List.range_succ, List.map_append, ← List.append_assoc]
          exact w3)
    obtain ⟨F, b1, b2, b3⟩ := behind s'.2 i2 i3
    refine ⟨F, ?_, b2, b3⟩
    rw [e]
    refine loopF_inr ?_
    by_cases q : mNL M z < 6
    · have n3 : s'.2.2 84 (6 * z + mNL M z) = 0 := by
        rw [i2.2 84 (by omega), c4 (mNL M z) q, if_neg (by omega)]
      have k1 : 6 * (z : Int) + (mNL M z : Int) = ((6 * z + mNL M z : Nat) : Int) := by omega
      simp (disch := omega) only [i1, gd_t, if_t, k1, tn, n3, ↓reduceIte, b1, done_some]
    · have i1' : s'.1 = 6 := by rw [i1]; omega
      simp (disch := omega) only [i1', gd_t, if_f, b1, done_some]
  obtain ⟨F, l1, l2, l3⟩ := loop
  refine ⟨F, ?_, l2, l3⟩
  rw [e1]
  exact l1
theorem ref_write {D : DT} {M : MS} (R : RInv D M) {z : Nat} (hz : z < mZ M) : ∃ E, m_X11_write_22 (z : Int) (0, sF D 73 40 0) = some (((allT M z (mH M)).length : Int), E) ∧ SKp D E ∧ SR E (allT M z (mH M)) := by
  have O := R.1
  have d := O.2.1
  have z8 := O.2.2.1
  unfold m_X11_write_22
  obtain ⟨s', ⟨i1, i2, i3⟩, e⟩ := loop_inv (f := fun s : Int × DT =>
    gd ((0 : Int) ≤ 1 ∧ 1 < (4 : Int)) (
    gd (InR s.1 ∧ InR (s.2.2 76 (Int.toNat 1))) (if s.1 < (s.2.2 76 (Int.toNat 1)) then (
      (m_X11_runsIn (z : Int) s.1 s.2).bind (fun r35 =>
      gd (InR r35) (if r35 = 0 then (
        some (.inl ((s.1 + 1), s.2))
      ) else (
        (m_X11_saysWord 19 s.2).bind (fun D48 =>
        m_X11_write_53 (z : Int) s.1 (0, D48)
        )
      ))
      )
    ) else (
      done (
      some ((s.2.1 73 40), s.2)
      )
    ))
    )) (fun k s => s.1 = (k : Int) ∧ SKp D s.2 ∧ SR s.2 (allT M z k)) (mH M) (s := (0, sF D 73 40 0)) ⟨rfl, ⟨fun a k hk => by rw [sF1, if_neg (fun h => hk h.1 h.2)], fun _ _ => rfl⟩, rfl, ArrT.nil⟩ (fun r s hr ⟨a1, a2, a3⟩ => by
      have R2 := a2.map R.2.1.1
      have eh := R2.1.2
      have er : m_X11_runsIn (z : Int) (r : Int) s.2 = some ((begL M (z : Int) r).length : Int) := by
        rw [X11_runsIn R2 O.2.2.2.2.1 z8 (by omega) hr, beg_cnt]
      have bl := beg_le O (z : Int) r
      have al := all_len O hz r
      rw [allT]
      by_cases q : (begL M (z : Int) r).length = 0
      · have er0 : rowT M z r = [] := by unfold rowT; rw [if_pos q]
        rw [er0, List.append_nil]
        refine ⟨((r : Int) + 1, s.2), ?_, rfl, a2, a3⟩
        simp (disch := omega) only [a1, t1, eh, gd_t, if_t, er, ob_some]
      · obtain ⟨F, w1, w2, w3⟩ := ref_row R a2 hz hr a3 (by omega)
        have er0 : allT M z r ++ rowT M z r = allT M z r ++ [114, 111, 119, 32] ++ nameT M z ++ [32] ++ numT (r : Int) ++ [58, 32] ++ rnL M (z : Int) r (begL M (z : Int) r) ++ [59] := by
          unfold rowT
          rw [if_neg q]
          simp only [← List.append_assoc]
        rw [er0]
        refine ⟨((r : Int) + 1, F), ?_, rfl, w2, w3⟩
        simp (disch := omega) only [a1, t1, eh, gd_t, if_t, er, ob_some, if_f, w1])
  refine ⟨s'.2, ?_, i2, i3⟩
  rw [e]
  refine loopF_inr ?_
  have eh := (i2.map R.2.1.1).1.2
  have el := i3.1
  simp (disch := omega) only [i1, t1, eh, gd_t, if_f, el, done_some]
/-! ===== step: write ===== -/
abbrev setWr (M : MS) (t : List Int) : MS := (M.1, M.2.1, M.2.2.1, M.2.2.2.1, M.2.2.2.2.1, (t.length, fun k => t.getD k 0))
theorem Same.setWr {M : MS} {t : List Int} : Same M (setWr M t) := ⟨rfl, rfl, rfl, rfl, rfl⟩
theorem MOK.setWr {M : MS} (O : MOK M) {t : List Int} (hl : t.length ≤ 1600) (hb : BT t) : MOK (setWr M t) := by
  obtain ⟨o1, o2, o3, o4, o5, o6, o7, o8, o9, o10⟩ := O
  refine ⟨o1, o2, o3, o4, o5, o6, o7, o8, o9, hl, fun k hk => ?_⟩
  have hk' : k < t.length := hk
  show -128 ≤ t.getD k 0 ∧ t.getD k 0 ≤ 127
  rw [List.getD_eq_getElem?_getD, List.getElem?_eq_getElem hk']
  exact hb _ (List.getElem_mem hk')
theorem arr_getD {A : Nat → Int} {t : List Int} (h : ArrT A t) : ∀ k, k < t.length → A k = t.getD k 0 := fun k hk => by
  rw [h k hk, List.getD_eq_getElem?_getD, List.getElem?_eq_getElem hk]
  rfl
theorem step_write : StepOK m_L_c40 := fun xs Ls s hx hs ⟨M, hC, hR⟩ => by
  have x1 := hx (Int.toNat (s.1 + 1))
  have O := hC.1
  have C := hC.2.1
  have d := O.2.1
  by_cases q1 : 0 ≤ xs (Int.toNat (s.1 + 1)) ∧ xs (Int.toNat (s.1 + 1)) < (mZ M : Int)
  · have a1 := cn_zone_t O C x1 q1
    obtain ⟨z, hz⟩ := nat_of q1.1
    rw [hz] at a1 q1 x1
    have hzn : z < mZ M := by omega
    have al := all_len O hzn (mH M)
    have ab := all_BT O hzn (Nat.le_refl (mH M))
    have al2 : (allT M z (mH M)).length ≤ 1600 := by omega
    obtain ⟨D1, e1, e2, e3⟩ := X7_writeZone O hzn C.1
    have OW := O.setWr al2 ab
    have cinv : CInv D1 (setWr M (allT M z (mH M))) := by
      obtain ⟨h1, ⟨b1, b2, b3, b4, b5⟩, h3, h6⟩ := hC
      refine ⟨OW, ⟨?_, ?_, ?_, ?_, ?_⟩, ?_, ?_⟩
      · exact e2.chart b1
      · unfold ChartRng at *
        rw [(e2 (2 + 2) (by omega)).2, (e2 (2 + 6) (by omega)).2, (e2 (56 + 2) (by omega)).2, (e2 (56 + 6) (by omega)).2]
        exact b2
      · rw [(e2 1 (by omega)).1, (e2 0 (by omega)).1]
        exact b3
      · rw [(e2 55 (by omega)).1, (e2 64 (by omega)).2]
        exact b4
      · exact ⟨e3.1, arr_getD e3.2⟩
      · have h3' : CCache D1 1 M := by
          obtain ⟨t1, t2, t3⟩ := h3
          refine ⟨?_, t2.fr (fun b hb => e2 b (by omega)), t3.fr (fun b hb => e2 b (by omega))⟩
          rw [(e2 (1 + 9) (by omega)).1]
          rcases t1 with t | t
          · exact Or.inl t
          · exact Or.inr ⟨t.1, t.2.fr (fun b hb => e2 b (by omega))⟩
        exact h3'.same Same.setWr
      · have h6' : PathRep D1 M := by
          unfold PathRep PathAt at *
          simp only [(e2 70 (by omega)).1, (e2 71 (by omega)).2]
          exact h6
        exact h6'.same Same.setWr
    refine comb_write hx hs (M' := setWr M (allT M z (mH M))) (sp := .inl ((allT M z (mH M)).length : Int)) (by show InR _; omega) ⟨D1, ?_, cinv, fun a ha => e2 a (by omega)⟩ hR (fun D r => ?_)
    · have el := e3.1
      simp (disch := omega) only [m_X10_write, hz, a1, bndN_inl, e1, ob_some, el]
    · have r0 := r.thr (x := 0)
      obtain ⟨E, f1, f2, f3⟩ := ref_write r0 hzn
      have y1 := rn_zone_t r0 x1 (by omega)
      have rinv : RInv E (setWr M (allT M z (mH M))) := by
        obtain ⟨c1, ⟨c2, c2', c2''⟩, c3, c4, c5, c6, c7, c8, c9⟩ := r0
        refine ⟨OW, ⟨f2.map c2, ?_, ?_⟩, ?_, ?_, ?_, ?_, ⟨f3.1, arr_getD f3.2⟩, ?_, c9.cong rfl rfl ⟨f2.2 86 (by omega), f2.2 87 (by omega), f2.2 88 (by omega)⟩⟩
        · rw [f2.2 76 (by omega)]; exact c2'
        · rw [f2.2 76 (by omega)]; exact c2''
        · rw [f2.2 82 (by omega)]; exact c3
        · rw [f2.2 84 (by omega)]; exact c4
        · rw [f2.1 73 14 (by omega), f2.1 73 15 (by omega), f2.1 73 20 (by omega)]; exact c5
        · rw [f2.1 73 2 (by omega), f2.2 74 (by omega)]; exact c6
        · rw [f2.2 85 (by omega)]; exact c8
      refine ⟨_, E, ?_, rinv, (FrR.f (by omega)).trans (fun a ha => ⟨funext (fun k => f2.1 a k (fun h => by omega)), f2.2 a (by omega)⟩), by rw [f2.1 73 0 (by omega)]; rfl, fun v h => by injection h⟩
      simp (disch := omega) only [m_X11_write, sq_eq, hz, y1, bnd_some, gd_t, ↓reduceIte, f1]
  · have a1 := cn_zone_f O C x1 q1
    refine comb_write hx hs (sp := .inr 0) (by simp [spX]) (ClsX.same hC ?_) hR (RefX.same (c := 1) 0 rfl (fun v h => by cases h) (fun D r => ?_))
    · simp (disch := omega) only [m_X10_write, a1, bndN_inr]
    · have y1 := rn_zone_f (r.thr (x := 0)) x1 q1
      simp (disch := omega) only [m_X11_write, sq_eq, y1, bnd_some, gd_t, if_f, sFF]
