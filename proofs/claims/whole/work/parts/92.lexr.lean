/-! ===== words, numbers, signs: the reference ===== -/
def RT (D : DT) (n : Nat) (T : Nat → Int) (p : Nat) : Prop := (n ≤ 400 ∧ ∀ k, k < n → -128 ≤ T k ∧ T k ≤ 127) ∧ D.1 73 18 = (n : Int) ∧ (∀ k, k < n → D.2 74 k = T k) ∧ D.1 73 16 = (p : Int) ∧ p ≤ n
def LKp (D E : DT) (ks : List Nat) : Prop := (∀ a k, (a = 73 → k ∉ ks) → E.1 a k = D.1 a k) ∧ E.2 = D.2
theorem LKp.refl (D : DT) (ks : List Nat) : LKp D D ks := ⟨fun _ _ _ => rfl, rfl⟩
theorem LKp.trans {D E F : DT} {ks ls : List Nat} (h : LKp D E ks) (h' : LKp E F ls) : LKp D F (ks ++ ls) := ⟨fun a k hk => by
  rw [h'.1 a k (fun e hh => hk e (List.mem_append_right _ hh)), h.1 a k (fun e hh => hk e (List.mem_append_left _ hh))], h'.2.trans h.2⟩
theorem LKp.mono {D E : DT} {ks ls : List Nat} (h : LKp D E ks) (hs : ∀ k, k ∈ ks → k ∈ ls) : LKp D E ls := ⟨fun a k hk => h.1 a k (fun e hh => hk e (hs k hh)), h.2⟩
theorem LKp.f {D : DT} {k : Nat} {v : Int} : LKp D (sF D 73 k v) [k] := ⟨fun a j hj => by rw [sF1, if_neg (fun h => hj h.1 (by simp [h.2]))], rfl⟩
theorem RT.to {D E : DT} {n p q : Nat} {T : Nat → Int} {ks : List Nat} (h : RT D n T p) (k : LKp D E ks) (h0 : 18 ∉ ks) (e : E.1 73 16 = (q : Int)) (hq : q ≤ n) : RT E n T q := by
  obtain ⟨h1, h2, h3, h4, h5⟩ := h
  exact ⟨h1, by rw [k.1 73 18 (fun _ => h0)]; exact h2, by rw [k.2]; exact h3, e, hq⟩
theorem X11_isAt_t {D : DT} {n p : Nat} {T : Nat → Int} {lo hi : Int} (h : RT D n T p) (h1 : InR lo) (h2 : InR hi) (hp : p < n) (hP : lo ≤ T p ∧ T p ≤ hi) : m_X11_isAt lo hi D = some 1 := by
  obtain ⟨⟨b1, b2⟩, t1, t2, t3, t4⟩ := h
  have e := t2 p hp
  have tb := b2 p hp
  simp (disch := omega) only [m_X11_isAt, t3, t1, gd_t, if_t, tn, e]
theorem X11_isAt_f {D : DT} {n p : Nat} {T : Nat → Int} {lo hi : Int} (h : RT D n T p) (h1 : InR lo) (h2 : InR hi) (hP : p < n → ¬ (lo ≤ T p ∧ T p ≤ hi)) : m_X11_isAt lo hi D = some 0 := by
  obtain ⟨⟨b1, b2⟩, t1, t2, t3, t4⟩ := h
  by_cases hp : p < n
  · have e := t2 p hp
    have tb := b2 p hp
    have := hP hp
    by_cases q : lo ≤ T p
    · simp (disch := omega) only [m_X11_isAt, t3, t1, gd_t, if_t, if_f, tn, e]
    · simp (disch := omega) only [m_X11_isAt, t3, t1, gd_t, if_t, if_f, tn, e]
  · simp (disch := omega) only [m_X11_isAt, t3, t1, gd_t, if_f]
theorem X11_blanks {D : DT} {n p : Nat} {T : Nat → Int} (h : RT D n T p) : ∃ E, m_X11_blanks D = some E ∧ RT E n T (skp n T p) ∧ LKp D E [16, 17] ∧ E.1 73 17 = (skp n T p : Int) := by
  have hb := skp_b (T := T) h.2.2.2.2
  have main : ∀ (k q : Nat) (F : DT), RT F n T q → q + k = n → LKp D F [16, 17] → ∃ E, m_X11_blanks_0 F = some E ∧ RT E n T (scn isBl T k q) ∧ LKp D E [16, 17] ∧ E.1 73 17 = (scn isBl T k q : Int) := by
    intro k
    induction k with
    | zero =>
      intro q F hF hq hk
      have a1 := X11_isAt_f hF (lo := 9) (hi := 10) (by omega) (by omega) (fun hp => by omega)
      have a2 := X11_isAt_f hF (lo := 32) (hi := 32) (by omega) (by omega) (fun hp => by omega)
      have t3 := hF.2.2.2.1
      refine ⟨sF F 73 17 (q : Int), ?_, hF.to LKp.f (by simp) (by rw [sF1, if_neg (by omega)]; exact t3) hF.2.2.2.2, (hk.trans LKp.f).mono (by simp), by rw [sF1, if_pos ⟨rfl, rfl⟩]; rfl⟩
      unfold m_X11_blanks_0
      refine loopF_inr ?_
      simp (disch := omega) only [a1, a2, ob_some, gd_t, ↓reduceIte, t3, sq_eq, done_some]
    | succ k ih =>
      intro q F hF hq hk
      have t3 := hF.2.2.2.1
      rw [scn]
      by_cases qb : isBl (T q)
      · rw [if_pos qb]
        obtain ⟨E, g1, g2, g3, g4⟩ := ih (q + 1) (sF F 73 16 ((q : Int) + 1)) (hF.to LKp.f (by simp) (by rw [sF1, if_pos ⟨rfl, rfl⟩]; rfl) (by omega)) (by omega) ((hk.trans LKp.f).mono (by simp))
        refine ⟨E, ?_, g2, g3, g4⟩
        rw [← g1]
        unfold m_X11_blanks_0
        refine loopF_inl ?_
        by_cases q9 : 9 ≤ T q ∧ T q ≤ 10
        · have a1 := X11_isAt_t hF (lo := 9) (hi := 10) (by omega) (by omega) (by omega) q9
          simp (disch := omega) only [a1, ob_some, gd_t, if_f, t3, sq_eq]
        · have a1 := X11_isAt_f hF (lo := 9) (hi := 10) (by omega) (by omega) (fun _ => q9)
          have a2 := X11_isAt_t hF (lo := 32) (hi := 32) (by omega) (by omega) (by omega) (by rcases qb with e | e | e <;> omega)
          simp (disch := omega) only [a1, a2, ob_some, gd_t, ↓reduceIte, if_f, t3, sq_eq]
      · rw [if_neg qb]
        have n9 : ¬ (9 ≤ T q ∧ T q ≤ 10) := fun hh => qb (by
          have : T q = 9 ∨ T q = 10 := by omega
          rcases this with e | e
          · exact Or.inl e
          · exact Or.inr (Or.inl e))
        have n32 : ¬ (32 ≤ T q ∧ T q ≤ 32) := fun hh => qb (Or.inr (Or.inr (by omega)))
        have a1 := X11_isAt_f hF (lo := 9) (hi := 10) (by omega) (by omega) (fun _ => n9)
        have a2 := X11_isAt_f hF (lo := 32) (hi := 32) (by omega) (by omega) (fun _ => n32)
        refine ⟨sF F 73 17 (q : Int), ?_, hF.to LKp.f (by simp) (by rw [sF1, if_neg (by omega)]; exact t3) hF.2.2.2.2, (hk.trans LKp.f).mono (by simp), by rw [sF1, if_pos ⟨rfl, rfl⟩]⟩
        unfold m_X11_blanks_0
        refine loopF_inr ?_
        simp (disch := omega) only [a1, a2, ob_some, gd_t, ↓reduceIte, t3, sq_eq, done_some]
  exact main (n - p) p D h (by have := h.2.2.2.2; omega) (LKp.refl _ _)
theorem X11_hasF_n {D : DT} (h : D.1 73 19 = -1) : m_X11_hasFailed D = some 0 := by
  simp (disch := omega) only [m_X11_hasFailed, h, gd_t, ↓reduceIte]
theorem X11_hasF_y {D : DT} (h : 0 ≤ D.1 73 19 ∧ D.1 73 19 ≤ 400) : m_X11_hasFailed D = some 1 := by
  simp (disch := omega) only [m_X11_hasFailed, gd_t, if_f]
theorem X11_failsAt_n {D : DT} {v : Int} (h : D.1 73 19 = -1) : m_X11_failsAt v D = some (sF D 73 19 v) := by
  simp (disch := omega) only [m_X11_failsAt, h, gd_t, ↓reduceIte, sq_eq]
theorem X11_failsAt_y {D : DT} {v : Int} (h : 0 ≤ D.1 73 19 ∧ D.1 73 19 ≤ 400) : m_X11_failsAt v D = some D := by
  simp (disch := omega) only [m_X11_failsAt, gd_t, if_f]
theorem X11_takes {D : DT} {n p : Nat} {T : Nat → Int} {c : Int} (hc : InR c) (h : RT D n T p) (hf : D.1 73 19 = -1) : ∃ E, LKp D E [16, 17] ∧ E.1 73 17 = (skp n T p : Int) ∧ (sgn n T p c → m_X11_takes c D = some (1, E) ∧ RT E n T (skp n T p + 1)) ∧ (¬ sgn n T p c → m_X11_takes c D = some (0, E) ∧ RT E n T (skp n T p)) := by
  obtain ⟨E1, e1, e2, e3, e4⟩ := X11_blanks h
  have hf1 : E1.1 73 19 = -1 := by rw [e3.1 73 19 (by simp)]; exact hf
  have q := X11_hasF_n hf1
  have t3 := e2.2.2.2.1
  rcases Classical.em (sgn n T p c) with hs | hs
  · have a := X11_isAt_t e2 (lo := c) (hi := c) hc hc hs.1 (by have := hs.2; omega)
    refine ⟨sF E1 73 16 ((skp n T p : Int) + 1), (e3.trans LKp.f).mono (by simp), by rw [sF1, if_neg (by omega)]; exact e4, fun _ => ⟨?_, e2.to LKp.f (by simp) (by rw [sF1, if_pos ⟨rfl, rfl⟩]; rfl) (by have := hs.1; omega)⟩, fun hn => absurd hs hn⟩
    simp (disch := omega) only [m_X11_takes, e1, ob_some, q, gd_t, ↓reduceIte, a, if_f, t3, sq_eq]
  · have a := X11_isAt_f e2 (lo := c) (hi := c) hc hc (fun hp hh => hs ⟨hp, by omega⟩)
    refine ⟨E1, e3, e4, fun hy => absurd hy hs, fun _ => ⟨?_, e2⟩⟩
    simp (disch := omega) only [m_X11_takes, e1, ob_some, q, gd_t, ↓reduceIte, a]
theorem X11_takes_y {D : DT} {n p : Nat} {T : Nat → Int} {c : Int} (h : RT D n T p) (hf : 0 ≤ D.1 73 19 ∧ D.1 73 19 ≤ 400) : ∃ E, m_X11_takes c D = some (0, E) ∧ LKp D E [16, 17] ∧ RT E n T (skp n T p) := by
  obtain ⟨E1, e1, e2, e3, e4⟩ := X11_blanks h
  have hf1 : 0 ≤ E1.1 73 19 ∧ E1.1 73 19 ≤ 400 := by rw [e3.1 73 19 (by simp)]; exact hf
  have q := X11_hasF_y hf1
  refine ⟨E1, ?_, e3, e2⟩
  simp (disch := omega) only [m_X11_takes, e1, ob_some, q, gd_t, if_f]
theorem X11_asks {D : DT} {n p : Nat} {T : Nat → Int} {c : Int} (hc : InR c) (h : RT D n T p) (hf : D.1 73 19 = -1) : ∃ E, m_X11_asks c D = some E ∧ LKp D E [16, 17, 19] ∧ (sgn n T p c → RT E n T (skp n T p + 1) ∧ E.1 73 19 = -1) ∧ (¬ sgn n T p c → RT E n T (skp n T p) ∧ E.1 73 19 = (skp n T p : Int)) := by
  have q := X11_hasF_n hf
  obtain ⟨E1, e1, e2, e3, e4⟩ := X11_takes hc h hf
  have hf1 : E1.1 73 19 = -1 := by rw [e1.1 73 19 (by simp)]; exact hf
  rcases Classical.em (sgn n T p c) with hs | hs
  · obtain ⟨g1, g2⟩ := e3 hs
    refine ⟨E1, ?_, e1.mono (by simp), fun _ => ⟨g2, hf1⟩, fun hn => absurd hs hn⟩
    simp (disch := omega) only [m_X11_asks, q, ob_some, gd_t, ↓reduceIte, g1, bnd_some, if_f]
  · obtain ⟨g1, g2⟩ := e4 hs
    have w := X11_failsAt_n (v := (skp n T p : Int)) hf1
    refine ⟨sF E1 73 19 (skp n T p : Int), ?_, (e1.trans LKp.f).mono (by simp), fun hy => absurd hy hs, fun _ => ⟨g2.to LKp.f (by simp) (by rw [sF1, if_neg (by omega)]; exact g2.2.2.2.1) g2.2.2.2.2, by rw [sF1, if_pos ⟨rfl, rfl⟩]⟩⟩
    simp (disch := omega) only [m_X11_asks, q, ob_some, gd_t, ↓reduceIte, g1, bnd_some, e2, w]
theorem X11_asks_y {D : DT} {c : Int} (hf : 0 ≤ D.1 73 19 ∧ D.1 73 19 ≤ 400) : m_X11_asks c D = some D := by
  have q := X11_hasF_y hf
  simp (disch := omega) only [m_X11_asks, q, ob_some, gd_t, if_f]
theorem X11_wordMany {D : DT} {n p : Nat} {T : Nat → Int} (h : RT D n T p) : ∃ E, m_X11_wordMany D = some (((wnd n T (skp n T p) - skp n T p : Nat) : Int), E) ∧ RT E n T (skp n T p) ∧ LKp D E [16, 17] ∧ E.1 73 17 = (skp n T p : Int) := by
  obtain ⟨E1, e1, e2, e3, e4⟩ := X11_blanks h
  have hb := skp_b (T := T) h.2.2.2.2
  have wb := wnd_b (T := T) hb.2
  obtain ⟨⟨b1, b2⟩, t1, t2, t3, t4⟩ := e2
  have main : ∀ (k q : Nat), q + k = n → m_X11_wordMany_9 E1 (q : Int) = some ((scn isLe T k q : Int) - (skp n T p : Int), E1) := by
    intro k
    induction k with
    | zero =>
      intro q hq
      unfold m_X11_wordMany_9
      refine loopF_inr ?_
      simp (disch := omega) only [t1, t3, gd_t, if_f, done_some]
      rfl
    | succ k ih =>
      intro q hq
      have e := t2 q (by omega)
      have tb := b2 q (by omega)
      rw [scn]
      by_cases ql : isLe (T q)
      · rw [if_pos ql, ← ih (q + 1) (by omega)]
        unfold m_X11_wordMany_9
        refine loopF_inl ?_
        simp (disch := omega) only [t1, gd_t, if_t, tn, e]
        rfl
      · rw [if_neg ql]
        unfold m_X11_wordMany_9
        refine loopF_inr ?_
        by_cases q97 : 97 ≤ T q
        · simp (disch := omega) only [t1, t3, gd_t, if_t, if_f, tn, e, done_some]
        · simp (disch := omega) only [t1, t3, gd_t, if_t, if_f, tn, e, done_some]
  have m := main (n - skp n T p) (skp n T p) (by omega)
  have m' : m_X11_wordMany_9 E1 (skp n T p : Int) = some ((wnd n T (skp n T p) : Int) - (skp n T p : Int), E1) := m
  have el : (wnd n T (skp n T p) : Int) - (skp n T p : Int) = ((wnd n T (skp n T p) - skp n T p : Nat) : Int) := by omega
  rw [el] at m'
  refine ⟨E1, ?_, ⟨⟨b1, b2⟩, t1, t2, t3, t4⟩, e3, e4⟩
  simp only [m_X11_wordMany, e1, ob_some, t3, m']
theorem X11_isWord {D : DT} {n p : Nat} {T : Nat → Int} (i : Nat) (h : RT D n T p) (hf : D.1 73 19 = -1) : ∃ E, RT E n T (skp n T p) ∧ LKp D E [16, 17] ∧ E.1 73 17 = (skp n T p : Int) ∧ (isW T (skp n T p) (wnd n T (skp n T p)) (strB i) → m_X11_isWord i D = some (1, E)) ∧ (¬ isW T (skp n T p) (wnd n T (skp n T p)) (strB i) → m_X11_isWord i D = some (0, E)) := by
  have q := X11_hasF_n hf
  obtain ⟨E, e1, e2, e3, e4⟩ := X11_wordMany h
  have hb := skp_b (T := T) h.2.2.2.2
  have wb := wnd_b (T := T) hb.2
  have eL : strL i = ((strB i).length : Int) := rfl
  have lb := strL_b i
  have n400 := h.1.1
  generalize hbb : skp n T p = b at *
  generalize hee : wnd n T b = e at *
  have t3 := e2.2.2.2.1
  refine ⟨E, e2, e3, e4, ?_⟩
  have zero : m_X11_isWord_26 i E (0, 0) = some (0, E) := by
    unfold m_X11_isWord_26
    refine loopF_inr ?_
    simp (disch := omega) only [gd_t, ↓reduceIte, true_or, gd_T, done_some]
  by_cases ql : e - b = (strB i).length
  · have ql' : ((e - b : Nat) : Int) = ((strB i).length : Int) := by omega
    have st : m_X11_isWord i D = m_X11_isWord_26 i E (1, ((0 : Nat) : Int)) := by
      simp (disch := omega) only [m_X11_isWord, q, ob_some, gd_t, ↓reduceIte, e1, bnd_some, eL, if_t ql']
      rfl
    rw [st]
    have main : ∀ (m k : Nat), k + m = e - b → (∀ j, j < k → T (b + j) = (strB i).getD j 0) → (isW T b e (strB i) → m_X11_isWord_26 i E (1, (k : Int)) = some (1, E)) ∧ (¬ isW T b e (strB i) → m_X11_isWord_26 i E (1, (k : Int)) = some (0, E)) := by
      intro m
      induction m with
      | zero =>
        intro k hk hall
        have w : isW T b e (strB i) := ⟨ql, fun j hj => hall j (by omega)⟩
        refine ⟨fun _ => ?_, fun hn => absurd w hn⟩
        unfold m_X11_isWord_26
        refine loopF_inr ?_
        simp (disch := omega) only [eL, gd_t, if_f, or_true, gd_T, done_some]
      | succ m ih =>
        intro k hk hall
        have tk := e2.2.2.1 (b + k) (by omega)
        have tb := h.1.2 (b + k) (by omega)
        have cb := strB_b i k
        have k1 : (b : Int) + (k : Int) = ((b + k : Nat) : Int) := by omega
        by_cases qc : T (b + k) = strC i k
        · obtain ⟨i1, i2⟩ := ih (k + 1) (by omega) (fun j hj => by
            by_cases ej : j = k
            · rw [ej, qc]; rfl
            · exact hall j (by omega))
          have st : m_X11_isWord_26 i E (1, (k : Int)) = m_X11_isWord_26 i E (1, ((k + 1 : Nat) : Int)) := by
            unfold m_X11_isWord_26
            refine loopF_inl ?_
            simp (disch := omega) only [eL, gd_t, if_f, if_t, t3, k1, tn, tk, if_t qc]
            rfl
          rw [st]
          exact ⟨i1, i2⟩
        · refine ⟨fun w => absurd (w.2 k (by omega)) qc, fun _ => ?_⟩
          have st : m_X11_isWord_26 i E (1, (k : Int)) = m_X11_isWord_26 i E (0, (k : Int) + 1) := by
            unfold m_X11_isWord_26
            refine loopF_inl ?_
            simp (disch := omega) only [eL, gd_t, if_f, if_t, t3, k1, tn, tk, if_f qc]
          rw [st]
          unfold m_X11_isWord_26
          refine loopF_inr ?_
          simp (disch := omega) only [gd_t, ↓reduceIte, true_or, gd_T, done_some]
    exact main (e - b) 0 (by omega) (fun j hj => by omega)
  · have ql' : ¬ ((e - b : Nat) : Int) = ((strB i).length : Int) := by omega
    have st : m_X11_isWord i D = some (0, E) := by
      simp (disch := omega) only [m_X11_isWord, q, ob_some, gd_t, ↓reduceIte, e1, bnd_some, eL, if_f ql', zero]
    exact ⟨fun w => absurd w.1 ql, fun _ => st⟩
theorem X11_isWord_y {D : DT} (i : Nat) (hf : 0 ≤ D.1 73 19 ∧ D.1 73 19 ≤ 400) : m_X11_isWord i D = some (0, D) := by
  have q := X11_hasF_y hf
  have zero : m_X11_isWord_26 i D (0, 0) = some (0, D) := by
    unfold m_X11_isWord_26
    refine loopF_inr ?_
    simp (disch := omega) only [gd_t, ↓reduceIte, true_or, gd_T, done_some]
  simp (disch := omega) only [m_X11_isWord, q, ob_some, gd_t, if_f, zero]
theorem X11_asksWord {D : DT} {n p : Nat} {T : Nat → Int} (i : Nat) (h : RT D n T p) (hf : D.1 73 19 = -1) : ∃ E, m_X11_asksWord i D = some E ∧ LKp D E [16, 17, 19] ∧ (isW T (skp n T p) (wnd n T (skp n T p)) (strB i) → RT E n T (wnd n T (skp n T p)) ∧ E.1 73 19 = -1 ∧ E.1 73 17 = (skp n T p : Int)) ∧ (¬ isW T (skp n T p) (wnd n T (skp n T p)) (strB i) → RT E n T (skp n T p) ∧ E.1 73 19 = (skp n T p : Int)) := by
  have q := X11_hasF_n hf
  have hb := skp_b (T := T) h.2.2.2.2
  have wb := wnd_b (T := T) hb.2
  obtain ⟨E1, e1, e2, e3, e4, e5⟩ := X11_isWord i h hf
  have hf1 : E1.1 73 19 = -1 := by rw [e2.1 73 19 (by simp)]; exact hf
  have eL : strL i = ((strB i).length : Int) := rfl
  have t3 := e1.2.2.2.1
  rcases Classical.em (isW T (skp n T p) (wnd n T (skp n T p)) (strB i)) with w | w
  · have g := e4 w
    have el : (skp n T p : Int) + ((strB i).length : Int) = (wnd n T (skp n T p) : Int) := by have := w.1; omega
    refine ⟨sF E1 73 16 (wnd n T (skp n T p) : Int), ?_, (e2.trans LKp.f).mono (by simp), fun _ => ⟨e1.to LKp.f (by simp) (by rw [sF1, if_pos ⟨rfl, rfl⟩]) wb.2, by rw [sF1, if_neg (by omega)]; exact hf1, by rw [sF1, if_neg (by omega)]; exact e3⟩, fun hn => absurd w hn⟩
    simp (disch := omega) only [m_X11_asksWord, q, ob_some, gd_t, ↓reduceIte, g, bnd_some, if_f, t3, eL, el, sq_eq]
  · have g := e5 w
    have fl := X11_failsAt_n (v := (skp n T p : Int)) hf1
    refine ⟨sF E1 73 19 (skp n T p : Int), ?_, (e2.trans LKp.f).mono (by simp), fun hy => absurd hy w, fun _ => ⟨e1.to LKp.f (by simp) (by rw [sF1, if_neg (by omega)]; exact t3) hb.2, by rw [sF1, if_pos ⟨rfl, rfl⟩]⟩⟩
    simp (disch := omega) only [m_X11_asksWord, q, ob_some, gd_t, ↓reduceIte, g, bnd_some, e3, fl]
theorem X11_asksWord_y {D : DT} (i : Nat) (hf : 0 ≤ D.1 73 19 ∧ D.1 73 19 ≤ 400) : m_X11_asksWord i D = some D := by
  have q := X11_hasF_y hf
  simp (disch := omega) only [m_X11_asksWord, q, ob_some, gd_t, if_f]
theorem X11_number {D : DT} {n p : Nat} {T : Nat → Int} {lo hi : Int} (hlo : InR lo) (hhi : InR hi) (h : RT D n T p) (hf : D.1 73 19 = -1) : ∃ E, m_X11_number lo hi D = some (numR T (skp n T p) (dnd n T (skp n T p)), E) ∧ LKp D E [16, 17, 19] ∧ RT E n T (dnd n T (skp n T p)) ∧ E.1 73 17 = (skp n T p : Int) ∧ (numOK T (skp n T p) (dnd n T (skp n T p)) lo hi → E.1 73 19 = -1) ∧ (¬ numOK T (skp n T p) (dnd n T (skp n T p)) lo hi → E.1 73 19 = (skp n T p : Int)) := by
  have q := X11_hasF_n hf
  have hb := skp_b (T := T) h.2.2.2.2
  have db := dnd_b (T := T) hb.2
  have n400 := h.1.1
  obtain ⟨E1, e1, e2, e3, e4⟩ := X11_blanks h
  have hf1 : E1.1 73 19 = -1 := by rw [e3.1 73 19 (by simp)]; exact hf
  generalize hbb : skp n T p = b at *
  have scan : ∀ (k q : Nat) (F : DT), RT F n T q → q + k = n → b ≤ q → (∀ j, b ≤ j → j < q → isDi (T j)) → LKp D F [16, 17] → F.1 73 17 = (b : Int) → ∃ G, RT G n T (scn isDi T k q) ∧ LKp D G [16, 17] ∧ G.1 73 17 = (b : Int) ∧ m_X11_number_15 lo hi (numV T b (min (q - b) 5), F) = m_X11_number_15 lo hi (numV T b (min (scn isDi T k q - b) 5), G) := by
    intro k
    induction k with
    | zero => intro q F hF _ _ _ hk h17; exact ⟨F, hF, hk, h17, rfl⟩
    | succ k ih =>
      intro q F hF hq hbq hall hk h17
      rw [scn]
      by_cases qd : isDi (T q)
      · rw [if_pos qd]
        have a := X11_isAt_t hF (lo := 48) (hi := 57) (by omega) (by omega) (by omega) qd
        have tk := hF.2.2.1 q (by omega)
        have t3 := hF.2.2.2.1
        obtain ⟨G, g1, g2, g3, g4⟩ := ih (q + 1) (sF F 73 16 ((q : Int) + 1)) (hF.to LKp.f (by simp) (by rw [sF1, if_pos ⟨rfl, rfl⟩]; rfl) (by omega)) (by omega) (by omega) (fun j h1 h2 => by
          by_cases ej : j = q
          · rw [ej]; exact qd
          · exact hall j h1 (by omega)) ((hk.trans LKp.f).mono (by simp)) (by rw [sF1, if_neg (by omega)]; exact h17)
        refine ⟨G, g1, g2, g3, ?_⟩
        rw [← g4]
        unfold m_X11_number_15
        refine loopF_inl ?_
        by_cases q5 : q - b < 5
        · have m1 : min (q - b) 5 = q - b := by omega
          have m2 : min (q + 1 - b) 5 = (q - b) + 1 := by omega
          have ev : numV T b (min (q + 1 - b) 5) = 10 * numV T b (min (q - b) 5) + T q - 48 := by
            rw [m2, m1, numV, show b + (q - b) = q by omega, Int.mul_comm]
          rw [ev]
          simp (disch := omega) only [a, ob_some, gd_t, if_f, if_t, t3, h17, tn, tk, sq_eq]
        · have m2 : min (q + 1 - b) 5 = min (q - b) 5 := by omega
          rw [m2]
          simp (disch := omega) only [a, ob_some, gd_t, if_f, t3, h17, sq_eq]
      · rw [if_neg qd]
        exact ⟨F, hF, hk, h17, rfl⟩
  obtain ⟨G, g1, g2, g3, g4⟩ := scan (n - b) b E1 e2 (by omega) (Nat.le_refl _) (fun j h1 h2 => by omega) e3 e4
  have g1' : RT G n T (dnd n T b) := g1
  have hfG : G.1 73 19 = -1 := by rw [g2.1 73 19 (by simp)]; exact hf
  have t3 := g1'.2.2.2.1
  have vb := numR_b (n := n) (T := T) (b := b)
  have a : m_X11_isAt 48 57 G = some 0 := X11_isAt_f g1' (by omega) (by omega) (fun hp => by
    rcases scn_stop (T := T) isDi (n - b) b with ee | ee
    · have : dnd n T b = b + (n - b) := ee
      omega
    · exact ee)
  have red : m_X11_number lo hi D = m_X11_number_15 lo hi (numR T b (dnd n T b), G) := by
    have z : numV T b (min (b - b) 5) = 0 := by rw [Nat.sub_self]; rfl
    rw [z] at g4
    simp (disch := omega) only [m_X11_number, q, ob_some, gd_t, ↓reduceIte, e1]
    exact g4
  have fl := X11_failsAt_n (v := (b : Int)) hfG
  rcases Classical.em (numOK T b (dnd n T b) lo hi) with ok | ok
  · obtain ⟨o1, o2, o3, o4⟩ := ok
    have em : numR T b (dnd n T b) = numV T b (dnd n T b - b) := by unfold numR; rw [show min (dnd n T b - b) 5 = dnd n T b - b by omega]
    have i1 := rn_in_t (D := G) (v := numR T b (dnd n T b)) (a := lo) (b := hi) (by omega) hlo hhi (by rw [em]; exact ⟨o3, o4⟩)
    refine ⟨G, ?_, g2.mono (by simp), g1', g3, fun _ => hfG, fun hn => absurd ⟨o1, o2, o3, o4⟩ hn⟩
    rw [red]
    unfold m_X11_number_15
    refine loopF_inr ?_
    simp (disch := omega) only [a, ob_some, gd_t, ↓reduceIte, t3, g3, if_f, if_t, i1, done_some]
  · refine ⟨sF G 73 19 (b : Int), ?_, (g2.trans LKp.f).mono (by simp), g1'.to LKp.f (by simp) (by rw [sF1, if_neg (by omega)]; exact t3) db.2, by rw [sF1, if_neg (by omega)]; exact g3, fun hy => absurd hy ok, fun _ => by rw [sF1, if_pos ⟨rfl, rfl⟩]⟩
    rw [red]
    unfold m_X11_number_15
    refine loopF_inr ?_
    unfold numOK at ok
    by_cases o1 : b < dnd n T b
    · by_cases o2 : dnd n T b - b ≤ 5
      · have em : numR T b (dnd n T b) = numV T b (dnd n T b - b) := by unfold numR; rw [show min (dnd n T b - b) 5 = dnd n T b - b by omega]
        have i1 := rn_in_f (D := G) (v := numR T b (dnd n T b)) (a := lo) (b := hi) (by omega) hlo hhi (fun hh => ok ⟨o1, o2, by rw [← em]; exact hh.1, by rw [← em]; exact hh.2⟩)
        simp (disch := omega) only [a, ob_some, gd_t, ↓reduceIte, t3, g3, if_f, if_t, i1, fl, done_some]
      · simp (disch := omega) only [a, ob_some, gd_t, ↓reduceIte, t3, g3, if_f, fl, done_some]
    · have e0 : (dnd n T b : Int) - (b : Int) = 0 := by omega
      simp (disch := omega) only [a, ob_some, gd_t, ↓reduceIte, t3, g3, e0, fl, done_some]
theorem X11_number_y {D : DT} {lo hi : Int} (hf : 0 ≤ D.1 73 19 ∧ D.1 73 19 ≤ 400) : m_X11_number lo hi D = some (0, D) := by
  have q := X11_hasF_y hf
  simp (disch := omega) only [m_X11_number, q, ob_some, gd_t, if_f]
