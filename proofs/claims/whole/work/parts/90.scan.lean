/-! ===== reading: the text ===== -/
abbrev isBl (c : Int) : Prop := c = 9 ∨ c = 10 ∨ c = 32
abbrev isLe (c : Int) : Prop := 97 ≤ c ∧ c ≤ 122
abbrev isDi (c : Int) : Prop := 48 ≤ c ∧ c ≤ 57
/-- how far a kind of signs goes -/
def scn (P : Int → Prop) [DecidablePred P] (T : Nat → Int) : Nat → Nat → Nat
  | 0, p => p
  | k + 1, p => if P (T p) then scn P T k (p + 1) else p
theorem scn_b (P : Int → Prop) [DecidablePred P] (T : Nat → Int) (k p : Nat) : p ≤ scn P T k p ∧ scn P T k p ≤ p + k := by
  induction k generalizing p with
  | zero => exact ⟨Nat.le_refl _, Nat.le_refl _⟩
  | succ k ih =>
    rw [scn]
    split
    · have := ih (p + 1); omega
    · omega
def skp (n : Nat) (T : Nat → Int) (p : Nat) : Nat := scn isBl T (n - p) p
def wnd (n : Nat) (T : Nat → Int) (p : Nat) : Nat := scn isLe T (n - p) p
def dnd (n : Nat) (T : Nat → Int) (p : Nat) : Nat := scn isDi T (n - p) p
section Scan
variable {n : Nat} {T : Nat → Int}
theorem skp_b {p : Nat} (h : p ≤ n) : p ≤ skp n T p ∧ skp n T p ≤ n := by have := scn_b isBl T (n - p) p; unfold skp; omega
theorem wnd_b {p : Nat} (h : p ≤ n) : p ≤ wnd n T p ∧ wnd n T p ≤ n := by have := scn_b isLe T (n - p) p; unfold wnd; omega
theorem dnd_b {p : Nat} (h : p ≤ n) : p ≤ dnd n T p ∧ dnd n T p ≤ n := by have := scn_b isDi T (n - p) p; unfold dnd; omega
theorem scn_in (P : Int → Prop) [DecidablePred P] (k p j : Nat) (h1 : p ≤ j) (h2 : j < scn P T k p) : P (T j) := by
  induction k generalizing p with
  | zero => rw [scn] at h2; omega
  | succ k ih =>
    rw [scn] at h2
    split at h2
    · rename_i q
      by_cases e : j = p
      · rw [e]; exact q
      · exact ih (p + 1) (by omega) h2
    · omega
theorem scn_stop (P : Int → Prop) [DecidablePred P] (k p : Nat) : scn P T k p = p + k ∨ ¬ P (T (scn P T k p)) := by
  induction k generalizing p with
  | zero => exact Or.inl rfl
  | succ k ih =>
    rw [scn]
    split
    · rcases ih (p + 1) with h | h
      · exact Or.inl (by omega)
      · exact Or.inr h
    · rename_i q
      exact Or.inr q
theorem scn_same (P : Int → Prop) [DecidablePred P] {k p : Nat} (h : scn P T k p = p) (hk : 0 < k) : ¬ P (T p) := by
  cases k with
  | zero => omega
  | succ k =>
    rw [scn] at h
    split at h
    · have := scn_b P T k (p + 1); omega
    · assumption
theorem skp_at {p : Nat} (h : p ≤ n) (h2 : skp n T p < n) : ¬ isBl (T (skp n T p)) := by
  rcases scn_stop (T := T) isBl (n - p) p with e | e
  · have : skp n T p = p + (n - p) := e
    omega
  · exact e
theorem scn_id (P : Int → Prop) [DecidablePred P] {k p : Nat} (h : k = 0 ∨ ¬ P (T p)) : scn P T k p = p := by
  cases k with
  | zero => rfl
  | succ k =>
    rw [scn, if_neg]
    rcases h with h | h
    · omega
    · exact h
theorem skp_skp {p : Nat} (h : p ≤ n) : skp n T (skp n T p) = skp n T p := by
  have b := skp_b (T := T) h
  refine scn_id isBl ?_
  by_cases q : skp n T p < n
  · exact Or.inr (skp_at h q)
  · left; omega
end Scan
/-! the class's tape -/
/-- the tape holds the text, and stands at p -/
def CT (D : DT) (n : Nat) (T : Nat → Int) (p : Nat) : Prop := (n ≤ 400 ∧ ∀ k, k < n → -128 ≤ T k ∧ T k ≤ 127) ∧ D.1 55 0 = (n : Int) ∧ (∀ k, k < n → D.2 64 k = T k) ∧ D.1 55 3 = (p : Int) ∧ p ≤ n
/-- only some numbers of the tape change -/
def TKp (D D' : DT) (ks : List Nat) : Prop := (∀ a k, (a = 55 → k ∉ ks) → D'.1 a k = D.1 a k) ∧ D'.2 = D.2
theorem TKp.refl (D : DT) (ks : List Nat) : TKp D D ks := ⟨fun _ _ _ => rfl, rfl⟩
theorem TKp.trans {D D' D'' : DT} {ks ls : List Nat} (h : TKp D D' ks) (h' : TKp D' D'' ls) : TKp D D'' (ks ++ ls) := ⟨fun a k hk => by
  rw [h'.1 a k (fun e hh => hk e (List.mem_append_right _ hh)), h.1 a k (fun e hh => hk e (List.mem_append_left _ hh))], h'.2.trans h.2⟩
theorem TKp.mono {D D' : DT} {ks ls : List Nat} (h : TKp D D' ks) (hs : ∀ k, k ∈ ks → k ∈ ls) : TKp D D' ls := ⟨fun a k hk => h.1 a k (fun e hh => hk e (hs k hh)), h.2⟩
theorem TKp.f {D : DT} {k : Nat} {v : Int} : TKp D (sF D 55 k v) [k] := ⟨fun a j hj => by rw [sF1, if_neg (fun h => hj h.1 (by simp [h.2]))], rfl⟩
theorem CT.to {D D' : DT} {n p q : Nat} {T : Nat → Int} {ks : List Nat} (h : CT D n T p) (k : TKp D D' ks) (h0 : 0 ∉ ks) (e : D'.1 55 3 = (q : Int)) (hq : q ≤ n) : CT D' n T q := by
  obtain ⟨h1, h2, h3, h4, h5⟩ := h
  exact ⟨h1, by rw [k.1 55 0 (fun _ => h0)]; exact h2, by rw [k.2]; exact h3, e, hq⟩
theorem cls_scan {n : Nat} {T : Nat → Int} {α : Type} (P : Int → Prop) [DecidablePred P] (f : DT → Option (DT ⊕ α)) {D0 : DT} {ks : List Nat} (h0 : 0 ∉ ks) (h3 : 3 ∈ ks) (S : Nat → DT → DT) (hS : ∀ D p, CT D n T p → p < n → P (T p) → TKp D0 D ks → f D = some (.inl (S p D)) ∧ CT (S p D) n T (p + 1) ∧ TKp D0 (S p D) ks) : ∀ (k p : Nat) (D : DT), CT D n T p → p + k = n → TKp D0 D ks → ∃ D', CT D' n T (scn P T k p) ∧ TKp D0 D' ks ∧ loopF f D = loopF f D' := by
  intro k
  induction k with
  | zero => intro p D h _ hk; exact ⟨D, h, hk, rfl⟩
  | succ k ih =>
    intro p D h hp hk
    rw [scn]
    by_cases q : P (T p)
    · rw [if_pos q]
      obtain ⟨g1, g2, g3⟩ := hS D p h (by omega) q hk
      obtain ⟨D', e1, e2, e3⟩ := ih (p + 1) _ g2 (by omega) g3
      exact ⟨D', e1, e2, by rw [loopF_inl g1, e3]⟩
    · rw [if_neg q]
      exact ⟨D, h, hk, rfl⟩
theorem X9_skipBlanks {D : DT} {n p : Nat} {T : Nat → Int} (h : CT D n T p) : ∃ D', m_X9_skipBlanks D = some D' ∧ CT D' n T (skp n T p) ∧ TKp D D' [3] := by
  have hb := skp_b (T := T) h.2.2.2.2
  obtain ⟨D', e1, e2, e3⟩ := cls_scan (n := n) (T := T) isBl (fun s : DT =>
    gd (InR (s.1 55 3) ∧ InR (s.1 55 0)) (if (s.1 55 3) < (s.1 55 0) then (
      gd ((0 : Int) ≤ (s.1 55 3) ∧ (s.1 55 3) < (400 : Int)) (
      gd (InR (s.2 64 (Int.toNat (s.1 55 3))) ∧ InR 9) (if (s.2 64 (Int.toNat (s.1 55 3))) = 9 then (
        m_X9_skipBlanks_53 s
      ) else (
        gd ((0 : Int) ≤ (s.1 55 3) ∧ (s.1 55 3) < (400 : Int)) (
        gd (InR (s.2 64 (Int.toNat (s.1 55 3))) ∧ InR 10) (if (s.2 64 (Int.toNat (s.1 55 3))) = 10 then (
          m_X9_skipBlanks_53 s
        ) else (
          gd ((0 : Int) ≤ (s.1 55 3) ∧ (s.1 55 3) < (400 : Int)) (
          gd (InR (s.2 64 (Int.toNat (s.1 55 3))) ∧ InR 32) (if (s.2 64 (Int.toNat (s.1 55 3))) = 32 then (
            m_X9_skipBlanks_53 s
          ) else (
            done (
            some s
            )
          ))
          )
        ))
        )
      ))
      )
    ) else (
      done (
      some s
      )
    ))) (D0 := D) (ks := [3]) (by simp) (by simp) (fun p D => sF D 55 3 ((p : Int) + 1)) (fun E p hE hp hP hk => by
      obtain ⟨⟨b1, b2⟩, t1, t2, t3, t4⟩ := hE
      have e1 := t2 p hp
      have tb := b2 p hp
      refine ⟨?_, CT.to ⟨⟨b1, b2⟩, t1, t2, t3, t4⟩ TKp.f (by simp) (by rw [sF1, if_pos ⟨rfl, rfl⟩]; rfl) (by omega), (hk.trans TKp.f).mono (by simp)⟩
      by_cases q1 : T p = 9
      · simp (disch := omega) only [t3, t1, gd_t, if_t, tn, e1, if_t q1, m_X9_skipBlanks_53, sq_eq]
      · by_cases q2 : T p = 10
        · simp (disch := omega) only [t3, t1, gd_t, if_t, tn, e1, if_f q1, if_t q2, m_X9_skipBlanks_53, sq_eq]
        · have q3 : T p = 32 := by rcases hP with e | e | e <;> omega
          simp (disch := omega) only [t3, t1, gd_t, if_t, tn, e1, if_f q1, if_f q2, if_t q3, m_X9_skipBlanks_53, sq_eq]) (n - p) p D h (by have := h.2.2.2.2; omega) (TKp.refl _ _)
  refine ⟨D', ?_, e1, e2⟩
  unfold m_X9_skipBlanks m_X9_skipBlanks_0
  rw [e3]
  refine loopF_inr ?_
  obtain ⟨⟨b1, b2⟩, t1, t2, t3, t4⟩ := e1
  have t3' : D'.1 55 3 = (skp n T p : Int) := t3
  by_cases q : skp n T p < n
  · have e1 := t2 (skp n T p) q
    have tb := b2 _ q
    have na := skp_at (T := T) h.2.2.2.2 q
    have n1 : ¬ T (skp n T p) = 9 := fun hh => na (Or.inl hh)
    have n2 : ¬ T (skp n T p) = 10 := fun hh => na (Or.inr (Or.inl hh))
    have n3 : ¬ T (skp n T p) = 32 := fun hh => na (Or.inr (Or.inr hh))
    simp (disch := omega) only [t3', t1, gd_t, if_t, tn, e1, if_f n1, if_f n2, if_f n3, done_some]
  · simp (disch := omega) only [t3', t1, gd_t, if_f, done_some]
/-- a word: from b to e -/
theorem X9_readWord {D : DT} {n p : Nat} {T : Nat → Int} (h : CT D n T p) : ∃ D', TKp D D' [3, 4, 5, 8] ∧ CT D' n T (wnd n T (skp n T p)) ∧ D'.1 55 4 = (skp n T p : Int) ∧ D'.1 55 5 = ((wnd n T (skp n T p) - skp n T p : Nat) : Int) ∧ (if wnd n T (skp n T p) = skp n T p then m_X9_readWord D = some (0, D') ∧ D'.1 55 8 = (skp n T p : Int) else m_X9_readWord D = some (1, D') ∧ D'.1 55 8 = D.1 55 8) := by
  have hb := skp_b (T := T) h.2.2.2.2
  have wb := wnd_b (T := T) hb.2
  obtain ⟨D1, e1, e2, e3⟩ := X9_skipBlanks h
  have c1 : CT (sF D1 55 4 (skp n T p : Int)) n T (skp n T p) := e2.to TKp.f (by simp) (by rw [sF1, if_neg (by omega)]; exact e2.2.2.2.1) hb.2
  obtain ⟨D2, g1, g2, g3⟩ := cls_scan (n := n) (T := T) isLe (fun s : DT =>
    gd (InR (s.1 55 3) ∧ InR (s.1 55 0)) (if (s.1 55 3) < (s.1 55 0) then (
      gd ((0 : Int) ≤ (s.1 55 3) ∧ (s.1 55 3) < (400 : Int)) (
      gd (InR (s.2 64 (Int.toNat (s.1 55 3))) ∧ InR 97) (if 97 ≤ (s.2 64 (Int.toNat (s.1 55 3))) then (
        gd ((0 : Int) ≤ (s.1 55 3) ∧ (s.1 55 3) < (400 : Int)) (
        gd (InR (s.2 64 (Int.toNat (s.1 55 3))) ∧ InR 122) (if (s.2 64 (Int.toNat (s.1 55 3))) ≤ 122 then (
          sq (sF s 55 3 ((s.1 55 3) + 1)) (fun D58 =>
          some (.inl D58)
          )
        ) else (
          done (
          m_X9_readWord_64 s
          )
        ))
        )
      ) else (
        done (
        m_X9_readWord_64 s
        )
      ))
      )
    ) else (
      done (
      m_X9_readWord_64 s
      )
    ))) (D0 := sF D1 55 4 (skp n T p : Int)) (ks := [3]) (by simp) (by simp) (fun p D => sF D 55 3 ((p : Int) + 1)) (fun E p hE hp hP hk => by
      obtain ⟨⟨b1, b2⟩, t1, t2, t3, t4⟩ := hE
      have e1 := t2 p hp
      have tb := b2 p hp
      refine ⟨?_, CT.to ⟨⟨b1, b2⟩, t1, t2, t3, t4⟩ TKp.f (by simp) (by rw [sF1, if_pos ⟨rfl, rfl⟩]; rfl) (by omega), (hk.trans TKp.f).mono (by simp)⟩
      simp (disch := omega) only [t3, t1, gd_t, if_t, tn, e1, sq_eq]) (n - skp n T p) (skp n T p) _ c1 (by omega) (TKp.refl _ _)
  have g1' : CT D2 n T (wnd n T (skp n T p)) := g1
  have f4 : D2.1 55 4 = (skp n T p : Int) := by rw [g2.1 55 4 (by simp), sF1, if_pos ⟨rfl, rfl⟩]
  have f8 : D2.1 55 8 = D.1 55 8 := by rw [g2.1 55 8 (by simp), sF1, if_neg (by omega), e3.1 55 8 (by simp)]
  have el : (wnd n T (skp n T p) : Int) - (skp n T p : Int) = ((wnd n T (skp n T p) - skp n T p : Nat) : Int) := by omega
  have kk : TKp D D2 [3, 4] := ((e3.trans TKp.f).trans g2).mono (by simp)
  have c3 : CT (sF D2 55 5 ((wnd n T (skp n T p) - skp n T p : Nat) : Int)) n T (wnd n T (skp n T p)) := g1'.to TKp.f (by simp) (by rw [sF1, if_neg (by omega)]; exact g1'.2.2.2.1) wb.2
  have rw1 : m_X9_readWord D = m_X9_readWord_64 D2 := by
    unfold m_X9_readWord
    rw [e1]
    simp only [ob_some, sq_eq]
    rw [e2.2.2.2.1]
    unfold m_X9_readWord_12
    rw [g3]
    obtain ⟨⟨b1, b2⟩, t1, t2, t3, t4⟩ := g1'
    cases hh : m_X9_readWord_64 D2 with
    | none =>
      refine loopF_none ?_
      by_cases q : wnd n T (skp n T p) < n
      · have e1 := t2 _ q
        have tb := b2 _ q
        rcases scn_stop (T := T) isLe (n - skp n T p) (skp n T p) with ee | ee
        · have : wnd n T (skp n T p) = skp n T p + (n - skp n T p) := ee
          omega
        · have ee' : ¬ isLe (T (wnd n T (skp n T p))) := ee
          by_cases q2 : 97 ≤ T (wnd n T (skp n T p))
          · simp (disch := omega) only [t3, t1, gd_t, if_t, tn, e1, if_f, hh]
            rfl
          · simp (disch := omega) only [t3, t1, gd_t, if_t, tn, e1, if_f, hh]
            rfl
      · simp (disch := omega) only [t3, t1, gd_t, if_f, hh]
        rfl
    | some r =>
      refine loopF_inr ?_
      by_cases q : wnd n T (skp n T p) < n
      · have e1 := t2 _ q
        have tb := b2 _ q
        rcases scn_stop (T := T) isLe (n - skp n T p) (skp n T p) with ee | ee
        · have : wnd n T (skp n T p) = skp n T p + (n - skp n T p) := ee
          omega
        · have ee' : ¬ isLe (T (wnd n T (skp n T p))) := ee
          by_cases q2 : 97 ≤ T (wnd n T (skp n T p))
          · simp (disch := omega) only [t3, t1, gd_t, if_t, tn, e1, if_f, hh, done_some]
          · simp (disch := omega) only [t3, t1, gd_t, if_t, tn, e1, if_f, hh, done_some]
      · simp (disch := omega) only [t3, t1, gd_t, if_f, hh, done_some]
  have e5 : (sF D2 55 5 ((wnd n T (skp n T p) - skp n T p : Nat) : Int)).1 55 5 = ((wnd n T (skp n T p) - skp n T p : Nat) : Int) := by rw [sF1, if_pos ⟨rfl, rfl⟩]
  have t3 := g1'.2.2.2.1
  have n400 := h.1.1
  by_cases q : wnd n T (skp n T p) = skp n T p
  · refine ⟨sF (sF D2 55 5 ((wnd n T (skp n T p) - skp n T p : Nat) : Int)) 55 8 (skp n T p : Int), ((kk.trans TKp.f).trans TKp.f).mono (by simp), c3.to TKp.f (by simp) (by rw [sF1, if_neg (by omega)]; exact c3.2.2.2.1) wb.2, ?_, ?_, ?_⟩
    · rw [sF1, if_neg (by omega), sF1, if_neg (by omega)]; exact f4
    · rw [sF1, if_neg (by omega)]; exact e5
    · rw [if_pos q, rw1]
      refine ⟨?_, by rw [sF1, if_pos ⟨rfl, rfl⟩]⟩
      have e53 : (sF D2 55 5 ((wnd n T (skp n T p) - skp n T p : Nat) : Int)).1 55 3 = (skp n T p : Int) := by rw [sF1, if_neg (by omega), t3, q]
      simp (disch := omega) only [m_X9_readWord_64, t3, f4, el, sq_eq, e5, gd_t, if_t, m_X9_failAt, bnd_some, ↓reduceIte, e53]
  · refine ⟨sF D2 55 5 ((wnd n T (skp n T p) - skp n T p : Nat) : Int), (kk.trans TKp.f).mono (by simp), c3, ?_, e5, ?_⟩
    · rw [sF1, if_neg (by omega)]; exact f4
    · rw [if_neg q, rw1]
      refine ⟨?_, by rw [sF1, if_neg (by omega)]; exact f8⟩
      simp (disch := omega) only [m_X9_readWord_64, t3, f4, el, sq_eq, e5, gd_t, if_f]
