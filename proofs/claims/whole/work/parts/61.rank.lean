/-! ===== lists in arrays ===== -/
def ArrL (A : Nat → Int) (l : List Nat) : Prop := ∀ i (hi : i < l.length), A i = (l[i] : Int)
theorem ArrL.snoc {A A' : Nat → Int} {l : List Nat} {c : Nat} (h : ArrL A l) (h' : ∀ j, A' j = if j = l.length then (c : Int) else A j) : ArrL A' (l ++ [c]) := by
  intro i hi
  rw [h']
  by_cases q : i = l.length
  · subst q
    rw [if_pos rfl]
    simp
  · have hl : i < l.length := by
      rw [List.length_append] at hi
      simp at hi
      omega
    rw [if_neg q, h i hl, List.getElem_append_left hl]
theorem ArrL.nil {A : Nat → Int} : ArrL A [] := fun i hi => absurd hi (by simp)
theorem frs_t {p : Nat → Bool} {k : Nat} (h : p k = true) : (List.range (k + 1)).filter p = (List.range k).filter p ++ [k] := by
  rw [List.range_succ, List.filter_append, List.filter_cons, if_pos h]
  rfl
theorem frs_f {p : Nat → Bool} {k : Nat} (h : ¬ p k = true) : (List.range (k + 1)).filter p = (List.range k).filter p := by
  rw [List.range_succ, List.filter_append, List.filter_cons, if_neg h]
  simp
theorem fr_le (p : Nat → Bool) (k : Nat) : ((List.range k).filter p).length ≤ k := by
  have := List.length_filter_le p (List.range k)
  simpa using this
theorem fr_mem {p : Nat → Bool} {k c : Nat} : c ∈ (List.range k).filter p ↔ c < k ∧ p c = true := by simp
theorem fr_nodup (p : Nat → Bool) (k : Nat) : ((List.range k).filter p).Nodup := (List.filter_sublist).nodup (List.nodup_range)
theorem foldB_snoc (bt : Nat → Nat → Bool) (l : List Nat) (c : Nat) : foldB bt (l ++ [c]) = if foldB bt l == -1 || bt c (foldB bt l).toNat then (c : Int) else foldB bt l := by
  rw [foldB, List.foldl_append, ← foldB]
  rfl
theorem foldB_cases (bt : Nat → Nat → Bool) (l : List Nat) : (l = [] ∧ foldB bt l = -1) ∨ ∃ c, c ∈ l ∧ foldB bt l = (c : Int) := by
  rcases List.eq_nil_or_concat l with h | ⟨l', a, h⟩
  · subst h
    exact Or.inl ⟨rfl, rfl⟩
  · right
    rw [List.concat_eq_append] at h
    subst h
    have : ∀ l : List Nat, foldB bt l = -1 ∨ ∃ c, c ∈ l ∧ foldB bt l = (c : Int) := by
      intro l
      induction h : l.length generalizing l with
      | zero =>
        have : l = [] := by simpa using h
        subst this
        exact Or.inl rfl
      | succ n ih =>
        rcases List.eq_nil_or_concat l with h2 | ⟨l2, b, h2⟩
        · subst h2
          exact Or.inl rfl
        · rw [List.concat_eq_append] at h2
          subst h2
          rw [foldB_snoc]
          split
          · exact Or.inr ⟨b, by simp, rfl⟩
          · rcases ih l2 (by simpa using h) with h3 | ⟨c, h3, h4⟩
            · exact Or.inl h3
            · exact Or.inr ⟨c, by simp [h3], h4⟩
    rw [foldB_snoc]
    split
    · exact ⟨a, by simp, rfl⟩
    · rename_i q
      rcases this l' with h3 | ⟨c, h3, h4⟩
      · rw [h3] at q
        simp at q
      · exact ⟨c, by simp [h3], h4⟩
/-! ===== the class ranks the cells of a zone ===== -/
/-- those that wait -/
def wtL (M : MS) (z : Int) (l : List Nat) : List Nat := (List.range (nC M)).filter (fun c => isL M z c && !(l.contains c))
/-- what the ranking of a zone leaves alone -/
def RKp (D D' : DT) (r : Nat) : Prop := (∀ a k, a ≠ r + 7 → (a = r → k ≠ 7) → D'.1 a k = D.1 a k) ∧ ∀ a, a ≠ r + 5 → a ≠ r + 6 → a ≠ r + 1 → D'.2 a = D.2 a
theorem RKp.refl (D : DT) (r : Nat) : RKp D D r := ⟨fun _ _ _ _ => rfl, fun _ _ _ _ => rfl⟩
theorem RKp.trans {D D' D'' : DT} {r : Nat} (h : RKp D D' r) (h' : RKp D' D'' r) : RKp D D'' r := ⟨fun a k h1 h2 => (h'.1 a k h1 h2).trans (h.1 a k h1 h2), fun a h1 h2 h3 => (h'.2 a h1 h2 h3).trans (h.2 a h1 h2 h3)⟩
theorem RKp.map {D D' : DT} {r hc w h : Nat} {ow se : Nat → Int} (K : RKp D D' r) (hr : hc + 8 < r) (C : CMap D hc w h ow se) : CMap D' hc w h ow se := C.cong (fun a ha => ⟨funext (fun k => K.1 a k (by omega) (fun h => by omega)), K.2 a (by omega) (by omega) (by omega)⟩)
def WtRep (D : DT) (r : Nat) (W : List Nat) : Prop := D.1 r 7 = (W.length : Int) ∧ ArrL (D.2 (r + 5)) W
def sCx (M : MS) (z : Int) (n : Nat) : Int := sumTo (fun c => if isL M z c then ((c % mW M : Nat) : Int) else 0) n
def sCy (M : MS) (z : Int) (n : Nat) : Int := sumTo (fun c => if isL M z c then ((c / mW M : Nat) : Int) else 0) n
def sCt (M : MS) (z : Int) (n : Nat) : Int := sumTo (fun c => if isL M z c then 1 else 0) n
def sCq (M : MS) (z : Int) (n : Nat) : Int := sumTo (fun c => if isL M z c then ((c % mW M : Nat) : Int) * ((c % mW M : Nat) : Int) + ((c / mW M : Nat) : Int) * ((c / mW M : Nat) : Int) else 0) n
theorem pull_eq (M : MS) (z : Int) (c n : Nat) : sCt M z n * (((c % mW M : Nat) : Int) * ((c % mW M : Nat) : Int) + ((c / mW M : Nat) : Int) * ((c / mW M : Nat) : Int)) - 2 * ((c % mW M : Nat) : Int) * sCx M z n - 2 * ((c / mW M : Nat) : Int) * sCy M z n = sumTo (fun o => if isL M z o then farM (mW M) c o else 0) n - sCq M z n := by
  induction n with
  | zero => simp [sCt, sCx, sCy, sCq, sumTo]
  | succ n ih =>
    have e1 : sCt M z (n + 1) = sCt M z n + if isL M z n then 1 else 0 := rfl
    have e2 : sCx M z (n + 1) = sCx M z n + if isL M z n then ((n % mW M : Nat) : Int) else 0 := rfl
    have e3 : sCy M z (n + 1) = sCy M z n + if isL M z n then ((n / mW M : Nat) : Int) else 0 := rfl
    have e4 : sCq M z (n + 1) = sCq M z n + if isL M z n then ((n % mW M : Nat) : Int) * ((n % mW M : Nat) : Int) + ((n / mW M : Nat) : Int) * ((n / mW M : Nat) : Int) else 0 := rfl
    rw [e1, e2, e3, e4, sumTo]
    generalize sumTo (fun o => if isL M z o then farM (mW M) c o else 0) n = S at *
    generalize sCt M z n = a at *
    generalize sCx M z n = b at *
    generalize sCy M z n = d at *
    generalize sCq M z n = e at *
    by_cases q : isL M z n = true
    · rw [if_pos q, if_pos q, if_pos q, if_pos q, if_pos q]
      unfold farM
      generalize ((c % mW M : Nat) : Int) = x at *
      generalize ((c / mW M : Nat) : Int) = y at *
      generalize ((n % mW M : Nat) : Int) = x' at *
      generalize ((n / mW M : Nat) : Int) = y' at *
      grind
    · rw [if_neg q, if_neg q, if_neg q, if_neg q, if_neg q]
      simp only [Int.add_zero]
      exact ih
theorem isL_b {M : MS} (C : Nat) (z : Int) : b2i (mO M C = z ∧ mS M C = 0) = if isL M z C then 1 else 0 := by
  by_cases q : mO M C = z ∧ mS M C = 0
  · rw [b2i_t q, if_pos (isL_iff.mpr q)]
  · rw [b2i_f q, if_neg (fun h => q (isL_iff.mp h))]
theorem X6_gather {D : DT} {r hc : Nat} {M : MS} {z : Int} (hr : hc + 8 < r) (C : CMap D hc (mW M) (mH M) (mO M) (mS M)) (O : MOK M) (hz : InR z) : ∃ D', m_X6_gather r hc z D = some D' ∧ RKp D D' r ∧ D'.2 (r + 1) = D.2 (r + 1) ∧ WtRep D' r ((List.range (nC M)).filter (isL M z)) ∧ (∀ c, c < nC M → isL M z c = true → D'.2 (r + 6) c = 1000) ∧ D'.1 (r + 7) 0 = sCt M z (nC M) ∧ D'.1 (r + 7) 1 = sCx M z (nC M) ∧ D'.1 (r + 7) 2 = sCy M z (nC M) := by
  have n4 := nCb O
  unfold m_X6_gather m_X0_clear
  simp only [sq_eq, ob_some]
  unfold m_X6_gather_14
  obtain ⟨s', ⟨i0, i1, i2, i3, i4, i5, i6, i7⟩, e⟩ := loop_inv (f := fun s : Int × DT =>
    (m_X1_cells hc s.2).bind (fun r16 =>
    gd (InR s.1 ∧ InR r16) (if s.1 < r16 then (
      (m_X1_isLandOf hc s.1 z s.2).bind (fun r25 =>
      gd (InR r25) (if r25 = 0 then (
        some ((.inl ((s.1 + 1), s.2)) : (Int × DT) ⊕ DT)
      ) else (
        gd ((0 : Int) ≤ (s.2.1 r 7) ∧ (s.2.1 r 7) < (384 : Int)) (sq (sA s.2 (r + 5) (Int.toNat (s.2.1 r 7)) s.1) (fun D40 =>
        sq (sF D40 r 7 ((D40.1 r 7) + 1)) (fun D48 =>
        gd ((0 : Int) ≤ s.1 ∧ s.1 < (384 : Int)) (sq (sA D48 (r + 6) (Int.toNat s.1) 1000) (fun D59 =>
        (m_X0_add (r + 7) hc s.1 1 D59).bind (fun D67 =>
        some (.inl ((s.1 + 1), D67))
        ))))))
      ))
      )
    ) else (
      done (
      some s.2
      )
    ))
    )) (fun k s => s.1 = (k : Int) ∧ RKp D s.2 r ∧ s.2.2 (r + 1) = D.2 (r + 1) ∧ WtRep s.2 r ((List.range k).filter (isL M z)) ∧ (∀ c, c < k → isL M z c = true → s.2.2 (r + 6) c = 1000) ∧ s.2.1 (r + 7) 0 = sCt M z k ∧ s.2.1 (r + 7) 1 = sCx M z k ∧ s.2.1 (r + 7) 2 = sCy M z k) (nC M) (s := (0, sF (sF (sF (sF D r 7 0) (r + 7) 0 0) (r + 7) 1 0) (r + 7) 2 0)) ⟨rfl, ⟨fun a k h1 h2 => by
      rw [sF1, if_neg (fun h => h1 h.1), sF1, if_neg (fun h => h1 h.1), sF1, if_neg (fun h => h1 h.1), sF1, if_neg (fun h => h2 h.1 h.2)], fun a _ _ _ => rfl⟩, rfl, ⟨by
      rw [sF1, if_neg (by omega), sF1, if_neg (by omega), sF1, if_neg (by omega), sF1, if_pos ⟨rfl, rfl⟩]; rfl, ArrL.nil⟩, fun c h => by omega, by
      rw [sF1, if_neg (by omega), sF1, if_neg (by omega), sF1, if_pos ⟨rfl, rfl⟩]; rfl, by
      rw [sF1, if_neg (by omega), sF1, if_pos ⟨rfl, rfl⟩]; rfl, by
      rw [sF1, if_pos ⟨rfl, rfl⟩]; rfl⟩ (fun k s hk ⟨a0, a1, a2, ⟨a3, a3'⟩, a4, a5, a6, a7⟩ => by
      have C' := a1.map hr C
      have ec : m_X1_cells hc s.2 = some (nC M : Int) := X1_cells C'
      have el := X1_isLandOf C' O.2.2.2.2.1 hk hz O.2.2.1
      rw [isL_b] at el
      have c1 : ((k + 1 : Nat) : Int) = (k : Int) + 1 := rfl
      have lb := fr_le (isL M z) k
      obtain ⟨-, -, m3, m4⟩ := C'.2.2 k hk
      have d1 := (divh hk).1
      have d2 := (divh hk).2
      have d3 := O.2.1
      by_cases q : isL M z k = true
      · have k5 : r + 5 ≠ r + 6 := by omega
        refine ⟨((k : Int) + 1, sF (sF (sF (sA (sF (sA s.2 (r + 5) ((List.range k).filter (isL M z)).length (k : Int)) r 7 ((((List.range k).filter (isL M z)).length : Int) + 1)) (r + 6) k 1000) (r + 7) 0 (sCt M z k + 1)) (r + 7) 1 (sCx M z k + 1 * ((k % mW M : Nat) : Int))) (r + 7) 2 (sCy M z k + 1 * ((k / mW M : Nat) : Int))), ?_, rfl, ⟨fun a j h1 h2 => ?_, fun a h1 h2 h3 => ?_⟩, ?_, ⟨?_, ?_⟩, fun c hc1 hc2 => ?_, ?_, ?_, ?_⟩
        · rw [if_pos q] at el
          have f1 : (r = r + 7 ∧ 7 = 0) = False := by simp
          have f2 : (r + 7 = r ∧ 0 = 7) = False := by simp
          have f3 : (r + 7 = r ∧ 1 = 7) = False := by simp
          have f4 : (r + 7 = r ∧ 2 = 7) = False := by simp
          have f5 : (hc + 3 = r + 6 ∧ k = k) = False := by simp; omega
          have f6 : (hc + 4 = r + 6 ∧ k = k) = False := by simp; omega
          have f7 : (hc + 3 = r + 5 ∧ k = ((List.range k).filter (isL M z)).length) = False := by simp; omega
          have f8 : (hc + 4 = r + 5 ∧ k = ((List.range k).filter (isL M z)).length) = False := by simp; omega
          have f9 : (r + 7 = r + 7 ∧ 1 = 0) = False := by simp
          have f10 : (r + 7 = r + 7 ∧ 2 = 0) = False := by simp
          have f11 : (r + 7 = r + 7 ∧ 2 = 1) = False := by simp
          have g3 : InR ((k % mW M : Nat) : Int) := by omega
          have g40 : (0 : Int) ≤ ((k / mW M : Nat) : Int) := Int.natCast_nonneg _
          have g4 : InR ((k / mW M : Nat) : Int) := by omega
          simp (disch := omega) only [a0, ec, ob_some, gd_t, if_t, el, if_f, a3, tn, sq_eq, m_X0_add, gd_t g3, gd_t g4, sF1, sF2, sA1, sA2, f1, f2, f3, f4, f5, f6, f7, f8, f9, f10, f11, ↓reduceIte, a5, a6, a7, m3, m4]
        · simp only [sF1, sA1]
          rw [if_neg (fun h => h1 h.1), if_neg (fun h => h1 h.1), if_neg (fun h => h1 h.1), if_neg (fun h => h2 h.1 h.2)]
          exact a1.1 a j h1 h2
        · simp only [sF2]
          funext j
          rw [sA2, if_neg (fun h => h2 h.1), sF2, sA2, if_neg (fun h => h1 h.1), a1.2 a h1 h2 h3]
        · simp only [sF2]
          funext j
          rw [sA2, if_neg (by omega), sF2, sA2, if_neg (by omega), a2]
        · rw [sF1, if_neg (by omega), sF1, if_neg (by omega), sF1, if_neg (by omega), sA1, sF1, if_pos ⟨rfl, rfl⟩, frs_t q, List.length_append]
          rfl
        · rw [frs_t q]
          refine a3'.snoc (fun j => ?_)
          simp only [sF2]
          rw [sA2, if_neg (by omega), sF2, sA2]
          by_cases qj : j = ((List.range k).filter (isL M z)).length
          · rw [if_pos ⟨rfl, qj⟩, if_pos qj]
          · rw [if_neg (fun h => qj h.2), if_neg qj]
        · simp only [sF2]
          rw [sA2]
          by_cases qj : c = k
          · rw [if_pos ⟨rfl, qj⟩]
          · rw [if_neg (fun h => qj h.2), sF2, sA2, if_neg (by omega)]
            exact a4 c (by omega) hc2
        · rw [sF1, if_neg (by omega), sF1, if_neg (by omega), sF1, if_pos ⟨rfl, rfl⟩]
          show _ = sCt M z k + if isL M z k then 1 else 0
          rw [if_pos q]
        · rw [sF1, if_neg (by omega), sF1, if_pos ⟨rfl, rfl⟩]
          show _ = sCx M z k + if isL M z k then ((k % mW M : Nat) : Int) else 0
          rw [if_pos q, Int.one_mul]
        · rw [sF1, if_pos ⟨rfl, rfl⟩]
          show _ = sCy M z k + if isL M z k then ((k / mW M : Nat) : Int) else 0
          rw [if_pos q, Int.one_mul]
      · refine ⟨((k : Int) + 1, s.2), ?_, rfl, a1, a2, ⟨?_, ?_⟩, fun c hc1 hc2 => ?_, ?_, ?_, ?_⟩
        · rw [if_neg q] at el
          simp (disch := omega) only [a0, ec, ob_some, gd_t, if_t, el, ↓reduceIte]
        · rw [frs_f q]; exact a3
        · rw [frs_f q]; exact a3'
        · by_cases qj : c = k
          · subst qj; exact absurd hc2 q
          · exact a4 c (by omega) hc2
        · show _ = sCt M z k + if isL M z k then 1 else 0
          rw [if_neg q, Int.add_zero]; exact a5
        · show _ = sCx M z k + if isL M z k then ((k % mW M : Nat) : Int) else 0
          rw [if_neg q, Int.add_zero]; exact a6
        · show _ = sCy M z k + if isL M z k then ((k / mW M : Nat) : Int) else 0
          rw [if_neg q, Int.add_zero]; exact a7)
  refine ⟨s'.2, ?_, i1, i2, i3, i4, i5, i6, i7⟩
  rw [e]
  refine loopF_inr ?_
  have C' := i1.map hr C
  have ec : m_X1_cells hc s'.2 = some (nC M : Int) := X1_cells C'
  simp (disch := omega) only [i0, ec, ob_some, gd_t, if_f, done_some]
