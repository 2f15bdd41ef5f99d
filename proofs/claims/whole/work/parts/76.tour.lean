/-! ===== a tour ===== -/
def tnO (w : Nat) (p : Nat → Bool) (n : Nat) (l : List Nat) : Int := match l.getLast? with
  | none => argB p (fun _ _ => false) n
  | some a => tnx w p l a n
theorem tourN_s (w : Nat) (p : Nat → Bool) (n k : Nat) : tourN w p n (k + 1) = if tnO w p n (tourN w p n k) = -1 then tourN w p n k else tourN w p n k ++ [(tnO w p n (tourN w p n k)).toNat] := rfl
theorem tnO_nil (w : Nat) (p : Nat → Bool) (n : Nat) : tnO w p n [] = argB p (fun _ _ => false) n := rfl
theorem tnO_snoc (w : Nat) (p : Nat → Bool) (n : Nat) (l : List Nat) (a : Nat) : tnO w p n (l ++ [a]) = argB (fun c => p c && !((l ++ [a]).contains c)) (fun c b => decide (farM w c a < farM w b a)) n := by
  unfold tnO
  rw [List.getLast?_concat]
  rfl
theorem tnO_cases (w : Nat) (p : Nat → Bool) (n : Nat) (l : List Nat) : (tnO w p n l = -1 ∧ ∀ c, c < n → p c = true → c ∈ l) ∨ ∃ c, c < n ∧ p c = true ∧ c ∉ l ∧ tnO w p n l = (c : Int) := by
  rcases List.eq_nil_or_concat l with h | ⟨l', a, h⟩
  · subst h
    rw [tnO_nil]
    rcases argB_cases p (fun _ _ => false) n with ⟨h1, h2⟩ | ⟨c, h1, h2, h3⟩
    · exact Or.inl ⟨h1, fun c hc h => by rw [h2 c hc] at h; cases h⟩
    · exact Or.inr ⟨c, h1, h2, by simp, h3⟩
  · rw [List.concat_eq_append] at h
    subst h
    rw [tnO_snoc]
    rcases argB_cases (fun c => p c && !((l' ++ [a]).contains c)) (fun c b => decide (farM w c a < farM w b a)) n with ⟨h1, h2⟩ | ⟨c, h1, h2, h3⟩
    · refine Or.inl ⟨h1, fun c hc h => ?_⟩
      have := h2 c hc
      rw [h] at this
      generalize l' ++ [a] = L at *
      simpa using this
    · simp only [Bool.and_eq_true] at h2
      exact Or.inr ⟨c, h1, h2.1, by have := h2.2; simpa using this, h3⟩
theorem tour_ok (w : Nat) (p : Nat → Bool) (n k : Nat) : (tourN w p n k).Nodup ∧ (∀ c, c ∈ tourN w p n k → c < n ∧ p c = true) ∧ ((tourN w p n k).length = k ∨ (tnO w p n (tourN w p n k) = -1 ∧ (tourN w p n k).length ≤ k)) := by
  induction k with
  | zero => exact ⟨List.nodup_nil, fun c h => absurd h (by simp [tourN]), Or.inl rfl⟩
  | succ k ih =>
    obtain ⟨i1, i2, i3⟩ := ih
    rw [tourN_s]
    rcases tnO_cases w p n (tourN w p n k) with ⟨h1, h2⟩ | ⟨c, h1, h2, h3, h4⟩
    · rw [if_pos h1]
      exact ⟨i1, i2, Or.inr ⟨h1, by omega⟩⟩
    · rw [if_neg (by omega), h4]
      refine ⟨?_, fun x hx => ?_, Or.inl ?_⟩
      · rw [List.nodup_append]
        refine ⟨i1, by simp, fun a ha b hb => ?_⟩
        simp at hb
        rintro rfl
        exact h3 (hb ▸ ha)
      · rw [List.mem_append] at hx
        rcases hx with hx | hx
        · exact i2 x hx
        · have : x = c := by simpa using hx
          subst this
          exact ⟨h1, h2⟩
      · rw [List.length_append]
        simp
        rcases i3 with i3 | i3 <;> omega
theorem tour_le (w : Nat) (p : Nat → Bool) (n k : Nat) : (tourN w p n k).length ≤ n := by
  obtain ⟨h1, h2, -⟩ := tour_ok w p n k
  have e := nodup_len h1 (fun c hc => (h2 c hc).1)
  have := sumTo_bounds (f := fun c => b2i (c ∈ tourN w p n k)) (n := n) (a := 0) (b := 1) (fun c _ => b2i_01)
  omega
theorem tour_of_stuck {w : Nat} {p : Nat → Bool} {n k : Nat} (h : tnO w p n (tourN w p n k) = -1) (hk : k ≤ n) : tourN w p n n = tourN w p n k := by
  have e : ∀ j, tourN w p n (k + j) = tourN w p n k := by
    intro j
    induction j with
    | zero => rfl
    | succ j ih =>
      show tourN w p n ((k + j) + 1) = _
      rw [tourN_s, ih, if_pos h]
  rw [show n = k + (n - k) by omega]
  have := e (n - k)
  rw [show k + (n - k) = n by omega] at this ⊢
  exact this
theorem way_snoc (w : Nat) (l : List Nat) (a b : Nat) : wayL w (l ++ [a] ++ [b]) = wayL w (l ++ [a]) + farM w b a := by
  induction l with
  | nil => simp [wayL]
  | cons x l ih =>
    cases l with
    | nil =>
      show farM w a x + wayL w ([a] ++ [b]) = farM w a x + wayL w [a] + farM w b a
      have : wayL w ([a] ++ [b]) = wayL w ([a]) + farM w b a := ih
      rw [this]
      omega
    | cons y t =>
      show farM w y x + wayL w (y :: t ++ [a] ++ [b]) = farM w y x + wayL w (y :: t ++ [a]) + farM w b a
      rw [ih]
      omega
theorem way_b {M : MS} (O : MOK M) (l : List Nat) (h : ∀ c, c ∈ l → c < nC M) : 0 ≤ wayL (mW M) l ∧ wayL (mW M) l ≤ 754 * (l.length : Int) := by
  induction l with
  | nil => exact ⟨by simp [wayL], by simp [wayL]⟩
  | cons x l ih =>
    have i := ih (fun c hc => h c (by simp [hc]))
    cases l with
    | nil => exact ⟨by simp [wayL], by simp [wayL]⟩
    | cons y t =>
      have fb := farM_b O.2.1.1 O.2.1.2 (h y (by simp)) (h x (by simp))
      have e : wayL (mW M) (x :: y :: t) = farM (mW M) y x + wayL (mW M) (y :: t) := rfl
      rw [e]
      simp only [List.length_cons] at i ⊢
      omega
theorem foldB_first (a : Nat) (l : List Nat) : foldB (fun _ _ => false) (a :: l) = (a : Int) := by
  have : ∀ (l : List Nat), l.foldl (fun (b : Int) (c : Nat) => if b == -1 || false then (c : Int) else b) (a : Int) = (a : Int) := by
    intro l
    induction l with
    | nil => rfl
    | cons x l ih =>
      rw [List.foldl_cons]
      have ne : ((a : Int) == -1) = false := by simp
      simp only [ne, Bool.or_self, Bool.false_eq_true, ↓reduceIte]
      exact ih
  rw [foldB, List.foldl_cons]
  simp only [beq_self_eq_true, Bool.true_or, ↓reduceIte]
  exact this l
theorem foldB_head {W : List Nat} (h : 0 < W.length) : foldB (fun _ _ => false) W = (W[0] : Int) := by
  cases W with
  | nil => simp at h
  | cons a t => rw [foldB_first]; rfl
def wtT (p : Nat → Bool) (n : Nat) (l : List Nat) : List Nat := (List.range n).filter (fun c => p c && !(l.contains c))
theorem wtT_snoc (p : Nat → Bool) (n : Nat) (l : List Nat) (v : Nat) : wtT p n (l ++ [v]) = (wtT p n l).filter (· != v) := by
  unfold wtT
  rw [List.filter_filter]
  congr 1
  funext c
  by_cases q : c = v
  · subst q; simp
  · simp [q]
theorem wtT_nil (p : Nat → Bool) (n : Nat) : wtT p n [] = (List.range n).filter p := by
  unfold wtT
  congr 1
  funext c
  simp
/-- one pass of the class over those that wait -/
theorem X4_nextAfter {D : DT} {M : MS} (C : CMap D 2 (mW M) (mH M) (mO M) (mS M)) (O : MOK M) {W : List Nat} (h4 : D.1 70 4 = (W.length : Int)) (hA : ArrL (D.2 72) W) (wm : ∀ c, c ∈ W → c < nC M) (lb : W.length ≤ nC M) {v : Nat} (hv : v < nC M) : ∃ D', m_X4_nextAfter 2 (v : Int) D = some (foldB (fun c b => decide (farM (mW M) c v < farM (mW M) b v)) (W.filter (· != v)), D') ∧ PKp D D' ∧ D'.2 71 = D.2 71 ∧ (∀ k, k ≠ 4 → D'.1 70 k = D.1 70 k) ∧ D'.1 70 4 = ((W.filter (· != v)).length : Int) ∧ ArrL (D'.2 72) (W.filter (· != v)) := by
  have n4 := nCb O
  have fb : ∀ c, c ∈ W → 0 ≤ farM (mW M) c v ∧ farM (mW M) c v ≤ 754 := fun c h => farM_b O.2.1.1 O.2.1.2 (wm c h) hv
  unfold m_X4_nextAfter m_X4_nextAfter_11
  obtain ⟨s', ⟨i1, i2, i3, i4, i5, i6, i7, i8⟩, e⟩ := loop_inv (f := fun s : Int × Int × Int × Int × DT =>
    gd (InR s.2.2.2.1 ∧ InR (s.2.2.2.2.1 70 4)) (if s.2.2.2.1 < (s.2.2.2.2.1 70 4) then (
      gd ((0 : Int) ≤ s.2.2.2.1 ∧ s.2.2.2.1 < (384 : Int)) (
      gd (InR (s.2.2.2.2.2 72 (Int.toNat s.2.2.2.1)) ∧ InR (v : Int)) (if (s.2.2.2.2.2 72 (Int.toNat s.2.2.2.1)) = (v : Int) then (
        some ((.inl (s.1, s.2.1, s.2.2.1, (s.2.2.2.1 + 1), s.2.2.2.2)) : (Int × Int × Int × Int × DT) ⊕ (Int × DT))
      ) else (
        gd ((0 : Int) ≤ s.2.2.1 ∧ s.2.2.1 < (384 : Int)) (sq (sA s.2.2.2.2 72 (Int.toNat s.2.2.1) (s.2.2.2.2.2 72 (Int.toNat s.2.2.2.1))) (fun D43 =>
        (m_X1_far 2 (s.2.2.2.2.2 72 (Int.toNat s.2.2.2.1)) (v : Int) D43).bind (fun r51 =>
        gd (InR s.1 ∧ InR (-1)) (if s.1 = (-1) then (
          some (.inl ((s.2.2.2.2.2 72 (Int.toNat s.2.2.2.1)), r51, (s.2.2.1 + 1), (s.2.2.2.1 + 1), D43))
        ) else (
          gd (InR r51 ∧ InR s.2.1) (if r51 < s.2.1 then (
            some (.inl ((s.2.2.2.2.2 72 (Int.toNat s.2.2.2.1)), r51, (s.2.2.1 + 1), (s.2.2.2.1 + 1), D43))
          ) else (
            some (.inl (s.1, s.2.1, (s.2.2.1 + 1), (s.2.2.2.1 + 1), D43))
          ))
        ))
        )))
      ))
      )
    ) else (
      done (
      sq (sF s.2.2.2.2 70 4 s.2.2.1) (fun D84 =>
      some (s.1, D84)
      )
      )
    ))) (fun i s => s.1 = foldB (fun c b => decide (farM (mW M) c v < farM (mW M) b v)) ((W.take i).filter (· != v)) ∧ (s.2.1 = if s.1 = -1 then 0 else farM (mW M) s.1.toNat v) ∧ s.2.2.1 = (((W.take i).filter (· != v)).length : Int) ∧ s.2.2.2.1 = (i : Int) ∧ s.2.2.2.2.1 = D.1 ∧ (∀ a, a ≠ 72 → s.2.2.2.2.2 a = D.2 a) ∧ ArrL (s.2.2.2.2.2 72) ((W.take i).filter (· != v)) ∧ (∀ t, i ≤ t → s.2.2.2.2.2 72 t = D.2 72 t)) W.length (s := ((-1), 0, 0, 0, D)) ⟨rfl, rfl, rfl, rfl, rfl, fun _ _ => rfl, ArrL.nil, fun _ _ => rfl⟩ (fun i s hi ⟨a1, a2, a3, a4, a5, a6, a7, a8⟩ => by
      have e1 : s.2.2.2.2.2 72 i = (W[i] : Int) := by rw [a8 i (Nat.le_refl _)]; exact hA i hi
      have hmem := List.getElem_mem hi
      have hci := wm _ hmem
      have c1 : ((i + 1 : Nat) : Int) = (i : Int) + 1 := rfl
      have ts : W.take (i + 1) = W.take i ++ [W[i]] := List.take_succ_eq_append_getElem hi
      have ef : ∀ j x, m_X1_far 2 (W[i] : Int) (v : Int) (sA s.2.2.2.2 72 j x) = some (farM (mW M) W[i] v) := fun j x => X1_far (C.cong (fun a ha => ⟨by rw [sA1, a5], by funext y; rw [sA2, if_neg (by omega), a6 a (by omega)]⟩)) hci hv
      have eb := fb _ hmem
      have e7 : s.2.2.2.2.1 70 4 = (W.length : Int) := by rw [a5]; exact h4
      have jl : ((W.take i).filter (· != v)).length ≤ i := by
        have := List.length_filter_le (· != v) (W.take i)
        rw [List.length_take] at this
        omega
      have sb : s.1 = -1 ∨ ∃ b : Nat, s.1 = (b : Int) ∧ b ∈ W := by
        rcases foldB_cases (fun c b => decide (farM (mW M) c v < farM (mW M) b v)) ((W.take i).filter (· != v)) with ⟨-, h⟩ | ⟨b, hb1, hb2⟩
        · left; rw [a1, h]
        · exact Or.inr ⟨b, by rw [a1, hb2], List.mem_of_mem_take (List.mem_filter.mp hb1).1⟩
      rw [ts, List.filter_append]
      generalize W[i] = c at *
      by_cases qv : c = v
      · subst qv
        have fe : [c].filter (· != c) = [] := by simp
        rw [fe, List.append_nil]
        refine ⟨(s.1, s.2.1, s.2.2.1, (i : Int) + 1, s.2.2.2.2), ?_, a1, a2, a3, rfl, a5, a6, a7, fun t ht => a8 t (by omega)⟩
        simp (disch := omega) only [a4, e7, gd_t, if_t, tn, e1, ↓reduceIte]
      · have fe : [c].filter (· != v) = [c] := by simp [qv]
        rw [fe]
        have ne : ¬ ((c : Int) = (v : Int)) := by omega
        have fsn := foldB_snoc (fun c b => decide (farM (mW M) c v < farM (mW M) b v)) ((W.take i).filter (· != v)) c
        rw [← a1] at fsn
        have efc := ef ((W.take i).filter (· != v)).length (c : Int)
        have rest : ∀ (b g : Int), (b = foldB (fun c b => decide (farM (mW M) c v < farM (mW M) b v)) ((W.take i).filter (· != v) ++ [c])) → (g = if b = -1 then 0 else farM (mW M) b.toNat v) → (fun s : Int × Int × Int × Int × DT => s.1 = foldB (fun c b => decide (farM (mW M) c v < farM (mW M) b v)) ((W.take i).filter (· != v) ++ [c]) ∧ (s.2.1 = if s.1 = -1 then 0 else farM (mW M) s.1.toNat v) ∧ s.2.2.1 = (((W.take i).filter (· != v) ++ [c]).length : Int) ∧ s.2.2.2.1 = ((i + 1 : Nat) : Int) ∧ s.2.2.2.2.1 = D.1 ∧ (∀ a, a ≠ 72 → s.2.2.2.2.2 a = D.2 a) ∧ ArrL (s.2.2.2.2.2 72) ((W.take i).filter (· != v) ++ [c]) ∧ (∀ t, i + 1 ≤ t → s.2.2.2.2.2 72 t = D.2 72 t)) (b, g, (((W.take i).filter (· != v)).length : Int) + 1, (i : Int) + 1, sA s.2.2.2.2 72 ((W.take i).filter (· != v)).length (c : Int)) := fun b g h1 h2 => by
          refine ⟨h1, h2, ?_, rfl, a5, fun a q1 => ?_, a7.snoc (fun j => ?_), fun t ht => ?_⟩
          · rw [List.length_append]; rfl
          · funext j
            rw [sA2, if_neg (fun h => q1 h.1), a6 a q1]
          · rw [sA2]
            by_cases qj : j = ((W.take i).filter (· != v)).length
            · rw [if_pos ⟨rfl, qj⟩, if_pos qj]
            · rw [if_neg (fun h => qj h.2), if_neg qj]
          · rw [sA2, if_neg (by omega)]
            exact a8 t (by omega)
        have hne : ¬ ((c : Int) = -1) := by omega
        rcases sb with h | ⟨b, hb1, hb2⟩
        · refine ⟨((c : Int), farM (mW M) c v, (((W.take i).filter (· != v)).length : Int) + 1, (i : Int) + 1, sA s.2.2.2.2 72 ((W.take i).filter (· != v)).length (c : Int)), ?_, rest _ _ (by rw [fsn, h]; rfl) (by rw [if_neg hne]; rfl)⟩
          simp (disch := omega) only [a4, e7, gd_t, if_t, tn, e1, if_f ne, a3, sq_eq, efc, ob_some, if_t h]
        · have hbf := fb b hb2
          have hbn := wm b hb2
          have hne2 : ¬ ((b : Int) = -1) := by omega
          have hne3 : ((b : Int) == -1) = false := by simp
          rw [hb1, if_neg hne2, tn] at a2
          by_cases q : farM (mW M) c v < farM (mW M) b v
          · refine ⟨((c : Int), farM (mW M) c v, (((W.take i).filter (· != v)).length : Int) + 1, (i : Int) + 1, sA s.2.2.2.2 72 ((W.take i).filter (· != v)).length (c : Int)), ?_, rest _ _ (by rw [fsn, hb1, tn, hne3, decide_eq_true q]; rfl) (by rw [if_neg hne]; rfl)⟩
            simp (disch := omega) only [a4, e7, gd_t, if_t, tn, e1, if_f ne, a3, sq_eq, efc, ob_some, hb1, if_f hne2, a2, if_t q]
          · refine ⟨((b : Int), farM (mW M) b v, (((W.take i).filter (· != v)).length : Int) + 1, (i : Int) + 1, sA s.2.2.2.2 72 ((W.take i).filter (· != v)).length (c : Int)), ?_, rest _ _ (by rw [fsn, hb1, tn, hne3, decide_eq_false q]; rfl) (by rw [if_neg hne2]; rfl)⟩
            simp (disch := omega) only [a4, e7, gd_t, if_t, tn, e1, if_f ne, a3, sq_eq, efc, ob_some, hb1, if_f hne2, a2, if_f q])
  rw [List.take_length] at i1 i3 i7
  refine ⟨sF s'.2.2.2.2 70 4 ((W.filter (· != v)).length : Int), ?_, fun a ha => ⟨?_, ?_⟩, ?_, fun k hk => ?_, ?_, i7⟩
  · rw [e]
    refine loopF_inr ?_
    have e7 : s'.2.2.2.2.1 70 4 = (W.length : Int) := by rw [i5]; exact h4
    simp (disch := omega) only [i4, e7, gd_t, if_f, sq_eq, done_some, i3, i1]
  · funext k
    rw [sF1, if_neg (by omega), i5]
  · rw [sF2, i6 a (by omega)]
  · rw [sF2, i6 71 (by omega)]
  · rw [sF1, if_neg (fun h => hk h.2), i5]
  · rw [sF1, if_pos ⟨rfl, rfl⟩]
theorem cls_walk {D : DT} {M : MS} {l : Nat} (hC : CInv D M) (K : CrowdAt D 23 M l) {n : Int} : ∃ D', m_X4_follow 2 23 ((1 : Nat) : Int) n D = some D' ∧ PKp D D' ∧ PathAt D' M 1 l n := by
  have O := hC.1
  have n4 := nCb O
  have sl := spt_le M l
  have wm : ∀ x, x ∈ sptM M l → x < nC M := fun x h => (spt_mem.mp h).1
  have c5 := K.2.2.2.1
  have c3 := K.2.2.2.2
  -- the copy of the spots
  have start : ∃ F, m_X4_walk 2 23 (sF (sF D 70 0 0) 70 1 0) = m_X4_walk_46 2 23 (argB (dotP M l) (fun _ _ => false) (nC M), 0, F) ∧ PKp D F ∧ F.1 70 0 = 0 ∧ F.1 70 1 = 0 ∧ F.1 70 4 = ((sptM M l).length : Int) ∧ ArrL (F.2 72) (sptM M l) := by
    have e5 : (sF (sF D 70 0 0) 70 1 0).1 23 5 = ((sptM M l).length : Int) := by rw [sF1, if_neg (by omega), sF1, if_neg (by omega)]; exact c5
    have tl : Int.toNat ((sptM M l).length : Int) = (sptM M l).length := rfl
    refine ⟨sF (sCopy (sF (sF D 70 0 0) 70 1 0) (23 + 3) 0 72 0 (sptM M l).length) 70 4 ((sptM M l).length : Int), ?_, ?_, ?_, ?_, ?_, ?_⟩
    · have e6 : (sCopy (sF (sF D 70 0 0) 70 1 0) (23 + 3) 0 72 0 (sptM M l).length).1 23 5 = ((sptM M l).length : Int) := e5
      have e7 : (sF (sCopy (sF (sF D 70 0 0) 70 1 0) (23 + 3) 0 72 0 (sptM M l).length) 70 4 ((sptM M l).length : Int)).1 70 4 = ((sptM M l).length : Int) := by rw [sF1, if_pos ⟨rfl, rfl⟩]
      by_cases q : 0 < (sptM M l).length
      · have q' : (0 : Int) < ((sptM M l).length : Int) := by omega
        have e8 : (sF (sCopy (sF (sF D 70 0 0) 70 1 0) (23 + 3) 0 72 0 (sptM M l).length) 70 4 ((sptM M l).length : Int)).2 72 0 = argB (dotP M l) (fun _ _ => false) (nC M) := by
          rw [sF2]
          show (if 72 = 72 ∧ 0 ≤ 0 ∧ 0 < 0 + (sptM M l).length then (sF (sF D 70 0 0) 70 1 0).2 (23 + 3) (0 + (0 - 0)) else _) = _
          rw [if_pos ⟨rfl, by omega, by omega⟩]
          show D.2 (23 + 3) 0 = _
          rw [c3 0 q, argB_fold]
          show _ = foldB _ (sptM M l)
          rw [foldB_head q]
        have g1 : (23 + 3 ≠ 72 ∧ ((0 : Int) ≤ 0 ∧ (0 : Int) + ((sptM M l).length : Int) ≤ (384 : Int)) ∧ ((0 : Int) ≤ 0 ∧ (0 : Int) + ((sptM M l).length : Int) ≤ (384 : Int)) ∧ (0 : Int) ≤ ((sptM M l).length : Int)) := by omega
        simp (disch := omega) only [m_X4_walk, e5, gd_t g1, t0, tl, sq_eq, e6, e7, gd_t, if_t q', e8]
      · have q0 : (sptM M l).length = 0 := by omega
        have q' : ¬ (0 : Int) < ((sptM M l).length : Int) := by omega
        have eb : argB (dotP M l) (fun _ _ => false) (nC M) = -1 := by
          rw [argB_fold]
          show foldB _ (sptM M l) = -1
          have : sptM M l = [] := by simpa using q0
          rw [this]; rfl
        have g1 : (23 + 3 ≠ 72 ∧ ((0 : Int) ≤ 0 ∧ (0 : Int) + ((sptM M l).length : Int) ≤ (384 : Int)) ∧ ((0 : Int) ≤ 0 ∧ (0 : Int) + ((sptM M l).length : Int) ≤ (384 : Int)) ∧ (0 : Int) ≤ ((sptM M l).length : Int)) := by omega
        rw [eb]
        simp (disch := omega) only [m_X4_walk, e5, gd_t g1, t0, tl, sq_eq, e6, e7, gd_t, if_f q']
    · have kc : PKp (sF (sF D 70 0 0) 70 1 0) (sCopy (sF (sF D 70 0 0) 70 1 0) (23 + 3) 0 72 0 (sptM M l).length) := fun a ha => ⟨rfl, ?_⟩
      · exact ((PKp.f.trans PKp.f).trans kc).trans PKp.f
      funext j
      show (if a = 72 ∧ 0 ≤ j ∧ j < 0 + (sptM M l).length then _ else (sF (sF D 70 0 0) 70 1 0).2 a j) = _
      rw [if_neg (by omega)]
    · rfl
    · rfl
    · rfl
    · intro i hi
      rw [sF2]
      show (if 72 = 72 ∧ 0 ≤ i ∧ i < 0 + (sptM M l).length then (sF (sF D 70 0 0) 70 1 0).2 (23 + 3) (0 + (i - 0)) else _) = _
      rw [if_pos ⟨rfl, by omega, by omega⟩, show 0 + (i - 0) = i by omega]
      exact c3 i hi
  obtain ⟨F, f1, f2, f3, f4, f5, f6⟩ := start
  have loop : ∃ D', m_X4_walk_46 2 23 (argB (dotP M l) (fun _ _ => false) (nC M), 0, F) = some D' ∧ PKp D D' ∧ D'.1 70 0 = ((tourN (mW M) (dotP M l) (nC M) (nC M)).length : Int) ∧ ArrL (D'.2 71) (tourN (mW M) (dotP M l) (nC M) (nC M)) ∧ D'.1 70 1 = wayL (mW M) (tourN (mW M) (dotP M l) (nC M) (nC M)) := by
    unfold m_X4_walk_46
    refine loop_wf (fun s : Int × Int × DT => nC M + 1 - (s.2.2.1 70 0).toNat) (fun s : Int × Int × DT => ∃ k : Nat, k ≤ nC M ∧ (tourN (mW M) (dotP M l) (nC M) k).length = k ∧ s.1 = tnO (mW M) (dotP M l) (nC M) (tourN (mW M) (dotP M l) (nC M) k) ∧ s.2.1 = (k : Int) ∧ PKp D s.2.2 ∧ s.2.2.1 70 0 = (k : Int) ∧ ArrL (s.2.2.2 71) (tourN (mW M) (dotP M l) (nC M) k) ∧ s.2.2.1 70 4 = ((wtT (dotP M l) (nC M) (tourN (mW M) (dotP M l) (nC M) k)).length : Int) ∧ ArrL (s.2.2.2 72) (wtT (dotP M l) (nC M) (tourN (mW M) (dotP M l) (nC M) k)) ∧ s.2.2.1 70 1 = if s.1 = -1 then wayL (mW M) (tourN (mW M) (dotP M l) (nC M) k) else wayL (mW M) (tourN (mW M) (dotP M l) (nC M) k ++ [s.1.toNat])) _ (fun s hs => ?_) ⟨0, Nat.zero_le _, rfl, rfl, rfl, f2, f3, ArrL.nil, by rw [show tourN (mW M) (dotP M l) (nC M) 0 = [] from rfl, wtT_nil]; exact f5, by rw [show tourN (mW M) (dotP M l) (nC M) 0 = [] from rfl, wtT_nil]; exact f6, by
      rw [f4]
      split <;> rfl⟩
    obtain ⟨k, hk, hl, a1, a0, a2, a3, a4, a5, a6, a7⟩ := hs
    have om := tour_ok (mW M) (dotP M l) (nC M) k
    rcases tnO_cases (mW M) (dotP M l) (nC M) (tourN (mW M) (dotP M l) (nC M) k) with ⟨h1, h2⟩ | ⟨v, h1, h2, h3, h4⟩
    · have eo := tour_of_stuck h1 hk
      rw [h1] at a1
      rw [if_pos a1] at a7
      refine Or.inr ⟨s.2.2, ?_, a2, by rw [eo, hl]; exact a3, by rw [eo]; exact a4, by rw [eo]; exact a7⟩
      simp (disch := omega) only [a1, gd_t, ↓reduceIte, done_some]
    · have on : tourN (mW M) (dotP M l) (nC M) (k + 1) = tourN (mW M) (dotP M l) (nC M) k ++ [v] := by rw [tourN_s, if_neg (by omega), h4]; rfl
      have ol := tour_le (mW M) (dotP M l) (nC M) (k + 1)
      have kn : k + 1 ≤ nC M := by
        rw [on, List.length_append, hl] at ol
        exact ol
      rw [h4] at a1
      have ne : ¬ ((v : Int) = -1) := by omega
      rw [a1, if_neg ne, tn] at a7
      have a3' : s.2.2.1 70 0 = ((tourN (mW M) (dotP M l) (nC M) k).length : Int) := by rw [hl]; exact a3
      have ep := X4_push a3' (by omega) (v : Int)
      rw [hl] at ep
      have pk : PKp s.2.2 (sF (sA s.2.2 71 k (v : Int)) 70 0 ((k : Int) + 1)) := (PKp.a (Or.inl rfl)).trans PKp.f
      obtain ⟨E, w1, w2, w3, w4, w5, w6⟩ := X4_nextAfter (D := sF (sA s.2.2 71 k (v : Int)) 70 0 ((k : Int) + 1)) ((a2.trans pk).map hC.2.1.1.1) O (W := wtT (dotP M l) (nC M) (tourN (mW M) (dotP M l) (nC M) k)) (by rw [sF1, if_neg (by omega), sA1]; exact a5) (fun i hi => by rw [sF2, sA2, if_neg (by omega)]; exact a6 i hi) (fun c hc => (fr_mem.mp hc).1) (fr_le _ _) h1
      have en : foldB (fun c b => decide (farM (mW M) c v < farM (mW M) b v)) ((wtT (dotP M l) (nC M) (tourN (mW M) (dotP M l) (nC M) k)).filter (· != v)) = tnO (mW M) (dotP M l) (nC M) (tourN (mW M) (dotP M l) (nC M) (k + 1)) := by
        rw [on, tnO_snoc, argB_fold, ← wtT_snoc]
        rfl
      rw [en] at w1
      rw [← wtT_snoc, ← on] at w5 w6
      have t0' : E.1 70 0 = (k : Int) + 1 := by rw [w4 0 (by omega), sF1, if_pos ⟨rfl, rfl⟩]
      have t1' : E.1 70 1 = wayL (mW M) (tourN (mW M) (dotP M l) (nC M) k ++ [v]) := by rw [w4 1 (by omega), sF1, if_neg (by omega), sA1]; exact a7
      have arr : ArrL (E.2 71) (tourN (mW M) (dotP M l) (nC M) (k + 1)) := by
        rw [w3, on, ← hl]
        rw [hl]
        have := arr_push (D := s.2.2) (a := 71) (h := 70) (k := 0) (c := v) (v := (k : Int) + 1) a4
        rw [hl] at this
        exact this
      have kl : (tourN (mW M) (dotP M l) (nC M) (k + 1)).length = k + 1 := by rw [on, List.length_append, hl]; rfl
      rcases tnO_cases (mW M) (dotP M l) (nC M) (tourN (mW M) (dotP M l) (nC M) (k + 1)) with ⟨g1, g2⟩ | ⟨u, g1, g2, g3, g4⟩
      · refine Or.inl ⟨(-1, (k : Int) + 1, sF E 70 1 (E.1 70 1 + 0)), ?_, ⟨k + 1, kn, kl, g1.symm, rfl, ((a2.trans pk).trans w2).trans PKp.f, ?_, arr, ?_, w6, ?_⟩, ?_⟩
        · rw [g1] at w1
          simp (disch := omega) only [a1, gd_t, if_f ne, a0, if_t, ep, ob_some, w1, bnd_some, ↓reduceIte, sq_eq]
        · rw [sF1, if_neg (by omega), t0']; rfl
        · rw [sF1, if_neg (by omega)]; exact w5
        · rw [if_pos rfl, sF1, if_pos ⟨rfl, rfl⟩, Int.add_zero, t1', on]
        · simp only
          rw [sF1, if_neg (by omega), t0', a3]
          omega
      · have ne2 : ¬ ((u : Int) = -1) := by omega
        have ef := X1_far (((a2.trans pk).trans w2).map hC.2.1.1.1) h1 g1
        rw [farM_comm] at ef
        refine Or.inl ⟨((u : Int), (k : Int) + 1, sF E 70 1 (E.1 70 1 + farM (mW M) u v)), ?_, ⟨k + 1, kn, kl, g4.symm, rfl, ((a2.trans pk).trans w2).trans PKp.f, ?_, arr, ?_, w6, ?_⟩, ?_⟩
        · rw [g4] at w1
          simp (disch := omega) only [a1, gd_t, if_f ne, a0, if_t, ep, ob_some, w1, bnd_some, if_f ne2, ef, sq_eq]
        · rw [sF1, if_neg (by omega), t0']; rfl
        · rw [sF1, if_neg (by omega)]; exact w5
        · rw [if_neg ne2, sF1, if_pos ⟨rfl, rfl⟩, t1', on, tn, way_snoc]
        · simp only
          rw [sF1, if_neg (by omega), t0', a3]
          omega
  obtain ⟨D', g1, g2, g3, g4, g5⟩ := loop
  refine ⟨D', ?_, g2, g3, g4, fun _ => g5⟩
  have z : ((1 : Nat) : Int) = 1 := rfl
  rw [← f1] at g1
  simp (disch := omega) only [m_X4_follow, sq_eq, z, gd_t, if_f, ↓reduceIte, g1, ob_some]
