/-! ===== measures ===== -/
def sumS (f : Nat → Int) (l : List Nat) : Int := l.foldl (fun b c => b + f c) 0
theorem sumS_snoc (f : Nat → Int) (l : List Nat) (c : Nat) : sumS f (l ++ [c]) = sumS f l + f c := by
  rw [sumS, List.foldl_append, ← sumS]
  rfl
theorem sumS_fr (f : Nat → Int) (p : Nat → Bool) (n : Nat) : sumS f ((List.range n).filter p) = sumTo (fun c => if p c then f c else 0) n := by
  induction n with
  | zero => rfl
  | succ n ih =>
    rw [sumTo]
    by_cases q : p n = true
    · rw [frs_t q, sumS_snoc, ih, if_pos q]
    · rw [frs_f q, ih, if_neg q, Int.add_zero]
/-- the least distance to those with p; none: -1 -/
def lsF (w : Nat) (p : Nat → Bool) (c : Nat) (n : Nat) : Int := foldTo (fun b o => if p o then (if b = -1 ∨ farM w o c < b then farM w o c else b) else b) (-1) n
theorem lsF_s (w : Nat) (p : Nat → Bool) (c n : Nat) : lsF w p c (n + 1) = if p n then (if lsF w p c n = -1 ∨ farM w n c < lsF w p c n then farM w n c else lsF w p c n) else lsF w p c n := rfl
theorem lsF_b {M : MS} (O : MOK M) (p : Nat → Bool) {c : Nat} (hc : c < nC M) {n : Nat} (hn : n ≤ nC M) : -1 ≤ lsF (mW M) p c n ∧ lsF (mW M) p c n ≤ 754 := by
  induction n with
  | zero => exact ⟨by show (-1 : Int) ≤ -1; omega, by show (-1 : Int) ≤ 754; omega⟩
  | succ n ih =>
    have i := ih (by omega)
    have fb := farM_b O.2.1.1 O.2.1.2 (show n < nC M by omega) hc
    rw [lsF_s]
    split
    · split <;> omega
    · exact i
/-- the nearest one -/
def nrF (w : Nat) (p : Nat → Bool) (c : Nat) (n : Nat) : Int := argB p (fun o b => decide (farM w o c < farM w b c)) n
theorem ls_nr {w : Nat} {p : Nat → Bool} {c n : Nat} (hf : ∀ o, o < n → 0 ≤ farM w o c) : lsF w p c n = if nrF w p c n = -1 then -1 else farM w (nrF w p c n).toNat c := by
  induction n with
  | zero => rfl
  | succ n ih =>
    have i := ih (fun o ho => hf o (by omega))
    rw [lsF_s]
    unfold nrF at i ⊢
    rw [argB_s, i]
    rcases argB_cases p (fun o b => decide (farM w o c < farM w b c)) n with ⟨h1, -⟩ | ⟨b, h1, h2, h3⟩
    · rw [h1]
      by_cases q : p n = true
      · simp only [q, ↓reduceIte, true_or, beq_self_eq_true, Bool.true_or, Bool.and_true]
        rw [if_neg (by omega)]
        rfl
      · have q' : p n = false := by simpa using q
        simp only [q', Bool.false_eq_true, ↓reduceIte, Bool.false_and]
    · rw [h3]
      have hb := hf b (by omega)
      have ne1 : ¬ ((b : Int) = -1) := by omega
      have ne2 : ((b : Int) == -1) = false := by simp
      have ne3 : ¬ (farM w b c = -1) := by omega
      by_cases q : p n = true
      · by_cases q2 : farM w n c < farM w b c
        · have ne4 : ¬ ((n : Int) = -1) := by omega
          simp only [q, ↓reduceIte, tn, ne2, if_f ne1, Bool.false_or, decide_eq_true q2, Bool.and_true, if_f ne4, if_t (Or.inr q2 : farM w b c = -1 ∨ farM w n c < farM w b c)]
        · have nq : ¬ (farM w b c = -1 ∨ farM w n c < farM w b c) := by omega
          simp only [q, ↓reduceIte, tn, ne2, if_f ne1, Bool.false_or, decide_eq_false q2, Bool.and_false, Bool.false_eq_true, if_f nq]
      · have q' : p n = false := by simpa using q
        simp only [q', Bool.false_eq_true, ↓reduceIte, Bool.false_and, if_f ne1, tn]
def inLn (w o c : Nat) : Bool := decide (o / w = c / w) || decide (o % w = c % w)
def meaM (M : MS) (l : Nat) (v : Int) (n : Int) (c : Nat) : Int :=
  if v = 0 then togM M l c else if v = 1 then sumTo (fun o => if farM (mW M) o c ≤ n then togM M l o else 0) (nC M)
  else if v = 2 then lsF (mW M) (dotP M l) c (nC M) else if v = 3 then lsF (mW M) (fun o => !(mS M o == 0)) c (nC M)
  else sumTo (fun o => if dotP M l o && inLn (mW M) o c then 1 else 0) (nC M)
theorem meaM_b {M : MS} (O : MOK M) (l : Nat) (v n : Int) {c : Nat} (hc : c < nC M) : -1 ≤ meaM M l v n c ∧ meaM M l v n c ≤ 921590784 := by
  have n4 := nCb O
  unfold meaM
  split
  · have := tog_b O l c hc; omega
  · split
    · have := sumTo_bounds (f := fun o => if farM (mW M) o c ≤ n then togM M l o else 0) (n := nC M) (a := 0) (b := 2399976) (fun k hk => by
        have := tog_b O l k hk
        split <;> omega)
      omega
    · split
      · have := lsF_b O (dotP M l) hc (Nat.le_refl _); omega
      · split
        · have := lsF_b O (fun o => !(mS M o == 0)) hc (Nat.le_refl _); omega
        · have := sumTo_bounds (f := fun o => if dotP M l o && inLn (mW M) o c then (1 : Int) else 0) (n := nC M) (a := 0) (b := 1) (fun k hk => by split <;> omega)
          omega
section ClsMeasure
variable {D : DT} {k hc l : Nat} {M : MS}
theorem X2_nextSpot (O : MOK M) (C : CMap D hc (mW M) (mH M) (mO M) (mS M)) (K : CrowdAt D k M l) {c : Nat} (hcc : c < nC M) : m_X2_nextSpot k hc (c : Int) D = some (nrF (mW M) (dotP M l) c (nC M)) := by
  have n4 := nCb O
  have sl := spt_le M l
  obtain ⟨-, -, -, c5, c3⟩ := K
  have wm : ∀ x, x ∈ sptM M l → x < nC M := fun x h => (spt_mem.mp h).1
  unfold nrF
  rw [argB_fold]
  show _ = some (foldB _ (sptM M l))
  generalize sptM M l = W at *
  have key := loop_for (f := fun s : Int × Int × Int =>
    gd (InR s.2.2 ∧ InR (D.1 k 5)) (if s.2.2 < (D.1 k 5) then (
      gd ((0 : Int) ≤ s.2.2 ∧ s.2.2 < (384 : Int)) (
      (m_X1_far hc (c : Int) (D.2 (k + 3) (Int.toNat s.2.2)) D).bind (fun r26 =>
      gd (InR s.1 ∧ InR (-1)) (if s.1 = (-1) then (
        gd ((0 : Int) ≤ s.2.2 ∧ s.2.2 < (384 : Int)) (
        some (.inl ((D.2 (k + 3) (Int.toNat s.2.2)), r26, (s.2.2 + 1)))
        )
      ) else (
        gd (InR r26 ∧ InR s.2.1) (if r26 < s.2.1 then (
          gd ((0 : Int) ≤ s.2.2 ∧ s.2.2 < (384 : Int)) (
          some (.inl ((D.2 (k + 3) (Int.toNat s.2.2)), r26, (s.2.2 + 1)))
          )
        ) else (
          some (.inl (s.1, s.2.1, (s.2.2 + 1)))
        ))
      ))
      ))
    ) else (
      done (
      some s.1
      )
    ))) (r := foldB (fun o b => decide (farM (mW M) o c < farM (mW M) b c)) W) (st := fun i => (foldB (fun o b => decide (farM (mW M) o c < farM (mW M) b c)) (W.take i), (if foldB (fun o b => decide (farM (mW M) o c < farM (mW M) b c)) (W.take i) = -1 then 0 else farM (mW M) (foldB (fun o b => decide (farM (mW M) o c < farM (mW M) b c)) (W.take i)).toNat c), (i : Int))) W.length (fun i hi => by
      have e1 := c3 i hi
      have hci := wm _ (List.getElem_mem hi)
      have e2 := X1_far C hcc hci
      rw [farM_comm] at e2
      have b1 := farM_b O.2.1.1 O.2.1.2 hci hcc
      have c1 : ((i + 1 : Nat) : Int) = (i : Int) + 1 := rfl
      have ts : W.take (i + 1) = W.take i ++ [W[i]] := List.take_succ_eq_append_getElem hi
      rw [ts, foldB_snoc]
      generalize W[i] = o at *
      have hne : ¬ ((o : Int) = -1) := by omega
      rcases foldB_cases (fun o b => decide (farM (mW M) o c < farM (mW M) b c)) (W.take i) with ⟨-, h⟩ | ⟨b, hb1, hb2⟩
      · rw [h]
        simp (disch := omega) only [c5, gd_t, if_t, tn, e1, e2, ob_some, ↓reduceIte, c1, beq_self_eq_true, Bool.true_or, if_f hne]
      · have hbn := wm b (List.mem_of_mem_take hb1)
        have b2 := farM_b O.2.1.1 O.2.1.2 hbn hcc
        rw [hb2]
        have hne2 : ¬ ((b : Int) = -1) := by omega
        have hne3 : ((b : Int) == -1) = false := by simp
        by_cases q : farM (mW M) o c < farM (mW M) b c
        · simp (disch := omega) only [c5, gd_t, if_t, tn, e1, e2, ob_some, if_f hne2, if_t q, c1, hne3, Bool.false_or, decide_eq_true q, if_f hne, ↓reduceIte]
        · simp (disch := omega) only [c5, gd_t, if_t, tn, e1, e2, ob_some, if_f hne2, if_f q, c1, hne3, Bool.false_or, decide_eq_false q, ↓reduceIte, Bool.false_eq_true]) (by
      simp (disch := omega) only [c5, gd_t, if_f, done_some, List.take_length])
  exact key
theorem X2_sumWithin (O : MOK M) (C : CMap D hc (mW M) (mH M) (mO M) (mS M)) (K : CrowdAt D k M l) {c : Nat} (hcc : c < nC M) {n : Int} (hn : InR n) : m_X2_sumWithin k hc (c : Int) n D = some (sumTo (fun o => if farM (mW M) o c ≤ n then togM M l o else 0) (nC M)) := by
  have n4 := nCb O
  have sl := spt_le M l
  obtain ⟨-, -, c2, c5, c3⟩ := K
  have wm : ∀ x, x ∈ sptM M l → x < nC M := fun x h => (spt_mem.mp h).1
  have es : sumTo (fun o => if farM (mW M) o c ≤ n then togM M l o else 0) (nC M) = sumS (fun o => if farM (mW M) o c ≤ n then togM M l o else 0) (sptM M l) := by
    unfold sptM
    rw [sumS_fr]
    refine sumTo_congr (fun o ho => ?_)
    have tb := tog_b O l o ho
    by_cases q : 0 < togM M l o
    · rw [if_pos (show decide (0 < togM M l o) = true by simpa using q)]
    · rw [if_neg (show ¬ decide (0 < togM M l o) = true by simpa using q)]
      split <;> omega
  rw [es]
  generalize sptM M l = W at *
  have key := loop_for (f := fun s : Int × Int =>
    gd (InR s.2 ∧ InR (D.1 k 5)) (if s.2 < (D.1 k 5) then (
      gd ((0 : Int) ≤ s.2 ∧ s.2 < (384 : Int)) (
      (m_X1_far hc (c : Int) (D.2 (k + 3) (Int.toNat s.2)) D).bind (fun r24 =>
      gd (InR r24 ∧ InR n) (if r24 ≤ n then (
        gd ((0 : Int) ≤ s.2 ∧ s.2 < (384 : Int)) (
        gd ((0 : Int) ≤ (D.2 (k + 3) (Int.toNat s.2)) ∧ (D.2 (k + 3) (Int.toNat s.2)) < (384 : Int)) (
        some (.inl ((s.1 + (D.2 (k + 2) (Int.toNat (D.2 (k + 3) (Int.toNat s.2))))), (s.2 + 1)))
        ))
      ) else (
        some (.inl (s.1, (s.2 + 1)))
      ))
      ))
    ) else (
      done (
      some s.1
      )
    ))) (r := sumS (fun o => if farM (mW M) o c ≤ n then togM M l o else 0) W) (st := fun i => (sumS (fun o => if farM (mW M) o c ≤ n then togM M l o else 0) (W.take i), (i : Int))) W.length (fun i hi => by
      have e1 := c3 i hi
      have hci := wm _ (List.getElem_mem hi)
      have e2 := X1_far C hcc hci
      rw [farM_comm] at e2
      have e3 := c2 _ hci
      have b1 := farM_b O.2.1.1 O.2.1.2 hci hcc
      have c1 : ((i + 1 : Nat) : Int) = (i : Int) + 1 := rfl
      have ts : W.take (i + 1) = W.take i ++ [W[i]] := List.take_succ_eq_append_getElem hi
      rw [ts, sumS_snoc]
      generalize W[i] = o at *
      by_cases q : farM (mW M) o c ≤ n
      · simp (disch := omega) only [c5, gd_t, if_t, tn, e1, e2, e3, ob_some, if_t q, c1]
      · simp (disch := omega) only [c5, gd_t, if_t, tn, e1, e2, ob_some, if_f q, c1, Int.add_zero]) (by
      simp (disch := omega) only [c5, gd_t, if_f, done_some, List.take_length])
  exact key
theorem X2_farToSea (O : MOK M) (C : CMap D hc (mW M) (mH M) (mO M) (mS M)) (K : CrowdAt D k M l) {c : Nat} (hcc : c < nC M) : m_X2_farToSea k hc (c : Int) D = some (lsF (mW M) (fun o => !(mS M o == 0)) c (nC M)) := by
  have n4 := nCb O
  have c1n := K.1
  refine loop_for (st := fun o => (lsF (mW M) (fun o => !(mS M o == 0)) c o, (o : Int))) (nC M) (fun o ho => ?_) ?_
  · obtain ⟨-, m2, -⟩ := C.2.2 o ho
    have sb := (O.2.2.2.2.1 o ho).2
    have ef := X1_far C hcc ho
    rw [farM_comm] at ef
    have fb := farM_b O.2.1.1 O.2.1.2 ho hcc
    have lb := lsF_b O (fun o => !(mS M o == 0)) hcc (show o ≤ nC M by omega)
    have c1 : ((o + 1 : Nat) : Int) = (o : Int) + 1 := rfl
    rw [lsF_s]
    generalize lsF (mW M) (fun o => !(mS M o == 0)) c o = b at *
    by_cases q : mS M o = 0
    · have qb : (!(mS M o == 0)) = false := by simp [q]
      simp (disch := omega) only [c1n, gd_t, if_t, tn, m2, if_t q, c1, qb, Bool.false_eq_true, ↓reduceIte]
    · have qb : (!(mS M o == 0)) = true := by simp [q]
      by_cases q2 : b = -1
      · simp (disch := omega) only [c1n, gd_t, if_t, tn, m2, if_f q, ef, ob_some, if_t q2, c1, qb, ↓reduceIte, if_t (Or.inl q2 : b = -1 ∨ farM (mW M) o c < b)]
      · by_cases q3 : farM (mW M) o c < b
        · simp (disch := omega) only [c1n, gd_t, if_t, tn, m2, if_f q, ef, ob_some, if_f q2, if_t q3, c1, qb, ↓reduceIte, if_t (Or.inr q3 : b = -1 ∨ farM (mW M) o c < b)]
        · have nq : ¬ (b = -1 ∨ farM (mW M) o c < b) := fun h => h.elim q2 q3
          simp (disch := omega) only [c1n, gd_t, if_t, tn, m2, if_f q, ef, ob_some, if_f q2, if_f q3, c1, qb, ↓reduceIte, if_f nq]
  · simp (disch := omega) only [c1n, gd_t, if_f, done_some]
theorem X2_spotsInLine (O : MOK M) (C : CMap D hc (mW M) (mH M) (mO M) (mS M)) (K : CrowdAt D k M l) {c : Nat} (hcc : c < nC M) : m_X2_spotsInLine k hc (c : Int) D = some (sumTo (fun o => if dotP M l o && inLn (mW M) o c then 1 else 0) (nC M)) := by
  have n4 := nCb O
  have sl := spt_le M l
  obtain ⟨-, -, c2, c5, c3⟩ := K
  have wm : ∀ x, x ∈ sptM M l → x < nC M := fun x h => (spt_mem.mp h).1
  have es : sumTo (fun o => if dotP M l o && inLn (mW M) o c then (1 : Int) else 0) (nC M) = sumS (fun o => if inLn (mW M) o c then 1 else 0) (sptM M l) := by
    unfold sptM
    rw [sumS_fr]
    refine sumTo_congr (fun o ho => ?_)
    by_cases q : dotP M l o = true
    · rw [if_pos q, q, Bool.true_and]
    · have q' : dotP M l o = false := by simpa using q
      rw [if_neg q, q', Bool.false_and]
      rfl
  rw [es]
  obtain ⟨-, -, m3, m4⟩ := C.2.2 c hcc
  have d1 := (divh hcc).1
  have d2 := (divh hcc).2
  have d3 := O.2.1
  generalize sptM M l = W at *
  have key := loop_for (f := fun s : Int × Int =>
    gd (InR s.2 ∧ InR (D.1 k 5)) (if s.2 < (D.1 k 5) then (
      gd ((0 : Int) ≤ s.2 ∧ s.2 < (384 : Int)) (
      gd ((0 : Int) ≤ (D.2 (k + 3) (Int.toNat s.2)) ∧ (D.2 (k + 3) (Int.toNat s.2)) < (384 : Int)) (
      gd ((0 : Int) ≤ (c : Int) ∧ (c : Int) < (384 : Int)) (
      gd (InR (D.2 (hc + 4) (Int.toNat (D.2 (k + 3) (Int.toNat s.2)))) ∧ InR (D.2 (hc + 4) (Int.toNat (c : Int)))) (if (D.2 (hc + 4) (Int.toNat (D.2 (k + 3) (Int.toNat s.2)))) = (D.2 (hc + 4) (Int.toNat (c : Int))) then (
        m_X2_spotsInLine_60 k hc (c : Int) s.1 s.2 1 D
      ) else (
        gd ((0 : Int) ≤ (D.2 (k + 3) (Int.toNat s.2)) ∧ (D.2 (k + 3) (Int.toNat s.2)) < (384 : Int)) (
        gd ((0 : Int) ≤ (c : Int) ∧ (c : Int) < (384 : Int)) (
        gd (InR (D.2 (hc + 3) (Int.toNat (D.2 (k + 3) (Int.toNat s.2)))) ∧ InR (D.2 (hc + 3) (Int.toNat (c : Int)))) (if (D.2 (hc + 3) (Int.toNat (D.2 (k + 3) (Int.toNat s.2)))) = (D.2 (hc + 3) (Int.toNat (c : Int))) then (
          m_X2_spotsInLine_60 k hc (c : Int) s.1 s.2 1 D
        ) else (
          m_X2_spotsInLine_60 k hc (c : Int) s.1 s.2 0 D
        ))
        ))
      ))
      )))
    ) else (
      done (
      some s.1
      )
    ))) (r := sumS (fun o => if inLn (mW M) o c then 1 else 0) W) (st := fun i => (sumS (fun o => if inLn (mW M) o c then 1 else 0) (W.take i), (i : Int))) W.length (fun i hi => by
      have e1 := c3 i hi
      have hci := wm _ (List.getElem_mem hi)
      obtain ⟨-, -, o3, o4⟩ := C.2.2 _ hci
      have f1 := (divh hci).1
      have f2 := (divh hci).2
      have c1 : ((i + 1 : Nat) : Int) = (i : Int) + 1 := rfl
      have ts : W.take (i + 1) = W.take i ++ [W[i]] := List.take_succ_eq_append_getElem hi
      rw [ts, sumS_snoc]
      generalize W[i] = o at *
      unfold inLn
      generalize c / mW M = cy at *
      generalize c % mW M = cx at *
      generalize o / mW M = oy at *
      generalize o % mW M = ox at *
      by_cases q : oy = cy
      · have q' : (oy : Int) = (cy : Int) := by omega
        simp (disch := omega) only [c5, gd_t, if_t, tn, e1, o4, m4, if_t q', m_X2_spotsInLine_60, if_f, c1, decide_eq_true q, Bool.true_or, ↓reduceIte]
      · have q' : ¬ (oy : Int) = (cy : Int) := by omega
        by_cases q2 : ox = cx
        · have q2' : (ox : Int) = (cx : Int) := by omega
          simp (disch := omega) only [c5, gd_t, if_t, tn, e1, o4, m4, o3, m3, if_f q', if_t q2', m_X2_spotsInLine_60, if_f, c1, decide_eq_true q2, Bool.or_true, ↓reduceIte]
        · have q2' : ¬ (ox : Int) = (cx : Int) := by omega
          simp (disch := omega) only [c5, gd_t, if_t, tn, e1, o4, m4, o3, m3, if_f q', if_f q2', m_X2_spotsInLine_60, if_f, c1, decide_eq_false q2, decide_eq_false q, Bool.or_false, ↓reduceIte, Bool.false_eq_true]) (by
      simp (disch := omega) only [c5, gd_t, if_f, done_some, List.take_length])
  exact key
theorem X2_gauge (O : MOK M) (C : CMap D hc (mW M) (mH M) (mO M) (mS M)) (K : CrowdAt D k M l) {c : Nat} (hcc : c < nC M) {v n : Int} (hv : 0 ≤ v ∧ v < 5) (hn : InR n) : m_X2_gauge k hc (c : Int) v n D = some (meaM M l v n c) := by
  have n4 := nCb O
  unfold meaM
  by_cases q0 : v = 0
  · have e := K.2.2.1 c hcc
    simp (disch := omega) only [m_X2_gauge, gd_t, if_t q0, tn, e]
  · by_cases q1 : v = 1
    · have e := X2_sumWithin O C K hcc hn
      simp (disch := omega) only [m_X2_gauge, gd_t, if_f q0, if_t q1, e, ob_some]
    · by_cases q2 : v = 2
      · have e := X2_nextSpot O C K hcc
        have hl := ls_nr (w := mW M) (p := dotP M l) (c := c) (n := nC M) (fun o ho => (farM_b O.2.1.1 O.2.1.2 ho hcc).1)
        have c5 := K.2.2.2.1
        have sl := spt_le M l
        rw [hl]
        rcases argB_cases (dotP M l) (fun o b => decide (farM (mW M) o c < farM (mW M) b c)) (nC M) with ⟨h1, h2⟩ | ⟨b, h1, h2, h3⟩
        · have e0 : (sptM M l).length = 0 := by
            rcases Nat.eq_zero_or_pos (sptM M l).length with h | h
            · exact h
            · have := spt_mem.mp (List.getElem_mem h)
              rw [h2 _ this.1] at this
              exact absurd this.2 (by simp)
          have h1' : nrF (mW M) (dotP M l) c (nC M) = -1 := h1
          rw [e0] at c5
          have c5' : D.1 k 5 = 0 := c5
          simp (disch := omega) only [m_X2_gauge, gd_t, if_f q0, if_f q1, if_t q2, c5', ↓reduceIte, h1']
        · have h3' : nrF (mW M) (dotP M l) c (nC M) = (b : Int) := h3
          have hne : ¬ ((b : Int) = -1) := by omega
          have e0 : 0 < (sptM M l).length := List.length_pos_of_mem (spt_mem.mpr ⟨h1, h2⟩)
          have ne : ¬ (((sptM M l).length : Int) = 0) := by omega
          have ef := X1_far C hcc h1
          rw [farM_comm] at ef
          rw [h3'] at e
          simp (disch := omega) only [m_X2_gauge, gd_t, if_f q0, if_f q1, if_t q2, c5, if_f ne, e, ob_some, ef, h3', if_f hne, tn]
      · by_cases q3 : v = 3
        · have e := X2_farToSea O C K hcc
          simp (disch := omega) only [m_X2_gauge, gd_t, if_f q0, if_f q1, if_f q2, if_t q3, e, ob_some]
        · have e := X2_spotsInLine O C K hcc
          simp (disch := omega) only [m_X2_gauge, gd_t, if_f q0, if_f q1, if_f q2, if_f q3, e, ob_some]
end ClsMeasure
