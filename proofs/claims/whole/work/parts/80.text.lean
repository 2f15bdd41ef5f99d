/-! ===== a zone written as runs: the text ===== -/
def ArrT (A : Nat → Int) (t : List Int) : Prop := ∀ i (hi : i < t.length), A i = t[i]
theorem ArrT.snoc {A A' : Nat → Int} {t : List Int} {v : Int} (h : ArrT A t) (h' : ∀ j, A' j = if j = t.length then v else A j) : ArrT A' (t ++ [v]) := by
  intro i hi
  rw [h']
  by_cases q : i = t.length
  · subst q
    rw [if_pos rfl]
    simp
  · have hl : i < t.length := by
      rw [List.length_append] at hi
      simp at hi
      omega
    rw [if_neg q, h i hl, List.getElem_append_left hl]
theorem ArrT.nil {A : Nat → Int} : ArrT A [] := fun i hi => absurd hi (by simp)
def numT (n : Int) : List Int := if 10 ≤ n then [48 + n / 10, 48 + n % 10] else [48 + n % 10]
def nameT (M : MS) (z : Nat) : List Int := (List.range (mNL M z)).map (fun k => mN M (6 * z + k))
def runT (M : MS) (z : Int) (r x : Nat) : List Int := numT (x : Int) ++ [45] ++ numT (reM (mO M) (mS M) z (mW M) r (mW M) x : Int)
def rnF (M : MS) (z : Int) (r : Nat) (l : List Nat) : Nat × List Int := l.foldl (fun p x => (p.1 + 1, p.2 ++ (if p.1 = 0 then [] else [44, 32]) ++ runT M z r x)) (0, [])
def rnL (M : MS) (z : Int) (r : Nat) (l : List Nat) : List Int := (rnF M z r l).2
def begB (M : MS) (z : Int) (r x : Nat) : Bool := decide (begP (mO M) (mS M) z (mW M) r x)
def begL (M : MS) (z : Int) (r : Nat) : List Nat := (List.range (mW M)).filter (begB M z r)
def rowT (M : MS) (z r : Nat) : List Int := if (begL M (z : Int) r).length = 0 then [] else [114, 111, 119, 32] ++ nameT M z ++ [32] ++ numT (r : Int) ++ [58, 32] ++ rnL M (z : Int) r (begL M (z : Int) r) ++ [59]
def allT (M : MS) (z : Nat) : Nat → List Int
  | 0 => []
  | r + 1 => allT M z r ++ rowT M z r
def BT (t : List Int) : Prop := ∀ v, v ∈ t → -128 ≤ v ∧ v ≤ 127
theorem BT.app {s t : List Int} (h : BT s) (h' : BT t) : BT (s ++ t) := fun v hv => by
  rcases List.mem_append.mp hv with h1 | h1
  · exact h v h1
  · exact h' v h1
theorem rnF_1 (M : MS) (z : Int) (r : Nat) (l : List Nat) : (rnF M z r l).1 = l.length := by
  have : ∀ (l : List Nat) (p : Nat × List Int), (l.foldl (fun p x => (p.1 + 1, p.2 ++ (if p.1 = 0 then [] else [44, 32]) ++ runT M z r x)) p).1 = p.1 + l.length := by
    intro l
    induction l with
    | nil => intro p; simp
    | cons a l ih =>
      intro p
      rw [List.foldl_cons, ih]
      simp only [List.length_cons]
      omega
  have h := this l (0, [])
  rw [Nat.zero_add] at h
  exact h
theorem rnL_snoc (M : MS) (z : Int) (r : Nat) (l : List Nat) (x : Nat) : rnL M z r (l ++ [x]) = rnL M z r l ++ (if l.length = 0 then [] else [44, 32]) ++ runT M z r x := by
  unfold rnL
  have e := rnF_1 M z r l
  rw [rnF, List.foldl_append, ← rnF]
  simp only [List.foldl_cons, List.foldl_nil]
  rw [e]
theorem num_len (n : Int) : (numT n).length ≤ 2 := by unfold numT; split <;> simp
theorem num_BT {n : Int} (h : 0 ≤ n ∧ n ≤ 99) : BT (numT n) := by
  intro v hv
  unfold numT at hv
  split at hv
  · simp at hv
    omega
  · simp at hv
    omega
theorem name_len (M : MS) (z : Nat) : (nameT M z).length = mNL M z := by unfold nameT; simp
theorem name_BT {M : MS} (O : MOK M) {z : Nat} (hz : z < mZ M) : BT (nameT M z) := by
  intro v hv
  unfold nameT at hv
  obtain ⟨k, hk, rfl⟩ := List.mem_map.mp hv
  have := (O.nm hz).2.2 k (by simpa using hk)
  omega
theorem run_len (M : MS) (z : Int) (r x : Nat) : (runT M z r x).length ≤ 5 := by
  unfold runT
  have h1 := num_len (x : Int)
  have h2 := num_len (reM (mO M) (mS M) z (mW M) r (mW M) x : Int)
  simp only [List.length_append, List.length_cons, List.length_nil]
  omega
theorem run_BT {M : MS} (O : MOK M) (z : Int) (r : Nat) {x : Nat} (hx : x < mW M) : BT (runT M z r x) := by
  have d := O.2.1
  have b := reM_b (ow := mO M) (se := mS M) (y := z) (r := r) (w := mW M) (x := x) (mW M) hx
  unfold runT
  refine ((num_BT (by omega)).app (fun v hv => ?_)).app (num_BT (by omega))
  have : v = 45 := by simpa using hv
  omega
theorem rn_len (M : MS) (z : Int) (r : Nat) (l : List Nat) : (rnL M z r l).length ≤ 7 * l.length := by
  induction h : l.length generalizing l with
  | zero =>
    have : l = [] := by simpa using h
    subst this
    exact Nat.le_refl _
  | succ n ih =>
    rcases List.eq_nil_or_concat l with h2 | ⟨l2, b, h2⟩
    · subst h2; simp at h
    · rw [List.concat_eq_append] at h2
      subst h2
      have hl : l2.length = n := by simpa using h
      have i := ih l2 hl
      rw [rnL_snoc]
      have r5 := run_len M z r b
      simp only [List.length_append]
      split
      · simp only [List.length_nil]; omega
      · simp only [List.length_cons, List.length_nil]; omega
theorem rn_BT {M : MS} (O : MOK M) (z : Int) (r : Nat) (l : List Nat) (hl : ∀ x, x ∈ l → x < mW M) : BT (rnL M z r l) := by
  induction h : l.length generalizing l with
  | zero =>
    have : l = [] := by simpa using h
    subst this
    intro v hv
    exact absurd hv (by simp [rnL, rnF])
  | succ n ih =>
    rcases List.eq_nil_or_concat l with h2 | ⟨l2, b, h2⟩
    · subst h2; simp at h
    · rw [List.concat_eq_append] at h2
      subst h2
      have i := ih l2 (fun x hx => hl x (List.mem_append_left _ hx)) (by simpa using h)
      rw [rnL_snoc]
      refine (i.app ?_).app (run_BT O z r (hl b (by simp)))
      intro v hv
      split at hv
      · simp at hv
      · simp at hv; omega
theorem beg_half {M : MS} {z : Int} {r : Nat} (n : Nat) : 2 * ((List.range n).filter (begB M z r)).length ≤ n + (if 0 < n ∧ begB M z r (n - 1) = true then 1 else 0) := by
  induction n with
  | zero => simp
  | succ n ih =>
    rw [show n + 1 - 1 = n by omega]
    by_cases q : begB M z r n = true
    · rw [frs_t q, List.length_append, if_pos ⟨by omega, q⟩]
      simp only [List.length_cons, List.length_nil]
      have nb : ¬ (0 < n ∧ begB M z r (n - 1) = true) := fun h => by
        have h1 := of_decide_eq_true q
        have h2 := of_decide_eq_true h.2
        rcases h1.2 with e | e
        · omega
        · refine e ?_
          have := h2.1
          rw [show mW M * r + n - 1 = mW M * r + (n - 1) by omega]
          exact this
      rw [if_neg nb] at ih
      omega
    · rw [frs_f q, if_neg (fun h => q h.2)]
      split at ih <;> omega
theorem beg_le {M : MS} (O : MOK M) (z : Int) (r : Nat) : (begL M z r).length ≤ 12 := by
  have d := O.2.1
  have := beg_half (M := M) (z := z) (r := r) (mW M)
  unfold begL
  split at this <;> omega
theorem beg_mem {M : MS} {z : Int} {r x : Nat} (h : x ∈ begL M z r) : x < mW M := (fr_mem.mp h).1
theorem row_len {M : MS} (O : MOK M) {z : Nat} (hz : z < mZ M) (r : Nat) : (rowT M z r).length ≤ 100 := by
  unfold rowT
  split
  · simp
  · have h1 := (O.nm hz).2.1
    have h2 := num_len (r : Int)
    have h3 := rn_len M (z : Int) r (begL M (z : Int) r)
    have h4 := beg_le O (z : Int) r
    simp only [List.length_append, List.length_cons, List.length_nil, name_len]
    omega
theorem row_BT {M : MS} (O : MOK M) {z : Nat} (hz : z < mZ M) {r : Nat} (hr : r < mH M) : BT (rowT M z r) := by
  have d := O.2.1
  unfold rowT
  split
  · intro v hv; simp at hv
  · have b1 : BT [114, 111, 119, 32] := fun v hv => by simp at hv; omega
    have b2 : BT [32] := fun v hv => by simp at hv; omega
    have b3 : BT [58, 32] := fun v hv => by simp at hv; omega
    have b4 : BT [59] := fun v hv => by simp at hv; omega
    exact (((((b1.app (name_BT O hz)).app b2).app (num_BT (by omega))).app b3).app (rn_BT O (z : Int) r _ (fun x hx => beg_mem hx))).app b4
theorem all_len {M : MS} (O : MOK M) {z : Nat} (hz : z < mZ M) (k : Nat) : (allT M z k).length ≤ 100 * k := by
  induction k with
  | zero => simp [allT]
  | succ k ih =>
    rw [allT, List.length_append]
    have := row_len O hz k
    omega
theorem all_BT {M : MS} (O : MOK M) {z : Nat} (hz : z < mZ M) {k : Nat} (hk : k ≤ mH M) : BT (allT M z k) := by
  induction k with
  | zero => intro v hv; simp [allT] at hv
  | succ k ih =>
    rw [allT]
    exact (ih (by omega)).app (row_BT O hz (by omega))
/-! the edges of the runs, by their number -/
theorem ed_get {M : MS} {z : Int} {r : Nat} {i sd : Int} (k : Nat) {n : Int} {x j : Nat} (hj : i = n + (j : Int)) (hlt : j < ((List.range' x k).filter (begB M z r)).length) : edM (mO M) (mS M) z (mW M) r i sd k n x = if sd = 0 then (((List.range' x k).filter (begB M z r))[j] : Int) else (reM (mO M) (mS M) z (mW M) r (mW M) (((List.range' x k).filter (begB M z r))[j]) : Int) := by
  induction k generalizing n x j with
  | zero => simp at hlt
  | succ k ih =>
    rw [edM]
    have er : List.range' x (k + 1) = x :: List.range' (x + 1) k := List.range'_succ
    by_cases q : begP (mO M) (mS M) z (mW M) r x
    · have qb : begB M z r x = true := decide_eq_true q
      have ef : (List.range' x (k + 1)).filter (begB M z r) = x :: (List.range' (x + 1) k).filter (begB M z r) := by rw [er, List.filter_cons, if_pos qb]
      rw [if_pos q]
      simp only [ef] at hlt ⊢
      cases j with
      | zero =>
        rw [if_pos (by omega)]
        simp only [List.getElem_cons_zero]
      | succ j =>
        rw [if_neg (by omega)]
        simp only [List.getElem_cons_succ]
        exact ih (n := n + 1) (by omega) _
    · have qb : ¬ begB M z r x = true := fun h => q (of_decide_eq_true h)
      have ef : (List.range' x (k + 1)).filter (begB M z r) = (List.range' (x + 1) k).filter (begB M z r) := by rw [er, List.filter_cons, if_neg qb]
      rw [if_neg q]
      simp only [ef] at hlt ⊢
      exact ih hj hlt
theorem ed_beg {M : MS} {z : Int} {r : Nat} {sd : Int} {j : Nat} (hlt : j < (begL M z r).length) : edM (mO M) (mS M) z (mW M) r (j : Int) sd (mW M) 0 0 = if sd = 0 then ((begL M z r)[j] : Int) else (reM (mO M) (mS M) z (mW M) r (mW M) (begL M z r)[j] : Int) := by
  have e : begL M z r = (List.range' 0 (mW M)).filter (begB M z r) := by unfold begL; rw [List.range_eq_range']
  simp only [e] at hlt ⊢
  exact ed_get (mW M) (by omega) hlt
theorem beg_cnt (M : MS) (z : Int) (r : Nat) : sumTo (fun x => b2i (begP (mO M) (mS M) z (mW M) r x)) (mW M) = ((begL M z r).length : Int) := by
  have : ∀ n, sumTo (fun x => b2i (begP (mO M) (mS M) z (mW M) r x)) n = (((List.range n).filter (begB M z r)).length : Int) := by
    intro n
    induction n with
    | zero => rfl
    | succ n ih =>
      rw [sumTo, ih]
      by_cases q : begP (mO M) (mS M) z (mW M) r n
      · rw [b2i_t q, frs_t (decide_eq_true q), List.length_append]; rfl
      · rw [b2i_f q, frs_f (fun h => q (of_decide_eq_true h)), Int.add_zero]
  exact this (mW M)
/-! ===== the class writes ===== -/
theorem i2b_id {v : Int} (h : -128 ≤ v ∧ v ≤ 127) : i2b v = v := by
  unfold i2b
  rw [Int32.toInt_toInt8, Int32.toInt_ofInt]
  have e1 : v.bmod Int32.size = v := Int.bmod_eq_of_le (by show -(((4294967296 : Nat) : Int) / 2) ≤ v; omega) (by show v < (((4294967296 : Nat) : Int) + 1) / 2; omega)
  rw [e1]
  exact Int.bmod_eq_of_le (by omega) (by omega)
def WKp (D D' : DT) : Prop := ∀ a, (a ≠ 65 ∧ a ≠ 66) → D'.1 a = D.1 a ∧ D'.2 a = D.2 a
theorem WKp.refl (D : DT) : WKp D D := fun _ _ => ⟨rfl, rfl⟩
theorem WKp.trans {D D' D'' : DT} (h : WKp D D') (h' : WKp D' D'') : WKp D D'' := fun a ha => ⟨(h' a ha).1.trans (h a ha).1, (h' a ha).2.trans (h a ha).2⟩
theorem WKp.chart {D D' : DT} {M : MS} (h : WKp D D') (C : ChartRep D 2 M) : ChartRep D' 2 M := C.fr (fun b hb => h b (by omega))
def WR (D : DT) (t : List Int) : Prop := D.1 65 0 = (t.length : Int) ∧ ArrT (D.2 66) t
/-- a text is put behind -/
def Puts (X : DT → Option DT) (u : List Int) : Prop := ∀ D t, WR D t → t.length + u.length ≤ 1600 → ∃ D', X D = some D' ∧ WKp D D' ∧ WR D' (t ++ u)
theorem X7_put {v : Int} (hv : -128 ≤ v ∧ v ≤ 127) : Puts (m_X7_put v) [v] := fun D t h hl => by
  simp only [List.length_cons, List.length_nil] at hl
  have e := i2b_id hv
  obtain ⟨h1, h2⟩ := h
  have gq : ((0 : Int) ≤ (t.length : Int) ∧ (t.length : Int) < (1600 : Int)) ∧ ((-128 : Int) ≤ v ∧ v ≤ (127 : Int)) := ⟨by omega, hv⟩
  refine ⟨sF (sA D 66 t.length v) 65 0 ((t.length : Int) + 1), ?_, fun a ha => ⟨by funext k; rw [sF1, if_neg (by omega)]; rfl, by funext k; rw [sF2, sA2, if_neg (by omega)]⟩, ⟨?_, h2.snoc (fun j => ?_)⟩⟩
  · simp (disch := omega) only [m_X7_put, h1, gd_t, if_t, e, gd_t gq, tn, sq_eq, sA1]
  · rw [sF1, if_pos ⟨rfl, rfl⟩, List.length_append]; rfl
  · rw [sF2, sA2]
    by_cases q : j = t.length
    · rw [if_pos ⟨rfl, q⟩, if_pos q]
    · rw [if_neg (fun h => q h.2), if_neg q]
theorem Puts.seq {X Y : DT → Option DT} {u v : List Int} (h : Puts X u) (h' : Puts Y v) : Puts (fun D => (X D).bind Y) (u ++ v) := fun D t hw hl => by
  rw [List.length_append] at hl
  obtain ⟨D1, e1, e2, e3⟩ := h D t hw (by omega)
  obtain ⟨D2, f1, f2, f3⟩ := h' D1 (t ++ u) e3 (by rw [List.length_append]; omega)
  refine ⟨D2, ?_, e2.trans f2, by rw [← List.append_assoc]; exact f3⟩
  show (X D).bind Y = _
  rw [e1]
  exact f1
theorem X7_putText {i : Nat} (hb : BT (strB i)) (hl : (strB i).length ≤ 100) : Puts (m_X7_putText i) (strB i) := fun D t h hn => by
  have eL : strL i = ((strB i).length : Int) := rfl
  unfold m_X7_putText m_X7_putText_2
  obtain ⟨s', ⟨i1, i2, i3⟩, e⟩ := loop_inv (f := fun s : Int × DT =>
    gd (InR s.1 ∧ InR (strL i)) (if s.1 < (strL i) then (
      gd (0 ≤ s.1 ∧ s.1 < strL i) (
      (m_X7_put (strC i (Int.toNat s.1)) s.2).bind (fun D16 =>
      some (.inl ((s.1 + 1), D16))
      ))
    ) else (
      done (
      some s.2
      )
    ))) (fun k s => s.1 = (k : Int) ∧ WKp D s.2 ∧ WR s.2 (t ++ (strB i).take k)) (strB i).length (s := (0, D)) ⟨rfl, WKp.refl _, by simpa using h⟩ (fun k s hk ⟨a1, a2, a3⟩ => by
      have ec : strC i k = (strB i)[k] := by
        unfold strC
        rw [List.getD_eq_getElem?_getD, List.getElem?_eq_getElem hk]
        rfl
      have hv := hb _ (List.getElem_mem hk)
      rw [← ec] at hv
      obtain ⟨D', w1, w2, w3⟩ := X7_put hv s.2 _ a3 (by
        rw [List.length_append, List.length_take]
        simp only [List.length_cons, List.length_nil]
        omega)
      refine ⟨((k : Int) + 1, D'), ?_, rfl, a2.trans w2, ?_⟩
      · simp (disch := omega) only [a1, eL, gd_t, if_t, tn, w1, ob_some]
      · rw [List.take_succ_eq_append_getElem hk, ← ec, ← List.append_assoc]
        exact w3)
  rw [List.take_length] at i3
  refine ⟨s'.2, ?_, i2, i3⟩
  rw [e]
  refine loopF_inr ?_
  simp (disch := omega) only [i1, eL, gd_t, if_f, done_some]
theorem X7_putNumber {n : Int} (h : 0 ≤ n ∧ n ≤ 99) : Puts (m_X7_putNumber n) (numT n) := fun D t hw hl => by
  unfold numT at hl ⊢
  by_cases q : 10 ≤ n
  · rw [if_pos q] at hl ⊢
    obtain ⟨D1, e1, e2, e3⟩ := (X7_put (v := 48 + n / 10) (by omega)) D t hw (by simp only [List.length_cons, List.length_nil] at hl ⊢; omega)
    obtain ⟨D2, f1, f2, f3⟩ := (X7_put (v := 48 + n % 10) (by omega)) D1 _ e3 (by simp only [List.length_append, List.length_cons, List.length_nil] at hl ⊢; omega)
    refine ⟨D2, ?_, e2.trans f2, by rw [List.append_assoc] at f3; exact f3⟩
    simp (disch := omega) only [m_X7_putNumber, gd_t, if_t q, e1, f1, ob_some]
  · rw [if_neg q] at hl ⊢
    obtain ⟨D2, f1, f2, f3⟩ := (X7_put (v := 48 + n % 10) (by omega)) D t hw hl
    refine ⟨D2, ?_, f2, f3⟩
    simp (disch := omega) only [m_X7_putNumber, gd_t, if_f q, f1, ob_some]
