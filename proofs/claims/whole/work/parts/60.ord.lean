/-! ===== the order of a zone: what it is ===== -/
theorem argB_s (p : Nat → Bool) (bt : Nat → Nat → Bool) (n : Nat) : argB p bt (n + 1) = if p n && (argB p bt n == -1 || bt n (argB p bt n).toNat) then (n : Int) else argB p bt n := rfl
theorem argB_cases (p : Nat → Bool) (bt : Nat → Nat → Bool) (n : Nat) : (argB p bt n = -1 ∧ ∀ c, c < n → p c = false) ∨ ∃ c, c < n ∧ p c = true ∧ argB p bt n = (c : Int) := by
  induction n with
  | zero => exact Or.inl ⟨rfl, fun c h => by omega⟩
  | succ n ih =>
    rw [argB_s]
    rcases ih with ⟨h1, h2⟩ | ⟨c, h1, h2, h3⟩
    · by_cases q : p n = true
      · refine Or.inr ⟨n, by omega, q, ?_⟩
        rw [h1, q]
        rfl
      · have q' : p n = false := by simpa using q
        refine Or.inl ⟨by rw [q', h1]; rfl, fun c hc => ?_⟩
        by_cases e : c = n
        · rw [e, q']
        · exact h2 c (by omega)
    · by_cases q : p n = true ∧ (argB p bt n == -1 || bt n (argB p bt n).toNat) = true
      · exact Or.inr ⟨n, by omega, q.1, by rw [q.1, q.2]; rfl⟩
      · refine Or.inr ⟨c, by omega, h2, ?_⟩
        rw [if_neg (by simpa using q), h3]
theorem argB_b (p : Nat → Bool) (bt : Nat → Nat → Bool) (n : Nat) : -1 ≤ argB p bt n ∧ argB p bt n < (n : Int) := by
  rcases argB_cases p bt n with ⟨h1, -⟩ | ⟨c, h1, -, h3⟩ <;> omega
/-- a fold over those that are asked for -/
def foldB (bt : Nat → Nat → Bool) (l : List Nat) : Int := l.foldl (fun b c => if b == -1 || bt c b.toNat then (c : Int) else b) (-1)
theorem argB_fold (p : Nat → Bool) (bt : Nat → Nat → Bool) (n : Nat) : argB p bt n = foldB bt ((List.range n).filter p) := by
  induction n with
  | zero => rfl
  | succ n ih =>
    rw [argB_s, List.range_succ, List.filter_append, foldB, List.foldl_append, ← foldB, ← ih]
    by_cases q : p n = true
    · simp [List.filter_cons, q]
    · have q' : p n = false := by simpa using q
      simp [List.filter_cons, q']
theorem argB_cg {p q : Nat → Bool} {bt ct : Nat → Nat → Bool} {n : Nat} (h : ∀ c, c < n → p c = q c) (h2 : ∀ c b, c < n → b < n → p c = true → p b = true → bt c b = ct c b) : argB p bt n = argB q ct n := by
  induction n with
  | zero => rfl
  | succ n ih =>
    have i := ih (fun c hc => h c (by omega)) (fun c b hc hb => h2 c b (by omega) (by omega))
    rw [argB_s, argB_s, ← i, ← h n (by omega)]
    rcases argB_cases p bt n with ⟨h1, -⟩ | ⟨c, h1, h3, h4⟩
    · rw [h1]
      simp
    · by_cases qn : p n = true
      · rw [h4, show Int.toNat (c : Int) = c from rfl, h2 n c (by omega) (by omega) qn h3]
      · have qn' : p n = false := by simpa using qn
        rw [qn']
        simp
def nxO (M : MS) (z : Int) (l : List Nat) : Int := if l.isEmpty then midM M z else nxtM M z l
theorem ordN_s (M : MS) (z : Int) (k : Nat) : ordN M z (k + 1) = if nxO M z (ordN M z k) = -1 then ordN M z k else ordN M z k ++ [(nxO M z (ordN M z k)).toNat] := rfl
theorem nxO_cases (M : MS) (z : Int) (l : List Nat) : (nxO M z l = -1 ∧ ∀ c, c < nC M → isL M z c = true → c ∈ l) ∨ ∃ c, c < nC M ∧ isL M z c = true ∧ c ∉ l ∧ nxO M z l = (c : Int) := by
  unfold nxO
  by_cases q : l.isEmpty = true
  · rw [if_pos q]
    have e : l = [] := by simpa using q
    subst e
    rcases argB_cases (isL M z) (fun c b => decide (sumFar M z c < sumFar M z b)) (nC M) with ⟨h1, h2⟩ | ⟨c, h1, h2, h3⟩
    · exact Or.inl ⟨h1, fun c hc h => by rw [h2 c hc] at h; cases h⟩
    · exact Or.inr ⟨c, h1, h2, by simp, h3⟩
  · rw [if_neg q]
    rcases argB_cases (fun c => isL M z c && !(l.contains c)) (fun c b => decide (gapM (mW M) l b < gapM (mW M) l c)) (nC M) with ⟨h1, h2⟩ | ⟨c, h1, h2, h3⟩
    · refine Or.inl ⟨h1, fun c hc h => ?_⟩
      have := h2 c hc
      rw [h] at this
      simpa using this
    · refine Or.inr ⟨c, h1, ?_, ?_, h3⟩
      · simp at h2; exact h2.1
      · simp at h2; exact h2.2
theorem ordN_ok (M : MS) (z : Int) (k : Nat) : (ordN M z k).Nodup ∧ (∀ c, c ∈ ordN M z k → c < nC M ∧ isL M z c = true) ∧ ((ordN M z k).length = k ∨ (nxO M z (ordN M z k) = -1 ∧ (ordN M z k).length ≤ k)) := by
  induction k with
  | zero => exact ⟨List.nodup_nil, fun c h => absurd h (by simp [ordN]), Or.inl rfl⟩
  | succ k ih =>
    obtain ⟨i1, i2, i3⟩ := ih
    rw [ordN_s]
    rcases nxO_cases M z (ordN M z k) with ⟨h1, h2⟩ | ⟨c, h1, h2, h3, h4⟩
    · rw [if_pos h1]
      exact ⟨i1, i2, Or.inr ⟨h1, by omega⟩⟩
    · rw [if_neg (by omega), h4]
      refine ⟨?_, fun x hx => ?_, Or.inl ?_⟩
      · rw [List.nodup_append]
        refine ⟨i1, by simp, fun a ha b hb => ?_⟩
        simp at hb
        rintro rfl
        exact h3 (hb ▸ ha)
      · rw [List.mem_append] at hx
        rcases hx with hx | hx
        · exact i2 x hx
        · have : x = c := by simpa using hx
          subst this
          exact ⟨h1, h2⟩
      · rw [List.length_append]
        simp
        rcases i3 with i3 | i3 <;> omega
theorem nodup_len {l : List Nat} {n : Nat} (h : l.Nodup) (hb : ∀ c, c ∈ l → c < n) : (l.length : Int) = sumTo (fun c => b2i (c ∈ l)) n := by
  induction l with
  | nil =>
    have : sumTo (fun c => b2i (c ∈ ([] : List Nat))) n = sumTo (fun _ => 0) n := sumTo_congr (fun c _ => b2i_f (by simp))
    rw [this, sumTo_zero]
    rfl
  | cons a l ih =>
    rw [List.nodup_cons] at h
    have i := ih h.2 (fun c hc => hb c (List.mem_cons_of_mem _ hc))
    have : sumTo (fun c => b2i (c ∈ a :: l)) n = sumTo (fun c => (if c = a then 1 else 0) + b2i (c ∈ l)) n := sumTo_congr (fun c _ => by
      by_cases q : c = a
      · subst q
        rw [if_pos rfl, b2i_t (by simp), b2i_f h.1]
        rfl
      · rw [if_neg q]
        by_cases q2 : c ∈ l
        · rw [b2i_t (by simp [q2]), b2i_t q2]; rfl
        · rw [b2i_f (by simp [q, q2]), b2i_f q2]; rfl)
    rw [this, sumTo_add, sum_pick (fun _ => 1) (hb a (by simp)), ← i]
    simp
    omega
theorem ordN_le (M : MS) (z : Int) (k : Nat) : (ordN M z k).length ≤ nC M := by
  obtain ⟨h1, h2, -⟩ := ordN_ok M z k
  have e := nodup_len h1 (fun c hc => (h2 c hc).1)
  have := sumTo_bounds (f := fun c => b2i (c ∈ ordN M z k)) (n := nC M) (a := 0) (b := 1) (fun c _ => b2i_01)
  omega
/-- behind the last there is none -/
theorem ord_stuck (M : MS) (z : Int) : nxO M z (ordL M z) = -1 := by
  unfold ordL
  rcases (ordN_ok M z (nC M)).2.2 with h | h
  · rcases nxO_cases M z (ordN M z (nC M)) with ⟨h1, h2⟩ | ⟨c, h1, h2, h3, h4⟩
    · exact h1
    · have e : (ordN M z (nC M + 1)).length = nC M + 1 := by
        rw [ordN_s, if_neg (by omega), List.length_append, h]
        rfl
      have := ordN_le M z (nC M + 1)
      omega
  · exact h.1
theorem ord_all {M : MS} {z : Int} {c : Nat} (hc : c < nC M) (h : isL M z c = true) : c ∈ ordL M z := by
  rcases nxO_cases M z (ordL M z) with ⟨h1, h2⟩ | ⟨x, h1, h2, h3, h4⟩
  · exact h2 c hc h
  · have := ord_stuck M z
    omega
theorem ord_mem {M : MS} {z : Int} {c : Nat} (h : c ∈ ordL M z) : c < nC M ∧ isL M z c = true := (ordN_ok M z (nC M)).2.1 c h
theorem ord_nodup (M : MS) (z : Int) : (ordL M z).Nodup := (ordN_ok M z (nC M)).1
theorem isL_iff {M : MS} {z : Int} {c : Nat} : isL M z c = true ↔ mO M c = z ∧ mS M c = 0 := by
  unfold isL
  simp
theorem hasL_iff {M : MS} {c : Nat} : hasL M c = true ↔ mO M c ≠ -1 ∧ mS M c = 0 := by
  unfold hasL
  simp
theorem ord_len (M : MS) (z : Int) : ((ordL M z).length : Int) = lnd M z := by
  rw [nodup_len (ord_nodup M z) (fun c hc => (ord_mem hc).1)]
  unfold lnd
  refine sumTo_congr (fun c hc => ?_)
  by_cases q : mO M c = z ∧ mS M c = 0
  · rw [b2i_t q, b2i_t (ord_all hc (isL_iff.mpr q))]
  · rw [b2i_f q, b2i_f (fun h => q (isL_iff.mp (ord_mem h).2))]
/-- once there is no next one, that is the order -/
theorem ord_of_stuck {M : MS} {z : Int} {k : Nat} (h : nxO M z (ordN M z k) = -1) (hk : k ≤ nC M) : ordL M z = ordN M z k := by
  have e : ∀ j, ordN M z (k + j) = ordN M z k := by
    intro j
    induction j with
    | zero => rfl
    | succ j ih =>
      show ordN M z ((k + j) + 1) = _
      rw [ordN_s, ih, if_pos h]
  unfold ordL
  rw [show nC M = k + (nC M - k) by omega, e]
/-- the places in the order -/
theorem idx_get {l : List Nat} (h : l.Nodup) {i : Nat} (hi : i < l.length) : l.idxOf l[i] = i := by
  have h1 : l.idxOf l[i] < l.length := List.idxOf_lt_length_of_mem (List.getElem_mem hi)
  have h2 := List.getElem_idxOf h1
  exact (List.getElem_inj h).mp h2
theorem plc_get {M : MS} {z : Int} (hz : z ≠ -1) {i : Nat} (hi : i < (ordL M z).length) : plcM M ((ordL M z)[i]) = (i : Int) := by
  have h1 := (ord_mem (List.getElem_mem hi)).2
  have h2 := isL_iff.mp h1
  unfold plcM
  rw [if_pos (hasL_iff.mpr ⟨by rw [h2.1]; exact hz, h2.2⟩), h2.1, idx_get (ord_nodup M z) hi]
theorem plc_none {M : MS} {c : Nat} (h : ¬ hasL M c = true) : plcM M c = -1 := by
  unfold plcM
  rw [if_neg h]
theorem ordN_pre (M : MS) (z : Int) (k j : Nat) : ∃ l, ordN M z (k + j) = ordN M z k ++ l := by
  induction j with
  | zero => exact ⟨[], by simp⟩
  | succ j ih =>
    obtain ⟨l, hl⟩ := ih
    show ∃ l, ordN M z ((k + j) + 1) = _
    rw [ordN_s]
    split
    · exact ⟨l, hl⟩
    · rw [hl]
      exact ⟨l ++ _, by rw [List.append_assoc]⟩
