theorem sCq_b {M : MS} (O : MOK M) (z : Int) : 0 ≤ sCq M z (nC M) ∧ sCq M z (nC M) ≤ 754 * 384 := by
  have n4 := nCb O
  have := sumTo_bounds (f := fun c => if isL M z c then ((c % mW M : Nat) : Int) * ((c % mW M : Nat) : Int) + ((c / mW M : Nat) : Int) * ((c / mW M : Nat) : Int) else 0) (n := nC M) (a := 0) (b := 754) (fun k hk => by
    split
    · have d1 := (divh hk).1
      have d2 := (divh hk).2
      have d3 := O.2.1
      have g40 : (0 : Int) ≤ ((k / mW M : Nat) : Int) := Int.natCast_nonneg _
      have g30 : (0 : Int) ≤ ((k % mW M : Nat) : Int) := Int.natCast_nonneg _
      have q1 := sqb (x := ((k % mW M : Nat) : Int)) (b := 23) (by omega) (by omega)
      have q2 := sqb (x := ((k / mW M : Nat) : Int)) (b := 15) (by omega) (by omega)
      omega
    · omega)
  unfold sCq
  omega
theorem sumFar_b {M : MS} (O : MOK M) (z : Int) {c : Nat} (hc : c < nC M) : 0 ≤ sumFar M z c ∧ sumFar M z c ≤ 754 * 384 := by
  have n4 := nCb O
  have := sumTo_bounds (f := fun o => if isL M z o then farM (mW M) c o else 0) (n := nC M) (a := 0) (b := 754) (fun k hk => by
    split
    · exact farM_b O.2.1.1 O.2.1.2 hc hk
    · omega)
  unfold sumFar
  omega
theorem X6_firstOf {D : DT} {r hc : Nat} {M : MS} {z : Int} (C : CMap D hc (mW M) (mH M) (mO M) (mS M)) (O : MOK M) (hW : WtRep D r ((List.range (nC M)).filter (isL M z))) (h0 : D.1 (r + 7) 0 = sCt M z (nC M)) (h1 : D.1 (r + 7) 1 = sCx M z (nC M)) (h2 : D.1 (r + 7) 2 = sCy M z (nC M)) : m_X6_firstOf r hc D = some (midM M z) := by
  have n4 := nCb O
  have lb := fr_le (isL M z) (nC M)
  have wm : ∀ c, c ∈ (List.range (nC M)).filter (isL M z) → c < nC M := fun c h => (fr_mem.mp h).1
  unfold midM
  rw [argB_fold]
  revert hW lb wm
  generalize (List.range (nC M)).filter (isL M z) = W
  intro hW lb wm
  obtain ⟨w1, w2⟩ := hW
  have qb := sCq_b O z
  have ep : ∀ c : Nat, c < nC M → m_X0_pullFrom (r + 7) hc (c : Int) D = some (sumFar M z c - sCq M z (nC M)) := fun c hcc => by
    obtain ⟨-, -, m3, m4⟩ := C.2.2 c hcc
    have d1 := (divh hcc).1
    have d2 := (divh hcc).2
    have d3 := O.2.1
    have g40 : (0 : Int) ≤ ((c / mW M : Nat) : Int) := Int.natCast_nonneg _
    have g3 : InR ((c % mW M : Nat) : Int) := by omega
    have g4 : InR ((c / mW M : Nat) : Int) := by omega
    have := pull_eq M z c (nC M)
    rw [show sumTo (fun o => if isL M z o then farM (mW M) c o else 0) (nC M) = sumFar M z c from rfl] at this
    simp (disch := omega) only [m_X0_pullFrom, gd_t, tn, m3, m4, gd_t g3, gd_t g4, h0, h1, h2, this]
  have base : foldB (fun c b => decide (sumFar M z c < sumFar M z b)) (W.take 0) = -1 := rfl
  have key := loop_for (f := fun s : Int × Int × Int =>
    gd (InR s.2.2 ∧ InR (D.1 r 7)) (if s.2.2 < (D.1 r 7) then (
      gd ((0 : Int) ≤ s.2.2 ∧ s.2.2 < (384 : Int)) (
      (m_X0_pullFrom (r + 7) hc (D.2 (r + 5) (Int.toNat s.2.2)) D).bind (fun r28 =>
      gd (InR s.1 ∧ InR (-1)) (if s.1 = (-1) then (
        gd ((0 : Int) ≤ s.2.2 ∧ s.2.2 < (384 : Int)) (
        some (.inl ((D.2 (r + 5) (Int.toNat s.2.2)), r28, (s.2.2 + 1)))
        )
      ) else (
        gd (InL r28 ∧ InL s.2.1) (if r28 < s.2.1 then (
          gd ((0 : Int) ≤ s.2.2 ∧ s.2.2 < (384 : Int)) (
          some (.inl ((D.2 (r + 5) (Int.toNat s.2.2)), r28, (s.2.2 + 1)))
          )
        ) else (
          some (.inl (s.1, s.2.1, (s.2.2 + 1)))
        ))
      ))
      ))
    ) else (
      done (
      some s.1
      )
    ))) (r := foldB (fun c b => decide (sumFar M z c < sumFar M z b)) W) (st := fun i => (foldB (fun c b => decide (sumFar M z c < sumFar M z b)) (W.take i), (if foldB (fun c b => decide (sumFar M z c < sumFar M z b)) (W.take i) = -1 then 0 else sumFar M z (foldB (fun c b => decide (sumFar M z c < sumFar M z b)) (W.take i)).toNat - sCq M z (nC M)), (i : Int))) W.length (fun i hi => by
      have e1 := w2 i hi
      have hci := wm _ (List.getElem_mem hi)
      have e2 := ep _ hci
      have b1 := sumFar_b O z hci
      have c1 : ((i + 1 : Nat) : Int) = (i : Int) + 1 := rfl
      have ts : W.take (i + 1) = W.take i ++ [W[i]] := List.take_succ_eq_append_getElem hi
      rw [ts, foldB_snoc]
      generalize W[i] = c at *
      rcases foldB_cases (fun c b => decide (sumFar M z c < sumFar M z b)) (W.take i) with ⟨-, h⟩ | ⟨b, hb1, hb2⟩
      · rw [h]
        have hne : ¬ ((c : Int) = -1) := by omega
        simp (disch := omega) only [w1, gd_t, if_t, tn, e1, e2, ob_some, ↓reduceIte, c1, beq_self_eq_true, Bool.true_or, if_f hne]
      · have hbn := wm b (List.mem_of_mem_take hb1)
        have b2 := sumFar_b O z hbn
        rw [hb2]
        have hne : ¬ ((c : Int) = -1) := by omega
        have hne2 : ¬ ((b : Int) = -1) := by omega
        have hne3 : ((b : Int) == -1) = false := by simp
        by_cases q : sumFar M z c < sumFar M z b
        · have q' : sumFar M z c - sCq M z (nC M) < sumFar M z b - sCq M z (nC M) := by omega
          simp (disch := omega) only [w1, gd_t, if_t, tn, e1, e2, ob_some, if_f hne2, if_t q', c1, hne3, Bool.false_or, decide_eq_true q, if_f hne, ↓reduceIte]
        · have q' : ¬ (sumFar M z c - sCq M z (nC M) < sumFar M z b - sCq M z (nC M)) := by omega
          simp (disch := omega) only [w1, gd_t, if_t, tn, e1, e2, ob_some, if_f hne2, if_f q', c1, hne3, Bool.false_or, decide_eq_false q, ↓reduceIte, Bool.false_eq_true]) (by
      simp (disch := omega) only [w1, gd_t, if_f, done_some, List.take_length])
  exact key
theorem gapM_snoc (w : Nat) (l : List Nat) (v c : Nat) : gapM w (l ++ [v]) c = min (gapM w l c) (farM w c v) := by
  rw [gapM, List.foldl_append, ← gapM]
  rfl
theorem gapM_b {w : Nat} {l : List Nat} {c : Nat} (h : ∀ o, o ∈ l → 0 ≤ farM w c o) : 0 ≤ gapM w l c ∧ gapM w l c ≤ 1000 := by
  have : ∀ (l : List Nat) (x : Int), (∀ o, o ∈ l → 0 ≤ farM w c o) → 0 ≤ x → x ≤ 1000 → 0 ≤ l.foldl (fun g o => min g (farM w c o)) x ∧ l.foldl (fun g o => min g (farM w c o)) x ≤ 1000 := by
    intro l
    induction l with
    | nil => intro x _ h1 h2; exact ⟨h1, h2⟩
    | cons a l ih =>
      intro x h0 h1 h2
      have := h0 a (by simp)
      exact ih (min x (farM w c a)) (fun o ho => h0 o (by simp [ho])) (by omega) (by omega)
  exact this l 1000 h (by omega) (by omega)
/-- one pass over those that wait -/
theorem X6_nextAfter {D : DT} {r hc : Nat} {M : MS} (hr : hc + 8 < r) (C : CMap D hc (mW M) (mH M) (mO M) (mS M)) (O : MOK M) {W : List Nat} (hW : WtRep D r W) (wm : ∀ c, c ∈ W → c < nC M) (nd : W.Nodup) (lb : W.length ≤ nC M) {v : Nat} (hv : v < nC M) {G : Nat → Int} (hG : ∀ c, c ∈ W → D.2 (r + 6) c = G c ∧ 0 ≤ G c ∧ G c ≤ 1000) : ∃ D', m_X6_nextAfter r hc (v : Int) D = some (foldB (fun c b => decide (min (G b) (farM (mW M) b v) < min (G c) (farM (mW M) c v))) (W.filter (· != v)), D') ∧ RKp D D' r ∧ D'.2 (r + 1) = D.2 (r + 1) ∧ WtRep D' r (W.filter (· != v)) ∧ ∀ c, c ∈ W.filter (· != v) → D'.2 (r + 6) c = min (G c) (farM (mW M) c v) := by
  have n4 := nCb O
  obtain ⟨w1, w2⟩ := hW
  have fb : ∀ c, c ∈ W → 0 ≤ farM (mW M) c v ∧ farM (mW M) c v ≤ 754 := fun c h => farM_b O.2.1.1 O.2.1.2 (wm c h) hv
  unfold m_X6_nextAfter m_X6_nextAfter_11
  obtain ⟨s', ⟨i1, i2, i3, i4, i5, i6, i7, i8, i9⟩, e⟩ := loop_inv (f := fun s : Int × Int × Int × Int × DT =>
    gd (InR s.2.2.2.1 ∧ InR (s.2.2.2.2.1 r 7)) (if s.2.2.2.1 < (s.2.2.2.2.1 r 7) then (
      gd ((0 : Int) ≤ s.2.2.2.1 ∧ s.2.2.2.1 < (384 : Int)) (
      gd (InR (s.2.2.2.2.2 (r + 5) (Int.toNat s.2.2.2.1)) ∧ InR (v : Int)) (if (s.2.2.2.2.2 (r + 5) (Int.toNat s.2.2.2.1)) = (v : Int) then (
        some ((.inl (s.1, s.2.1, s.2.2.1, (s.2.2.2.1 + 1), s.2.2.2.2)) : (Int × Int × Int × Int × DT) ⊕ (Int × DT))
      ) else (
        gd ((0 : Int) ≤ (s.2.2.2.2.2 (r + 5) (Int.toNat s.2.2.2.1)) ∧ (s.2.2.2.2.2 (r + 5) (Int.toNat s.2.2.2.1)) < (384 : Int)) (
        (m_X1_far hc (s.2.2.2.2.2 (r + 5) (Int.toNat s.2.2.2.1)) (v : Int) s.2.2.2.2).bind (fun r46 =>
        gd (InR (s.2.2.2.2.2 (r + 6) (Int.toNat (s.2.2.2.2.2 (r + 5) (Int.toNat s.2.2.2.1)))) ∧ InR r46) (
        gd ((0 : Int) ≤ (s.2.2.2.2.2 (r + 5) (Int.toNat s.2.2.2.1)) ∧ (s.2.2.2.2.2 (r + 5) (Int.toNat s.2.2.2.1)) < (384 : Int)) (sq (sA s.2.2.2.2 (r + 6) (Int.toNat (s.2.2.2.2.2 (r + 5) (Int.toNat s.2.2.2.1))) (min (s.2.2.2.2.2 (r + 6) (Int.toNat (s.2.2.2.2.2 (r + 5) (Int.toNat s.2.2.2.1)))) r46)) (fun D62 =>
        gd ((0 : Int) ≤ s.2.2.1 ∧ s.2.2.1 < (384 : Int)) (sq (sA D62 (r + 5) (Int.toNat s.2.2.1) (s.2.2.2.2.2 (r + 5) (Int.toNat s.2.2.2.1))) (fun D71 =>
        gd (InR (min (s.2.2.2.2.2 (r + 6) (Int.toNat (s.2.2.2.2.2 (r + 5) (Int.toNat s.2.2.2.1)))) r46) ∧ InR s.2.1) (if s.2.1 < (min (s.2.2.2.2.2 (r + 6) (Int.toNat (s.2.2.2.2.2 (r + 5) (Int.toNat s.2.2.2.1)))) r46) then (
          some (.inl ((s.2.2.2.2.2 (r + 5) (Int.toNat s.2.2.2.1)), (min (s.2.2.2.2.2 (r + 6) (Int.toNat (s.2.2.2.2.2 (r + 5) (Int.toNat s.2.2.2.1)))) r46), (s.2.2.1 + 1), (s.2.2.2.1 + 1), D71))
        ) else (
          some (.inl (s.1, s.2.1, (s.2.2.1 + 1), (s.2.2.2.1 + 1), D71))
        ))
        )))))))
      ))
      )
    ) else (
      done (
      sq (sF s.2.2.2.2 r 7 s.2.2.1) (fun D98 =>
      some (s.1, D98)
      )
      )
    ))) (fun i s => s.1 = foldB (fun c b => decide (min (G b) (farM (mW M) b v) < min (G c) (farM (mW M) c v))) ((W.take i).filter (· != v)) ∧ (s.2.1 = if s.1 = -1 then -1 else min (G s.1.toNat) (farM (mW M) s.1.toNat v)) ∧ s.2.2.1 = (((W.take i).filter (· != v)).length : Int) ∧ s.2.2.2.1 = (i : Int) ∧ s.2.2.2.2.1 = D.1 ∧ (∀ a, a ≠ r + 5 → a ≠ r + 6 → s.2.2.2.2.2 a = D.2 a) ∧ ArrL (s.2.2.2.2.2 (r + 5)) ((W.take i).filter (· != v)) ∧ (∀ t, i ≤ t → s.2.2.2.2.2 (r + 5) t = D.2 (r + 5) t) ∧ ∀ c, s.2.2.2.2.2 (r + 6) c = if c ∈ (W.take i).filter (· != v) then min (G c) (farM (mW M) c v) else D.2 (r + 6) c) W.length (s := ((-1), (-1), 0, 0, D)) ⟨rfl, rfl, rfl, rfl, rfl, fun _ _ _ => rfl, ArrL.nil, fun _ _ => rfl, fun c => by rw [if_neg (by simp)]⟩ (fun i s hi ⟨a1, a2, a3, a4, a5, a6, a7, a8, a9⟩ => by
      have e1 : s.2.2.2.2.2 (r + 5) i = (W[i] : Int) := by rw [a8 i (Nat.le_refl _)]; exact w2 i hi
      have hmem := List.getElem_mem hi
      have hci := wm _ hmem
      have c1 : ((i + 1 : Nat) : Int) = (i : Int) + 1 := rfl
      have ts : W.take (i + 1) = W.take i ++ [W[i]] := List.take_succ_eq_append_getElem hi
      have hnin : W[i] ∉ W.take i := by
        intro hm
        have : (W.take (i + 1)).Nodup := (List.take_sublist _ _).nodup nd
        rw [ts, List.nodup_append] at this
        exact this.2.2 _ hm _ (by simp) rfl
      have eg := hG _ hmem
      have e6 : s.2.2.2.2.2 (r + 6) W[i] = G W[i] := by
        rw [a9, if_neg (fun h => hnin (List.mem_filter.mp h).1)]
        exact eg.1
      have ef := X1_far (D := s.2.2.2.2) (hc := hc) (C.cong (fun a ha => ⟨by rw [a5], a6 a (by omega) (by omega)⟩)) hci hv
      have eb := fb _ hmem
      have e7 : s.2.2.2.2.1 r 7 = (W.length : Int) := by rw [a5]; exact w1
      have jl : ((W.take i).filter (· != v)).length ≤ i := by
        have := List.length_filter_le (· != v) (W.take i)
        rw [List.length_take] at this
        omega
      have sb : s.1 = -1 ∨ ∃ b : Nat, s.1 = (b : Int) ∧ b ∈ W := by
        rcases foldB_cases (fun c b => decide (min (G b) (farM (mW M) b v) < min (G c) (farM (mW M) c v))) ((W.take i).filter (· != v)) with ⟨-, h⟩ | ⟨b, hb1, hb2⟩
        · left; rw [a1, h]
        · exact Or.inr ⟨b, by rw [a1, hb2], List.mem_of_mem_take (List.mem_filter.mp hb1).1⟩
      rw [ts, List.filter_append]
      generalize W[i] = c at *
      by_cases qv : c = v
      · subst qv
        have fe : [c].filter (· != c) = [] := by simp
        rw [fe, List.append_nil]
        refine ⟨(s.1, s.2.1, s.2.2.1, (i : Int) + 1, s.2.2.2.2), ?_, a1, a2, a3, rfl, a5, a6, a7, fun t ht => a8 t (by omega), a9⟩
        simp (disch := omega) only [a4, e7, gd_t, if_t, tn, e1, ↓reduceIte]
      · have fe : [c].filter (· != v) = [c] := by simp [qv]
        rw [fe]
        have ne : ¬ ((c : Int) = (v : Int)) := by omega
        have fsn := foldB_snoc (fun c b => decide (min (G b) (farM (mW M) b v) < min (G c) (farM (mW M) c v))) ((W.take i).filter (· != v)) c
        rw [← a1] at fsn
        have rest : ∀ (b g : Int), (b = foldB (fun c b => decide (min (G b) (farM (mW M) b v) < min (G c) (farM (mW M) c v))) ((W.take i).filter (· != v) ++ [c])) → (g = if b = -1 then -1 else min (G b.toNat) (farM (mW M) b.toNat v)) → (fun s : Int × Int × Int × Int × DT => s.1 = foldB (fun c b => decide (min (G b) (farM (mW M) b v) < min (G c) (farM (mW M) c v))) ((W.take i).filter (· != v) ++ [c]) ∧ (s.2.1 = if s.1 = -1 then -1 else min (G s.1.toNat) (farM (mW M) s.1.toNat v)) ∧ s.2.2.1 = (((W.take i).filter (· != v) ++ [c]).length : Int) ∧ s.2.2.2.1 = ((i + 1 : Nat) : Int) ∧ s.2.2.2.2.1 = D.1 ∧ (∀ a, a ≠ r + 5 → a ≠ r + 6 → s.2.2.2.2.2 a = D.2 a) ∧ ArrL (s.2.2.2.2.2 (r + 5)) ((W.take i).filter (· != v) ++ [c]) ∧ (∀ t, i + 1 ≤ t → s.2.2.2.2.2 (r + 5) t = D.2 (r + 5) t) ∧ ∀ x, s.2.2.2.2.2 (r + 6) x = if x ∈ (W.take i).filter (· != v) ++ [c] then min (G x) (farM (mW M) x v) else D.2 (r + 6) x) (b, g, (((W.take i).filter (· != v)).length : Int) + 1, (i : Int) + 1, sA (sA s.2.2.2.2 (r + 6) c (min (G c) (farM (mW M) c v))) (r + 5) ((W.take i).filter (· != v)).length (c : Int)) := fun b g h1 h2 => by
          refine ⟨h1, h2, ?_, rfl, a5, fun a q1 q2 => ?_, a7.snoc (fun j => ?_), fun t ht => ?_, fun x => ?_⟩
          · rw [List.length_append]; rfl
          · funext j
            rw [sA2, if_neg (fun h => q1 h.1), sA2, if_neg (fun h => q2 h.1), a6 a q1 q2]
          · rw [sA2]
            by_cases qj : j = ((W.take i).filter (· != v)).length
            · rw [if_pos ⟨rfl, qj⟩, if_pos qj]
            · rw [if_neg (fun h => qj h.2), if_neg qj, sA2, if_neg (by omega)]
          · rw [sA2, if_neg (by omega), sA2, if_neg (by omega)]
            exact a8 t (by omega)
          · rw [sA2, if_neg (by omega), sA2]
            by_cases qx : x = c
            · subst qx
              rw [if_pos ⟨rfl, rfl⟩, if_pos (by simp)]
            · rw [if_neg (fun h => qx h.2), a9]
              by_cases qm : x ∈ (W.take i).filter (· != v)
              · rw [if_pos qm, if_pos (List.mem_append_left _ qm)]
              · rw [if_neg qm, if_neg (fun h => by
                  rcases List.mem_append.mp h with h | h
                  · exact qm h
                  · exact qx (by simpa using h))]
        have hne : ¬ ((c : Int) = -1) := by omega
        rcases sb with h | ⟨b, hb1, hb2⟩
        · refine ⟨((c : Int), min (G c) (farM (mW M) c v), (((W.take i).filter (· != v)).length : Int) + 1, (i : Int) + 1, sA (sA s.2.2.2.2 (r + 6) c (min (G c) (farM (mW M) c v))) (r + 5) ((W.take i).filter (· != v)).length (c : Int)), ?_, rest _ _ (by rw [fsn, h]; rfl) (by rw [if_neg hne]; rfl)⟩
          rw [h, if_pos rfl] at a2
          simp (disch := omega) only [a4, e7, gd_t, if_t, tn, e1, if_f ne, ef, ob_some, e6, sq_eq, a3, a2]
        · have hbb := hG b hb2
          have hbf := fb b hb2
          have hne2 : ¬ ((b : Int) = -1) := by omega
          have hne3 : ((b : Int) == -1) = false := by simp
          rw [hb1, if_neg hne2, tn] at a2
          by_cases q : min (G b) (farM (mW M) b v) < min (G c) (farM (mW M) c v)
          · refine ⟨((c : Int), min (G c) (farM (mW M) c v), (((W.take i).filter (· != v)).length : Int) + 1, (i : Int) + 1, sA (sA s.2.2.2.2 (r + 6) c (min (G c) (farM (mW M) c v))) (r + 5) ((W.take i).filter (· != v)).length (c : Int)), ?_, rest _ _ (by rw [fsn, hb1, tn, hne3, decide_eq_true q]; rfl) (by rw [if_neg hne]; rfl)⟩
            simp (disch := omega) only [a4, e7, gd_t, if_t, tn, e1, if_f ne, ef, ob_some, e6, sq_eq, a3, a2, if_t q]
          · refine ⟨((b : Int), min (G b) (farM (mW M) b v), (((W.take i).filter (· != v)).length : Int) + 1, (i : Int) + 1, sA (sA s.2.2.2.2 (r + 6) c (min (G c) (farM (mW M) c v))) (r + 5) ((W.take i).filter (· != v)).length (c : Int)), ?_, rest _ _ (by rw [fsn, hb1, tn, hne3, decide_eq_false q]; rfl) (by rw [if_neg hne2]; rfl)⟩
            simp (disch := omega) only [a4, e7, gd_t, if_t, tn, e1, if_f ne, ef, ob_some, e6, sq_eq, a3, a2, if_f q, hb1])
  rw [List.take_length] at i1 i3 i7 i9
  refine ⟨sF s'.2.2.2.2 r 7 ((W.filter (· != v)).length : Int), ?_, ⟨fun a k h1 h2 => ?_, fun a h1 h2 h3 => ?_⟩, ?_, ⟨?_, i7⟩, fun c hm => ?_⟩
  · rw [e]
    refine loopF_inr ?_
    have e7 : s'.2.2.2.2.1 r 7 = (W.length : Int) := by rw [i5]; exact w1
    simp (disch := omega) only [i4, e7, gd_t, if_f, sq_eq, done_some, i3, i1]
  · rw [sF1, if_neg (fun h => h2 h.1 h.2), i5]
  · rw [sF2, i6 a h1 h2]
  · rw [sF2, i6 _ (by omega) (by omega)]
  · rw [sF1, if_pos ⟨rfl, rfl⟩]
  · rw [sF2, i9, if_pos hm]
