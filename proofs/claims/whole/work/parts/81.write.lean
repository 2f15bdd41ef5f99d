theorem bt6 : BT (strB 6) := by intro v hv; simp [strB, strBs] at hv; omega
theorem bt7 : BT (strB 7) := by intro v hv; simp [strB, strBs] at hv; omega
theorem bt8 : BT (strB 8) := by intro v hv; simp [strB, strBs] at hv; omega
theorem bt9 : BT (strB 9) := by intro v hv; simp [strB, strBs] at hv; omega
theorem bt10 : BT (strB 10) := by intro v hv; simp [strB, strBs] at hv
theorem bt11 : BT (strB 11) := by intro v hv; simp [strB, strBs] at hv; omega
theorem bt12 : BT (strB 12) := by intro v hv; simp [strB, strBs] at hv; omega
theorem X7_putHead {D : DT} {M : MS} (O : MOK M) {z r : Nat} (hz : z < mZ M) (hr : r < mH M) (C : ChartRep D 2 M) {t : List Int} (hw : WR D t) (hl : t.length + 15 ≤ 1600) : ∃ D', m_X7_putHead 2 (z : Int) (r : Int) D = some D' ∧ WKp D D' ∧ WR D' (t ++ [114, 111, 119, 32] ++ nameT M z ++ [32] ++ numT (r : Int) ++ [58, 32]) := by
  have d := O.2.1
  have z8 := O.2.2.1
  have nm := O.nm hz
  obtain ⟨D1, e1, e2, e3⟩ := X7_putText bt6 (by decide) D t hw (by show t.length + 4 ≤ 1600; omega)
  have e3' : WR D1 (t ++ [114, 111, 119, 32]) := e3
  have C1 := e2.chart C
  have loop : ∃ D', m_X7_putHead_9 2 (z : Int) (r : Int) (0, D1) = some D' ∧ WKp D1 D' ∧ WR D' (t ++ [114, 111, 119, 32] ++ nameT M z ++ [32] ++ numT (r : Int) ++ [58, 32]) := by
    unfold m_X7_putHead_9
    obtain ⟨s', ⟨i1, i2, i3⟩, e⟩ := loop_inv (f := fun s : Int × DT =>
      gd ((0 : Int) ≤ (z : Int) ∧ (z : Int) < (8 : Int)) (
      gd (InR s.1 ∧ InR (s.2.2 (2 + 7) (Int.toNat (z : Int)))) (if s.1 < (s.2.2 (2 + 7) (Int.toNat (z : Int))) then (
        gd ((0 : Int) ≤ (((z : Int) * 6) + s.1) ∧ (((z : Int) * 6) + s.1) < (48 : Int)) (
        (m_X7_put (s.2.2 (2 + 6) (Int.toNat (((z : Int) * 6) + s.1))) s.2).bind (fun D33 =>
        some (.inl ((s.1 + 1), D33))
        ))
      ) else (
        done (
        (m_X7_putText 7 s.2).bind (fun D45 =>
        (m_X7_putNumber (r : Int) D45).bind (fun D50 =>
        (m_X7_putText 8 D50).bind (fun D56 =>
        some D56
        )))
        )
      ))
      )) (fun k s => s.1 = (k : Int) ∧ WKp D1 s.2 ∧ WR s.2 (t ++ [114, 111, 119, 32] ++ (List.range k).map (fun k => mN M (6 * z + k)))) (mNL M z) (s := (0, D1)) ⟨rfl, WKp.refl _, by simpa using e3'⟩ (fun k s hk ⟨a1, a2, a3⟩ => by
        have C2 := a2.chart C1
        obtain ⟨n1, n2⟩ := C2.2.2.2 z hz
        have n3 := n2 k hk
        have nb := nm.2.2 k hk
        have k1 : (z : Int) * 6 + (k : Int) = ((6 * z + k : Nat) : Int) := by omega
        obtain ⟨D', w1, w2, w3⟩ := X7_put (v := mN M (6 * z + k)) (by omega) s.2 _ a3 (by
          simp only [List.length_append, List.length_map, List.length_range, List.length_cons, List.length_nil]
          omega)
        refine ⟨((k : Int) + 1, D'), ?_, rfl, a2.trans w2, ?_⟩
        · simp (disch := omega) only [a1, tn, n1, gd_t, if_t, k1, n3, w1, ob_some]
        · rw [List.range_succ, List.map_append, ← List.append_assoc]
          exact w3)
    have C2 := i2.chart C1
    obtain ⟨n1, n2⟩ := C2.2.2.2 z hz
    have nl := name_len M z
    have i3' : WR s'.2 (t ++ [114, 111, 119, 32] ++ nameT M z) := i3
    have rl := num_len (r : Int)
    obtain ⟨D3, f1, f2, f3⟩ := X7_putText bt7 (by decide) s'.2 _ i3' (by
      simp only [List.length_append, List.length_cons, List.length_nil, nl]
      show t.length + 4 + mNL M z + 1 ≤ 1600
      omega)
    have f3' : WR D3 (t ++ [114, 111, 119, 32] ++ nameT M z ++ [32]) := f3
    obtain ⟨D4, g1, g2, g3⟩ := X7_putNumber (n := (r : Int)) (by omega) D3 _ f3' (by
      simp only [List.length_append, List.length_cons, List.length_nil, nl]
      omega)
    obtain ⟨D5, h1, h2, h3⟩ := X7_putText bt8 (by decide) D4 _ g3 (by
      simp only [List.length_append, List.length_cons, List.length_nil, nl]
      show t.length + 4 + mNL M z + 1 + (numT (r : Int)).length + 2 ≤ 1600
      omega)
    refine ⟨D5, ?_, ((i2.trans f2).trans g2).trans h2, h3⟩
    rw [e]
    refine loopF_inr ?_
    simp (disch := omega) only [i1, tn, n1, gd_t, if_f, f1, g1, h1, ob_some, done_some]
  obtain ⟨D2, l1, l2, l3⟩ := loop
  refine ⟨D2, ?_, e2.trans l2, l3⟩
  simp only [m_X7_putHead, e1, ob_some, l1]
theorem rn_pos {l : List Nat} {k : Nat} (hk : k ≤ l.length) : (l.take k).length = k := by rw [List.length_take]; omega
theorem X7_putRuns {D : DT} {M : MS} (O : MOK M) {z r : Nat} (hz : z < mZ M) (hr : r < mH M) (C : ChartRep D 2 M) {t : List Int} (hw : WR D t) (hl : t.length + 85 ≤ 1600) : ∃ D', m_X7_putRuns 2 (z : Int) (r : Int) ((begL M (z : Int) r).length : Int) D = some D' ∧ WKp D D' ∧ WR D' (t ++ rnL M (z : Int) r (begL M (z : Int) r) ++ [59]) := by
  have d := O.2.1
  have z8 := O.2.2.1
  have bl := beg_le O (z : Int) r
  unfold m_X7_putRuns m_X7_putRuns_3
  obtain ⟨s', ⟨i1, i2, i3⟩, e⟩ := loop_inv (f := fun s : Int × DT =>
    gd (InR s.1 ∧ InR ((begL M (z : Int) r).length : Int)) (if s.1 < ((begL M (z : Int) r).length : Int) then (
      gd (InR s.1) (if 0 < s.1 then (
        (m_X7_putText 9 s.2).bind (fun D23 =>
        (m_X1_runEdge 2 (z : Int) (r : Int) s.1 0 D23).bind (fun r33 =>
        (m_X7_putNumber r33 D23).bind (fun D36 =>
        (m_X7_putText 11 D36).bind (fun D42 =>
        (m_X1_runEdge 2 (z : Int) (r : Int) s.1 1 D42).bind (fun r52 =>
        (m_X7_putNumber r52 D42).bind (fun D55 =>
        some (.inl ((s.1 + 1), D55))
        ))))))
      ) else (
        (m_X7_putText 10 s.2).bind (fun D23 =>
        (m_X1_runEdge 2 (z : Int) (r : Int) s.1 0 D23).bind (fun r33 =>
        (m_X7_putNumber r33 D23).bind (fun D36 =>
        (m_X7_putText 11 D36).bind (fun D42 =>
        (m_X1_runEdge 2 (z : Int) (r : Int) s.1 1 D42).bind (fun r52 =>
        (m_X7_putNumber r52 D42).bind (fun D55 =>
        some (.inl ((s.1 + 1), D55))
        ))))))
      ))
    ) else (
      done (
      (m_X7_putText 12 s.2).bind (fun D67 =>
      some D67
      )
      )
    ))) (fun k s => s.1 = (k : Int) ∧ WKp D s.2 ∧ WR s.2 (t ++ rnL M (z : Int) r ((begL M (z : Int) r).take k))) (begL M (z : Int) r).length (s := (0, D)) ⟨rfl, WKp.refl _, by simpa [rnL, rnF] using hw⟩ (fun k s hk ⟨a1, a2, a3⟩ => by
      have hxm := beg_mem (List.getElem_mem hk)
      have rb := reM_b (ow := mO M) (se := mS M) (y := (z : Int)) (r := r) (w := mW M) (x := (begL M (z : Int) r)[k]) (mW M) hxm
      have ts : (begL M (z : Int) r).take (k + 1) = (begL M (z : Int) r).take k ++ [(begL M (z : Int) r)[k]] := List.take_succ_eq_append_getElem hk
      have tk := rn_pos (l := begL M (z : Int) r) (k := k) (by omega)
      have rl := rn_len M (z : Int) r ((begL M (z : Int) r).take k)
      rw [tk] at rl
      have edge : ∀ E : DT, WKp D E → ∀ sd : Int, (sd = 0 ∨ sd = 1) → m_X1_runEdge 2 (z : Int) (r : Int) (k : Int) sd E = some (if sd = 0 then ((begL M (z : Int) r)[k] : Int) else (reM (mO M) (mS M) (z : Int) (mW M) r (mW M) (begL M (z : Int) r)[k] : Int)) := fun E hE sd hsd => by
        have := X1_runEdge (x := 0) (n := 0) (i := (k : Int)) (sd := sd) (hE.chart C).1 O.2.2.2.2.1 z8 (y := (z : Int)) (by omega) hr (by omega) (by omega) (by omega) (mW M) (by omega)
        rw [ed_beg hk] at this
        exact this
      rw [ts, rnL_snoc, tk]
      unfold runT
      generalize (begL M (z : Int) r)[k] = x at *
      generalize reM (mO M) (mS M) (z : Int) (mW M) r (mW M) x = y at *
      have nx := num_len (x : Int)
      have ny := num_len (y : Int)
      -- the sign between, then the run
      have tail : ∀ (E : DT) (u : List Int), WKp D E → WR E u → u.length + 5 ≤ 1600 → ∃ E', ((m_X1_runEdge 2 (z : Int) (r : Int) (k : Int) 0 E).bind (fun r33 =>
        (m_X7_putNumber r33 E).bind (fun D36 =>
        (m_X7_putText 11 D36).bind (fun D42 =>
        (m_X1_runEdge 2 (z : Int) (r : Int) (k : Int) 1 D42).bind (fun r52 =>
        (m_X7_putNumber r52 D42).bind (fun D55 =>
        some ((.inl (((k : Int) + 1), D55)) : (Int × DT) ⊕ DT)
        )))))) = some (.inl ((k : Int) + 1, E')) ∧ WKp D E' ∧ WR E' (u ++ (numT (x : Int) ++ [45] ++ numT (y : Int))) := fun E u hE hu hul => by
        have g0 := edge E hE 0 (Or.inl rfl)
        rw [if_pos rfl] at g0
        obtain ⟨D3, f1, f2, f3⟩ := X7_putNumber (n := (x : Int)) (by omega) E u hu (by omega)
        obtain ⟨D4, f4, f5, f6⟩ := X7_putText bt11 (by decide) D3 _ f3 (by
          rw [List.length_append]
          show u.length + (numT (x : Int)).length + 1 ≤ 1600
          omega)
        have f6' : WR D4 (u ++ numT (x : Int) ++ [45]) := f6
        have g1 := edge D4 ((hE.trans f2).trans f5) 1 (Or.inr rfl)
        rw [if_neg (by omega)] at g1
        obtain ⟨D5, f7, f8, f9⟩ := X7_putNumber (n := (y : Int)) (by omega) D4 _ f6' (by
          simp only [List.length_append, List.length_cons, List.length_nil]
          omega)
        refine ⟨D5, ?_, ((hE.trans f2).trans f5).trans f8, ?_⟩
        · simp only [g0, ob_some, f1, f4, g1, f7]
        · simp only [List.append_assoc] at f9 ⊢
          exact f9
      by_cases q : k = 0
      · subst q
        obtain ⟨D2, w1, w2, w3⟩ := X7_putText bt10 (by decide) s.2 _ a3 (by
          rw [List.length_append]
          show t.length + _ + 0 ≤ 1600
          omega)
        have w3' : WR D2 (t ++ rnL M (z : Int) r ((begL M (z : Int) r).take 0)) := by simpa [strB, strBs] using w3
        obtain ⟨E', v1, v2, v3⟩ := tail D2 _ (a2.trans w2) w3' (by rw [List.length_append]; omega)
        have z0 : ((0 : Nat) : Int) = 0 := rfl
        refine ⟨(((0 : Nat) : Int) + 1, E'), ?_, rfl, v2, ?_⟩
        · have nq : ¬ (0 : Int) < ((0 : Nat) : Int) := by omega
          simp (disch := omega) only [a1, gd_t, if_t, if_f nq, w1, ob_some, v1]
        · rw [if_pos rfl]
          simp only [List.append_nil, ← List.append_assoc] at v3 ⊢
          exact v3
      · obtain ⟨D2, w1, w2, w3⟩ := X7_putText bt9 (by decide) s.2 _ a3 (by
          rw [List.length_append]
          show t.length + _ + 2 ≤ 1600
          omega)
        have w3' : WR D2 (t ++ rnL M (z : Int) r ((begL M (z : Int) r).take k) ++ [44, 32]) := w3
        obtain ⟨E', v1, v2, v3⟩ := tail D2 _ (a2.trans w2) w3' (by
          simp only [List.length_append, List.length_cons, List.length_nil]
          omega)
        refine ⟨((k : Int) + 1, E'), ?_, rfl, v2, ?_⟩
        · simp (disch := omega) only [a1, gd_t, if_t, w1, ob_some, v1]
        · rw [if_neg q]
          simp only [← List.append_assoc] at v3 ⊢
          exact v3)
  rw [List.take_length] at i3
  have rl := rn_len M (z : Int) r (begL M (z : Int) r)
  obtain ⟨D2, w1, w2, w3⟩ := X7_putText bt12 (by decide) s'.2 _ i3 (by
    rw [List.length_append]
    show t.length + _ + 1 ≤ 1600
    omega)
  refine ⟨D2, ?_, i2.trans w2, w3⟩
  rw [e]
  refine loopF_inr ?_
  simp (disch := omega) only [i1, gd_t, if_f, w1, ob_some, done_some]
theorem X7_writeZone {D : DT} {M : MS} (O : MOK M) {z : Nat} (hz : z < mZ M) (C : ChartRep D 2 M) : ∃ D', m_X7_writeZone 2 (z : Int) D = some D' ∧ WKp D D' ∧ WR D' (allT M z (mH M)) := by
  have d := O.2.1
  have z8 := O.2.2.1
  unfold m_X7_writeZone
  simp only [sq_eq]
  unfold m_X7_writeZone_7
  obtain ⟨s', ⟨i1, i2, i3⟩, e⟩ := loop_inv (f := fun s : Int × DT =>
    gd (InR s.1 ∧ InR (s.2.1 2 1)) (if s.1 < (s.2.1 2 1) then (
      (m_X1_runsOf 2 (z : Int) s.1 s.2).bind (fun r18 =>
      gd (InR r18) (if 0 < r18 then (
        (m_X7_putHead 2 (z : Int) s.1 s.2).bind (fun D32 =>
        (m_X7_putRuns 2 (z : Int) s.1 r18 D32).bind (fun D41 =>
        some (.inl ((s.1 + 1), D41))
        ))
      ) else (
        some (.inl ((s.1 + 1), s.2))
      ))
      )
    ) else (
      done (
      some s.2
      )
    ))) (fun k s => s.1 = (k : Int) ∧ WKp D s.2 ∧ WR s.2 (allT M z k)) (mH M) (s := (0, sF D 65 0 0)) ⟨rfl, fun a ha => ⟨by funext k; rw [sF1, if_neg (by omega)], rfl⟩, rfl, ArrT.nil⟩ (fun r s hr ⟨a1, a2, a3⟩ => by
      have C2 := a2.chart C
      have eh : s.2.1 2 1 = (mH M : Int) := C2.1.1.2
      have er : m_X1_runsOf 2 (z : Int) (r : Int) s.2 = some ((begL M (z : Int) r).length : Int) := by
        rw [X1_runsOf C2.1 O.2.2.2.2.1 z8 (by omega) hr, beg_cnt]
      have bl := beg_le O (z : Int) r
      have al := all_len O hz r
      rw [allT]
      by_cases q : (begL M (z : Int) r).length = 0
      · have er0 : rowT M z r = [] := by unfold rowT; rw [if_pos q]
        rw [er0, List.append_nil]
        refine ⟨((r : Int) + 1, s.2), ?_, rfl, a2, a3⟩
        simp (disch := omega) only [a1, eh, gd_t, if_t, er, ob_some, if_f]
      · obtain ⟨D2, w1, w2, w3⟩ := X7_putHead O hz hr C2 a3 (by omega)
        have nm := O.nm hz
        have rl := num_len (r : Int)
        obtain ⟨D3, v1, v2, v3⟩ := X7_putRuns O hz hr (w2.chart C2) w3 (by
          simp only [List.length_append, List.length_cons, List.length_nil, name_len]
          omega)
        have er0 : allT M z r ++ rowT M z r = allT M z r ++ [114, 111, 119, 32] ++ nameT M z ++ [32] ++ numT (r : Int) ++ [58, 32] ++ rnL M (z : Int) r (begL M (z : Int) r) ++ [59] := by
          unfold rowT
          rw [if_neg q]
          simp only [← List.append_assoc]
        rw [er0]
        refine ⟨((r : Int) + 1, D3), ?_, rfl, (a2.trans w2).trans v2, v3⟩
        simp (disch := omega) only [a1, eh, gd_t, if_t, er, ob_some, w1, v1])
  refine ⟨s'.2, ?_, i2, i3⟩
  rw [e]
  refine loopF_inr ?_
  have eh : s'.2.1 2 1 = (mH M : Int) := (i2.chart C).1.1.2
  simp (disch := omega) only [i1, eh, gd_t, if_f, done_some]
