theorem wtL_nil (M : MS) (z : Int) : wtL M z [] = (List.range (nC M)).filter (isL M z) := by
  unfold wtL
  congr 1
  funext c
  simp
theorem wtL_snoc (M : MS) (z : Int) (l : List Nat) (v : Nat) : wtL M z (l ++ [v]) = (wtL M z l).filter (· != v) := by
  unfold wtL
  rw [List.filter_filter]
  congr 1
  funext c
  by_cases q : c = v
  · subst q; simp
  · simp [q]
theorem wtL_le (M : MS) (z : Int) (l : List Nat) : (wtL M z l).length ≤ nC M := fr_le _ _
theorem nxO_snoc (M : MS) (z : Int) (l : List Nat) (v : Nat) : nxO M z (l ++ [v]) = foldB (fun c b => decide (min (gapM (mW M) l b) (farM (mW M) b v) < min (gapM (mW M) l c) (farM (mW M) c v))) ((wtL M z l).filter (· != v)) := by
  have h : (l ++ [v]).isEmpty = false := by simp
  unfold nxO
  rw [h]
  show nxtM M z (l ++ [v]) = _
  unfold nxtM
  rw [argB_fold, ← wtL_snoc]
  simp only [gapM_snoc]
  rfl
/-- the loop of ranking -/
theorem rank_loop {D : DT} {r hc : Nat} {M : MS} {z : Nat} (hr : hc + 8 < r) (C : CMap D hc (mW M) (mH M) (mO M) (mS M)) (O : MOK M) (hW : WtRep D r (wtL M (z : Int) [])) (hG : ∀ c, c < nC M → isL M (z : Int) c = true → D.2 (r + 6) c = 1000) : ∃ D', m_X6_rank_15 r hc (midM M (z : Int), 0, D) = some D' ∧ RKp D D' r ∧ RanksOf D' r M z ∧ ∀ c, ¬ (c < nC M ∧ isL M (z : Int) c = true) → D'.2 (r + 1) c = D.2 (r + 1) c := by
  have n4 := nCb O
  have zne : (z : Int) ≠ -1 := by omega
  have g0 : ∀ c, c ∈ wtL M z (ordN M z 0) → D.2 (r + 6) c = gapM (mW M) (ordN M z 0) c := fun c hc => by
    have h := (fr_mem.mp hc)
    have : isL M z c = true := by
      have := h.2
      simp [ordN] at this
      exact this
    rw [hG c h.1 this, ordN, gapM, List.foldl_nil]
  have n0 : midM M z = nxO M z (ordN M z 0) := by
    unfold nxO ordN
    rw [if_pos (show ([] : List Nat).isEmpty = true from rfl)]
  unfold m_X6_rank_15
  refine loop_wf (fun s : Int × Int × DT => nC M + 1 - s.2.1.toNat) (fun s : Int × Int × DT => ∃ k : Nat, k ≤ nC M ∧ (ordN M z k).length = k ∧ s.2.1 = (k : Int) ∧ s.1 = nxO M z (ordN M z k) ∧ RKp D s.2.2 r ∧ WtRep s.2.2 r (wtL M z (ordN M z k)) ∧ (∀ c, c ∈ wtL M z (ordN M z k) → s.2.2.2 (r + 6) c = gapM (mW M) (ordN M z k) c) ∧ (∀ i (hi : i < (ordN M z k).length), s.2.2.2 (r + 1) (ordN M z k)[i] = (i : Int)) ∧ ∀ c, c ∉ ordN M z k → s.2.2.2 (r + 1) c = D.2 (r + 1) c) (fun D' => RKp D D' r ∧ RanksOf D' r M z ∧ ∀ c, ¬ (c < nC M ∧ isL M (z : Int) c = true) → D'.2 (r + 1) c = D.2 (r + 1) c) (fun s ⟨k, hk, hl, a1, a2, a3, a4, a5, a6, a7⟩ => ?_) ⟨0, Nat.zero_le _, rfl, rfl, n0, RKp.refl _ _, hW, g0, fun i hi => absurd hi (by simp [ordN]), fun _ _ => rfl⟩
  · have om := ordN_ok M z k
    rcases nxO_cases M z (ordN M z k) with ⟨h1, h2⟩ | ⟨v, h1, h2, h3, h4⟩
    · refine Or.inr ⟨s.2.2, ?_, a3, ?_, fun c hc => a7 c (fun h => hc (om.2.1 c h))⟩
      · rw [h1] at a2
        simp (disch := omega) only [a2, gd_t, ↓reduceIte, done_some]
      · have eo := ord_of_stuck h1 hk
        intro c hc hcl
        have hm := h2 c hc hcl
        obtain ⟨i, hi, rfl⟩ := List.getElem_of_mem hm
        rw [a6 i hi]
        have := plc_get (M := M) zne (i := i) (by rw [eo]; exact hi)
        simp only [eo] at this
        exact this.symm
    · have on : ordN M z (k + 1) = ordN M z k ++ [v] := by rw [ordN_s, if_neg (by omega), h4]; rfl
      have ol := ordN_le M z (k + 1)
      have kl : k + 1 ≤ nC M := by
        rw [on, List.length_append, hl] at ol
        exact ol
      have wm : ∀ c, c ∈ wtL M z (ordN M z k) → c < nC M := fun c h => (fr_mem.mp h).1
      have K1 : RKp s.2.2 (sA s.2.2 (r + 1) v (k : Int)) r := ⟨fun _ _ _ _ => rfl, fun a _ _ h => by funext j; rw [sA2, if_neg (fun hh => h hh.1)]⟩
      obtain ⟨D', e1, e2, e3, e4, e5⟩ := X6_nextAfter (D := sA s.2.2 (r + 1) v (k : Int)) hr ((a3.trans K1).map hr C) O (W := wtL M z (ordN M z k)) ⟨a4.1, fun i hi => by rw [sA2, if_neg (by omega)]; exact a4.2 i hi⟩ wm (fr_nodup _ _) (wtL_le _ _ _) h1 (G := gapM (mW M) (ordN M z k)) (fun c hc => ⟨by rw [sA2, if_neg (by omega)]; exact a5 c hc, gapM_b (fun o ho => (farM_b O.2.1.1 O.2.1.2 (wm c hc) (om.2.1 o ho).1).1)⟩)
      rw [← nxO_snoc] at e1
      rw [← wtL_snoc] at e4 e5
      refine Or.inl ⟨(nxO M z (ordN M z k ++ [v]), (k : Int) + 1, D'), ?_, ⟨k + 1, kl, ?_, rfl, by rw [on], (a3.trans K1).trans e2, by rw [on]; exact e4, fun c hc => ?_, fun i hi => ?_, fun c hc => ?_⟩, ?_⟩
      · rw [h4] at a2
        have ne : ¬ ((v : Int) = -1) := by omega
        simp (disch := omega) only [a2, a1, gd_t, if_f ne, if_t, tn, sq_eq, e1, bnd_some]
      · rw [on, List.length_append, hl]; rfl
      · rw [on] at hc ⊢
        rw [gapM_snoc]
        exact e5 c hc
      · simp only [on] at hi ⊢
        show D'.2 (r + 1) _ = _
        rw [e3, sA2]
        by_cases qi : i < (ordN M z k).length
        · rw [List.getElem_append_left qi]
          have : (ordN M z k)[i] ≠ v := fun h => h3 (h ▸ List.getElem_mem qi)
          rw [if_neg (fun h => this h.2)]
          exact a6 i qi
        · rw [List.length_append] at hi
          simp at hi
          have ei : i = (ordN M z k).length := by omega
          subst ei
          rw [List.getElem_concat_length rfl, if_pos ⟨rfl, rfl⟩, hl]
      · rw [on] at hc
        show D'.2 (r + 1) _ = _
        rw [e3, sA2, if_neg (fun h => hc (by rw [h.2]; simp))]
        exact a7 c (fun h => hc (by simp [h]))
      · simp only [a1]
        omega
theorem X6_rank {D : DT} {r hc : Nat} {M : MS} {z : Nat} (hr : hc + 8 < r) (C : CMap D hc (mW M) (mH M) (mO M) (mS M)) (O : MOK M) (hz : z < mZ M) : ∃ D', m_X6_rank r hc (z : Int) D = some D' ∧ RKp D D' r ∧ RanksOf D' r M z ∧ ∀ c, ¬ (c < nC M ∧ isL M (z : Int) c = true) → D'.2 (r + 1) c = D.2 (r + 1) c := by
  have z8 := O.2.2.1
  obtain ⟨D1, e1, e2, e3, e4, e5, e6, e7, e8⟩ := X6_gather (D := D) (z := (z : Int)) hr C O (by omega)
  have f1 := X6_firstOf (e2.map hr C) O e4 e6 e7 e8
  rw [← wtL_nil] at e4
  obtain ⟨D2, g1, g2, g3, g4⟩ := rank_loop hr (e2.map hr C) O e4 e5
  refine ⟨D2, ?_, e2.trans g2, g3, fun c h => by rw [g4 c h, e3]⟩
  simp only [m_X6_rank, e1, f1, ob_some, g1]
