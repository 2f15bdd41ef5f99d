/-- the order of one zone -/
theorem ref_zone {D : DT} {M : MS} {z : Nat} (R : RMap D (mW M) (mH M) (mO M) (mS M)) (O : MOK M) (hz : z < mZ M) (h87 : D.2 87 z = fstM M z) (h88 : ∀ c, c < nC M → isL M z c = true → D.2 88 c = -1) (h89 : ∀ c, c < nC M → D.2 89 c = 268435456) : ∃ E, m_X11_laysOrders_74 (z : Int) (0, midM M z, D) = some (.inl ((z : Int) + 1, E)) ∧ OKeep D E ∧ (∀ j, E.2 87 j = if j = z + 1 then fstM M (z + 1) else D.2 87 j) ∧ (∀ j : Nat, (j : Int) < fstM M z → E.2 86 j = D.2 86 j) ∧ (∀ i (hi : i < (ordL M (z : Int)).length), E.2 86 ((fstM M z).toNat + i) = ((ordL M (z : Int))[i] : Int)) ∧ ∀ c, E.2 88 c = if c < nC M ∧ isL M z c = true then plcM M c else D.2 88 c := by
  have n4 := nCb O
  have z8 := O.2.2.1
  have zne : (z : Int) ≠ -1 := by omega
  have fz := fst_b O z
  have fz1 := fst_b O (z + 1)
  have fs := fst_s M z
  have ll : ((ordL M (z : Int)).length : Int) = ldM M z := ord_len M z
  have n0 : midM M z = nxO M z (ordN M z 0) := by
    unfold nxO ordN
    rw [if_pos (show ([] : List Nat).isEmpty = true from rfl)]
  have key : ∃ r, m_X11_laysOrders_74 (z : Int) (0, midM M z, D) = some r ∧ ∃ E : DT, r = .inl ((z : Int) + 1, E) ∧ OKeep D E ∧ (∀ j, E.2 87 j = if j = z + 1 then fstM M (z + 1) else D.2 87 j) ∧ (∀ j : Nat, (j : Int) < fstM M z → E.2 86 j = D.2 86 j) ∧ (∀ i (hi : i < (ordL M (z : Int)).length), E.2 86 ((fstM M z).toNat + i) = ((ordL M (z : Int))[i] : Int)) ∧ ∀ c, E.2 88 c = if c < nC M ∧ isL M z c = true then plcM M c else D.2 88 c := by
    unfold m_X11_laysOrders_74
    refine loop_wf (fun s : Int × Int × DT => nC M + 1 - s.1.toNat) (fun s : Int × Int × DT => ∃ k : Nat, k ≤ nC M ∧ (ordN M z k).length = k ∧ s.1 = (k : Int) ∧ s.2.1 = nxO M z (ordN M z k) ∧ s.2.2.1 = D.1 ∧ (∀ b, b ≠ 86 → b ≠ 88 → b ≠ 89 → s.2.2.2 b = D.2 b) ∧ (∀ j : Nat, (j : Int) < fstM M z → s.2.2.2 86 j = D.2 86 j) ∧ (∀ i (hi : i < (ordN M z k).length), s.2.2.2 86 ((fstM M z).toNat + i) = ((ordN M z k)[i] : Int) ∧ s.2.2.2 88 ((ordN M z k)[i]) = (i : Int)) ∧ (∀ c, c ∉ ordN M z k → s.2.2.2 88 c = D.2 88 c) ∧ ∀ c, c < nC M → isL M z c = true → c ∉ ordN M z k → (s.2.2.2 89 c = 268435456 ∧ gapM (mW M) (ordN M z k) c = 1000) ∨ (s.2.2.2 89 c = gapM (mW M) (ordN M z k) c ∧ 0 ≤ gapM (mW M) (ordN M z k) c ∧ gapM (mW M) (ordN M z k) c ≤ 1000)) _ (fun s hs => ?_) ⟨0, Nat.zero_le _, rfl, rfl, n0, rfl, fun _ _ _ _ => rfl, fun _ _ => rfl, fun i hi => absurd hi (by simp [ordN]), fun _ _ => rfl, fun c hc _ _ => Or.inl ⟨h89 c hc, rfl⟩⟩
    obtain ⟨k, hk, hl, a1, a2, a3, a4, a5, a6, a7, a8⟩ := hs
    have om := ordN_ok M z k
    have e87 : s.2.2.2 87 z = fstM M z := by rw [a4 87 (by omega) (by omega) (by omega)]; exact h87
    rcases nxO_cases M z (ordN M z k) with ⟨h1, h2⟩ | ⟨v, h1, h2, h3, h4⟩
    · have eo := ord_of_stuck h1 hk
      have kl : (k : Int) = ldM M z := by rw [← ll, eo, hl]
      refine Or.inr ⟨.inl ((z : Int) + 1, sA s.2.2 87 (z + 1) (fstM M z + (k : Int))), ?_, _, rfl, ⟨a3, fun b hb => ?_⟩, fun j => ?_, fun j hj => ?_, fun i hi => ?_, fun c => ?_⟩
      · rw [h1] at a2
        have c1 : (z : Int) + 1 = ((z + 1 : Nat) : Int) := rfl
        simp (disch := omega) only [a2, a1, gd_t, ↓reduceIte, tn, e87, c1, sq_eq, done_some]
      · funext j
        rw [sA2, if_neg (by omega), a4 b hb.1 hb.2.2.1 hb.2.2.2]
      · rw [sA2]
        by_cases q : j = z + 1
        · rw [if_pos ⟨rfl, q⟩, if_pos q, fs, kl]
        · rw [if_neg (fun h => q h.2), if_neg q, a4 87 (by omega) (by omega) (by omega)]
      · rw [sA2, if_neg (by omega)]
        exact a5 j hj
      · rw [sA2, if_neg (by omega)]
        have hi2 : i < (ordN M z k).length := by rw [← eo]; exact hi
        simp only [eo]
        exact (a6 i hi2).1
      · rw [sA2, if_neg (by omega)]
        by_cases q : c < nC M ∧ isL M z c = true
        · rw [if_pos q]
          obtain ⟨i, hi, rfl⟩ := List.getElem_of_mem (h2 c q.1 q.2)
          rw [(a6 i hi).2]
          have := plc_get (M := M) zne (i := i) (by rw [eo]; exact hi)
          simp only [eo] at this
          exact this.symm
        · rw [if_neg q]
          exact a7 c (fun h => q (om.2.1 c h))
    · have on : ordN M z (k + 1) = ordN M z k ++ [v] := by rw [ordN_s, if_neg (by omega), h4]; rfl
      have ol := ordN_le M z (k + 1)
      have kn : k + 1 ≤ nC M := by
        rw [on, List.length_append, hl] at ol
        exact ol
      have kl : ((k + 1 : Nat) : Int) ≤ ldM M z := by
        obtain ⟨t, ht⟩ := ordN_pre M z (k + 1) (nC M - (k + 1))
        rw [show k + 1 + (nC M - (k + 1)) = nC M by omega] at ht
        have : (ordL M (z : Int)).length = (k + 1) + t.length := by
          show (ordN M z (nC M)).length = _
          rw [ht, on, List.length_append, List.length_append, hl]
          rfl
        omega
      have R2 : RMap (sA (sA s.2.2 86 ((fstM M z).toNat + k) (v : Int)) 88 v (k : Int)) (mW M) (mH M) (mO M) (mS M) := by
        have e76 : (sA (sA s.2.2 86 ((fstM M z).toNat + k) (v : Int)) 88 v (k : Int)).2 76 = D.2 76 := by
          funext j; rw [sA2, if_neg (by omega), sA2, if_neg (by omega), a4 76 (by omega) (by omega) (by omega)]
        have e78 : (sA (sA s.2.2 86 ((fstM M z).toNat + k) (v : Int)) 88 v (k : Int)).2 78 = D.2 78 := by
          funext j; rw [sA2, if_neg (by omega), sA2, if_neg (by omega), a4 78 (by omega) (by omega) (by omega)]
        have e80 : (sA (sA s.2.2 86 ((fstM M z).toNat + k) (v : Int)) 88 v (k : Int)).2 80 = D.2 80 := by
          funext j; rw [sA2, if_neg (by omega), sA2, if_neg (by omega), a4 80 (by omega) (by omega) (by omega)]
        unfold RMap at *
        rw [e76, e78, e80]
        exact R
      have e88 : ∀ c, (sA (sA s.2.2 86 ((fstM M z).toNat + k) (v : Int)) 88 v (k : Int)).2 88 c = if c = v then (k : Int) else s.2.2.2 88 c := fun c => by
        rw [sA2]
        by_cases q : c = v
        · rw [if_pos ⟨rfl, q⟩, if_pos q]
        · rw [if_neg (fun h => q h.2), if_neg q, sA2, if_neg (by omega)]
      have e89 : ∀ c, (sA (sA s.2.2 86 ((fstM M z).toNat + k) (v : Int)) 88 v (k : Int)).2 89 c = s.2.2.2 89 c := fun c => by
        rw [sA2, if_neg (by omega), sA2, if_neg (by omega)]
      obtain ⟨E, w1, w2, w3, w4⟩ := ref_pass R2 O hz (l := ordN M z k) h1 (k := (k : Int) + 1) (fun c hc hcl => by
        rw [e88 c]
        by_cases q : c = v
        · subst q
          rw [if_pos rfl]
          exact Or.inr ⟨by omega, by omega, by simp⟩
        · rw [if_neg q]
          by_cases qm : c ∈ ordN M z k
          · obtain ⟨i, hi, rfl⟩ := List.getElem_of_mem qm
            rw [(a6 i hi).2]
            exact Or.inr ⟨by omega, by omega, by simp⟩
          · rw [a7 c qm, h88 c hc hcl]
            exact Or.inl ⟨rfl, by simp [q, qm]⟩) (fun c hc hcl hn => by
        rw [e89 c]
        exact a8 c hc hcl (fun h => hn (by simp [h])))
      rw [← on] at w1 w4
      have gb : ∀ c, c < nC M → 0 ≤ gapM (mW M) (ordN M z (k + 1)) c ∧ gapM (mW M) (ordN M z (k + 1)) c ≤ 1000 := fun c hc => gapM_b (fun o ho => (farM_b O.2.1.1 O.2.1.2 hc ((ordN_ok M z (k + 1)).2.1 o ho).1).1)
      refine Or.inl ⟨((k : Int) + 1, nxO M z (ordN M z (k + 1)), E), ?_, ⟨k + 1, kn, by rw [on, List.length_append, hl]; rfl, rfl, rfl, by rw [w2]; exact a3, fun b h1 h2 h3 => ?_, fun j hj => ?_, fun i hi => ?_, fun c hc => ?_, fun c hc hcl hn => Or.inr ⟨w4 c hc hcl hn, gb c hc⟩⟩, by simp only [a1]; omega⟩
      · rw [h4] at a2
        have ne : ¬ ((v : Int) = -1) := by omega
        have et : (fstM M z + (k : Int)).toNat = (fstM M z).toNat + k := by omega
        simp (disch := omega) only [a2, a1, gd_t, if_f ne, tn, e87, et, sq_eq, w1]
      · show E.2 b = _
        rw [w3 b h3]
        funext j
        rw [sA2, if_neg (fun h => h2 h.1), sA2, if_neg (fun h => h1 h.1), a4 b h1 h2 h3]
      · show E.2 86 j = _
        rw [w3 86 (by omega), sA2, if_neg (by omega), sA2, if_neg (by omega)]
        exact a5 j hj
      · show E.2 86 _ = _ ∧ E.2 88 _ = _
        have e86 : ∀ j, (sA (sA s.2.2 86 ((fstM M z).toNat + k) (v : Int)) 88 v (k : Int)).2 86 j = if j = (fstM M z).toNat + k then (v : Int) else s.2.2.2 86 j := fun j => by
          rw [sA2, if_neg (by omega), sA2]
          by_cases q : j = (fstM M z).toNat + k
          · rw [if_pos ⟨rfl, q⟩, if_pos q]
          · rw [if_neg (fun h => q h.2), if_neg q]
        rw [w3 86 (by omega), w3 88 (by omega), e88, e86]
        simp only [on] at hi ⊢
        by_cases qi : i < (ordN M z k).length
        · have nv : (ordN M z k)[i] ≠ v := fun h => h3 (h ▸ List.getElem_mem qi)
          rw [List.getElem_append_left qi, if_neg (by omega), if_neg nv]
          exact a6 i qi
        · rw [List.length_append] at hi
          simp at hi
          have ei : i = (ordN M z k).length := by omega
          subst ei
          rw [List.getElem_concat_length rfl, hl, if_pos rfl, if_pos rfl]
          exact ⟨rfl, rfl⟩
      · rw [on] at hc
        show E.2 88 c = _
        rw [w3 88 (by omega), e88, if_neg (fun h => hc (by rw [h]; simp))]
        exact a7 c (fun h => hc (by simp [h]))
  obtain ⟨r, h1, E, h2, h3⟩ := key
  exact ⟨E, by rw [h1, h2], h3⟩
theorem X11_laysOrders {D : DT} {M : MS} (R : RMap D (mW M) (mH M) (mO M) (mS M)) (O : MOK M) (hZ : D.2 76 2 = (mZ M : Int)) : ∃ E, m_X11_laysOrders D = some E ∧ OKeep D E ∧ OrdRep E M := by
  have n4 := nCb O
  have z8 := O.2.2.1
  unfold m_X11_laysOrders m_X11_laysOrders_2
  obtain ⟨s1, ⟨i1, i2, i3, i4⟩, e⟩ := loop_inv (f := fun s : Int × DT =>
    gd (InR s.1 ∧ InR 384) (if s.1 < 384 then (
      gd ((0 : Int) ≤ s.1 ∧ s.1 < (384 : Int)) (sq (sA s.2 88 (Int.toNat s.1) (-1)) (fun D15 =>
      some ((.inl ((s.1 + 1), D15)) : (Int × DT) ⊕ DT)
      ))
    ) else (
      done (
      gd ((0 : Int) ≤ 0 ∧ 0 < (9 : Int)) (sq (sA s.2 87 (Int.toNat 0) 0) (fun D28 =>
      m_X11_laysOrders_31 (0, D28)
      ))
      )
    ))) (fun k s => s.1 = (k : Int) ∧ s.2.1 = D.1 ∧ (∀ b, b ≠ 88 → s.2.2 b = D.2 b) ∧ ∀ c, c < k → s.2.2 88 c = -1) 384 (s := (0, D)) ⟨rfl, rfl, fun _ _ => rfl, fun _ h => absurd h (by omega)⟩ (fun k s hk ⟨a1, a2, a3, a4⟩ => by
      refine ⟨((k : Int) + 1, sA s.2 88 k (-1)), ?_, rfl, a2, fun b hb => ?_, fun c hc => ?_⟩
      · simp (disch := omega) only [a1, gd_t, if_t, tn, sq_eq]
      · funext j
        rw [sA2, if_neg (fun h => hb h.1), a3 b hb]
      · rw [sA2]
        by_cases q : c = k
        · rw [if_pos ⟨rfl, q⟩]
        · rw [if_neg (fun h => q h.2)]
          exact a4 c (by omega))
  have zones : ∃ E, m_X11_laysOrders_31 (0, sA s1.2 87 0 0) = some E ∧ OKeep D E ∧ OrdRep E M := by
    unfold m_X11_laysOrders_31
    obtain ⟨s2, ⟨j1, j2, j3, j4, j5⟩, e2⟩ := loop_inv (f := fun s : Int × DT =>
      (m_X11_zones s.2).bind (fun r33 =>
      gd (InR s.1 ∧ InR r33) (if s.1 < r33 then (
        (m_X11_middleOf s.1 s.2).bind (fun r43 =>
        m_X11_laysOrders_50 s.1 0 r43 (0, s.2)
        )
      ) else (
        done (
        some s.2
        )
      ))
      )) (fun z s => s.1 = (z : Int) ∧ OKeep D s.2 ∧ (∀ y, y ≤ z → s.2.2 87 y = fstM M y) ∧ (∀ y, y < z → ∀ i (hi : i < (ordL M (y : Int)).length), s.2.2 86 ((fstM M y).toNat + i) = ((ordL M (y : Int))[i] : Int)) ∧ ∀ c, c < nC M → s.2.2 88 c = if hasL M c = true ∧ mO M c < (z : Int) then plcM M c else -1) (mZ M) (s := (0, sA s1.2 87 0 0)) ⟨rfl, ⟨i2, fun b hb => by funext j; rw [sA2, if_neg (by omega), i3 b (by omega)]⟩, fun y hy => by
        have : y = 0 := by omega
        subst this
        rw [sA2, if_pos ⟨rfl, rfl⟩]; rfl, fun y hy => absurd hy (by omega), fun c hc => by
        rw [sA2, if_neg (by omega), i4 c (by omega), if_neg]
        intro h
        have := (hasL_iff.mp h.1).1
        have := (O.2.2.2.2.1 c hc).1
        have := h.2
        omega⟩ (fun z s hz ⟨a1, a2, a3, a4, a5⟩ => by
        have R2 := a2.map R
        have eZ : s.2.2 76 2 = (mZ M : Int) := by rw [a2.2 76 (by omega)]; exact hZ
        have em := X11_middleOf R2 O (z := (z : Int)) (by omega)
        have first : ∃ F, m_X11_laysOrders_50 (z : Int) 0 (midM M z) (0, s.2) = m_X11_laysOrders_74 (z : Int) (0, midM M z, F) ∧ F.1 = s.2.1 ∧ (∀ b, b ≠ 89 → F.2 b = s.2.2 b) ∧ ∀ c, c < nC M → F.2 89 c = 268435456 := by
          unfold m_X11_laysOrders_50
          obtain ⟨s3, ⟨l1, l2, l3, l4⟩, e3⟩ := loop_inv (f := fun t : Int × DT =>
            (m_X11_cells t.2).bind (fun r53 =>
            gd (InR t.1 ∧ InR r53) (if t.1 < r53 then (
              gd ((0 : Int) ≤ t.1 ∧ t.1 < (384 : Int)) (sq (sA t.2 89 (Int.toNat t.1) 268435456) (fun D67 =>
              some (.inl ((t.1 + 1), D67))
              ))
            ) else (
              done (
              m_X11_laysOrders_74 (z : Int) (0, midM M z, t.2)
              )
            ))
            )) (fun k t => t.1 = (k : Int) ∧ t.2.1 = s.2.1 ∧ (∀ b, b ≠ 89 → t.2.2 b = s.2.2 b) ∧ ∀ c, c < k → t.2.2 89 c = 268435456) (nC M) (s := (0, s.2)) ⟨rfl, rfl, fun _ _ => rfl, fun _ h => absurd h (by omega)⟩ (fun k t hk ⟨b1, b2, b3, b4⟩ => by
              have ec : m_X11_cells t.2 = some (nC M : Int) := X11_cells (ow := mO M) (se := mS M) (h := mH M) (w := mW M) (by
                unfold RMap at *
                rw [b3 76 (by omega), b3 78 (by omega), b3 80 (by omega)]
                exact R2)
              refine ⟨((k : Int) + 1, sA t.2 89 k 268435456), ?_, rfl, b2, fun b hb => ?_, fun c hc => ?_⟩
              · simp (disch := omega) only [b1, ec, ob_some, gd_t, if_t, tn, sq_eq]
              · funext j
                rw [sA2, if_neg (fun h => hb h.1), b3 b hb]
              · rw [sA2]
                by_cases q : c = k
                · rw [if_pos ⟨rfl, q⟩]
                · rw [if_neg (fun h => q h.2)]
                  exact b4 c (by omega))
          refine ⟨s3.2, ?_, l2, l3, l4⟩
          have ec : m_X11_cells s3.2 = some (nC M : Int) := X11_cells (ow := mO M) (se := mS M) (h := mH M) (w := mW M) (by
            unfold RMap at *
            rw [l3 76 (by omega), l3 78 (by omega), l3 80 (by omega)]
            exact R2)
          rw [e3]
          cases hh : m_X11_laysOrders_74 (z : Int) (0, midM M z, s3.2) with
          | none =>
            refine loopF_none ?_
            simp (disch := omega) only [l1, ec, ob_some, gd_t, if_f, hh]
            rfl
          | some r =>
            refine loopF_inr ?_
            simp (disch := omega) only [l1, ec, ob_some, gd_t, if_f, hh, done_some]
        obtain ⟨F, f1, f2, f3, f4⟩ := first
        have K3 : OKeep s.2 F := ⟨f2, fun b hb => f3 b hb.2.2.2⟩
        obtain ⟨E, g1, g2, g3, g4, g5, g6⟩ := ref_zone (K3.map R2) O hz (by rw [f3 87 (by omega)]; exact a3 z (Nat.le_refl _)) (fun c hc hl => by
          rw [f3 88 (by omega), a5 c hc, if_neg]
          intro h
          have := (isL_iff.mp hl).1
          omega) f4
        refine ⟨((z : Int) + 1, E), ?_, rfl, (a2.trans K3).trans g2, fun y hy => ?_, fun y hy i hi => ?_, fun c hc => ?_⟩
        · simp (disch := omega) only [m_X11_zones, t2, eZ, a1, gd_t, ob_some, if_t, em, f1, g1]
        · show E.2 87 y = _
          rw [g3]
          by_cases q : y = z + 1
          · rw [if_pos q, q]
          · rw [if_neg q, f3 87 (by omega)]
            exact a3 y (by omega)
        · show E.2 86 _ = _
          by_cases q : y = z
          · subst q
            exact g5 i hi
          · have yl := ord_len M (y : Int)
            have yb := fst_b O y
            have ys := fst_s M y
            have ym := fst_mono O (show y + 1 ≤ z by omega)
            have yl2 : ((ordL M (y : Int)).length : Int) = ldM M y := yl
            rw [g4 _ (by omega), f3 86 (by omega)]
            exact a4 y (by omega) i hi
        · show E.2 88 c = _
          rw [g6 c]
          by_cases q : c < nC M ∧ isL M z c = true
          · have := (isL_iff.mp q.2).1
            rw [if_pos q, if_pos ⟨has_of q.2, by omega⟩]
          · rw [if_neg q, f3 88 (by omega), a5 c hc]
            by_cases q2 : hasL M c = true ∧ mO M c < (z : Int)
            · rw [if_pos q2, if_pos ⟨q2.1, by omega⟩]
            · rw [if_neg q2, if_neg]
              intro h
              refine q2 ⟨h.1, ?_⟩
              have h2 : mO M c < (z : Int) + 1 := h.2
              have : ¬ mO M c = (z : Int) := fun hh => q ⟨hc, isL_iff.mpr ⟨hh, (hasL_iff.mp h.1).2⟩⟩
              omega)
    refine ⟨s2.2, ?_, j2, j3, j4, fun c hc => ?_⟩
    · rw [e2]
      refine loopF_inr ?_
      have eZ : s2.2.2 76 2 = (mZ M : Int) := by rw [j2.2 76 (by omega)]; exact hZ
      simp (disch := omega) only [m_X11_zones, t2, eZ, j1, gd_t, ob_some, if_f, done_some]
    · rw [j5 c hc]
      by_cases q : hasL M c = true
      · obtain ⟨z, hz, ho, -⟩ := own_of O hc q
        rw [if_pos ⟨q, by omega⟩]
      · rw [if_neg (fun h => q h.1), plc_none q]
  obtain ⟨E, g1, g2, g3⟩ := zones
  refine ⟨E, ?_, g2, g3⟩
  rw [e]
  refine loopF_inr ?_
  have i1' : s1.1 = 384 := i1
  simp (disch := omega) only [i1', gd_t, if_f, t0, sq_eq, g1, done_some]
