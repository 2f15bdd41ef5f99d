/-! the reference moves an edge -/
theorem ref_moves {D : DT} {a b r x1 x2 : Nat} {M : MS} (R : RInv D M) (ha : a < mZ M) (hb : b < mZ M) (hab : a ≠ b) (hr : r < mH M) (h12 : x1 ≤ x2) (h2w : x2 < mW M) : ∃ E, m_X11_moves (a : Int) (b : Int) (r : Int) (x1 : Int) (x2 : Int) D = some (cntA M (a : Int) (mW M * r + x1) (x2 + 1 - x1), E) ∧ RInv E (movM M a b (mW M * r + x1) (x2 + 1 - x1)) ∧ FrR D E ∧ E.1 = D.1 ∧ ∀ q, (q ≠ 78 ∧ q ≠ 82 ∧ q ≠ 86 ∧ q ≠ 87 ∧ q ≠ 88 ∧ q ≠ 89) → E.2 q = D.2 q := by
  have O := R.1
  have n4 := nCb O
  have z8 := O.2.2.1
  have g3 := O.2.2.2.1
  have d := O.2.1
  have lo_hi : mW M * r + x1 + (x2 + 1 - x1) ≤ nC M := by
    have := wr_lt (w := mW M) (x := x2) hr h2w
    show _ ≤ mW M * mH M
    omega
  have eL := X11_land O R.2.2.2.2.2.2.2.2.1 ha
  have lb := ldM_b O a
  have cb := cntL_b O (a : Int) lo_hi
  have OM := O.mov ha hb lo_hi
  have lm := lnd_mov hab lo_hi
  have ew := R.2.1.1.1.1
  have pm : ∀ k, (movM M a b (mW M * r + x1) (x2 + 1 - x1)).2.2.1.1 k = pplT (mP M) a b (mG M) (goM M a (mW M * r + x1) (x2 + 1 - x1)) k := fun _ => rfl
  obtain ⟨lo, hlo⟩ : ∃ lo, lo = mW M * r + x1 := ⟨_, rfl⟩
  obtain ⟨kk, hkk⟩ : ∃ kk, kk = x2 + 1 - x1 := ⟨_, rfl⟩
  rw [← hlo, ← hkk] at lo_hi cb OM lm pm ⊢
  have owners : ∃ E, m_X11_moves_14 (a : Int) (b : Int) (r : Int) (x2 : Int) (ldM M a) (0, (x1 : Int), D) = ((m_X11_laysOrders E).bind (fun D66 => (m_X11_land (a : Int) D66).bind (fun r73 => m_X11_moves_82 (a : Int) (b : Int) (cntA M (a : Int) lo kk) (ldM M a) (ldM M a - r73) (0, D66)))) ∧ E.1 = D.1 ∧ (∀ q, q ≠ 78 → E.2 q = D.2 q) ∧ ∀ c, c < nC M → E.2 78 c = ownT (mO M) (a : Int) (b : Int) lo kk c := by
    unfold m_X11_moves_14
    obtain ⟨s', ⟨i1, i3, i4, i5, i6⟩, e⟩ := loop_inv (f := fun s : Int × Int × DT =>
      gd (InR s.2.1 ∧ InR (x2 : Int)) (if s.2.1 ≤ (x2 : Int) then (
        gd ((0 : Int) ≤ 0 ∧ 0 < (4 : Int)) (
        gd ((0 : Int) ≤ (((s.2.2.2 76 (Int.toNat 0)) * (r : Int)) + s.2.1) ∧ (((s.2.2.2 76 (Int.toNat 0)) * (r : Int)) + s.2.1) < (384 : Int)) (
        gd (InR (s.2.2.2 78 (Int.toNat (((s.2.2.2 76 (Int.toNat 0)) * (r : Int)) + s.2.1))) ∧ InR (a : Int)) (if (s.2.2.2 78 (Int.toNat (((s.2.2.2 76 (Int.toNat 0)) * (r : Int)) + s.2.1))) = (a : Int) then (
          gd ((0 : Int) ≤ (((s.2.2.2 76 (Int.toNat 0)) * (r : Int)) + s.2.1) ∧ (((s.2.2.2 76 (Int.toNat 0)) * (r : Int)) + s.2.1) < (384 : Int)) (sq (sA s.2.2 78 (Int.toNat (((s.2.2.2 76 (Int.toNat 0)) * (r : Int)) + s.2.1)) (b : Int)) (fun D55 =>
          some (.inl ((s.1 + 1), (s.2.1 + 1), D55))
          ))
        ) else (
          some (.inl (s.1, (s.2.1 + 1), s.2.2))
        ))
        ))
      ) else (
        done (
        (m_X11_laysOrders s.2.2).bind (fun D66 =>
        (m_X11_land (a : Int) D66).bind (fun r73 =>
        m_X11_moves_82 (a : Int) (b : Int) s.1 (ldM M a) (ldM M a - r73) (0, D66)
        ))
        )
      ))) (fun k s => s.1 = cntA M (a : Int) lo k ∧ s.2.1 = ((x1 + k : Nat) : Int) ∧ s.2.2.1 = D.1 ∧ (∀ q, q ≠ 78 → s.2.2.2 q = D.2 q) ∧ ∀ c, c < nC M → s.2.2.2 78 c = ownT (mO M) (a : Int) (b : Int) lo k c) kk (s := (0, (x1 : Int), D)) ⟨rfl, rfl, rfl, fun _ _ => rfl, fun c hcc => by
        unfold ownT
        rw [if_neg (by omega)]
        exact (R.2.1.1.2.2 c hcc).1⟩ (fun k s hk ⟨a1, a3, a4, a5, a6⟩ => by
        have ew2 : s.2.2.2 76 0 = (mW M : Int) := by rw [a5 76 (by omega)]; exact ew
        have hck : lo + k < nC M := by omega
        have vi : (mW M : Int) * (r : Int) + ((x1 + k : Nat) : Int) = ((lo + k : Nat) : Int) := by
          rw [hlo, show mW M * r + x1 + k = mW M * r + (x1 + k) by omega, Int.natCast_add (mW M * r), Int.natCast_mul]
        have eo : s.2.2.2 78 (lo + k) = mO M (lo + k) := by
          rw [a6 _ hck]
          unfold ownT
          rw [if_neg (by omega)]
        have ob := (O.2.2.2.2.1 _ hck).1
        have sA' : cntA M (a : Int) lo (k + 1) = cntA M (a : Int) lo k + b2i (mO M (lo + k) = (a : Int)) := rfl
        rw [sA']
        by_cases q : mO M (lo + k) = (a : Int)
        · rw [b2i_t q]
          refine ⟨(cntA M (a : Int) lo k + 1, ((x1 + k : Nat) : Int) + 1, sA s.2.2 78 (lo + k) (b : Int)), ?_, rfl, rfl, a4, fun q' hq' => ?_, fun c hcc => ?_⟩
          · simp (disch := omega) only [a1, a3, t0, ew2, vi, gd_t, if_t, tn, eo, if_t q, sq_eq]
          · funext j
            rw [sA2, if_neg (fun h => hq' h.1), a5 q' hq']
          · rw [sA2, ownT_s]
            by_cases qc : c = lo + k
            · rw [if_pos ⟨rfl, qc⟩, if_pos qc, qc, if_pos q]
            · rw [if_neg (fun h => qc h.2), if_neg qc]
              exact a6 c hcc
        · rw [b2i_f q]
          refine ⟨(cntA M (a : Int) lo k, ((x1 + k : Nat) : Int) + 1, s.2.2), ?_, by simp only [Int.add_zero], rfl, a4, a5, fun c hcc => ?_⟩
          · simp (disch := omega) only [a1, a3, t0, ew2, vi, gd_t, if_t, tn, eo, if_f q]
          · show s.2.2.2 78 c = _
            rw [ownT_s]
            by_cases qc : c = lo + k
            · rw [if_pos qc, qc, if_neg q]
              exact eo
            · rw [if_neg qc]
              exact a6 c hcc)
    have i3' : s'.2.1 = (x2 : Int) + 1 := by rw [i3]; omega
    refine ⟨s'.2.2, ?_, i4, i5, i6⟩
    rw [e]
    cases hh : ((m_X11_laysOrders s'.2.2).bind (fun D66 => (m_X11_land (a : Int) D66).bind (fun r73 => m_X11_moves_82 (a : Int) (b : Int) (cntA M (a : Int) lo kk) (ldM M a) (ldM M a - r73) (0, D66)))) with
    | none =>
      refine loopF_none ?_
      simp (disch := omega) only [i3', i1, gd_t, if_f, hh]
      rfl
    | some v =>
      refine loopF_inr ?_
      simp (disch := omega) only [i3', i1, gd_t, if_f, hh, done_some]
  obtain ⟨E, o1, o2, o3, o4⟩ := owners
  -- the map that the orders are laid of: people don't count there
  have RM : RMap E (mW M) (mH M) (mO (movM M a b lo kk)) (mS (movM M a b lo kk)) := by
    refine ⟨?_, R.2.1.1.2.1, fun c hc => ⟨o4 c hc, ?_⟩⟩
    · rw [o3 76 (by omega)]; exact R.2.1.1.1
    · rw [o3 80 (by omega)]; exact (R.2.1.1.2.2 c hc).2
  obtain ⟨F, f1, f2, f3⟩ := X11_laysOrders (M := movM M a b lo kk) RM OM (by rw [o3 76 (by omega)]; exact R.2.1.2.1)
  have eL2 : m_X11_land (a : Int) F = some (ldM M a - cntL M (a : Int) lo kk) := by
    have := X11_land OM f3.1 (show a < mZ (movM M a b lo kk) from ha)
    rw [this]
    exact congrArg some lm
  have q8 : ldM M a - (ldM M a - cntL M (a : Int) lo kk) = cntL M (a : Int) lo kk := by omega
  have F82 : F.2 82 = D.2 82 := by rw [f2.2 82 (by omega), o3 82 (by omega)]
  have F76 : F.2 76 = D.2 76 := by rw [f2.2 76 (by omega), o3 76 (by omega)]
  have people : ∃ G, m_X11_moves_82 (a : Int) (b : Int) (cntA M (a : Int) lo kk) (ldM M a) (cntL M (a : Int) lo kk) (0, F) = some (cntA M (a : Int) lo kk, G) ∧ G.1 = F.1 ∧ (∀ q, q ≠ 82 → G.2 q = F.2 q) ∧ ∀ k, k < 24 → G.2 82 k = pplT (mP M) a b (mG M) (goM M a lo kk) k := by
    by_cases hL : 0 < ldM M a
    · unfold m_X11_moves_82
      obtain ⟨s', ⟨i1, i2, i3, i4⟩, e⟩ := loop_inv (f := fun s : Int × DT =>
        gd ((0 : Int) ≤ 3 ∧ 3 < (4 : Int)) (
        gd (InR s.1 ∧ InR (s.2.2 76 (Int.toNat 3))) (if s.1 < (s.2.2 76 (Int.toNat 3)) then (
          gd (InR (ldM M a)) (if 0 < ldM M a then (
            gd ((0 : Int) ≤ ((3 * (a : Int)) + s.1) ∧ ((3 * (a : Int)) + s.1) < (24 : Int)) (
            gd (InR (s.2.2 82 (Int.toNat ((3 * (a : Int)) + s.1)))) (
            gd (InR (cntL M (a : Int) lo kk)) (
            gd (InR (ldM M a)) (
            gd ((0 : Int) ≤ ((s.2.2 82 (Int.toNat ((3 * (a : Int)) + s.1))) * cntL M (a : Int) lo kk) ∧ ((s.2.2 82 (Int.toNat ((3 * (a : Int)) + s.1))) * cntL M (a : Int) lo kk) ≤ (9223372036854775807 : Int) ∧ (0 : Int) < ldM M a ∧ ldM M a ≤ (9223372036854775807 : Int)) (
            gd ((0 : Int) ≤ ((3 * (a : Int)) + s.1) ∧ ((3 * (a : Int)) + s.1) < (24 : Int)) (
            gd ((0 : Int) ≤ ((3 * (a : Int)) + s.1) ∧ ((3 * (a : Int)) + s.1) < (24 : Int)) (sq (sA s.2 82 (Int.toNat ((3 * (a : Int)) + s.1)) ((s.2.2 82 (Int.toNat ((3 * (a : Int)) + s.1))) - (((s.2.2 82 (Int.toNat ((3 * (a : Int)) + s.1))) * cntL M (a : Int) lo kk) / ldM M a))) (fun D136 =>
            gd ((0 : Int) ≤ ((3 * (b : Int)) + s.1) ∧ ((3 * (b : Int)) + s.1) < (24 : Int)) (
            gd (InR ((D136.2 82 (Int.toNat ((3 * (b : Int)) + s.1))) + (((s.2.2 82 (Int.toNat ((3 * (a : Int)) + s.1))) * cntL M (a : Int) lo kk) / ldM M a)) ∧ InR 99999) (if 99999 < ((D136.2 82 (Int.toNat ((3 * (b : Int)) + s.1))) + (((s.2.2 82 (Int.toNat ((3 * (a : Int)) + s.1))) * cntL M (a : Int) lo kk) / ldM M a)) then (
              gd ((0 : Int) ≤ ((3 * (b : Int)) + s.1) ∧ ((3 * (b : Int)) + s.1) < (24 : Int)) (sq (sA D136 82 (Int.toNat ((3 * (b : Int)) + s.1)) 99999) (fun D177 =>
              some ((.inl ((s.1 + 1), D177)) : (Int × DT) ⊕ (Int × DT))
              ))
            ) else (
              gd ((0 : Int) ≤ ((3 * (b : Int)) + s.1) ∧ ((3 * (b : Int)) + s.1) < (24 : Int)) (sq (sA D136 82 (Int.toNat ((3 * (b : Int)) + s.1)) ((D136.2 82 (Int.toNat ((3 * (b : Int)) + s.1))) + (((s.2.2 82 (Int.toNat ((3 * (a : Int)) + s.1))) * cntL M (a : Int) lo kk) / ldM M a))) (fun D177 =>
              some (.inl ((s.1 + 1), D177))
              ))
            ))
            )))))))))
          ) else (
            done (
            some (cntA M (a : Int) lo kk, s.2)
            )
          ))
        ) else (
          done (
          some (cntA M (a : Int) lo kk, s.2)
          )
        ))
        )) (fun g s => s.1 = (g : Int) ∧ s.2.1 = F.1 ∧ (∀ q, q ≠ 82 → s.2.2 q = F.2 q) ∧ ∀ k, k < 24 → s.2.2 82 k = pplT (mP M) a b g (goM M a lo kk) k) (mG M) (s := (0, F)) ⟨rfl, rfl, fun _ _ => rfl, fun k hk => by rw [F82, pplT_0]; exact R.2.2.1 k hk⟩ (fun g s hg ⟨a1, a2, a3, a4⟩ => by
          have eG : s.2.2 76 3 = (mG M : Int) := by rw [a3 76 (by omega), F76]; exact R.2.1.2.2
          have hg3 : g < 3 := by omega
          have pa : pplT (mP M) a b g (goM M a lo kk) (3 * a + g) = mP M (3 * a + g) := by
            unfold pplT
            rw [if_neg (by omega), if_neg (by omega)]
          have pb : pplT (mP M) a b g (goM M a lo kk) (3 * b + g) = mP M (3 * b + g) := by
            unfold pplT
            rw [if_neg (by omega), if_neg (by omega)]
          have e1 := a4 (3 * a + g) (by omega)
          rw [pa] at e1
          have pab := O.p (k := 3 * a + g) (by omega)
          have pbb := O.p (k := 3 * b + g) (by omega)
          have gb := goM_b O ha hg3 lo_hi
          have eg : mP M (3 * a + g) * cntL M (a : Int) lo kk / ldM M a = goM M a lo kk g := by
            unfold goM
            rw [if_neg (by omega)]
          have cl2 : cntL M (a : Int) lo kk ≤ ldM M a := cb.2
          have mb := mul_b pab.1 pab.2 cb.1 (show cntL M (a : Int) lo kk ≤ 384 by omega)
          have gq : (0 : Int) ≤ mP M (3 * a + g) * cntL M (a : Int) lo kk ∧ mP M (3 * a + g) * cntL M (a : Int) lo kk ≤ (9223372036854775807 : Int) ∧ (0 : Int) < ldM M a ∧ ldM M a ≤ (9223372036854775807 : Int) := by
            generalize mP M (3 * a + g) * cntL M (a : Int) lo kk = y at mb
            omega
          have ka : 3 * (a : Int) + (g : Int) = ((3 * a + g : Nat) : Int) := by omega
          have kb : 3 * (b : Int) + (g : Int) = ((3 * b + g : Nat) : Int) := by omega
          have e3 : (sA s.2 82 (3 * a + g) (mP M (3 * a + g) - goM M a lo kk g)).2 82 (3 * b + g) = mP M (3 * b + g) := by
            rw [sA2, if_neg (by omega), a4 _ (by omega), pb]
          have nx : ∀ v, v = min 99999 (mP M (3 * b + g) + goM M a lo kk g) → (∀ q, q ≠ 82 → (sA (sA s.2 82 (3 * a + g) (mP M (3 * a + g) - goM M a lo kk g)) 82 (3 * b + g) v).2 q = F.2 q) ∧ ∀ k, k < 24 → (sA (sA s.2 82 (3 * a + g) (mP M (3 * a + g) - goM M a lo kk g)) 82 (3 * b + g) v).2 82 k = pplT (mP M) a b (g + 1) (goM M a lo kk) k := fun v hv => by
            refine ⟨fun q hq => ?_, fun k hk => ?_⟩
            · funext j
              rw [sA2, if_neg (fun h => hq h.1), sA2, if_neg (fun h => hq h.1), a3 q hq]
            · rw [pplT_s hab hg3, sA2]
              by_cases q1 : k = 3 * b + g
              · rw [if_pos ⟨rfl, q1⟩, if_neg (by omega), if_pos q1, q1]
                exact hv
              · rw [if_neg (fun h => q1 h.2), sA2]
                by_cases q2 : k = 3 * a + g
                · rw [if_pos ⟨rfl, q2⟩, if_pos q2, q2]
                · rw [if_neg (fun h => q2 h.2), if_neg q2, if_neg q1]
                  exact a4 k hk
          by_cases q : 99999 < mP M (3 * b + g) + goM M a lo kk g
          · refine ⟨((g : Int) + 1, sA (sA s.2 82 (3 * a + g) (mP M (3 * a + g) - goM M a lo kk g)) 82 (3 * b + g) 99999), ?_, rfl, a2, nx _ (by omega)⟩
            simp (disch := omega) only [a1, t3, eG, gd_t, if_t, if_t hL, ka, kb, tn, e1, gd_t gq, eg, sq_eq, e3, if_t q]
          · refine ⟨((g : Int) + 1, sA (sA s.2 82 (3 * a + g) (mP M (3 * a + g) - goM M a lo kk g)) 82 (3 * b + g) (mP M (3 * b + g) + goM M a lo kk g)), ?_, rfl, a2, nx _ (by omega)⟩
            simp (disch := omega) only [a1, t3, eG, gd_t, if_t, if_t hL, ka, kb, tn, e1, gd_t gq, eg, sq_eq, e3, if_f q])
      refine ⟨s'.2, ?_, i2, i3, i4⟩
      rw [e]
      refine loopF_inr ?_
      have eG : s'.2.2 76 3 = (mG M : Int) := by rw [i3 76 (by omega), F76]; exact R.2.1.2.2
      simp (disch := omega) only [i1, t3, eG, gd_t, if_f, done_some]
    · refine ⟨F, ?_, rfl, fun _ _ => rfl, fun k hk => ?_⟩
      · unfold m_X11_moves_82
        refine loopF_inr ?_
        have eG : F.2 76 3 = (mG M : Int) := by rw [F76]; exact R.2.1.2.2
        simp (disch := omega) only [t3, eG, gd_t, if_t, if_f hL, done_some]
      · have z : ∀ g, goM M a lo kk g = 0 := fun g => by unfold goM; rw [if_pos (by omega)]
        have pk := O.p hk
        rw [F82, R.2.2.1 k hk]
        unfold pplT
        simp only [z]
        split
        · omega
        · split <;> omega
  obtain ⟨G, p1, p2, p3, p4⟩ := people
  have keepA : ∀ q, (q ≠ 78 ∧ q ≠ 82 ∧ q ≠ 86 ∧ q ≠ 87 ∧ q ≠ 88 ∧ q ≠ 89) → G.2 q = D.2 q := fun q hq => by
    rw [p3 q hq.2.1, f2.2 q ⟨hq.2.2.1, hq.2.2.2.1, hq.2.2.2.2.1, hq.2.2.2.2.2⟩, o3 q hq.1]
  have G1 : G.1 = D.1 := by rw [p2, f2.1, o2]
  obtain ⟨c1, ⟨c2, c2', c2''⟩, c3, c4, c5, c6, c7, c8, c9⟩ := R
  refine ⟨G, ?_, ⟨OM, ⟨⟨?_, c2.2.1, fun c hc => ⟨?_, ?_⟩⟩, ?_, ?_⟩, p4, ?_, by rw [G1]; exact c5, ?_, ?_, ?_, ?_⟩, fun q hq => ⟨by rw [G1], keepA q (by omega)⟩, G1, keepA⟩
  · simp only [m_X11_moves, eL, ob_some, o1, f1, eL2, q8, p1]
  · rw [keepA 76 (by omega)]; exact c2.1
  · rw [p3 78 (by omega), f2.2 78 (by omega)]; exact o4 c hc
  · rw [keepA 80 (by omega)]; exact (c2.2.2 c hc).2
  · rw [keepA 76 (by omega)]; exact c2'
  · rw [keepA 76 (by omega)]; exact c2''
  · rw [keepA 84 (by omega)]; exact c4
  · rw [G1, keepA 74 (by omega)]; exact c6
  · rw [G1, keepA 101 (by omega)]; exact c7
  · rw [keepA 85 (by omega)]; exact c8
  · unfold OrdRep at f3 ⊢
    rw [p3 86 (by omega), p3 87 (by omega), p3 88 (by omega)]
    exact f3
/-- the class has forgotten the land of two zones -/
theorem PlanOK.frg2 {D : DT} {p a b : Nat} {M M' : MS} (O : MOK M') (C : ChartRep D (p + 1) M') (hu : D.1 p 1 = mU M' ∧ D.1 p 2 = mF M') (K : RanksRep D (p + 14) M) (h1 : M'.1 = M.1) (h2 : ∀ y : Nat, y ≠ a → y ≠ b → isL M' (y : Int) = isL M (y : Int)) : PlanOK (frgL (frgL D p a) p b) p M' := by
  have f1 : ∀ q k, (q ≠ p + 14 ∧ q ≠ p + 9 ∧ q ≠ p + 22) → (frgL (frgL D p a) p b).1 q k = D.1 q k := fun q k hq => by rw [frgL1 _ hq, frgL1 _ hq]
  have f2 : ∀ q, q ≠ p + 14 + 4 → (frgL (frgL D p a) p b).2 q = D.2 q := fun q hq => by rw [frgL2 _ hq, frgL2 _ hq]
  have f4 : ∀ j, (frgL (frgL D p a) p b).2 (p + 14 + 4) j = if j = b then 0 else if j = a then 0 else D.2 (p + 14 + 4) j := fun j => by
    show (sA (frgL D p a) (p + 14 + 4) b 0).2 (p + 14 + 4) j = _
    rw [sA2]
    by_cases q : j = b
    · rw [if_pos ⟨rfl, q⟩, if_pos q]
    · rw [if_neg (fun h => q h.2), if_neg q]
      show (sA D (p + 14 + 4) a 0).2 (p + 14 + 4) j = _
      rw [sA2]
      by_cases q2 : j = a
      · rw [if_pos ⟨rfl, q2⟩, if_pos q2]
      · rw [if_neg (fun h => q2 h.2), if_neg q2]
  refine ⟨O, C.fr (fun q hq => ⟨funext (fun k => f1 q k (by omega)), f2 q (by omega)⟩), by rw [f1 p 1 (by omega), f1 p 2 (by omega)]; exact hu, Or.inl ?_, K.land h1 (fun y hy => ?_) ?_ (fun y hy hf => ?_) (f2 _ (by omega)), Or.inl ?_⟩
  · show (sF (sF (sF (sA (frgL D p a) (p + 14 + 4) b 0) (p + 14) 4 0) (p + 9) 0 0) (p + 22) 0 (-1)).1 (p + 9) 0 = 0
    rw [sF1, if_neg (by omega), sF1, if_pos ⟨rfl, rfl⟩]
  · rw [f4]
    split
    · exact Or.inl rfl
    · split
      · exact Or.inl rfl
      · exact K.1 y hy
  · show (sF (sF (sF (sA (frgL D p a) (p + 14 + 4) b 0) (p + 14) 4 0) (p + 9) 0 0) (p + 22) 0 (-1)).1 (p + 14) 4 = 0
    rw [sF1, if_neg (by omega), sF1, if_neg (by omega), sF1, if_pos ⟨rfl, rfl⟩]
  · rw [f4] at hf
    by_cases q : y = b
    · rw [if_pos q] at hf; omega
    · rw [if_neg q] at hf
      by_cases q2 : y = a
      · rw [if_pos q2] at hf; omega
      · rw [if_neg q2] at hf
        exact ⟨hf, h2 y q2 q⟩
  · show (sF (sF (sF (sA (frgL D p a) (p + 14 + 4) b 0) (p + 14) 4 0) (p + 9) 0 0) (p + 22) 0 (-1)).1 (p + 22) 0 = -1
    rw [sF1, if_pos ⟨rfl, rfl⟩]
theorem frg2_kp (D : DT) (p a b : Nat) : KpO D (frgL (frgL D p a) p b) (p + 9) (p + 25) := fun q hq => ⟨funext (fun k => by rw [frgL1 _ (by omega), frgL1 _ (by omega)]), by rw [frgL2 _ (by omega), frgL2 _ (by omega)]⟩
/-- the checks of an edge -/
def edgeP (M : MS) (v1 v2 v4 v5 : Int) : Prop := v1 ≠ v2 ∧ 0 ≤ v4 ∧ v4 ≤ v5 ∧ v5 < (mW M : Int)
theorem cn_edge_t {D : DT} {M : MS} {v1 v2 v4 v5 : Int} (O : MOK M) (C : CBase D M) (h1 : InR v1) (h2 : InR v2) (h4 : InR v4) (h5 : InR v5) (h : edgeP M v1 v2 v4 v5) : m_X10_needEdge v1 v2 v4 v5 D = some (.inl ()) := by
  obtain ⟨e1, e2, e3, e4⟩ := h
  have d := O.2.1
  have ew := C.1.1.1.1
  have t := cn_two_t (D := D) h1 h2 e1
  simp (disch := omega) only [m_X10_needEdge, t, bndM_inl, gd_t, if_t, ew, if_f]
theorem cn_edge_f {D : DT} {M : MS} {v1 v2 v4 v5 : Int} (O : MOK M) (C : CBase D M) (h1 : InR v1) (h2 : InR v2) (h4 : InR v4) (h5 : InR v5) (h : ¬ edgeP M v1 v2 v4 v5) : m_X10_needEdge v1 v2 v4 v5 D = some (.inr 2) := by
  have d := O.2.1
  have ew := C.1.1.1.1
  unfold edgeP at h
  by_cases q : v1 = v2
  · have t := cn_two_f (D := D) h1 h2 q
    simp (disch := omega) only [m_X10_needEdge, t, bndM_inr]
  · have t := cn_two_t (D := D) h1 h2 q
    by_cases q2 : 0 ≤ v4
    · by_cases q3 : v4 ≤ v5
      · have q4 : (mW M : Int) ≤ v5 := by
          rcases Int.lt_or_le v5 (mW M : Int) with hh | hh
          · exact absurd ⟨q, q2, q3, hh⟩ h
          · exact hh
        simp (disch := omega) only [m_X10_needEdge, t, bndM_inl, gd_t, if_t q2, if_t q3, ew, if_t q4]
      · simp (disch := omega) only [m_X10_needEdge, t, bndM_inl, gd_t, if_t q2, if_f q3]
    · simp (disch := omega) only [m_X10_needEdge, t, bndM_inl, gd_t, if_f q2]
theorem rn_run_t {D : DT} {M : MS} {v1 v2 v4 v5 : Int} (R : RInv D M) (h1 : InR v1) (h2 : InR v2) (h4 : InR v4) (h5 : InR v5) (h : edgeP M v1 v2 v4 v5) : m_X11_noRun v1 v2 v4 v5 D = some (0, D) := by
  obtain ⟨e1, e2, e3, e4⟩ := h
  have d := R.1.2.1
  have ew := R.2.1.1.1.1
  simp (disch := omega) only [m_X11_noRun, gd_t, if_f e1, if_t, t0, ew, if_f, rn_th_0, bnd_some, true_or, gd_T]
theorem rn_run_f {D : DT} {M : MS} {v1 v2 v4 v5 : Int} (R : RInv D M) (h1 : InR v1) (h2 : InR v2) (h4 : InR v4) (h5 : InR v5) (h : ¬ edgeP M v1 v2 v4 v5) : m_X11_noRun v1 v2 v4 v5 D = some (1, sF D 73 0 2) := by
  have d := R.1.2.1
  have ew := R.2.1.1.1.1
  have t : m_X11_noRun_27 D = some (1, sF D 73 0 2) := by
    simp (disch := omega) only [m_X11_noRun_27, rn_th_1, bnd_some, or_true, gd_T]
  unfold edgeP at h
  by_cases q : v1 = v2
  · simp (disch := omega) only [m_X11_noRun, gd_t, if_t q, t]
  · by_cases q2 : 0 ≤ v4
    · by_cases q3 : v4 ≤ v5
      · have q4 : (mW M : Int) ≤ v5 := by
          rcases Int.lt_or_le v5 (mW M : Int) with hh | hh
          · exact absurd ⟨q, q2, q3, hh⟩ h
          · exact hh
        simp (disch := omega) only [m_X11_noRun, gd_t, if_f q, if_t q2, if_t q3, t0, ew, if_t q4, t]
      · simp (disch := omega) only [m_X11_noRun, gd_t, if_f q, if_t q2, if_f q3, t]
    · simp (disch := omega) only [m_X11_noRun, gd_t, if_f q, if_f q2, t]
theorem rn_edge_t {D : DT} {M : MS} {v1 v2 v3 v4 v5 : Int} (R : RInv D M) (h1 : InR v1) (h2 : InR v2) (h3 : InR v3) (z1 : 0 ≤ v1 ∧ v1 < (mZ M : Int)) (z2 : 0 ≤ v2 ∧ v2 < (mZ M : Int)) (z3 : 0 ≤ v3 ∧ v3 < (mH M : Int)) : m_X11_noEdge v1 v2 v3 v4 v5 D = some (0, D) := by
  have y1 := rn_zone_t R h1 z1
  have y2 := rn_zone_t R h2 z2
  have y3 := rn_row_t R h3 z3
  simp (disch := omega) only [m_X11_noEdge, y1, y2, y3, bnd_some, gd_t, ↓reduceIte]
theorem rn_edge_f {D : DT} {M : MS} {v1 v2 v3 v4 v5 : Int} (R : RInv D M) (h1 : InR v1) (h2 : InR v2) (h3 : InR v3) (h : ¬ ((0 ≤ v1 ∧ v1 < (mZ M : Int)) ∧ (0 ≤ v2 ∧ v2 < (mZ M : Int)) ∧ (0 ≤ v3 ∧ v3 < (mH M : Int)))) : m_X11_noEdge v1 v2 v3 v4 v5 D = some (1, sF D 73 0 1) := by
  by_cases z1 : 0 ≤ v1 ∧ v1 < (mZ M : Int)
  · have y1 := rn_zone_t R h1 z1
    by_cases z2 : 0 ≤ v2 ∧ v2 < (mZ M : Int)
    · have y2 := rn_zone_t R h2 z2
      have z3 : ¬ (0 ≤ v3 ∧ v3 < (mH M : Int)) := fun hh => h ⟨z1, z2, hh⟩
      have y3 := rn_row_f R h3 z3
      simp (disch := omega) only [m_X11_noEdge, y1, y2, y3, bnd_some, gd_t, ↓reduceIte, if_f]
    · have y2 := rn_zone_f R h2 z2
      simp (disch := omega) only [m_X11_noEdge, y1, y2, bnd_some, gd_t, ↓reduceIte, if_f]
  · have y1 := rn_zone_f R h1 z1
    simp (disch := omega) only [m_X11_noEdge, y1, bnd_some, gd_t, if_f]
theorem frg_c {D D' : DT} {p b : Nat} (h : ∀ q k, q ≠ 70 → D'.1 q k = D.1 q k) {q k : Nat} (hq : q ≠ 70) : (frgL D' p b).1 q k = (frgL D p b).1 q k := by
  unfold frgL
  simp only [sF1, sA1, h q k hq]
theorem step_move : StepOK m_L_c22 := fun xs Ls s hx hs ⟨M, hC, hR⟩ => by
  have x1 := hx (Int.toNat (s.1 + 1))
  have x2 := hx (Int.toNat (s.1 + 2))
  have x3 := hx (Int.toNat (s.1 + 3))
  have x4 := hx (Int.toNat (s.1 + 4))
  have x5 := hx (Int.toNat (s.1 + 5))
  have O := hC.1
  have C := hC.2.1
  have z8 := O.2.2.1
  have d := O.2.1
  by_cases qz : ((0 ≤ xs (Int.toNat (s.1 + 1)) ∧ xs (Int.toNat (s.1 + 1)) < (mZ M : Int)) ∧ (0 ≤ xs (Int.toNat (s.1 + 2)) ∧ xs (Int.toNat (s.1 + 2)) < (mZ M : Int)) ∧ (0 ≤ xs (Int.toNat (s.1 + 3)) ∧ xs (Int.toNat (s.1 + 3)) < (mH M : Int)))
  · obtain ⟨q1, q2, q3⟩ := qz
    have a1 := cn_zone_t O C x1 q1
    have a2 := cn_zone_t O C x2 q2
    have a3 := cn_row_t O C x3 q3
    by_cases q4 : edgeP M (xs (Int.toNat (s.1 + 1))) (xs (Int.toNat (s.1 + 2))) (xs (Int.toNat (s.1 + 4))) (xs (Int.toNat (s.1 + 5)))
    · have a4 := cn_edge_t O C x1 x2 x4 x5 q4
      obtain ⟨a, ha⟩ := nat_of q1.1
      obtain ⟨b, hb⟩ := nat_of q2.1
      obtain ⟨r, hr⟩ := nat_of q3.1
      obtain ⟨c, hc⟩ := nat_of q4.2.1
      obtain ⟨e, he⟩ := nat_of (Int.le_trans q4.2.1 q4.2.2.1)
      rw [ha, hb, hc, he] at q4 a4
      rw [ha] at q1 x1 a1
      rw [hb] at q2 x2 a2
      rw [hr] at q3 x3 a3
      rw [hc] at x4
      rw [he] at x5
      have han : a < mZ M := by omega
      have hbn : b < mZ M := by omega
      have hrn : r < mH M := by omega
      have hab : a ≠ b := fun h => q4.1 (by rw [h])
      have hce : c ≤ e := by have := q4.2.2.1; omega
      have hew : e < mW M := by have := q4.2.2.2; omega
      obtain ⟨D1, e1, e2, e3, e4⟩ := X1_shift O C.1 han hbn hab hrn hce hew
      have lo_hi : mW M * r + c + (e + 1 - c) ≤ nC M := by
        have := wr_lt (w := mW M) (x := e) hrn hew
        show _ ≤ mW M * mH M
        omega
      have cb := cntA_b M (a : Int) (mW M * r + c) (e + 1 - c)
      have OM := O.mov han hbn lo_hi
      have l1 := X10_landChanged D1 (z := a) (by omega)
      have l2 := X10_landChanged (sF (frgL D1 1 a) 70 5 (-1)) (z := b) (by omega)
      have K : RanksRep D1 (1 + 14) M := hC.2.2.1.2.1.fr (fun q hq => ⟨by rw [e3], e4 q (by omega) (by omega)⟩)
      have P := PlanOK.frg2 (p := 1) (a := a) (b := b) (M := M) OM e2 (by rw [e3]; exact ⟨C.2.2.1.1, C.2.2.1.2.1⟩) K rfl (fun y h1 h2 => mov_isL ⟨h1, h2⟩)
      have kf : ∀ q k, (q ≠ 70) → (sF (frgL (sF (frgL D1 1 a) 70 5 (-1)) 1 b) 70 5 (-1)).1 q k = (frgL (frgL D1 1 a) 1 b).1 q k := fun q k hq => by
        rw [sF1, if_neg (fun h => hq h.1)]
        exact frg_c (fun q k hq => by rw [sF1, if_neg (fun h => hq h.1)]) hq
      have kA : ∀ q, (sF (frgL (sF (frgL D1 1 a) 70 5 (-1)) 1 b) 70 5 (-1)).2 q = (frgL (frgL D1 1 a) 1 b).2 q := fun q => rfl
      have kk2 := frg2_kp D1 1 a b
      have CB : CBase D1 (movM M a b (mW M * r + c) (e + 1 - c)) := ⟨e2, by
        obtain ⟨⟨r1, r2⟩, r3, r4⟩ := C.2.1
        refine ⟨⟨?_, ?_⟩, ?_, ?_⟩
        · rw [e4 _ (by omega) (by omega)]; exact r1
        · rw [e4 _ (by omega) (by omega)]; exact r2
        · rw [e4 _ (by omega) (by omega)]; exact r3
        · rw [e4 _ (by omega) (by omega)]; exact r4, by rw [e3]; exact C.2.2.1, by
        rw [e3, e4 64 (by omega) (by omega)]; exact C.2.2.2.1, by
        rw [e3, e4 66 (by omega) (by omega)]; exact C.2.2.2.2⟩
      have fin : CInv (sF (frgL (sF (frgL D1 1 a) 70 5 (-1)) 1 b) 70 5 (-1)) (movM M a b (mW M * r + c) (e + 1 - c)) := by
        obtain ⟨p1, p2, p3, p4, p5, p6⟩ := P
        refine ⟨OM, CB.fr (fun q hq => funext (fun k => ?_)) (fun q hq => ?_), ⟨?_, p5.fr (fun q hq => ⟨funext (fun k => kf q k (by omega)), kA q⟩), p6.fr (fun q hq => ⟨funext (fun k => kf q k (by omega)), kA q⟩)⟩, Or.inl ?_⟩
        · rw [kf q k (by omega), (kk2 q (by omega)).1]
        · rw [kA q, (kk2 q (by omega)).2]
        · rw [kf _ _ (by omega)]
          rcases p4 with t | t
          · exact Or.inl t
          · exact Or.inr ⟨t.1, t.2.fr (fun q hq => ⟨funext (fun k => kf q k (by omega)), kA q⟩)⟩
        · rw [sF1, if_pos ⟨rfl, rfl⟩]
      have fr1 : FrC s.2 D1 := fun q hq => ⟨by rw [e3], e4 q (by omega) (by omega)⟩
      refine comb_move hx hs (M' := movM M a b (mW M * r + c) (e + 1 - c)) (sp := .inl (cntA M (a : Int) (mW M * r + c) (e + 1 - c))) (by show InR _; omega) ⟨_, ?_, fin, (fr1.trans (frgL_frC _ _)).trans (frgL_frC _ _)⟩ hR (fun D rr => ?_)
      · rw [ha, hb, hr, hc, he]
        simp (disch := omega) only [m_X10_move, a1, a2, a3, a4, bndN_inl, e1, bnd_some, l1, l2, ob_some]
      · obtain ⟨E, f1, f2, f3, f4, f5⟩ := ref_moves (rr.thr (x := 0)) han hbn hab hrn hce hew
        have y1 := rn_edge_t (v4 := (c : Int)) (v5 := (e : Int)) (rr.thr (x := 0)) x1 x2 x3 q1 q2 q3
        have y2 := rn_run_t (rr.thr (x := 0)) x1 x2 x4 x5 q4
        refine ⟨_, E, ?_, f2, (FrR.f (by omega)).trans f3, by rw [f4]; rfl, fun v h => by injection h⟩
        rw [ha, hb, hr, hc, he]
        simp (disch := omega) only [m_X11_move, sq_eq, y1, y2, bnd_some, gd_t, ↓reduceIte, f1]
    · have a4 := cn_edge_f O C x1 x2 x4 x5 q4
      refine comb_move hx hs (sp := .inr 2) (by simp [spX]) (ClsX.same hC ?_) hR (RefX.same (c := 2) 0 rfl (fun v h => by cases h) (fun D r => ?_))
      · simp (disch := omega) only [m_X10_move, a1, a2, a3, a4, bndN_inl, bndN_inr]
      · have y1 := rn_edge_t (v4 := xs (Int.toNat (s.1 + 4))) (v5 := xs (Int.toNat (s.1 + 5))) (r.thr (x := 0)) x1 x2 x3 q1 q2 q3
        have y2 := rn_run_f (r.thr (x := 0)) x1 x2 x4 x5 q4
        simp (disch := omega) only [m_X11_move, sq_eq, y1, y2, bnd_some, gd_t, ↓reduceIte, if_f, sFF]
  · have cls : m_X10_move (xs (Int.toNat (s.1 + 1))) (xs (Int.toNat (s.1 + 2))) (xs (Int.toNat (s.1 + 3))) (xs (Int.toNat (s.1 + 4))) (xs (Int.toNat (s.1 + 5))) s.2 = some (.inr 0, s.2) := by
      by_cases q1 : 0 ≤ xs (Int.toNat (s.1 + 1)) ∧ xs (Int.toNat (s.1 + 1)) < (mZ M : Int)
      · have a1 := cn_zone_t O C x1 q1
        by_cases q2 : 0 ≤ xs (Int.toNat (s.1 + 2)) ∧ xs (Int.toNat (s.1 + 2)) < (mZ M : Int)
        · have a2 := cn_zone_t O C x2 q2
          have a3 := cn_row_f O C x3 (fun q3 => qz ⟨q1, q2, q3⟩)
          simp (disch := omega) only [m_X10_move, a1, a2, a3, bndN_inl, bndN_inr]
        · have a2 := cn_zone_f O C x2 q2
          simp (disch := omega) only [m_X10_move, a1, a2, bndN_inl, bndN_inr]
      · have a1 := cn_zone_f O C x1 q1
        simp (disch := omega) only [m_X10_move, a1, bndN_inr]
    refine comb_move hx hs (sp := .inr 0) (by simp [spX]) (ClsX.same hC cls) hR (RefX.same (c := 1) 0 rfl (fun v h => by cases h) (fun D r => ?_))
    have y1 := rn_edge_f (v4 := xs (Int.toNat (s.1 + 4))) (v5 := xs (Int.toNat (s.1 + 5))) (r.thr (x := 0)) x1 x2 x3 qz
    simp (disch := omega) only [m_X11_move, sq_eq, y1, bnd_some, gd_t, if_f, sFF]
