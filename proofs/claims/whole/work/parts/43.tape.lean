/-! ===== step: people ===== -/
abbrev updI (f : Nat → Int) (k : Nat) (v : Int) : Nat → Int := fun j => if j = k then v else f j
abbrev setP (M : MS) (k : Nat) (v : Int) : MS := (M.1, M.2.1, (updI M.2.2.1.1 k v, M.2.2.1.2), M.2.2.2)
theorem MOK.setP {M : MS} (O : MOK M) {k : Nat} {v : Int} (h : 0 ≤ v ∧ v ≤ 99999) : MOK (setP M k v) := by
  obtain ⟨o1, o2, o3, o4, o5, o6, o7⟩ := O
  refine ⟨o1, o2, o3, o4, o5, fun j hj => ?_, o7⟩
  by_cases q : j = k
  · show 0 ≤ updI _ k v j ∧ updI _ k v j ≤ 99999
    simp only [updI, if_t q]
    exact h
  · show 0 ≤ updI _ k v j ∧ updI _ k v j ≤ 99999
    simp only [updI, if_f q]
    exact o6 j hj
theorem CBase.setP {D : DT} {M : MS} (C : CBase D M) {k : Nat} {v : Int} : CBase (sA D (2 + 5) k v) (setP M k v) := by
  obtain ⟨⟨c1, c2, c3, c4⟩, c5, c6⟩ := C
  refine ⟨⟨c1, c2, fun j hj => ?_, c4⟩, c5, c6⟩
  rw [sA2]
  by_cases q : j = k
  · rw [if_pos ⟨rfl, q⟩]
    show _ = updI _ k v j
    simp only [updI, if_t q]
  · rw [if_neg (fun h => q h.2), c3 j hj]
    show _ = updI _ k v j
    simp only [updI, if_f q]
theorem RInv.setP {D : DT} {M : MS} (R : RInv D M) {k : Nat} {v : Int} (h : 0 ≤ v ∧ v ≤ 99999) : RInv (sA D 82 k v) (setP M k v) := by
  obtain ⟨c1, c2, c3, c4, c5, c8, c9, c10, c11⟩ := R
  refine ⟨c1.setP h, c2, fun j hj => ?_, c4, c5, c8, c9, c10, c11.cong rfl rfl ⟨rfl, rfl, rfl⟩⟩
  rw [sA2]
  by_cases q : j = k
  · rw [if_pos ⟨rfl, q⟩]
    show _ = updI _ k v j
    simp only [updI, if_t q]
  · rw [if_neg (fun h => q h.2), c3 j hj]
    show _ = updI _ k v j
    simp only [updI, if_f q]
theorem step_people : StepOK m_L_c7 := fun xs Ls s hx hs ⟨M, hC, hR⟩ => by
  have x1 := hx (Int.toNat (s.1 + 1))
  have x2 := hx (Int.toNat (s.1 + 2))
  have x3 := hx (Int.toNat (s.1 + 3))
  by_cases q1 : 0 ≤ xs (Int.toNat (s.1 + 1)) ∧ xs (Int.toNat (s.1 + 1)) < (mZ M : Int)
  · have a1 := cn_zone_t hC.1 hC.2.1 x1 q1
    by_cases q2 : 0 ≤ xs (Int.toNat (s.1 + 2)) ∧ xs (Int.toNat (s.1 + 2)) < (mG M : Int)
    · have a2 := cn_group_t hC.1 hC.2.1 x2 q2
      by_cases q3 : 0 ≤ xs (Int.toNat (s.1 + 3)) ∧ xs (Int.toNat (s.1 + 3)) ≤ 99999
      · obtain ⟨z, hz⟩ := nat_of q1.1
        obtain ⟨g, hg⟩ := nat_of q2.1
        have b1 := hC.1.2.2.1
        have b2 := hC.1.2.2.2.1
        have hk : 3 * z + g < 24 := by omega
        have hp := hC.1.p hk
        have e1 := hC.2.1.1.2.2.1 (3 * z + g) (by omega)
        have k1 : (z : Int) * 3 + (g : Int) = ((3 * z + g : Nat) : Int) := by omega
        have k2 : 3 * (z : Int) + (g : Int) = ((3 * z + g : Nat) : Int) := by omega
        rw [hz] at a1 q1 x1
        rw [hg] at a2 q2 x2
        have st : m_X1_settle 2 (z : Int) (g : Int) (xs (Int.toNat (s.1 + 3))) s.2 = some (sA s.2 (2 + 5) (3 * z + g) (xs (Int.toNat (s.1 + 3)))) := by
          by_cases q4 : xs (Int.toNat (s.1 + 3)) < 99999
          · simp (disch := omega) only [m_X1_settle, gd_t, if_t, k1, tn, sq_eq]
          · have q5 : xs (Int.toNat (s.1 + 3)) = 99999 := by omega
            simp (disch := omega) only [m_X1_settle, gd_t, if_f, k1, tn, sq_eq, q5]
        refine comb_people hx hs (M' := setP M (3 * z + g) (xs (Int.toNat (s.1 + 3)))) (sp := .inl (mP M (3 * z + g))) (by show InR _; omega) ⟨frgN (sA s.2 (2 + 5) (3 * z + g) (xs (Int.toNat (s.1 + 3)))), ?_, CInv.frg (M := M) (hC.1.setP q3) hC.2.1.setP (hC.2.2.1.2.1.cong rfl rfl rfl (fun k hk => by funext j; rw [sA2, if_neg (by omega)])) rfl rfl, (FrC.a (by omega)).trans (frgN_frC _)⟩ hR (fun D r => ⟨mP M (3 * z + g), sA (sF D 73 0 0) 82 (3 * z + g) (xs (Int.toNat (s.1 + 3))), ?_, r.thr.setP q3, (FrR.f (by omega)).trans (FrR.a (by omega)), rfl, fun v h => by injection h⟩)
        · simp (disch := omega) only [m_X10_people, hz, hg, a1, a2, bndN_inl, gd_t, if_t, if_f, m_X1_livingIn, k1, tn, ob_some, e1, st, X10_numbersChanged]
        · have y1 := rn_zone_t (r.thr (x := 0)) x1 q1
          have y2 := rn_group_t (r.thr (x := 0)) x2 q2
          have e2 := (r.thr (x := 0)).2.2.1 (3 * z + g) hk
          have i := rn_in_t (D := sF D 73 0 0) (a := 0) (b := 99999) x3 (by omega) (by omega) q3
          simp (disch := omega) only [m_X11_people, m_X11_people_37, sq_eq, hz, hg, y1, y2, bnd_some, gd_t, ↓reduceIte, i, ob_some, if_f, rn_th_0, k2, tn, e2]
      · refine comb_people hx hs (sp := .inr 2) (by simp [spX]) (ClsX.same hC ?_) hR (RefX.same (c := 2) 0 rfl (fun v h => by cases h) (fun D r => ?_))
        · by_cases q4 : 0 ≤ xs (Int.toNat (s.1 + 3))
          · simp (disch := omega) only [m_X10_people, a1, a2, bndN_inl, gd_t, if_t]
          · simp (disch := omega) only [m_X10_people, a1, a2, bndN_inl, gd_t, if_f]
        · have y1 := rn_zone_t (r.thr (x := 0)) x1 q1
          have y2 := rn_group_t (r.thr (x := 0)) x2 q2
          have i := rn_in_f (D := sF D 73 0 0) (a := 0) (b := 99999) x3 (by omega) (by omega) q3
          simp (disch := omega) only [m_X11_people, m_X11_people_37, sq_eq, y1, y2, bnd_some, gd_t, ↓reduceIte, i, ob_some, if_f, rn_th_1, sFF]
    · have a2 := cn_group_f hC.1 hC.2.1 x2 q2
      refine comb_people hx hs (sp := .inr 0) (by simp [spX]) (ClsX.same hC ?_) hR (RefX.same (c := 1) 0 rfl (fun v h => by cases h) (fun D r => ?_))
      · simp (disch := omega) only [m_X10_people, a1, a2, bndN_inl, bndN_inr]
      · have y1 := rn_zone_t (r.thr (x := 0)) x1 q1
        have y2 := rn_group_f (r.thr (x := 0)) x2 q2
        simp (disch := omega) only [m_X11_people, sq_eq, y1, y2, bnd_some, gd_t, ↓reduceIte, if_f, sFF]
  · have a1 := cn_zone_f hC.1 hC.2.1 x1 q1
    refine comb_people hx hs (sp := .inr 0) (by simp [spX]) (ClsX.same hC ?_) hR (RefX.same (c := 1) 0 rfl (fun v h => by cases h) (fun D r => ?_))
    · simp (disch := omega) only [m_X10_people, a1, bndN_inr]
    · have y1 := rn_zone_f (r.thr (x := 0)) x1 q1
      simp (disch := omega) only [m_X11_people, sq_eq, y1, bnd_some, gd_t, ↓reduceIte, if_f, sFF]
/-! ===== what doesn't hang on the tape, the fault, what was written ===== -/
/-- all that the reckoned things hang on -/
def Same (M M' : MS) : Prop := M'.1 = M.1 ∧ M'.2.1 = M.2.1 ∧ M'.2.2.1 = M.2.2.1 ∧ mU M' = mU M ∧ mF M' = mF M
section Same
variable {M M' : MS}
theorem dotM_same (h : Same M M') (u : Int) (g l : Nat) : dotM M' u g l = dotM M u g l := by
  obtain ⟨h1, h2, h3, h4, h5⟩ := h
  induction l with
  | zero => simp only [dotM, ldM_cong h1 h2, mP, h3]
  | succ l ih => simp only [dotM, ldM_cong h1 h2, ih, h5]
theorem carM_same (h : Same M M') (g l z : Nat) : carM M' g l z = carM M g l z := by
  have d := dotM_same h
  obtain ⟨h1, h2, h3, h4, h5⟩ := h
  cases l with
  | zero => simp only [carM, inM, szM, ldM_cong h1 h2, mP, h3, h4]
  | succ l => simp only [carM, inM, szM, ldM_cong h1 h2, d, h4, h5]
theorem crwM_same (h : Same M M') (l c g : Nat) : crwM M' l c g = crwM M l c g := by
  have d := dotM_same h
  obtain ⟨h1, h2, h3, h4, h5⟩ := h
  have e : ∀ z, lnd M' z = lnd M z := fun z => by
    unfold lnd mO mS nC mW mH
    rw [h1, h2]
  have e2 : hasL M' c = hasL M c := by
    unfold hasL mO mS
    rw [h2]
  simp only [crwM, e, e2, d, h4, plcM_cong h1 h2, mG, h1, mO, h2]
theorem togM_same (h : Same M M') (l c : Nat) : togM M' l c = togM M l c := by
  simp only [togM, crwM_same h]
theorem sptM_same (h : Same M M') (l : Nat) : sptM M' l = sptM M l := by
  simp only [sptM, togM_same h, nC, mW, mH, h.1]
theorem dotP_same (h : Same M M') (l : Nat) : dotP M' l = dotP M l := by
  funext c
  show decide _ = decide _
  rw [togM_same h]
theorem pthM_same (h : Same M M') (k l : Nat) (n : Int) : pthM M' k l n = pthM M k l n := by
  match k with
  | 0 => simp only [pthM, sptM_same h, mW, h.1]
  | 1 => simp only [pthM, dotP_same h, nC, mW, mH, h.1]
  | _ + 2 => simp only [pthM, dotP_same h, nC, mW, mH, h.1]
theorem CCache.same {D : DT} {p : Nat} (h : CCache D p M) (S : Same M M') : CCache D p M' := by
  obtain ⟨c1, c2, c3⟩ := h
  refine ⟨?_, c2.cong S.1 S.2.1 rfl (fun _ _ => rfl), ?_⟩
  · unfold TallyRep at *
    simp only [ldM_cong S.1 S.2.1, dotM_same S, carM_same S, S.2.2.2.1, mZ, mG, S.1] at *
    exact c1
  · unfold CrowdRep CrowdAt at *
    simp only [crwM_same S, togM_same S, sptM_same S, nC, mW, mH, S.1] at *
    exact c3
theorem PathRep.same {D : DT} (h : PathRep D M) (S : Same M M') : PathRep D M' := by
  unfold PathRep PathAt at *
  simp only [pthM_same S, mW, S.1] at *
  exact h
end Same
/-! ===== step: end ===== -/
abbrev setT (M : MS) (n : Nat) (t : Nat → Int) : MS := (M.1, M.2.1, M.2.2.1, M.2.2.2.1, (n, t), M.2.2.2.2.2)
theorem Same.setT {M : MS} {n : Nat} {t : Nat → Int} : Same M (setT M n t) := ⟨rfl, rfl, rfl, rfl, rfl⟩
theorem MOK.setT {M : MS} (O : MOK M) {n : Nat} {t : Nat → Int} (h : n ≤ 400 ∧ ∀ k, k < n → -128 ≤ t k ∧ t k ≤ 127) : MOK (setT M n t) := by
  obtain ⟨o1, o2, o3, o4, o5, o6, o7, o8, o9, o10⟩ := O
  exact ⟨o1, o2, o3, o4, o5, o6, o7, o8, h, o10⟩
/-- the class with another tape -/
theorem CInv.setT {D D' : DT} {M : MS} (h : CInv D M) {n : Nat} {t : Nat → Int} (hn : n ≤ 400 ∧ ∀ k, k < n → -128 ≤ t k ∧ t k ≤ 127) (hF : ∀ a k, (a ≠ 55 ∨ k ≠ 0) → D'.1 a k = D.1 a k) (hA : ∀ a, a ≠ 64 → D'.2 a = D.2 a) (e1 : D'.1 55 0 = (n : Int)) (e2 : ∀ k, k < n → D'.2 64 k = t k) : CInv D' (setT M n t) := by
  obtain ⟨O, ⟨c1, c2, c3, c4, c5⟩, c6, c7⟩ := h
  refine ⟨O.setT hn, ⟨?_, ?_, ?_, ⟨e1, e2⟩, ?_⟩, ?_, ?_⟩
  · unfold ChartRep CMap at *
    simp (disch := omega) only [hF, hA]
    exact c1
  · unfold ChartRng at *
    simp (disch := omega) only [hF, hA]
    exact c2
  · simp (disch := omega) only [hF, hA]
    exact c3
  · simp (disch := omega) only [hF, hA]
    exact c5
  · have := c6.same (Same.setT (M := M) (n := n) (t := t))
    unfold CCache TallyRep RanksRep RanksOf RanksAll CrowdRep CrowdAt at *
    simp (disch := omega) only [hF, hA]
    exact this
  · have := c7.same (Same.setT (M := M) (n := n) (t := t))
    unfold PathRep PathAt at *
    simp (disch := omega) only [hF, hA]
    exact this
theorem RInv.setT {D D' : DT} {M : MS} (h : RInv D M) {n : Nat} {t : Nat → Int} (hn : n ≤ 400 ∧ ∀ k, k < n → -128 ≤ t k ∧ t k ≤ 127) (hF : ∀ k ∈ [14, 15, 20, 40], D'.1 73 k = D.1 73 k) (hA : ∀ a ∈ [76, 78, 80, 82, 84, 85, 86, 87, 88, 101], D'.2 a = D.2 a) (e1 : D'.1 73 2 = (n : Int)) (e2 : ∀ k, k < n → D'.2 74 k = t k) : RInv D' (setT M n t) := by
  have a76 := hA 76 (by decide)
  have a78 := hA 78 (by decide)
  have a80 := hA 80 (by decide)
  have a82 := hA 82 (by decide)
  have a84 := hA 84 (by decide)
  have a85 := hA 85 (by decide)
  have a86 := hA 86 (by decide)
  have a87 := hA 87 (by decide)
  have a88 := hA 88 (by decide)
  have a101 := hA 101 (by decide)
  have f14 := hF 14 (by decide)
  have f15 := hF 15 (by decide)
  have f20 := hF 20 (by decide)
  have f40 := hF 40 (by decide)
  obtain ⟨c1, c2, c3, c4, c5, c8, c9, c10, c11⟩ := h
  refine ⟨c1.setT hn, ?_, ?_, ?_, ?_, ⟨e1, e2⟩, ?_, ?_, c11.cong rfl rfl ⟨a86, a87, a88⟩⟩
  · unfold RMap at *
    rw [a76, a78, a80]
    exact c2
  · rw [a82]
    exact c3
  · rw [a84]
    exact c4
  · rw [f14, f15, f20]
    exact c5
  · rw [f40, a101]
    exact c9
  · rw [a85]
    exact c10
theorem step_end : StepOK m_L_c1 := fun xs Ls s hx hs ⟨M, hC, hR⟩ => by
  have x1 := hx (Int.toNat (s.1 + 1))
  have c1 := hC.2.1.2.2.2.1.1
  have t1 := hC.1.tp
  by_cases q : 0 ≤ xs (Int.toNat (s.1 + 1)) ∧ xs (Int.toNat (s.1 + 1)) ≤ (mTL M : Int)
  · obtain ⟨n, hn⟩ := nat_of q.1
    have hb : n ≤ mTL M := by omega
    have hn' : n ≤ 400 ∧ ∀ k, k < n → -128 ≤ mT M k ∧ mT M k ≤ 127 := ⟨by omega, fun k hk => t1.2 k (by omega)⟩
    rw [hn] at q x1
    refine comb_end hx hs (M' := setT M n (mT M)) (v := 1) (by omega) ⟨sF s.2 55 0 (n : Int), ?_, hC.setT hn' (fun a k h => by rw [sF1, if_neg (by omega)]) (fun a h => rfl) rfl (fun k hk => hC.2.1.2.2.2.1.2 k (by omega)), FrC.f (by omega)⟩ hR (fun D r => ⟨sF (sF D 73 0 0) 73 2 (n : Int), ?_, r.setT hn' (fun k hk => ?_) (fun a h => rfl) rfl (fun k hk => r.2.2.2.2.2.1.2 k (by omega)), (FrR.f (by omega)).trans (FrR.f (by omega))⟩)
    · simp (disch := omega) only [m_X10_end, hn, gd_t, if_t, if_f, c1, sq_eq]
    · have e := (r.thr (x := 0)).2.2.2.2.2.1.1
      simp (disch := omega) only [m_X11_end, hn, gd_t, if_t, if_f, sq_eq, e]
    · simp only [List.mem_cons, List.not_mem_nil, or_false] at hk
      rw [sF1, if_neg (by omega), sF1, if_neg (by omega)]
  · refine comb_end hx hs (M' := M) (v := 0) (by omega) ⟨s.2, ?_, hC, FrC.rfl⟩ hR (fun D r => ⟨sF D 73 0 0, ?_, r.thr, FrR.f (by omega)⟩)
    · by_cases q2 : 0 ≤ xs (Int.toNat (s.1 + 1))
      · simp (disch := omega) only [m_X10_end, gd_t, if_t, c1]
      · simp (disch := omega) only [m_X10_end, gd_t, if_f]
    · have e := (r.thr (x := 0)).2.2.2.2.2.1.1
      by_cases q2 : 0 ≤ xs (Int.toNat (s.1 + 1))
      · simp (disch := omega) only [m_X11_end, gd_t, if_t, sq_eq, e]
      · simp (disch := omega) only [m_X11_end, gd_t, if_f, sq_eq]
