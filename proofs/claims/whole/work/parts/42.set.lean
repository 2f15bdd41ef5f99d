/-! ===== what hangs on the map alone ===== -/
section Cong
variable {M M' : MS}
theorem ordN_cong (h1 : M'.1 = M.1) (h2 : M'.2.1 = M.2.1) (z : Int) (k : Nat) : ordN M' z k = ordN M z k := by
  obtain ⟨d, m, r⟩ := M
  obtain ⟨d', m', r'⟩ := M'
  simp only at h1 h2
  subst h1 h2
  induction k with
  | zero => rfl
  | succ k ih =>
    simp only [ordN]
    rw [ih]
    rfl
theorem ordL_cong (h1 : M'.1 = M.1) (h2 : M'.2.1 = M.2.1) (z : Int) : ordL M' z = ordL M z := by
  unfold ordL
  rw [ordN_cong h1 h2]
  unfold nC mW mH
  rw [h1]
theorem isL_cong (h2 : M'.2.1 = M.2.1) (z : Int) (c : Nat) : isL M' z c = isL M z c := by
  unfold isL mO mS
  rw [h2]
theorem plcM_cong (h1 : M'.1 = M.1) (h2 : M'.2.1 = M.2.1) (c : Nat) : plcM M' c = plcM M c := by
  unfold plcM hasL mO mS
  rw [h2, ordL_cong h1 h2]
theorem ldM_cong (h1 : M'.1 = M.1) (h2 : M'.2.1 = M.2.1) : ldM M' = ldM M := by
  funext z
  unfold ldM lnd mO mS nC mW mH
  rw [h1, h2]
theorem fstM_cong (h1 : M'.1 = M.1) (h2 : M'.2.1 = M.2.1) : fstM M' = fstM M := by
  funext z
  unfold fstM
  rw [ldM_cong h1 h2]
theorem RanksRep.cong {D D' : DT} {r : Nat} (h : RanksRep D r M) (h1 : M'.1 = M.1) (h2 : M'.2.1 = M.2.1) (hF : D'.1 r 4 = D.1 r 4) (hA : ∀ k, 1 ≤ k ∧ k ≤ 4 → D'.2 (r + k) = D.2 (r + k)) : RanksRep D' r M' := by
  have e1 := hA 1 (by omega)
  have e2 := hA 2 (by omega)
  have e3 := hA 3 (by omega)
  have e4 := hA 4 (by omega)
  unfold RanksRep RanksOf RanksAll at *
  simp only [e1, e2, e3, e4, hF, isL_cong h2, plcM_cong h1 h2, fstM_cong h1 h2, ordL_cong h1 h2, nC, mW, mH, mZ, h1] at *
  exact h
theorem OrdRep.cong {D D' : DT} (h : OrdRep D M) (h1 : M'.1 = M.1) (h2 : M'.2.1 = M.2.1) (hA : D'.2 86 = D.2 86 ∧ D'.2 87 = D.2 87 ∧ D'.2 88 = D.2 88) : OrdRep D' M' := by
  obtain ⟨e1, e2, e3⟩ := hA
  unfold OrdRep at *
  simp only [e1, e2, e3, plcM_cong h1 h2, fstM_cong h1 h2, ordL_cong h1 h2, nC, mW, mH, mZ, h1] at *
  exact h
end Cong
/-! ===== numbers changed: the class forgets ===== -/
abbrev frgN (D : DT) : DT := sF (sF (sF D (1 + 9) 0 0) (1 + 22) 0 (-1)) 70 5 (-1)
theorem X10_numbersChanged (D : DT) : m_X10_numbersChanged D = some (frgN D) := by
  simp only [m_X10_numbersChanged, m_X5_numbersChanged, m_X2_forget, m_X4_forget, sq_eq, ob_some]
theorem frgN1 (D : DT) {a k : Nat} (h : (a = 10 → k ≠ 0) ∧ (a = 23 → k ≠ 0) ∧ (a = 70 → k ≠ 5)) : (frgN D).1 a k = D.1 a k := by
  unfold frgN
  rw [sF1, if_neg (by omega), sF1, if_neg (by omega), sF1, if_neg (by omega)]
theorem frgN_frC (D : DT) : FrC D (frgN D) := ((FrC.f (by omega)).trans (FrC.f (by omega))).trans (FrC.f (by omega))
/-- the class forgets, and holds the map M' -/
theorem CInv.frg {D : DT} {M M' : MS} (O : MOK M') (C : CBase D M') (K : RanksRep D 15 M) (h1 : M'.1 = M.1) (h2 : M'.2.1 = M.2.1) : CInv (frgN D) M' := by
  refine ⟨O, ?_, ⟨Or.inl ?_, K.cong h1 h2 (frgN1 D (by omega)) (fun k hk => rfl), Or.inl ?_⟩, Or.inl ?_⟩
  · have f : ∀ a k, (a ≠ 10 ∧ a ≠ 23 ∧ a ≠ 70) → (frgN D).1 a k = D.1 a k := fun a k h => frgN1 D (by omega)
    unfold CBase ChartRep ChartRng CMap at *
    rw [f 2 0 (by omega), f 2 1 (by omega), f 2 2 (by omega), f 2 3 (by omega), f 1 1 (by omega), f 1 2 (by omega), f 0 3 (by omega), f 55 0 (by omega), f 65 0 (by omega)]
    exact C
  · unfold frgN
    rw [sF1, if_neg (by omega), sF1, if_neg (by omega), sF1, if_pos ⟨rfl, rfl⟩]
  · unfold frgN
    rw [sF1, if_neg (by omega), sF1, if_pos ⟨rfl, rfl⟩]
  · unfold frgN
    rw [sF1, if_pos ⟨rfl, rfl⟩]
/-! ===== steps: unit, factor ===== -/
abbrev setU (M : MS) (v : Int) : MS := (M.1, M.2.1, M.2.2.1, (v, M.2.2.2.1.2), M.2.2.2.2)
abbrev setFa (M : MS) (v : Int) : MS := (M.1, M.2.1, M.2.2.1, (M.2.2.2.1.1, v, M.2.2.2.1.2.2), M.2.2.2.2)
theorem MOK.setU {M : MS} (O : MOK M) {v : Int} (h : 1 ≤ v ∧ v ≤ 9999) : MOK (setU M v) := by
  obtain ⟨o1, o2, o3, o4, o5, o6, o7, ⟨o8, o9⟩, o10⟩ := O
  exact ⟨o1, o2, o3, o4, o5, o6, o7, ⟨h, o9⟩, o10⟩
theorem MOK.setFa {M : MS} (O : MOK M) {v : Int} (h : 2 ≤ v ∧ v ≤ 10) : MOK (setFa M v) := by
  obtain ⟨o1, o2, o3, o4, o5, o6, o7, ⟨o8, o9, o9b⟩, o10⟩ := O
  exact ⟨o1, o2, o3, o4, o5, o6, o7, ⟨o8, h, o9b⟩, o10⟩
theorem CBase.setU {D : DT} {M : MS} (C : CBase D M) {v : Int} : CBase (sF D 1 1 v) (setU M v) := by
  obtain ⟨c1, c2, ⟨c3, c4, c5⟩, c6⟩ := C
  exact ⟨c1, c2, ⟨rfl, c4, c5⟩, c6⟩
theorem CBase.setFa {D : DT} {M : MS} (C : CBase D M) {v : Int} : CBase (sF D 1 2 v) (setFa M v) := by
  obtain ⟨c1, c2, ⟨c3, c4, c5⟩, c6⟩ := C
  exact ⟨c1, c2, ⟨c3, rfl, c5⟩, c6⟩
theorem RInv.setU {D : DT} {M : MS} (R : RInv D M) {v : Int} (h : 1 ≤ v ∧ v ≤ 9999) : RInv (sF D 73 14 v) (setU M v) := by
  obtain ⟨c1, c2, c3, c4, ⟨c5, c6, c7⟩, c8, c9, c10, c11⟩ := R
  exact ⟨c1.setU h, c2, c3, c4, ⟨rfl, c6, c7⟩, c8, c9, c10, c11.cong rfl rfl ⟨rfl, rfl, rfl⟩⟩
theorem RInv.setFa {D : DT} {M : MS} (R : RInv D M) {v : Int} (h : 2 ≤ v ∧ v ≤ 10) : RInv (sF D 73 15 v) (setFa M v) := by
  obtain ⟨c1, c2, c3, c4, ⟨c5, c6, c7⟩, c8, c9, c10, c11⟩ := R
  exact ⟨c1.setFa h, c2, c3, c4, ⟨c5, rfl, c7⟩, c8, c9, c10, c11.cong rfl rfl ⟨rfl, rfl, rfl⟩⟩
theorem step_unit : StepOK m_L_c10 := fun xs Ls s hx hs ⟨M, hC, hR⟩ => by
  have x1 := hx (Int.toNat (s.1 + 1))
  by_cases q : 1 ≤ xs (Int.toNat (s.1 + 1)) ∧ xs (Int.toNat (s.1 + 1)) ≤ 9999
  · have b := hC.1.ufx
    refine comb_unit hx hs (M' := setU M (xs (Int.toNat (s.1 + 1)))) (sp := .inl (mU M)) (by show InR _; omega) ⟨frgN (sF s.2 1 1 (xs (Int.toNat (s.1 + 1)))), ?_, CInv.frg (M := M) (hC.1.setU q) hC.2.1.setU (hC.2.2.1.2.1.cong rfl rfl rfl (fun _ _ => rfl)) rfl rfl, (FrC.f (by omega)).trans (frgN_frC _)⟩ hR (fun D r => ⟨mU M, sF (sF D 73 0 0) 73 14 (xs (Int.toNat (s.1 + 1))), ?_, r.thr.setU q, (FrR.f (by omega)).trans (FrR.f (by omega)), rfl, fun v h => by injection h⟩)
    · simp (disch := omega) only [m_X10_unit, gd_t, if_t, if_f, sq_eq, X10_numbersChanged, ob_some, hC.2.1.2.2.1.1]
    · have i := rn_in_t (D := sF D 73 0 0) (a := 1) (b := 9999) x1 (by omega) (by omega) q
      have e := (r.thr (x := 0)).2.2.2.2.1.1
      simp (disch := omega) only [m_X11_unit, sq_eq, i, ob_some, gd_t, if_f, rn_th_0, bnd_some, ↓reduceIte, e]
  · refine comb_unit hx hs (sp := .inr 2) (by simp [spX]) (ClsX.same hC ?_) hR (RefX.same (c := 1) 0 rfl (fun v h => by cases h) (fun D r => ?_))
    · by_cases q2 : 1 ≤ xs (Int.toNat (s.1 + 1))
      · simp (disch := omega) only [m_X10_unit, gd_t, if_t]
      · simp (disch := omega) only [m_X10_unit, gd_t, if_f]
    · have i := rn_in_f (D := sF D 73 0 0) (a := 1) (b := 9999) x1 (by omega) (by omega) q
      simp (disch := omega) only [m_X11_unit, sq_eq, i, ob_some, gd_t, if_f, rn_th_1, bnd_some, ↓reduceIte, sFF]
theorem step_factor : StepOK m_L_c11 := fun xs Ls s hx hs ⟨M, hC, hR⟩ => by
  have x1 := hx (Int.toNat (s.1 + 1))
  by_cases q : 2 ≤ xs (Int.toNat (s.1 + 1)) ∧ xs (Int.toNat (s.1 + 1)) ≤ 10
  · have b := hC.1.ufx
    refine comb_factor hx hs (M' := setFa M (xs (Int.toNat (s.1 + 1)))) (sp := .inl (mF M)) (by show InR _; omega) ⟨frgN (sF s.2 1 2 (xs (Int.toNat (s.1 + 1)))), ?_, CInv.frg (M := M) (hC.1.setFa q) hC.2.1.setFa (hC.2.2.1.2.1.cong rfl rfl rfl (fun _ _ => rfl)) rfl rfl, (FrC.f (by omega)).trans (frgN_frC _)⟩ hR (fun D r => ⟨mF M, sF (sF D 73 0 0) 73 15 (xs (Int.toNat (s.1 + 1))), ?_, r.thr.setFa q, (FrR.f (by omega)).trans (FrR.f (by omega)), rfl, fun v h => by injection h⟩)
    · simp (disch := omega) only [m_X10_factor, gd_t, if_t, if_f, sq_eq, X10_numbersChanged, ob_some, hC.2.1.2.2.1.2.1]
    · have i := rn_in_t (D := sF D 73 0 0) (a := 2) (b := 10) x1 (by omega) (by omega) q
      have e := (r.thr (x := 0)).2.2.2.2.1.2.1
      simp (disch := omega) only [m_X11_factor, sq_eq, i, ob_some, gd_t, if_f, rn_th_0, bnd_some, ↓reduceIte, e]
  · refine comb_factor hx hs (sp := .inr 2) (by simp [spX]) (ClsX.same hC ?_) hR (RefX.same (c := 1) 0 rfl (fun v h => by cases h) (fun D r => ?_))
    · by_cases q2 : 2 ≤ xs (Int.toNat (s.1 + 1))
      · simp (disch := omega) only [m_X10_factor, gd_t, if_t]
      · simp (disch := omega) only [m_X10_factor, gd_t, if_f]
    · have i := rn_in_f (D := sF D 73 0 0) (a := 2) (b := 10) x1 (by omega) (by omega) q
      simp (disch := omega) only [m_X11_factor, sq_eq, i, ob_some, gd_t, if_f, rn_th_1, bnd_some, ↓reduceIte, sFF]
