/-! ===== places of cells in the order of all zones ===== -/
theorem sum_own (a : Int) (q : Prop) [Decidable q] (n : Nat) : sumTo (fun z => b2i (a = (z : Int) ∧ q)) n = b2i ((0 ≤ a ∧ a < (n : Int)) ∧ q) := by
  induction n with
  | zero => rw [sumTo, b2i_f (by omega)]
  | succ n ih =>
    rw [sumTo, ih]
    have c1 : ((n + 1 : Nat) : Int) = (n : Int) + 1 := rfl
    by_cases hq : q
    · by_cases e1 : 0 ≤ a ∧ a < (n : Int)
      · rw [b2i_t ⟨e1, hq⟩, b2i_f (fun h => by omega), b2i_t ⟨by omega, hq⟩]; rfl
      · by_cases e2 : a = (n : Int)
        · rw [b2i_f (fun h => e1 h.1), b2i_t ⟨e2, hq⟩, b2i_t ⟨by omega, hq⟩]; rfl
        · rw [b2i_f (fun h => e1 h.1), b2i_f (fun h => e2 h.1), b2i_f (fun h => by omega)]; rfl
    · rw [b2i_f (fun h => hq h.2), b2i_f (fun h => hq h.2), b2i_f (fun h => hq h.2)]; rfl
theorem fst_b {M : MS} (O : MOK M) (z : Nat) : 0 ≤ fstM M z ∧ fstM M z ≤ (nC M : Int) := by
  have e : fstM M z = sumTo (fun c => sumTo (fun z => b2i (mO M c = (z : Int) ∧ mS M c = 0)) z) (nC M) := by
    rw [← sum_swap (fun z c => b2i (mO M c = ((z : Nat) : Int) ∧ mS M c = 0))]
    rfl
  rw [e]
  have := sumTo_bounds (f := fun c => sumTo (fun z => b2i (mO M c = (z : Int) ∧ mS M c = 0)) z) (n := nC M) (a := 0) (b := 1) (fun c _ => by rw [sum_own]; exact b2i_01)
  omega
theorem fst_s (M : MS) (z : Nat) : fstM M (z + 1) = fstM M z + ldM M z := rfl
theorem fst_mono {M : MS} (O : MOK M) {z z' : Nat} (h : z ≤ z') : fstM M z ≤ fstM M z' := sumTo_mono h (fun k _ => (ldM_b O k).1)
theorem own_of {M : MS} (O : MOK M) {c : Nat} (hc : c < nC M) (h : hasL M c = true) : ∃ z : Nat, z < mZ M ∧ mO M c = (z : Int) ∧ isL M (z : Int) c = true := by
  have b := (O.2.2.2.2.1 c hc).1
  have h1 := hasL_iff.mp h
  obtain ⟨z, hz⟩ := nat_of (v := mO M c) (by omega)
  exact ⟨z, by omega, hz, isL_iff.mpr ⟨hz, h1.2⟩⟩
theorem has_of {M : MS} {z : Nat} {c : Nat} (h : isL M (z : Int) c = true) : hasL M c = true := by
  have h1 := isL_iff.mp h
  exact hasL_iff.mpr ⟨by omega, h1.2⟩
theorem plc_b {M : MS} {z : Nat} {c : Nat} (hc : c < nC M) (h : isL M (z : Int) c = true) : 0 ≤ plcM M c ∧ plcM M c < ldM M z := by
  have hm := ord_all hc h
  have hi := List.idxOf_lt_length_of_mem hm
  have e : plcM M c = ((ordL M (z : Int)).idxOf c : Int) := by
    unfold plcM
    rw [if_pos (has_of h), (isL_iff.mp h).1]
  have l : ((ordL M (z : Int)).length : Int) = ldM M z := ord_len M z
  omega
theorem plc_inj {M : MS} {z : Nat} {c c' : Nat} (hc : c < nC M) (hc' : c' < nC M) (h : isL M (z : Int) c = true) (h' : isL M (z : Int) c' = true) (e : plcM M c = plcM M c') : c = c' := by
  have e1 : plcM M c = ((ordL M (z : Int)).idxOf c : Int) := by
    unfold plcM
    rw [if_pos (has_of h), (isL_iff.mp h).1]
  have e2 : plcM M c' = ((ordL M (z : Int)).idxOf c' : Int) := by
    unfold plcM
    rw [if_pos (has_of h'), (isL_iff.mp h').1]
  have e3 : (ordL M (z : Int)).idxOf c = (ordL M (z : Int)).idxOf c' := by omega
  have g1 := List.getElem_idxOf (List.idxOf_lt_length_of_mem (ord_all hc h))
  have g2 := List.getElem_idxOf (List.idxOf_lt_length_of_mem (ord_all hc' h'))
  simp only [e3] at g1
  exact g1.symm.trans g2
def posM (M : MS) (c : Nat) : Int := fstM M (mO M c).toNat + plcM M c
theorem pos_b {M : MS} (O : MOK M) {c : Nat} (hc : c < nC M) (h : hasL M c = true) : 0 ≤ posM M c ∧ posM M c < (nC M : Int) := by
  obtain ⟨z, hz, ho, hl⟩ := own_of O hc h
  have b1 := plc_b hc hl
  have b2 := fst_b O z
  have b3 := fst_b O (z + 1)
  have b4 := fst_s M z
  unfold posM
  rw [ho, tn]
  omega
theorem pos_inj {M : MS} (O : MOK M) {c c' : Nat} (hc : c < nC M) (hc' : c' < nC M) (h : hasL M c = true) (h' : hasL M c' = true) (e : posM M c = posM M c') : c = c' := by
  obtain ⟨z, hz, ho, hl⟩ := own_of O hc h
  obtain ⟨z', hz', ho', hl'⟩ := own_of O hc' h'
  have b1 := plc_b hc hl
  have b1' := plc_b hc' hl'
  have b4 := fst_s M z
  have b4' := fst_s M z'
  unfold posM at e
  rw [ho, ho', tn, tn] at e
  rcases Nat.lt_trichotomy z z' with q | q | q
  · have := fst_mono O (show z + 1 ≤ z' from q)
    omega
  · subst q
    exact plc_inj hc hc' hl hl' (by omega)
  · have := fst_mono O (show z' + 1 ≤ z from q)
    omega
/-! ===== the class sorts, and renews its ranks ===== -/
def KpO (D D' : DT) (lo hi : Nat) : Prop := ∀ b, (b < lo ∨ hi < b) → D'.1 b = D.1 b ∧ D'.2 b = D.2 b
theorem KpO.refl (D : DT) (lo hi : Nat) : KpO D D lo hi := fun _ _ => ⟨rfl, rfl⟩
theorem KpO.trans {D D' D'' : DT} {lo hi lo' hi' l h : Nat} (a : KpO D D' lo hi) (b : KpO D' D'' lo' hi') (q : l ≤ lo ∧ l ≤ lo' ∧ hi ≤ h ∧ hi' ≤ h) : KpO D D'' l h := fun x hx => ⟨((b x (by omega)).1).trans (a x (by omega)).1, ((b x (by omega)).2).trans (a x (by omega)).2⟩
theorem ChartRep.fr {D D' : DT} {hc : Nat} {M : MS} (h : ChartRep D hc M) (f : ∀ b, hc ≤ b ∧ b ≤ hc + 7 → D'.1 b = D.1 b ∧ D'.2 b = D.2 b) : ChartRep D' hc M := by
  unfold ChartRep CMap at *
  rw [(f hc (by omega)).1, (f (hc + 1) (by omega)).2, (f (hc + 2) (by omega)).2, (f (hc + 3) (by omega)).2, (f (hc + 4) (by omega)).2, (f (hc + 5) (by omega)).2, (f (hc + 6) (by omega)).2, (f (hc + 7) (by omega)).2]
  exact h
theorem TallyRep.fr {D D' : DT} {t : Nat} {M : MS} (h : TallyRep D t M) (f : ∀ b, t ≤ b ∧ b ≤ t + 4 → D'.1 b = D.1 b ∧ D'.2 b = D.2 b) : TallyRep D' t M := by
  unfold TallyRep at *
  rw [(f t (by omega)).1, (f (t + 1) (by omega)).2, (f (t + 2) (by omega)).2, (f (t + 3) (by omega)).2, (f (t + 4) (by omega)).2]
  exact h
theorem CrowdRep.fr {D D' : DT} {k : Nat} {M : MS} (h : CrowdRep D k M) (f : ∀ b, k ≤ b ∧ b ≤ k + 3 → D'.1 b = D.1 b ∧ D'.2 b = D.2 b) : CrowdRep D' k M := by
  unfold CrowdRep CrowdAt at *
  rw [(f k (by omega)).1, (f (k + 1) (by omega)).2, (f (k + 2) (by omega)).2, (f (k + 3) (by omega)).2]
  exact h
theorem RanksRep.fr {D D' : DT} {r : Nat} {M : MS} (h : RanksRep D r M) (f : ∀ b, r ≤ b ∧ b ≤ r + 4 → D'.1 b = D.1 b ∧ D'.2 b = D.2 b) : RanksRep D' r M := h.cong rfl rfl (by rw [(f r (by omega)).1]) (fun k hk => (f (r + k) (by omega)).2)
theorem RanksAll.fr {D D' : DT} {r : Nat} {M : MS} (h : RanksAll D r M) (f : ∀ b, r ≤ b ∧ b ≤ r + 4 → D'.1 b = D.1 b ∧ D'.2 b = D.2 b) : RanksAll D' r M := by
  unfold RanksAll at *
  rw [(f (r + 1) (by omega)).2, (f (r + 2) (by omega)).2, (f (r + 3) (by omega)).2]
  exact h
theorem X6_sort {D : DT} {p : Nat} {M : MS} (C : ChartRep D (p + 1) M) (O : MOK M) (hT : ∀ z, z < 8 → D.2 (p + 10) z = ldM M z) (hK : ∀ z, z < mZ M → RanksOf D (p + 14) M z) : ∃ D', m_X6_sort (p + 14) (p + 1) (p + 10) D = some D' ∧ D'.1 = D.1 ∧ (∀ a, a ≠ p + 14 + 1 → a ≠ p + 14 + 2 → a ≠ p + 14 + 3 → D'.2 a = D.2 a) ∧ RanksAll D' (p + 14) M := by
  have z8 := O.2.2.1
  have n4 := nCb O
  unfold m_X6_sort m_X6_sort_5
  obtain ⟨s1, ⟨i1, i2, i3, i4, i5⟩, e⟩ := loop_inv (f := fun s : Int × Int × DT =>
    gd (InR s.2.1 ∧ InR (s.2.2.1 (p + 1) 2)) (if s.2.1 < (s.2.2.1 (p + 1) 2) then (
      gd ((0 : Int) ≤ s.2.1 ∧ s.2.1 < (8 : Int)) (sq (sA s.2.2 (p + 14 + 3) (Int.toNat s.2.1) s.1) (fun D21 =>
      gd ((0 : Int) ≤ s.2.1 ∧ s.2.1 < (8 : Int)) (
      some ((.inl ((s.1 + (D21.2 (p + 10) (Int.toNat s.2.1))), (s.2.1 + 1), D21)) : (Int × Int × DT) ⊕ DT)
      )))
    ) else (
      done (
      m_X6_sort_38 (p + 14) (p + 1) (p + 10) (0, s.2.2)
      )
    ))) (fun z s => s.1 = fstM M z ∧ s.2.1 = (z : Int) ∧ s.2.2.1 = D.1 ∧ (∀ a, a ≠ p + 14 + 3 → s.2.2.2 a = D.2 a) ∧ ∀ z', z' < z → s.2.2.2 (p + 14 + 3) z' = fstM M z') (mZ M) (s := (0, 0, D)) ⟨rfl, rfl, rfl, fun _ _ => rfl, fun _ h => absurd h (by omega)⟩ (fun z s hz ⟨a1, a2, a3, a4, a5⟩ => by
      have eZ : s.2.2.1 (p + 1) 2 = (mZ M : Int) := by rw [a3]; exact C.2.1.1
      have eT : (sA s.2.2 (p + 14 + 3) z (fstM M z)).2 (p + 10) z = ldM M z := by
        rw [sA2, if_neg (by omega), a4 _ (by omega)]
        exact hT z (by omega)
      refine ⟨(fstM M (z + 1), (z : Int) + 1, sA s.2.2 (p + 14 + 3) z (fstM M z)), ?_, rfl, rfl, a3, fun a ha => ?_, fun z' hz' => ?_⟩
      · simp (disch := omega) only [a1, a2, eZ, gd_t, if_t, tn, sq_eq, eT, fst_s]
      · funext j
        rw [sA2, if_neg (fun h => ha h.1), a4 a ha]
      · rw [sA2]
        by_cases q : z' = z
        · rw [if_pos ⟨rfl, q⟩, q]
        · rw [if_neg (fun h => q h.2)]
          exact a5 z' (by omega))
  have C2 : CMap s1.2.2 (p + 1) (mW M) (mH M) (mO M) (mS M) := C.1.cong (fun a ha => ⟨by rw [i3], i4 a (by omega)⟩)
  have second : ∃ D', m_X6_sort_38 (p + 14) (p + 1) (p + 10) (0, s1.2.2) = some D' ∧ D'.1 = D.1 ∧ (∀ a, a ≠ p + 14 + 1 → a ≠ p + 14 + 2 → D'.2 a = s1.2.2.2 a) ∧ (∀ c, c < nC M → D'.2 (p + 14 + 1) c = plcM M c) ∧ ∀ c, c < nC M → hasL M c = true → D'.2 (p + 14 + 2) (posM M c).toNat = (c : Int) := by
    unfold m_X6_sort_38
    obtain ⟨s2, ⟨j1, j2, j3, j4, j5, j6⟩, e2⟩ := loop_inv (f := fun s : Int × DT =>
      (m_X1_cells (p + 1) s.2).bind (fun r41 =>
      gd (InR s.1 ∧ InR r41) (if s.1 < r41 then (
        (m_X1_isLand (p + 1) s.1 s.2).bind (fun r50 =>
        gd (InR r50) (if r50 = 0 then (
          gd ((0 : Int) ≤ s.1 ∧ s.1 < (384 : Int)) (sq (sA s.2 (p + 14 + 1) (Int.toNat s.1) (-1)) (fun D93 =>
          some ((.inl ((s.1 + 1), D93)) : (Int × DT) ⊕ DT)
          ))
        ) else (
          gd ((0 : Int) ≤ s.1 ∧ s.1 < (384 : Int)) (
          gd ((0 : Int) ≤ (s.2.2 (p + 1 + 1) (Int.toNat s.1)) ∧ (s.2.2 (p + 1 + 1) (Int.toNat s.1)) < (8 : Int)) (
          gd ((0 : Int) ≤ s.1 ∧ s.1 < (384 : Int)) (
          gd ((0 : Int) ≤ ((s.2.2 (p + 14 + 3) (Int.toNat (s.2.2 (p + 1 + 1) (Int.toNat s.1)))) + (s.2.2 (p + 14 + 1) (Int.toNat s.1))) ∧ ((s.2.2 (p + 14 + 3) (Int.toNat (s.2.2 (p + 1 + 1) (Int.toNat s.1)))) + (s.2.2 (p + 14 + 1) (Int.toNat s.1))) < (384 : Int)) (sq (sA s.2 (p + 14 + 2) (Int.toNat ((s.2.2 (p + 14 + 3) (Int.toNat (s.2.2 (p + 1 + 1) (Int.toNat s.1)))) + (s.2.2 (p + 14 + 1) (Int.toNat s.1)))) s.1) (fun D82 =>
          some (.inl ((s.1 + 1), D82))
          )))))
        ))
        )
      ) else (
        done (
        some s.2
        )
      ))
      )) (fun k s => s.1 = (k : Int) ∧ s.2.1 = D.1 ∧ (∀ a, a ≠ p + 14 + 1 → a ≠ p + 14 + 2 → s.2.2 a = s1.2.2.2 a) ∧ (∀ c, c < k → s.2.2 (p + 14 + 1) c = plcM M c) ∧ (∀ c, c < nC M → hasL M c = true → s.2.2 (p + 14 + 1) c = plcM M c) ∧ ∀ c, c < k → hasL M c = true → s.2.2 (p + 14 + 2) (posM M c).toNat = (c : Int)) (nC M) (s := (0, s1.2.2)) ⟨rfl, i3, fun _ _ _ => rfl, fun _ h => absurd h (by omega), fun c hc h => by
        obtain ⟨z, hz, ho, hl⟩ := own_of O hc h
        show s1.2.2.2 (p + 14 + 1) c = _
        rw [i4 _ (by omega)]
        exact hK z hz c hc hl, fun _ h => absurd h (by omega)⟩ (fun k s hk ⟨a1, a2, a3, a4, a5, a6⟩ => by
        have C3 : CMap s.2 (p + 1) (mW M) (mH M) (mO M) (mS M) := C2.cong (fun a ha => ⟨by rw [a2, i3], a3 a (by omega) (by omega)⟩)
        have ec : m_X1_cells (p + 1) s.2 = some (nC M : Int) := X1_cells C3
        have el := X1_isLand C3 O.2.2.2.2.1 hk z8
        by_cases q : hasL M k = true
        · obtain ⟨z, hz, ho, hl⟩ := own_of O hk q
          have pb := pos_b O hk q
          have e1 : s.2.2 (p + 1 + 1) k = (z : Int) := by rw [(C3.2.2 k hk).1, ho]
          have e2 : s.2.2 (p + 14 + 3) z = fstM M z := by rw [a3 _ (by omega) (by omega)]; exact i5 z hz
          have e3 := a5 k hk q
          have e4 : fstM M z + plcM M k = posM M k := by unfold posM; rw [ho, tn]
          refine ⟨((k : Int) + 1, sA s.2 (p + 14 + 2) (posM M k).toNat (k : Int)), ?_, rfl, a2, fun a h1 h2 => ?_, fun c hc => ?_, fun c hc h => ?_, fun c hc h => ?_⟩
          · rw [b2i_t (hasL_iff.mp q)] at el
            simp (disch := omega) only [a1, ec, ob_some, gd_t, if_t, el, if_f, tn, e1, e2, e3, e4, sq_eq]
          · funext j
            rw [sA2, if_neg (fun h => h2 h.1), a3 a h1 h2]
          · rw [sA2, if_neg (by omega)]
            by_cases qc : c = k
            · subst qc; exact e3
            · exact a4 c (by omega)
          · rw [sA2, if_neg (by omega)]
            exact a5 c hc h
          · rw [sA2]
            by_cases qc : c = k
            · subst qc
              rw [if_pos ⟨rfl, rfl⟩]
            · have hcn : c < nC M := by omega
              have pc := pos_b O hcn h
              rw [if_neg (fun hh => qc (pos_inj O hcn hk h q (by have := hh.2; omega)))]
              exact a6 c (by omega) h
        · refine ⟨((k : Int) + 1, sA s.2 (p + 14 + 1) k (-1)), ?_, rfl, a2, fun a h1 h2 => ?_, fun c hc => ?_, fun c hc h => ?_, fun c hc h => ?_⟩
          · rw [b2i_f (fun h => q (hasL_iff.mpr h))] at el
            simp (disch := omega) only [a1, ec, ob_some, gd_t, if_t, el, ↓reduceIte, tn, sq_eq]
          · funext j
            rw [sA2, if_neg (fun h => h1 h.1), a3 a h1 h2]
          · rw [sA2]
            by_cases qc : c = k
            · subst qc
              rw [if_pos ⟨rfl, rfl⟩, plc_none q]
            · rw [if_neg (fun h => qc h.2)]
              exact a4 c (by omega)
          · rw [sA2]
            by_cases qc : c = k
            · subst qc; exact absurd h q
            · rw [if_neg (fun h => qc h.2)]
              exact a5 c hc h
          · rw [sA2, if_neg (by omega)]
            by_cases qc : c = k
            · subst qc; exact absurd h q
            · exact a6 c (by omega) h)
    refine ⟨s2.2, ?_, j2, j3, j4, j6⟩
    rw [e2]
    refine loopF_inr ?_
    have C3 : CMap s2.2 (p + 1) (mW M) (mH M) (mO M) (mS M) := C2.cong (fun a ha => ⟨by rw [j2, i3], j3 a (by omega) (by omega)⟩)
    have ec : m_X1_cells (p + 1) s2.2 = some (nC M : Int) := X1_cells C3
    simp (disch := omega) only [j1, ec, ob_some, gd_t, if_f, done_some]
  obtain ⟨D', f1, f2, f3, f4, f5⟩ := second
  refine ⟨D', ?_, f2, fun a h1 h2 h3 => by rw [f3 a h1 h2, i4 a h3], f4, fun z hz => ?_, fun z hz i hi => ?_⟩
  · rw [e]
    refine loopF_inr ?_
    have eZ : s1.2.2.1 (p + 1) 2 = (mZ M : Int) := by rw [i3]; exact C.2.1.1
    simp (disch := omega) only [i2, eZ, gd_t, if_f, f1, done_some]
  · rw [f3 _ (by omega) (by omega)]
    exact i5 z hz
  · have hm := ord_mem (List.getElem_mem hi)
    have hp := plc_get (M := M) (z := (z : Int)) (by omega) hi
    have := f5 _ hm.1 (has_of hm.2)
    unfold posM at this
    have fb := fst_b O z
    rw [hp, (isL_iff.mp hm.2).1, tn, show (fstM M z + (i : Int)).toNat = (fstM M z).toNat + i by omega] at this
    exact this
theorem X6_renew {D : DT} {p : Nat} {M : MS} (C : ChartRep D (p + 1) M) (O : MOK M) (hT : ∀ z, z < 8 → D.2 (p + 10) z = ldM M z) (hK : RanksRep D (p + 14) M) : ∃ D', m_X6_renew (p + 14) (p + 1) (p + 10) D = some D' ∧ RanksRep D' (p + 14) M ∧ RanksAll D' (p + 14) M ∧ KpO D D' (p + 14) (p + 21) := by
  have z8 := O.2.2.1
  obtain ⟨k1, k2, k3, k4⟩ := hK
  rcases k2 with q | q
  · have main : ∃ D', m_X6_renew_10 (p + 14) (p + 1) (p + 10) (0, D) = some (sF D' (p + 14) 4 1) ∧ KpO D D' (p + 14) (p + 21) ∧ (∀ z, z < 8 → D'.2 (p + 14 + 4) z = 0 ∨ D'.2 (p + 14 + 4) z = 1) ∧ RanksAll D' (p + 14) M := by
      unfold m_X6_renew_10
      obtain ⟨s1, ⟨i1, i2, i3, i4, i5⟩, e⟩ := loop_inv (f := fun s : Int × DT =>
        gd (InR s.1 ∧ InR (s.2.1 (p + 1) 2)) (if s.1 < (s.2.1 (p + 1) 2) then (
          gd ((0 : Int) ≤ s.1 ∧ s.1 < (8 : Int)) (
          gd (InR (s.2.2 (p + 14 + 4) (Int.toNat s.1))) (if (s.2.2 (p + 14 + 4) (Int.toNat s.1)) = 0 then (
            (m_X6_rank (p + 14) (p + 1) s.1 s.2).bind (fun D30 =>
            gd (((0 : Int) ≤ s.1 ∧ s.1 < (8 : Int)) ∧ ((1 : Int) = 0 ∨ (1 : Int) = 1)) (sq (sA D30 (p + 14 + 4) (Int.toNat s.1) 1) (fun D39 =>
            some ((.inl ((s.1 + 1), D39)) : (Int × DT) ⊕ DT)
            )))
          ) else (
            some (.inl ((s.1 + 1), s.2))
          ))
          )
        ) else (
          done (
          (m_X6_sort (p + 14) (p + 1) (p + 10) s.2).bind (fun D49 =>
          sq (sF D49 (p + 14) 4 1) (fun D54 =>
          some D54
          ))
          )
        ))) (fun z s => s.1 = (z : Int) ∧ KpO D s.2 (p + 14) (p + 21) ∧ (∀ y, y < 8 → s.2.2 (p + 14 + 4) y = 0 ∨ s.2.2 (p + 14 + 4) y = 1) ∧ (∀ y, y < z → s.2.2 (p + 14 + 4) y = 1) ∧ ∀ y, y < mZ M → s.2.2 (p + 14 + 4) y = 1 → RanksOf s.2 (p + 14) M y) (mZ M) (s := (0, D)) ⟨rfl, KpO.refl _ _ _, k1, fun _ h => absurd h (by omega), k3⟩ (fun z s hz ⟨a1, a2, a3, a4, a5⟩ => by
          have C2 : CMap s.2 (p + 1) (mW M) (mH M) (mO M) (mS M) := C.1.cong (fun a ha => a2 a (by omega))
          have eZ : s.2.1 (p + 1) 2 = (mZ M : Int) := by rw [(a2 (p + 1) (by omega)).1]; exact C.2.1.1
          have fb := a3 z (by omega)
          by_cases qz : s.2.2 (p + 14 + 4) z = 0
          · obtain ⟨D1, e1, ⟨e2, e2'⟩, e3, e4⟩ := X6_rank (r := p + 14) (by omega) C2 O hz
            have kk : KpO s.2 (sA D1 (p + 14 + 4) z 1) (p + 14) (p + 21) := fun b hb => ⟨by
              funext j
              rw [sA1]
              exact e2 b j (by omega) (fun h => by omega), by
              funext j
              rw [sA2, if_neg (by omega), e2' b (by omega) (by omega) (by omega)]⟩
            refine ⟨((z : Int) + 1, sA D1 (p + 14 + 4) z 1), ?_, rfl, a2.trans kk (by omega), fun y hy => ?_, fun y hy => ?_, fun y hy hf => ?_⟩
            · simp (disch := omega) only [a1, eZ, gd_t, if_t, tn, if_t qz, e1, ob_some, sq_eq, or_true, and_true]
            · rw [sA2]
              by_cases qy : y = z
              · rw [if_pos ⟨rfl, qy⟩]; exact Or.inr rfl
              · rw [if_neg (fun h => qy h.2), e2' _ (by omega) (by omega) (by omega)]
                exact a3 y hy
            · rw [sA2]
              by_cases qy : y = z
              · rw [if_pos ⟨rfl, qy⟩]
              · rw [if_neg (fun h => qy h.2), e2' _ (by omega) (by omega) (by omega)]
                exact a4 y (by omega)
            · intro c hc hl
              rw [sA2, if_neg (by omega)]
              by_cases qy : y = z
              · subst qy
                exact e3 c hc hl
              · rw [sA2, if_neg (fun h => qy h.2), e2' _ (by omega) (by omega) (by omega)] at hf
                rw [e4 c (fun h => qy (by
                  have h1 := (isL_iff.mp h.2).1
                  have h2 := (isL_iff.mp hl).1
                  omega))]
                exact a5 y hy hf c hc hl
          · refine ⟨((z : Int) + 1, s.2), ?_, rfl, a2, a3, fun y hy => ?_, a5⟩
            · simp (disch := omega) only [a1, eZ, gd_t, if_t, tn, if_f qz]
            · by_cases qy : y = z
              · subst qy
                show s.2.2 (p + 14 + 4) y = 1
                omega
              · exact a4 y (by omega))
      have C2 : ChartRep s1.2 (p + 1) M := C.fr (fun a ha => i2 a (by omega))
      obtain ⟨D2, f1, f2, f3, f4⟩ := X6_sort (D := s1.2) C2 O (fun z hz => by rw [(i2 (p + 10) (by omega)).2]; exact hT z hz) (fun z hz => i5 z hz (i4 z hz))
      have kk : KpO s1.2 D2 (p + 14) (p + 21) := fun b hb => ⟨by rw [f2], f3 b (by omega) (by omega) (by omega)⟩
      refine ⟨D2, ?_, i2.trans kk (by omega), fun z hz => by rw [f3 _ (by omega) (by omega) (by omega)]; exact i3 z hz, f4⟩
      rw [e]
      refine loopF_inr ?_
      have eZ : s1.2.1 (p + 1) 2 = (mZ M : Int) := C2.2.1.1
      simp (disch := omega) only [i1, eZ, gd_t, if_f, f1, ob_some, sq_eq, done_some]
    obtain ⟨D', g1, g2, g3, g4⟩ := main
    have g5 : RanksAll (sF D' (p + 14) 4 1) (p + 14) M := g4
    refine ⟨sF D' (p + 14) 4 1, ?_, ⟨g3, Or.inr (by rw [sF1, if_pos ⟨rfl, rfl⟩]), fun z hz _ c hc hl => g5.1 c hc, fun _ => g5⟩, g5, g2.trans (lo' := p + 14) (hi' := p + 21) (fun b hb => ⟨by funext j; rw [sF1, if_neg (by omega)], rfl⟩) (by omega)⟩
    simp (disch := omega) only [m_X6_renew, q, gd_t, ↓reduceIte, g1]
  · refine ⟨D, ?_, ⟨k1, Or.inr q, k3, k4⟩, k4 q, KpO.refl _ _ _⟩
    simp (disch := omega) only [m_X6_renew, q, gd_t, if_f]
/-! ===== a plan of the class ===== -/
def PlanOK (D : DT) (p : Nat) (M : MS) : Prop := MOK M ∧ ChartRep D (p + 1) M ∧ (D.1 p 1 = mU M ∧ D.1 p 2 = mF M) ∧ CCache D p M
theorem CInv.plan {D : DT} {M : MS} (h : CInv D M) : PlanOK D 1 M := ⟨h.1, h.2.1.1, ⟨h.2.1.2.2.1.1, h.2.1.2.2.1.2.1⟩, h.2.2.1⟩
theorem CInv.back {D D' : DT} {M : MS} (h : CInv D M) (f : KpO D D' 10 27) (P : PlanOK D' 1 M) : CInv D' M := by
  obtain ⟨h1, h2, h3, h6⟩ := h
  refine ⟨h1, ?_, P.2.2.2, ?_⟩
  · unfold CBase ChartRep ChartRng CMap at *
    simp only [(f 0 (by omega)).1, (f 1 (by omega)).1, (f 2 (by omega)).1, (f 55 (by omega)).1, (f 65 (by omega)).1, (f (2 + 1) (by omega)).2, (f (2 + 2) (by omega)).2, (f (2 + 3) (by omega)).2, (f (2 + 4) (by omega)).2, (f (2 + 5) (by omega)).2, (f (2 + 6) (by omega)).2, (f (2 + 7) (by omega)).2, (f (56 + 2) (by omega)).2, (f (56 + 6) (by omega)).2, (f 64 (by omega)).2, (f 66 (by omega)).2]
    exact h2
  · unfold PathRep PathAt at *
    simp only [(f 70 (by omega)).1, (f 71 (by omega)).2]
    exact h6
theorem tallied_p {D : DT} {p : Nat} {M : MS} (h : PlanOK D p M) : ∃ D', m_X5_tallied p D = some D' ∧ PlanOK D' p M ∧ TallyRep D' (p + 9) M ∧ KpO D D' (p + 9) (p + 13) := by
  obtain ⟨O, C, ⟨hu, hf⟩, c1, c2, c3⟩ := h
  rcases c1 with q | ⟨q, T⟩
  · obtain ⟨D', e1, e2, e3, e4⟩ := X8_reckon (p := p) O C
    have k : KpO D D' (p + 9) (p + 13) := e4
    refine ⟨D', ?_, ⟨O, C.fr (fun b hb => k b (by omega)), by rw [(k p (by omega)).1]; exact ⟨hu, hf⟩, Or.inr ⟨e2, e3⟩, c2.fr (fun b hb => k b (by omega)), c3.fr (fun b hb => k b (by omega))⟩, e3, k⟩
    simp (disch := omega) only [m_X5_tallied, q, gd_t, ↓reduceIte, hu, hf, e1, ob_some]
  · refine ⟨D, ?_, ⟨O, C, ⟨hu, hf⟩, Or.inr ⟨q, T⟩, c2, c3⟩, T, KpO.refl _ _ _⟩
    simp (disch := omega) only [m_X5_tallied, q, gd_t, if_f]
theorem renew_p {D : DT} {p : Nat} {M : MS} (h : PlanOK D p M) (T : TallyRep D (p + 9) M) : ∃ D', m_X6_renew (p + 14) (p + 1) (p + 10) D = some D' ∧ PlanOK D' p M ∧ TallyRep D' (p + 9) M ∧ RanksAll D' (p + 14) M ∧ KpO D D' (p + 14) (p + 21) := by
  obtain ⟨O, C, ⟨hu, hf⟩, c1, c2, c3⟩ := h
  obtain ⟨D', e1, e2, e3, e4⟩ := X6_renew C O (fun z hz => T.1 z hz) c2
  have T' : TallyRep D' (p + 9) M := T.fr (fun b hb => e4 b (by omega))
  refine ⟨D', e1, ⟨O, C.fr (fun b hb => e4 b (by omega)), by rw [(e4 p (by omega)).1]; exact ⟨hu, hf⟩, ?_, e2, c3.fr (fun b hb => e4 b (by omega))⟩, T', e3, e4⟩
  rw [(e4 (p + 9) (by omega)).1]
  rcases c1 with q | q
  · exact Or.inl q
  · exact Or.inr ⟨q.1, T'⟩
theorem ranked_p {D : DT} {p : Nat} {M : MS} (h : PlanOK D p M) : ∃ D', m_X5_ranked p D = some D' ∧ PlanOK D' p M ∧ TallyRep D' (p + 9) M ∧ RanksAll D' (p + 14) M ∧ KpO D D' (p + 9) (p + 21) := by
  obtain ⟨D1, e1, e2, e3, e4⟩ := tallied_p h
  obtain ⟨D2, f1, f2, f3, f4, f5⟩ := renew_p e2 e3
  refine ⟨D2, ?_, f2, f3, f4, e4.trans f5 (by omega)⟩
  simp only [m_X5_ranked, e1, f1, ob_some]
