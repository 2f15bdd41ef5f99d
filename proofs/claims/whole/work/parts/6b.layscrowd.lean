/-! ===== the reference's crowds ===== -/
def CKeep (D E : DT) : Prop := E.1 = D.1 ∧ ∀ b, (b ≠ 90 ∧ b ≠ 91 ∧ b ≠ 92 ∧ b ≠ 93) → E.2 b = D.2 b
theorem RInv.ck {D E : DT} {M : MS} (R : RInv D M) (h : CKeep D E) : RInv E M := R.keep (fun a ha => by
  simp only [List.mem_cons, List.not_mem_nil, or_false] at ha
  exact h.2 a (by omega)) (fun k _ => by rw [h.1])
theorem CKeep.frR {D E : DT} (h : CKeep D E) : FrR D E := fun a ha => ⟨by rw [h.1], h.2 a (by omega)⟩
def RCrowd (E : DT) (M : MS) (l : Nat) : Prop := ∀ c g, c < nC M → g < 3 → E.2 93 (3 * c + g) = crwM M l c g
def ZR (D : DT) (M : MS) : Prop := ∀ j, 3 * nC M ≤ j → j < 1152 → D.2 93 j = 0
def BR (D : DT) (M : MS) (l z g : Nat) : Prop := (∀ c g', c < nC M → g' < 3 → D.2 93 (3 * c + g') = if hasL M c = true ∧ (mO M c < (z : Int) ∨ (mO M c = (z : Int) ∧ g' < g)) then crwM M l c g' else 0) ∧ ZR D M
def K93 (D E : DT) : Prop := E.1 = D.1 ∧ ∀ b, b ≠ 93 → E.2 b = D.2 b
theorem K93.inv {D E : DT} {M : MS} (h : K93 D E) (R : RInv D M) : RInv E M := R.keep (fun a ha => by
  simp only [List.mem_cons, List.not_mem_nil, or_false] at ha
  exact h.2 a (by omega)) (fun k _ => by rw [h.1])
theorem ColsOK.k93 {D E : DT} {M : MS} {u : Int} {l g : Nat} (K : ColsOK D M u l g) (h : K93 D E) : ColsOK E M u l g := by
  unfold ColsOK at *
  rw [h.2 90 (by omega), h.2 91 (by omega), h.2 92 (by omega)]
  exact K
theorem X11_cellOf {D : DT} {M : MS} (R : RInv D M) {z g k : Nat} (hz : z < mZ M) (hg : g < mG M) (hk : k ≤ 799992) (hL : 0 < (ordL M (z : Int)).length) {c : Nat} (hc : (ordL M (z : Int))[fM (mG M) g (ordL M (z : Int)).length k]? = some c) : m_X11_cellOf (z : Int) (g : Int) (k : Int) D = some (c : Int) := by
  have O := R.1
  have n4 := nCb O
  have z8 := O.2.2.1
  have g3 := O.2.2.2.1
  have hG := R.2.1.2.2
  have OR := R.2.2.2.2.2.2.2.2
  have el := X11_land O OR.1 hz
  have ll : ((ordL M (z : Int)).length : Int) = ldM M z := ord_len M z
  have e87 := OR.1 z (by omega)
  have fb := fst_b O z
  have fb2 := fst_b O (z + 1)
  have fs := fst_s M z
  have hf : fM (mG M) g (ordL M (z : Int)).length k < (ordL M (z : Int)).length := Nat.mod_lt _ hL
  have e86 := OR.2.1 z hz _ hf
  rw [List.getElem?_eq_getElem hf] at hc
  have hc2 := Option.some.inj hc
  rw [hc2] at e86
  have v1 : (k : Int) * (mG M : Int) + (g : Int) = ((k * mG M + g : Nat) : Int) := by rw [Int.natCast_add, Int.natCast_mul]
  have v3 : k * mG M + g ≤ 799992 * 3 + 3 := Nat.add_le_add (Nat.mul_le_mul hk g3.2) (by omega)
  rw [← ll] at el
  have v2 : ((k * mG M + g : Nat) : Int) % ((ordL M (z : Int)).length : Int) = (fM (mG M) g (ordL M (z : Int)).length k : Int) := cmod _ _
  have Lb : (ordL M (z : Int)).length ≤ nC M := ordN_le M (z : Int) (nC M)
  have v4 : (0 : Int) ≤ ((k * mG M + g : Nat) : Int) ∧ ((k * mG M + g : Nat) : Int) ≤ (9223372036854775807 : Int) ∧ (0 : Int) < ((ordL M (z : Int)).length : Int) ∧ ((ordL M (z : Int)).length : Int) ≤ (9223372036854775807 : Int) := by
    generalize k * mG M + g = y at v3
    omega
  have et : (fstM M z + (fM (mG M) g (ordL M (z : Int)).length k : Int)).toNat = (fstM M z).toNat + fM (mG M) g (ordL M (z : Int)).length k := by omega
  have hi : InR ((ordL M (z : Int)).length : Int) := by omega
  simp (disch := omega) only [m_X11_cellOf, gd_t, t3, hG, el, ob_some, gd_t hi, v1, gd_t v4, tn, e87, v2, et, e86]
theorem ref_stand {D : DT} {M : MS} (R : RInv D M) (hK : ColsOK D M (mU M) 5 0) {l z g : Nat} (hl5 : l < 5) (hz : z < mZ M) (hg : g < mG M) (b0 : BR D M l z g) : ∃ E, m_X11_laysCrowds_55 (l : Int) (z : Int) (g : Int) (0, D) = some (.inl ((g : Int) + 1, E)) ∧ K93 D E ∧ BR E M l z (g + 1) := by
  have O := R.1
  have n4 := nCb O
  have z8 := O.2.2.1
  have g3 := O.2.2.2.1
  have ub := O.ufx
  obtain ⟨d, hd⟩ := nat_of (dotM_b O (u := mU M) (by omega) (show g < 3 by omega) l (show z < 8 by omega)).1
  have db := (dotM_b O (u := mU M) (by omega) (show g < 3 by omega) l (show z < 8 by omega)).2
  have eD := ((hK l g hl5 hg (Or.inl hl5)).1 z hz).1
  rw [hd] at eD
  have ll : ((ordL M (z : Int)).length : Int) = ldM M z := ord_len M z
  have hL : 0 < d → 0 < (ordL M (z : Int)).length := fun h => by
    rcases Nat.eq_zero_or_pos (ordL M (z : Int)).length with e | e
    · exfalso
      have e0 : ldM M z = 0 := by omega
      have : dotM M (mU M) g l z = 0 := by
        rw [dotM_in, dts, if_pos e0]
      omega
    · exact e
  have k1 : 3 * (8 * (l : Int) + (z : Int)) + (g : Int) = ((3 * (8 * l + z) + g : Nat) : Int) := by omega
  unfold m_X11_laysCrowds_55
  obtain ⟨s', ⟨i1, i2, i3, i4⟩, e⟩ := loop_inv (f := fun s : Int × DT =>
    (m_X11_dotsAt (l : Int) (z : Int) (g : Int) s.2).bind (fun r64 =>
    gd ((0 : Int) ≤ r64 ∧ r64 < (120 : Int)) (
    gd (InR s.1 ∧ InR (s.2.2 90 (Int.toNat r64))) (if s.1 < (s.2.2 90 (Int.toNat r64)) then (
      (m_X11_cellOf (z : Int) (g : Int) s.1 s.2).bind (fun r81 =>
      gd ((0 : Int) ≤ ((3 * r81) + (g : Int)) ∧ ((3 * r81) + (g : Int)) < (1152 : Int)) (
      gd ((0 : Int) ≤ ((3 * r81) + (g : Int)) ∧ ((3 * r81) + (g : Int)) < (1152 : Int)) (sq (sA s.2 93 (Int.toNat ((3 * r81) + (g : Int))) ((s.2.2 93 (Int.toNat ((3 * r81) + (g : Int)))) + 1)) (fun D91 =>
      some (.inl ((s.1 + 1), D91))
      ))))
    ) else (
      done (
      some ((.inl (((g : Int) + 1), s.2)) : (Int × DT) ⊕ ((Int × DT) ⊕ DT))
      )
    ))
    ))) (fun k s => s.1 = (k : Int) ∧ K93 D s.2 ∧ (∀ c, c < nC M → isL M (z : Int) c = true → s.2.2 93 (3 * c + g) = sumTo (fun i => b2i ((((i * mG M + g : Nat) : Int) % ((ordL M (z : Int)).length : Int)) = plcM M c)) k) ∧ ∀ j, (∀ c, c < nC M → isL M (z : Int) c = true → j ≠ 3 * c + g) → s.2.2 93 j = D.2 93 j) d (s := (0, D)) ⟨rfl, ⟨rfl, fun _ _ => rfl⟩, fun c hc h => by
      rw [sumTo]
      show D.2 93 (3 * c + g) = 0
      rw [b0.1 c g hc (by omega), if_neg]
      intro hh
      have := (isL_iff.mp h).1
      omega, fun _ _ => rfl⟩ (fun k s hk ⟨a1, a2, a3, a4⟩ => by
      have q0 := hL (by omega)
      have hf : fM (mG M) g (ordL M (z : Int)).length k < (ordL M (z : Int)).length := Nat.mod_lt _ q0
      have e90 : s.2.2 90 (3 * (8 * l + z) + g) = (d : Int) := by rw [a2.2 90 (by omega)]; exact eD
      have hm := ord_mem (List.getElem_mem hf)
      have hp := plc_get (M := M) (z := (z : Int)) (by omega) hf
      have ec := X11_cellOf (a2.inv R) hz hg (show k ≤ 799992 by omega) q0 (List.getElem?_eq_getElem hf)
      have v2 : ((k * mG M + g : Nat) : Int) % ((ordL M (z : Int)).length : Int) = (fM (mG M) g (ordL M (z : Int)).length k : Int) := cmod _ _
      generalize (ordL M (z : Int))[fM (mG M) g (ordL M (z : Int)).length k] = c at *
      have w1 : 3 * (c : Int) + (g : Int) = ((3 * c + g : Nat) : Int) := by omega
      have w2 := a3 c hm.1 hm.2
      refine ⟨((k : Int) + 1, sA s.2 93 (3 * c + g) (s.2.2 93 (3 * c + g) + 1)), ?_, rfl, ⟨a2.1, fun b hb => ?_⟩, fun c' hc' h' => ?_, fun j hj => ?_⟩
      · simp (disch := omega) only [m_X11_dotsAt, ob_some, k1, gd_t, tn, a1, e90, if_t, ec, w1, sq_eq]
      · funext j
        rw [sA2, if_neg (fun h => hb h.1), a2.2 b hb]
      · rw [sA2, sumTo, v2]
        by_cases q : c' = c
        · subst q
          rw [if_pos ⟨rfl, rfl⟩, w2, b2i_t hp.symm]
        · rw [if_neg (fun h => q (by have := h.2; omega)), a3 c' hc' h', b2i_f, Int.add_zero]
          intro hh
          exact q (plc_inj hc' hm.1 h' hm.2 (by rw [← hh, hp]))
      · rw [sA2, if_neg (fun h => hj c hm.1 hm.2 h.2)]
        exact a4 j hj)
  refine ⟨s'.2, ?_, i2, fun c g' hc hg' => ?_, fun j h1 h2 => by rw [i4 j (fun c hc _ => by omega)]; exact b0.2 j h1 h2⟩
  · rw [e]
    refine loopF_inr ?_
    have e90 : s'.2.2 90 (3 * (8 * l + z) + g) = (d : Int) := by rw [i2.2 90 (by omega)]; exact eD
    simp (disch := omega) only [m_X11_dotsAt, ob_some, k1, gd_t, tn, i1, e90, if_f, done_some]
  · by_cases q : g' = g ∧ isL M (z : Int) c = true
    · obtain ⟨q1, q2⟩ := q
      subst q1
      rw [i3 c hc q2, if_pos ⟨has_of q2, Or.inr ⟨(isL_iff.mp q2).1, by omega⟩⟩]
      unfold crwM
      rw [if_pos ⟨has_of q2, hg⟩, (isL_iff.mp q2).1, tn, hd, tn, ← ord_len]
    · rw [i4 _ (fun c' hc' hl' hh => q ⟨by omega, by
        have : c = c' := by omega
        rw [this]; exact hl'⟩), b0.1 c g' hc hg']
      by_cases q3 : hasL M c = true ∧ (mO M c < (z : Int) ∨ (mO M c = (z : Int) ∧ g' < g))
      · rw [if_pos q3, if_pos ⟨q3.1, by omega⟩]
      · rw [if_neg q3, if_neg]
        intro hh
        refine q3 ⟨hh.1, ?_⟩
        have : ¬ (g' = g ∧ mO M c = (z : Int)) := fun h => q ⟨h.1, isL_iff.mpr ⟨h.2, (hasL_iff.mp hh.1).2⟩⟩
        omega
theorem K93.trans {D E F : DT} (h : K93 D E) (h' : K93 E F) : K93 D F := ⟨h'.1.trans h.1, fun b hb => (h'.2 b hb).trans (h.2 b hb)⟩
theorem X11_laysCrowds {D : DT} {M : MS} (R : RInv D M) {l : Nat} (hl5 : l < 5) : ∃ E, m_X11_laysCrowds (l : Int) D = some E ∧ CKeep D E ∧ RCrowd E M l ∧ ColsOK E M (mU M) 5 0 ∧ ZR E M := by
  have O := R.1
  have n4 := nCb O
  have z8 := O.2.2.1
  have g3 := O.2.2.2.1
  have ub := O.ufx
  have eu := R.2.2.2.2.1.1
  obtain ⟨F, f1, f2, f3⟩ := X11_laysDots R (u := mU M) (by omega)
  have RF := R.rk f2
  have clear : ∃ H, m_X11_laysCrowds_10 (l : Int) (0, F) = m_X11_laysCrowds_32 (l : Int) (0, H) ∧ K93 F H ∧ ∀ j, j < 1152 → H.2 93 j = 0 := by
    unfold m_X11_laysCrowds_10
    obtain ⟨s', ⟨i1, i2, i3⟩, e⟩ := loop_inv (f := fun s : Int × DT =>
      gd (InR s.1 ∧ InR 1152) (if s.1 < 1152 then (
        gd ((0 : Int) ≤ s.1 ∧ s.1 < (1152 : Int)) (sq (sA s.2 93 (Int.toNat s.1) 0) (fun D23 =>
        some ((.inl ((s.1 + 1), D23)) : (Int × DT) ⊕ DT)
        ))
      ) else (
        done (
        m_X11_laysCrowds_32 (l : Int) (0, s.2)
        )
      ))) (fun k s => s.1 = (k : Int) ∧ K93 F s.2 ∧ ∀ j, j < k → s.2.2 93 j = 0) 1152 (s := (0, F)) ⟨rfl, ⟨rfl, fun _ _ => rfl⟩, fun _ h => absurd h (by omega)⟩ (fun k s hk ⟨a1, a2, a3⟩ => by
        refine ⟨((k : Int) + 1, sA s.2 93 k 0), ?_, rfl, ⟨a2.1, fun b hb => ?_⟩, fun j hj => ?_⟩
        · simp (disch := omega) only [a1, gd_t, if_t, tn, sq_eq]
        · funext j
          rw [sA2, if_neg (fun h => hb h.1), a2.2 b hb]
        · rw [sA2]
          by_cases q : j = k
          · rw [if_pos ⟨rfl, q⟩]
          · rw [if_neg (fun h => q h.2)]
            exact a3 j (by omega))
    refine ⟨s'.2, ?_, i2, i3⟩
    rw [e]
    have i1' : s'.1 = 1152 := i1
    cases hh : m_X11_laysCrowds_32 (l : Int) (0, s'.2) with
    | none =>
      refine loopF_none ?_
      simp (disch := omega) only [i1', gd_t, if_f, hh]
      rfl
    | some r =>
      refine loopF_inr ?_
      simp (disch := omega) only [i1', gd_t, if_f, hh, done_some]
  obtain ⟨H, h1, h2, h3⟩ := clear
  have RH := h2.inv RF
  have KH := f3.k93 h2
  have bH : BR H M l 0 0 := by
    refine ⟨fun c g hc hg => ?_, fun j _ hj => h3 j hj⟩
    rw [h3 _ (by omega), if_neg]
    intro h
    have := (hasL_iff.mp h.1).1
    have := (O.2.2.2.2.1 c hc).1
    omega
  have groups : ∀ z E, z < mZ M → K93 H E → BR E M l z 0 → ∃ E', m_X11_laysCrowds_42 (l : Int) (z : Int) (0, E) = some (.inl ((z : Int) + 1, E')) ∧ K93 H E' ∧ BR E' M l (z + 1) 0 := fun z E hz hE bE => by
    unfold m_X11_laysCrowds_42
    obtain ⟨s', ⟨i1, i2, i3⟩, e⟩ := loop_inv (f := fun s : Int × DT =>
      gd ((0 : Int) ≤ 3 ∧ 3 < (4 : Int)) (
      gd (InR s.1 ∧ InR (s.2.2 76 (Int.toNat 3))) (if s.1 < (s.2.2 76 (Int.toNat 3)) then (
        m_X11_laysCrowds_55 (l : Int) (z : Int) s.1 (0, s.2)
      ) else (
        done (
        some ((.inl (((z : Int) + 1), s.2)) : (Int × DT) ⊕ DT)
        )
      ))
      )) (fun g s => s.1 = (g : Int) ∧ K93 H s.2 ∧ BR s.2 M l z g) (mG M) (s := (0, E)) ⟨rfl, hE, bE⟩ (fun g s hg ⟨a1, a2, a3⟩ => by
        obtain ⟨E', e1, e2, e3⟩ := ref_stand (a2.inv RH) (KH.k93 a2) hl5 hz hg a3
        have eG := (a2.inv RH).2.1.2.2
        refine ⟨((g : Int) + 1, E'), ?_, rfl, a2.trans e2, e3⟩
        simp (disch := omega) only [a1, t3, eG, gd_t, if_t, e1])
    refine ⟨s'.2, ?_, i2, fun c g' hc hg' => ?_, i3.2⟩
    · rw [e]
      refine loopF_inr ?_
      have eG := (i2.inv RH).2.1.2.2
      simp (disch := omega) only [i1, t3, eG, gd_t, if_f, done_some]
    · rw [i3.1 c g' hc hg']
      by_cases q : g' < mG M
      · by_cases q3 : hasL M c = true ∧ (mO M c < (z : Int) ∨ (mO M c = (z : Int) ∧ g' < mG M))
        · rw [if_pos q3, if_pos ⟨q3.1, by omega⟩]
        · rw [if_neg q3, if_neg]
          intro hh
          exact q3 ⟨hh.1, by omega⟩
      · rw [crw_big q]
        split <;> split <;> rfl
  have zones : ∃ E, m_X11_laysCrowds_32 (l : Int) (0, H) = some E ∧ K93 H E ∧ RCrowd E M l ∧ ZR E M := by
    unfold m_X11_laysCrowds_32
    obtain ⟨s', ⟨i1, i2, i3⟩, e⟩ := loop_inv (f := fun s : Int × DT =>
      (m_X11_zones s.2).bind (fun r34 =>
      gd (InR s.1 ∧ InR r34) (if s.1 < r34 then (
        m_X11_laysCrowds_42 (l : Int) s.1 (0, s.2)
      ) else (
        done (
        some s.2
        )
      ))
      )) (fun z s => s.1 = (z : Int) ∧ K93 H s.2 ∧ BR s.2 M l z 0) (mZ M) (s := (0, H)) ⟨rfl, ⟨rfl, fun _ _ => rfl⟩, bH⟩ (fun z s hz ⟨a1, a2, a3⟩ => by
        obtain ⟨E', e1, e2, e3⟩ := groups z s.2 hz a2 a3
        have eZ := (a2.inv RH).2.1.2.1
        refine ⟨((z : Int) + 1, E'), ?_, rfl, e2, e3⟩
        simp (disch := omega) only [m_X11_zones, a1, t2, eZ, gd_t, ob_some, if_t, e1])
    refine ⟨s'.2, ?_, i2, fun c g hc hg => ?_, i3.2⟩
    · rw [e]
      refine loopF_inr ?_
      have eZ := (i2.inv RH).2.1.2.1
      simp (disch := omega) only [m_X11_zones, i1, t2, eZ, gd_t, ob_some, if_f, done_some]
    · rw [i3.1 c g hc hg]
      by_cases q : hasL M c = true
      · obtain ⟨z, hz, ho, -⟩ := own_of O hc q
        rw [if_pos ⟨q, by omega⟩]
      · rw [if_neg (fun h => q h.1), crw_no q]
  obtain ⟨E, g1, g2, g4, g5⟩ := zones
  refine ⟨E, ?_, ⟨by rw [g2.1, h2.1, f2.1], fun b hb => by rw [g2.2 b (by omega), h2.2 b (by omega), f2.2 b (by omega)]⟩, g4, KH.k93 g2, g5⟩
  simp only [m_X11_laysCrowds, eu, f1, ob_some, h1, g1]
theorem X11_crowdOf {E : DT} {M : MS} {l : Nat} (O : MOK M) (hK : RCrowd E M l) {c : Nat} (hc : c < nC M) {v : Int} (hv : InR v) : m_X11_crowdOf (c : Int) v E = some (sumTo (fun g => if v = -1 ∨ (g : Int) = v then crwM M l c g else 0) 3) := by
  have n4 := nCb O
  refine loop_for (st := fun k => (sumTo (fun g => if v = -1 ∨ (g : Int) = v then crwM M l c g else 0) k, (k : Int))) 3 (fun k hk => ?_) ?_
  · have e1 := hK c k hc hk
    have k1 : 3 * (c : Int) + (k : Int) = ((3 * c + k : Nat) : Int) := by omega
    have c1 : ((k + 1 : Nat) : Int) = (k : Int) + 1 := rfl
    by_cases q : v = -1
    · simp (disch := omega) only [gd_t, if_t, if_t q, k1, tn, e1, sumTo, if_t (Or.inl q : v = -1 ∨ (k : Int) = v), c1]
    · by_cases q2 : (k : Int) = v
      · simp (disch := omega) only [gd_t, if_t, if_f q, if_t q2, k1, tn, e1, sumTo, if_t (Or.inr q2 : v = -1 ∨ (k : Int) = v), c1]
      · have nq : ¬ (v = -1 ∨ (k : Int) = v) := fun h => h.elim q q2
        simp (disch := omega) only [gd_t, if_t, if_f q, if_f q2, sumTo, if_f nq, c1]
  · have c3 : ((3 : Nat) : Int) = 3 := rfl
    simp (disch := omega) only [c3, gd_t, if_f, done_some]
theorem X11_tog {E : DT} {M : MS} {l : Nat} (O : MOK M) (hK : RCrowd E M l) {c : Nat} (hc : c < nC M) : m_X11_crowdOf (c : Int) (-1) E = some (togM M l c) := by
  rw [X11_crowdOf O hK hc (by omega)]
  simp only [sumTo, true_or, ↓reduceIte, togM]
  congr 1
  omega
theorem X11_hasDots {E : DT} {M : MS} {l : Nat} (O : MOK M) (hK : RCrowd E M l) {c : Nat} (hc : c < nC M) : m_X11_hasDots (c : Int) E = some (if dotP M l c then 1 else 0) := by
  have e := X11_tog O hK hc
  have tb := tog_b O l c hc
  by_cases q : 0 < togM M l c
  · simp (disch := omega) only [m_X11_hasDots, e, ob_some, gd_t, if_t q, decide_eq_true q, ↓reduceIte]
  · simp (disch := omega) only [m_X11_hasDots, e, ob_some, gd_t, if_f q, decide_eq_false q, ↓reduceIte, Bool.false_eq_true]
