/-! ===== the least of numbers ===== -/
def LeastE (e : Int) (P : Int → Prop) (r : Int) : Prop := (r = e ∧ ∀ x, ¬ P x) ∨ (P r ∧ ∀ x, P x → r ≤ x)
theorem LeastE.cg {e : Int} {P Q : Int → Prop} {r : Int} (h : LeastE e P r) (hq : ∀ x, P x ↔ Q x) : LeastE e Q r := by
  rcases h with ⟨h1, h2⟩ | ⟨h1, h2⟩
  · exact Or.inl ⟨h1, fun x hx => h2 x ((hq x).mpr hx)⟩
  · exact Or.inr ⟨(hq r).mp h1, fun x hx => h2 x ((hq x).mpr hx)⟩
theorem LeastE.uniq {e : Int} {P : Int → Prop} {r r' : Int} (h : LeastE e P r) (h' : LeastE e P r') : r = r' := by
  rcases h with ⟨h1, h2⟩ | ⟨h1, h2⟩
  · rcases h' with ⟨h3, h4⟩ | ⟨h3, h4⟩
    · omega
    · exact absurd h3 (h2 r')
  · rcases h' with ⟨h3, h4⟩ | ⟨h3, h4⟩
    · exact absurd h1 (h4 r)
    · have := h2 r' h3
      have := h4 r h1
      omega
theorem far_pos {w a b : Nat} (h : a ≠ b) : 1 ≤ farM w a b := by
  unfold farM
  have n1 : ∀ x y : Int, 0 ≤ (x - y) * (x - y) := fun x y => by
    rcases Int.le_total 0 (x - y) with h | h
    · exact Int.mul_nonneg h h
    · have := Int.mul_nonneg (show 0 ≤ -(x - y) by omega) (show 0 ≤ -(x - y) by omega)
      rwa [Int.neg_mul_neg] at this
  have n2 : ∀ x y : Int, x ≠ y → (x - y) * (x - y) ≠ 0 := fun x y hh => Int.mul_ne_zero (by omega) (by omega)
  have a1 := n1 ((a % w : Nat) : Int) ((b % w : Nat) : Int)
  have a2 := n1 ((a / w : Nat) : Int) ((b / w : Nat) : Int)
  by_cases q : a % w = b % w
  · have q2 : a / w ≠ b / w := fun hh => h (by rw [← Nat.div_add_mod a w, ← Nat.div_add_mod b w, q, hh])
    have a3 := n2 ((a / w : Nat) : Int) ((b / w : Nat) : Int) (by omega)
    omega
  · have a3 := n2 ((a % w : Nat) : Int) ((b % w : Nat) : Int) (by omega)
    omega
/-- how far two cells with dots are apart -/
def apP (M : MS) (l n : Nat) (x : Int) : Prop := ∃ a b, a < b ∧ b < n ∧ dotP M l a = true ∧ dotP M l b = true ∧ x = farM (mW M) b a
theorem spt_get {M : MS} {l i j : Nat} (hi : i < (sptM M l).length) (hj : j < (sptM M l).length) (h : i < j) : (sptM M l)[i] < (sptM M l)[j] := by
  have hp : List.Pairwise (· < ·) (sptM M l) := (List.pairwise_lt_range).sublist List.filter_sublist
  exact List.pairwise_iff_getElem.mp hp i j hi hj h
theorem spt_mem {M : MS} {l c : Nat} : c ∈ sptM M l ↔ c < nC M ∧ dotP M l c = true := by
  unfold sptM
  simp
theorem spt_le (M : MS) (l : Nat) : (sptM M l).length ≤ nC M := fr_le _ _
theorem X2_leastGap {D : DT} {k hc l : Nat} {M : MS} (O : MOK M) (C : CMap D hc (mW M) (mH M) (mO M) (mS M)) (K : CrowdAt D k M l) : ∃ r, m_X2_leastGap k hc D = some r ∧ LeastE (-1) (apP M l (nC M)) r ∧ -1 ≤ r ∧ r ≤ 754 := by
  have n4 := nCb O
  have sl := spt_le M l
  obtain ⟨-, -, -, c5, c3⟩ := K
  have hmem : ∀ i (hi : i < (sptM M l).length), (sptM M l)[i] < nC M ∧ dotP M l (sptM M l)[i] = true := fun i hi => spt_mem.mp (List.getElem_mem hi)
  have fb : ∀ i j (hi : i < (sptM M l).length) (hj : j < (sptM M l).length), 0 ≤ farM (mW M) (sptM M l)[i] (sptM M l)[j] ∧ farM (mW M) (sptM M l)[i] (sptM M l)[j] ≤ 754 := fun i j hi hj => farM_b O.2.1.1 O.2.1.2 (hmem i hi).1 (hmem j hj).1
  have inner : ∀ (i : Nat) (hi : i < (sptM M l).length) (r : Int), LeastE (-1) (fun x => ∃ a b, ∃ (ha : a < (sptM M l).length) (hb : b < (sptM M l).length), a < b ∧ a < i ∧ x = farM (mW M) (sptM M l)[a] (sptM M l)[b]) r → (-1 ≤ r ∧ r ≤ 754) → ∃ r', m_X2_leastGap_22 k hc (i : Int) D (r, (i : Int) + 1) = some (.inl (r', (i : Int) + 1)) ∧ LeastE (-1) (fun x => ∃ a b, ∃ (ha : a < (sptM M l).length) (hb : b < (sptM M l).length), a < b ∧ a < i + 1 ∧ x = farM (mW M) (sptM M l)[a] (sptM M l)[b]) r' ∧ (-1 ≤ r' ∧ r' ≤ 754) := fun i hi r hr rb => by
    unfold m_X2_leastGap_22
    obtain ⟨s', ⟨i1, i2, i3⟩, e⟩ := loop_inv (f := fun s : Int × Int =>
      gd (InR s.2 ∧ InR (D.1 k 5)) (if s.2 < (D.1 k 5) then (
        gd ((0 : Int) ≤ (i : Int) ∧ (i : Int) < (384 : Int)) (
        gd ((0 : Int) ≤ s.2 ∧ s.2 < (384 : Int)) (
        (m_X1_far hc (D.2 (k + 3) (Int.toNat (i : Int))) (D.2 (k + 3) (Int.toNat s.2)) D).bind (fun r45 =>
        gd (InR s.1 ∧ InR (-1)) (if s.1 = (-1) then (
          some (.inl (r45, (s.2 + 1)))
        ) else (
          gd (InR r45 ∧ InR s.1) (if r45 < s.1 then (
            some (.inl (r45, (s.2 + 1)))
          ) else (
            some (.inl (s.1, (s.2 + 1)))
          ))
        ))
        )))
      ) else (
        done (
        some ((.inl (s.1, ((i : Int) + 1))) : (Int × Int) ⊕ Int)
        )
      ))) (fun n s => LeastE (-1) (fun x => ∃ a b, ∃ (ha : a < (sptM M l).length) (hb : b < (sptM M l).length), a < b ∧ (a < i ∨ a = i ∧ b < i + 1 + n) ∧ x = farM (mW M) (sptM M l)[a] (sptM M l)[b]) s.1 ∧ s.2 = ((i + 1 + n : Nat) : Int) ∧ (-1 ≤ s.1 ∧ s.1 ≤ 754)) ((sptM M l).length - (i + 1)) (s := (r, (i : Int) + 1)) ⟨hr.cg (fun x => ⟨fun ⟨a, b, ha, hb, h1, h2, h3⟩ => ⟨a, b, ha, hb, h1, Or.inl h2, h3⟩, fun ⟨a, b, ha, hb, h1, h2, h3⟩ => ⟨a, b, ha, hb, h1, by omega, h3⟩⟩), by omega, rb⟩ (fun n s hn ⟨a1, a2, a3⟩ => by
        have hj : i + 1 + n < (sptM M l).length := by omega
        have e1 := c3 i hi
        have e2 := c3 _ hj
        have ef := X1_far C (hmem i hi).1 (hmem _ hj).1
        have b1 := fb i _ hi hj
        have c1 : ((i + 1 + (n + 1) : Nat) : Int) = ((i + 1 + n : Nat) : Int) + 1 := rfl
        have eqv : ∀ x, ((∃ a b, ∃ (ha : a < (sptM M l).length) (hb : b < (sptM M l).length), a < b ∧ (a < i ∨ a = i ∧ b < i + 1 + n) ∧ x = farM (mW M) (sptM M l)[a] (sptM M l)[b]) ∨ x = farM (mW M) (sptM M l)[i] (sptM M l)[i + 1 + n]) ↔ ∃ a b, ∃ (ha : a < (sptM M l).length) (hb : b < (sptM M l).length), a < b ∧ (a < i ∨ a = i ∧ b < i + 1 + (n + 1)) ∧ x = farM (mW M) (sptM M l)[a] (sptM M l)[b] := fun x => by
          constructor
          · rintro (⟨a, b, ha, hb, h1, h2, h3⟩ | h)
            · exact ⟨a, b, ha, hb, h1, by omega, h3⟩
            · exact ⟨i, i + 1 + n, hi, hj, by omega, by omega, h⟩
          · rintro ⟨a, b, ha, hb, h1, h2, h3⟩
            by_cases q : a = i ∧ b = i + 1 + n
            · obtain ⟨q1, q2⟩ := q
              subst q1 q2
              exact Or.inr h3
            · exact Or.inl ⟨a, b, ha, hb, h1, by omega, h3⟩
        generalize farM (mW M) (sptM M l)[i] (sptM M l)[i + 1 + n] = f at *
        by_cases q : s.1 = -1
        · refine ⟨(f, ((i + 1 + n : Nat) : Int) + 1), ?_, LeastE.cg (Or.inr ⟨Or.inr rfl, fun x hx => ?_⟩) eqv, c1.symm, by simp only; omega⟩
          · simp (disch := omega) only [a2, c5, gd_t, if_t, tn, e1, e2, ef, ob_some, if_t q]
          · rcases a1 with ⟨h1, h2⟩ | ⟨h1, h2⟩
            · rcases hx with hx | hx
              · exact absurd hx (h2 x)
              · omega
            · obtain ⟨a, b, ha, hb, -, -, h3⟩ := h1
              have := fb a b ha hb
              omega
        · rcases a1 with ⟨h1, h2⟩ | ⟨h1, h2⟩
          · exact absurd h1 q
          · by_cases q2 : f < s.1
            · refine ⟨(f, ((i + 1 + n : Nat) : Int) + 1), ?_, LeastE.cg (Or.inr ⟨Or.inr rfl, fun x hx => ?_⟩) eqv, c1.symm, by simp only; omega⟩
              · simp (disch := omega) only [a2, c5, gd_t, if_t, tn, e1, e2, ef, ob_some, if_f q, if_t q2]
              · rcases hx with hx | hx
                · have := h2 x hx; omega
                · omega
            · refine ⟨(s.1, ((i + 1 + n : Nat) : Int) + 1), ?_, LeastE.cg (Or.inr ⟨Or.inl h1, fun x hx => ?_⟩) eqv, c1.symm, a3⟩
              · simp (disch := omega) only [a2, c5, gd_t, if_t, tn, e1, e2, ef, ob_some, if_f q, if_f q2]
              · rcases hx with hx | hx
                · exact h2 x hx
                · show s.1 ≤ x
                  omega)
    refine ⟨s'.1, ?_, i1.cg (fun x => ⟨fun ⟨a, b, ha, hb, h1, h2, h3⟩ => ⟨a, b, ha, hb, h1, by omega, h3⟩, fun ⟨a, b, ha, hb, h1, h2, h3⟩ => ⟨a, b, ha, hb, h1, by omega, h3⟩⟩), i3⟩
    rw [e]
    refine loopF_inr ?_
    have i2' : s'.2 = ((sptM M l).length : Int) := by rw [i2]; omega
    simp (disch := omega) only [i2', c5, gd_t, if_f, done_some]
  have full : ∀ x, (∃ a b, ∃ (ha : a < (sptM M l).length) (hb : b < (sptM M l).length), a < b ∧ a < (sptM M l).length ∧ x = farM (mW M) (sptM M l)[a] (sptM M l)[b]) ↔ apP M l (nC M) x := fun x => by
    constructor
    · rintro ⟨a, b, ha, hb, h1, -, h3⟩
      exact ⟨_, _, spt_get ha hb h1, (hmem b hb).1, (hmem a ha).2, (hmem b hb).2, by rw [h3, farM_comm]⟩
    · rintro ⟨a, b, h1, h2, h3, h4, h5⟩
      obtain ⟨i, hi, rfl⟩ := List.getElem_of_mem (spt_mem.mpr ⟨by omega, h3⟩)
      obtain ⟨j, hj, rfl⟩ := List.getElem_of_mem (spt_mem.mpr ⟨h2, h4⟩)
      refine ⟨i, j, hi, hj, ?_, hi, by rw [h5, farM_comm]⟩
      rcases Nat.lt_trichotomy i j with q | q | q
      · exact q
      · subst q; omega
      · have := spt_get hj hi q; omega
  have key : ∃ r, m_X2_leastGap_4 k hc D (-1, 0) = some r ∧ LeastE (-1) (apP M l (nC M)) r ∧ -1 ≤ r ∧ r ≤ 754 := by
    unfold m_X2_leastGap_4
    refine loop_wf (fun s : Int × Int => (sptM M l).length - s.2.toNat) (fun s : Int × Int => ∃ i : Nat, i ≤ (sptM M l).length ∧ s.2 = (i : Int) ∧ LeastE (-1) (fun x => ∃ a b, ∃ (ha : a < (sptM M l).length) (hb : b < (sptM M l).length), a < b ∧ a < i ∧ x = farM (mW M) (sptM M l)[a] (sptM M l)[b]) s.1 ∧ (-1 ≤ s.1 ∧ s.1 ≤ 754)) _ (fun s hs => ?_) ⟨0, Nat.zero_le _, rfl, Or.inl ⟨rfl, fun x ⟨a, b, ha, hb, h1, h2, h3⟩ => by omega⟩, by omega⟩
    obtain ⟨i, hi, a1, a2, a3⟩ := hs
    by_cases q : i < (sptM M l).length
    · by_cases q2 : s.1 = 1
      · refine Or.inr ⟨s.1, ?_, ?_, a3⟩
        · simp (disch := omega) only [a1, c5, gd_t, if_t, if_t q2, done_some]
        · rcases a2 with ⟨h1, h2⟩ | ⟨⟨a, b, ha, hb, h1, h2, h3⟩, h4⟩
          · omega
          · refine Or.inr ⟨(full _).mp ⟨a, b, ha, hb, h1, ha, h3⟩, fun x hx => ?_⟩
            obtain ⟨a', b', g1, g2, g3, g4, g5⟩ := hx
            have := far_pos (w := mW M) (show b' ≠ a' by omega)
            omega
      · obtain ⟨r', e1, e2, e3⟩ := inner i q s.1 a2 a3
        refine Or.inl ⟨(r', (i : Int) + 1), ?_, ⟨i + 1, by omega, rfl, e2, e3⟩, by simp only [a1]; omega⟩
        simp (disch := omega) only [a1, c5, gd_t, if_t, if_f q2, e1]
    · have ei : i = (sptM M l).length := by omega
      refine Or.inr ⟨s.1, ?_, ?_, a3⟩
      · simp (disch := omega) only [a1, c5, gd_t, if_f, done_some]
      · rw [ei] at a2
        exact a2.cg full
  exact key
theorem ref_apart {E : DT} {M : MS} {l : Nat} (R : RInv E M) (hK : RCrowd E M l) : ∃ r, m_X11_apart_25 E (268435456, 0) = some (r, E) ∧ LeastE (-1) (apP M l (nC M)) r := by
  have O := R.1
  have n4 := nCb O
  have ec : m_X11_cells E = some (nC M : Int) := X11_cells R.2.1.1
  have bnd1 : ∀ n x, n ≤ nC M → apP M l n x → 0 ≤ x ∧ x ≤ 754 := fun n x hn ⟨a, b, h1, h2, _, _, h5⟩ => by
    rw [h5]
    exact farM_b O.2.1.1 O.2.1.2 (show b < nC M by omega) (show a < nC M by omega)
  have inner : ∀ (c : Nat) (hc : c < nC M) (r : Int), LeastE 268435456 (apP M l c) r → ∃ r', m_X11_apart_36 (c : Int) E (r, 0) = some (.inl (r', (c : Int) + 1)) ∧ LeastE 268435456 (apP M l (c + 1)) r' := fun c hc r hr => by
    have eh := X11_hasDots O hK hc
    by_cases q : dotP M l c = true
    · rw [if_pos q] at eh
      have rb : r = 268435456 ∨ (0 ≤ r ∧ r ≤ 754) := by
        rcases hr with ⟨h1, h2⟩ | ⟨h1, h2⟩
        · exact Or.inl h1
        · exact Or.inr (bnd1 c r (by omega) h1)
      unfold m_X11_apart_36
      obtain ⟨s', ⟨i1, i2, i3⟩, e⟩ := loop_inv (f := fun s : Int × Int =>
        gd (InR s.2 ∧ InR (c : Int)) (if s.2 < (c : Int) then (
          (m_X11_hasDots (c : Int) E).bind (fun r44 =>
          gd (InR r44) (if r44 = 0 then (
            done (
            some ((.inl (s.1, ((c : Int) + 1))) : (Int × Int) ⊕ (Int × DT))
            )
          ) else (
            (m_X11_hasDots s.2 E).bind (fun r53 =>
            gd (InR r53) (if r53 = 0 then (
              some (.inl (s.1, (s.2 + 1)))
            ) else (
              (m_X11_far (c : Int) s.2 E).bind (fun r63 =>
              gd (InR r63 ∧ InR s.1) (if r63 < s.1 then (
                (m_X11_far (c : Int) s.2 E).bind (fun r74 =>
                some (.inl (r74, (s.2 + 1)))
                )
              ) else (
                some (.inl (s.1, (s.2 + 1)))
              ))
              )
            ))
            )
          ))
          )
        ) else (
          done (
          some (.inl (s.1, ((c : Int) + 1)))
          )
        ))) (fun n s => LeastE 268435456 (fun x => apP M l c x ∨ ∃ a, a < n ∧ dotP M l a = true ∧ x = farM (mW M) c a) s.1 ∧ s.2 = (n : Int) ∧ (s.1 = 268435456 ∨ (0 ≤ s.1 ∧ s.1 ≤ 754))) c (s := (r, 0)) ⟨hr.cg (fun x => ⟨Or.inl, fun h => h.elim id (fun ⟨a, h1, _⟩ => by omega)⟩), rfl, rb⟩ (fun n s hn ⟨a1, a2, a3⟩ => by
          have hnn : n < nC M := by omega
          have eh2 := X11_hasDots O hK hnn
          have ef := X11_far R.2.1.1 hc hnn
          have fb := farM_b O.2.1.1 O.2.1.2 hc hnn
          by_cases q2 : dotP M l n = true
          · rw [if_pos q2] at eh2
            have eqv : ∀ x, ((apP M l c x ∨ ∃ a, a < n ∧ dotP M l a = true ∧ x = farM (mW M) c a) ∨ x = farM (mW M) c n) ↔ (apP M l c x ∨ ∃ a, a < n + 1 ∧ dotP M l a = true ∧ x = farM (mW M) c a) := fun x => by
              constructor
              · rintro ((h | ⟨a, h1, h2, h3⟩) | h)
                · exact Or.inl h
                · exact Or.inr ⟨a, by omega, h2, h3⟩
                · exact Or.inr ⟨n, by omega, q2, h⟩
              · rintro (h | ⟨a, h1, h2, h3⟩)
                · exact Or.inl (Or.inl h)
                · by_cases qa : a = n
                  · subst qa; exact Or.inr h3
                  · exact Or.inl (Or.inr ⟨a, by omega, h2, h3⟩)
            by_cases q3 : farM (mW M) c n < s.1
            · refine ⟨(farM (mW M) c n, (n : Int) + 1), ?_, LeastE.cg (Or.inr ⟨Or.inr rfl, fun x hx => ?_⟩) eqv, rfl, Or.inr fb⟩
              · simp (disch := omega) only [a2, gd_t, if_t, eh, eh2, ob_some, if_f, ef, if_t q3]
              · rcases a1 with ⟨h1, h2⟩ | ⟨h1, h2⟩
                · rcases hx with hx | hx
                  · exact absurd hx (h2 x)
                  · omega
                · rcases hx with hx | hx
                  · have := h2 x hx; omega
                  · omega
            · refine ⟨(s.1, (n : Int) + 1), ?_, ?_, rfl, a3⟩
              · simp (disch := omega) only [a2, gd_t, if_t, eh, eh2, ob_some, if_f, ef, if_f q3]
              · rcases a1 with ⟨h1, h2⟩ | ⟨h1, h2⟩
                · omega
                · refine LeastE.cg (Or.inr ⟨Or.inl h1, fun x hx => ?_⟩) eqv
                  rcases hx with hx | hx
                  · exact h2 x hx
                  · show s.1 ≤ x
                    omega
          · rw [if_neg q2] at eh2
            refine ⟨(s.1, (n : Int) + 1), ?_, a1.cg (fun x => ?_), rfl, a3⟩
            · simp (disch := omega) only [a2, gd_t, if_t, eh, eh2, ob_some, if_f, ↓reduceIte]
            · constructor
              · rintro (h | ⟨a, h1, h2, h3⟩)
                · exact Or.inl h
                · exact Or.inr ⟨a, by omega, h2, h3⟩
              · rintro (h | ⟨a, h1, h2, h3⟩)
                · exact Or.inl h
                · by_cases qa : a = n
                  · subst qa; exact absurd h2 q2
                  · exact Or.inr ⟨a, by omega, h2, h3⟩)
      refine ⟨s'.1, ?_, i1.cg (fun x => ?_)⟩
      · rw [e]
        refine loopF_inr ?_
        simp (disch := omega) only [i2, gd_t, if_f, done_some]
      · constructor
        · rintro (⟨a, b, h1, h2, h3⟩ | ⟨a, h1, h2, h3⟩)
          · exact ⟨a, b, h1, by omega, h3⟩
          · exact ⟨a, c, h1, by omega, h2, q, h3⟩
        · rintro ⟨a, b, h1, h2, h3, h4, h5⟩
          by_cases qb : b = c
          · subst qb; exact Or.inr ⟨a, h1, h3, h5⟩
          · exact Or.inl ⟨a, b, h1, by omega, h3, h4, h5⟩
    · rw [if_neg q] at eh
      refine ⟨r, ?_, hr.cg (fun x => ?_)⟩
      · unfold m_X11_apart_36
        refine loopF_inr ?_
        by_cases q0 : c = 0
        · subst q0
          simp (disch := omega) only [gd_t, if_f, done_some]
        · simp (disch := omega) only [gd_t, if_t, eh, ob_some, ↓reduceIte, done_some]
      · constructor
        · rintro ⟨a, b, h1, h2, h3⟩
          exact ⟨a, b, h1, by omega, h3⟩
        · rintro ⟨a, b, h1, h2, h3, h4, h5⟩
          by_cases qb : b = c
          · subst qb; exact absurd h4 q
          · exact ⟨a, b, h1, by omega, h3, h4, h5⟩
  unfold m_X11_apart_25
  obtain ⟨s', ⟨i1, i2⟩, e⟩ := loop_inv (f := fun s : Int × Int =>
    (m_X11_cells E).bind (fun r27 =>
    gd (InR s.2 ∧ InR r27) (if s.2 < r27 then (
      m_X11_apart_36 s.2 E (s.1, 0)
    ) else (
      done (
      gd (InR s.1 ∧ InR 268435456) (if s.1 = 268435456 then (
        some ((-1), E)
      ) else (
        some (s.1, E)
      ))
      )
    ))
    )) (fun c s => LeastE 268435456 (apP M l c) s.1 ∧ s.2 = (c : Int)) (nC M) (s := (268435456, 0)) ⟨Or.inl ⟨rfl, fun x ⟨a, b, h1, h2, _⟩ => by omega⟩, rfl⟩ (fun c s hc ⟨a1, a2⟩ => by
      obtain ⟨r', e1, e2⟩ := inner c hc s.1 a1
      refine ⟨(r', (c : Int) + 1), ?_, e2, rfl⟩
      simp (disch := omega) only [a2, ec, ob_some, gd_t, if_t, e1])
  rcases i1 with ⟨h1, h2⟩ | ⟨h1, h2⟩
  · refine ⟨-1, ?_, Or.inl ⟨rfl, h2⟩⟩
    rw [e]
    refine loopF_inr ?_
    simp (disch := omega) only [i2, h1, ec, ob_some, gd_t, if_f, ↓reduceIte, done_some]
  · have b := bnd1 _ _ (Nat.le_refl _) h1
    have ne : ¬ s'.1 = 268435456 := by omega
    refine ⟨s'.1, ?_, Or.inr ⟨h1, h2⟩⟩
    rw [e]
    refine loopF_inr ?_
    simp (disch := omega) only [i2, ec, ob_some, gd_t, if_f, if_f ne, done_some]
theorem step_apart : StepOK m_L_c20 := fun xs Ls s hx hs ⟨M, hC, hR⟩ => by
  have x1 := hx (Int.toNat (s.1 + 1))
  have O := hC.1
  by_cases q3 : 0 ≤ xs (Int.toNat (s.1 + 1)) ∧ xs (Int.toNat (s.1 + 1)) < 5
  · have a3 := cn_level_t (D := s.2) x1 q3
    obtain ⟨l, hl⟩ := nat_of q3.1
    rw [hl] at a3 q3 x1
    have hl5 : l < 5 := by omega
    obtain ⟨D1, e1, e2, e3, e4⟩ := cls_crowd hC hl5
    obtain ⟨v, g1, g2, g3⟩ := X2_leastGap (hc := 2) O e2.2.1.1.1 e3
    refine comb_apart hx hs (M' := M) (sp := .inl v) (by show InR _; omega) ⟨D1, ?_, e2, e4⟩ hR (fun D r => ?_)
    · simp (disch := omega) only [m_X10_apart, hl, a3, bndN_inl, e1, ob_some, g1]
    · obtain ⟨E, f1, f2, f3, f4, f5⟩ := ref_crowd (r.thr (x := 0)) hl5
      have y3 := rn_level_t (D := sF D 73 0 0) x1 q3
      obtain ⟨v', h1, h2⟩ := ref_apart f2 f5
      have : v' = v := h2.uniq g2
      subst this
      refine ⟨v', E, ?_, f2, (FrR.f (by omega)).trans f3, by rw [f4]; rfl, fun v h => by injection h⟩
      simp (disch := omega) only [m_X11_apart, sq_eq, hl, y3, bnd_some, gd_t, ↓reduceIte, f1, ob_some, h1]
  · have a3 := cn_level_f (D := s.2) x1 q3
    refine comb_apart hx hs (sp := .inr 0) (by simp [spX]) (ClsX.same hC ?_) hR (RefX.same (c := 1) 0 rfl (fun v h => by cases h) (fun D r => ?_))
    · simp (disch := omega) only [m_X10_apart, a3, bndN_inr]
    · have y3 := rn_level_f (D := sF D 73 0 0) x1 q3
      simp (disch := omega) only [m_X11_apart, sq_eq, y3, bnd_some, gd_t, if_f, sFF]
