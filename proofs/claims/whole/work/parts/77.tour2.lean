/-! the reference's tour -/
theorem argB_first (p : Nat → Bool) (n : Nat) {b : Int} (h : (b = -1 ∧ ∀ x, x < n → p x = false) ∨ ∃ c : Nat, c < n ∧ p c = true ∧ (∀ x, x < c → p x = false) ∧ b = (c : Int)) : b = argB p (fun _ _ => false) n := by
  have key : ∀ n, (∀ x, x < n → p x = false) → argB p (fun _ _ => false) n = -1 := by
    intro n hn
    rcases argB_cases p (fun _ _ => false) n with ⟨h1, -⟩ | ⟨c, h1, h2, -⟩
    · exact h1
    · rw [hn c h1] at h2; cases h2
  rcases h with ⟨h1, h2⟩ | ⟨c, h1, h2, h3, h4⟩
  · rw [h1, key n h2]
  · rw [h4]
    have : ∀ m, c < m → argB p (fun _ _ => false) m = (c : Int) := by
      intro m
      induction m with
      | zero => intro h; omega
      | succ m ih =>
        intro hm
        rw [argB_s]
        by_cases q : c = m
        · subst q
          rw [key c h3, h2]
          rfl
        · rw [ih (by omega)]
          have ne : ((c : Int) == -1) = false := by simp
          simp [ne]
    exact (this n h1).symm
/-- the first cell with dots, from the end -/
theorem first_down {D : DT} {M : MS} {l : Nat} (R : RInv D M) (hK : RCrowd D M l) (f : Int × Int → Option ((Int × Int) ⊕ DT)) (hf : ∀ (b : Int) (c : Nat), c < nC M → f (b, (c : Int)) = some (.inl (if dotP M l c then (c : Int) else b, (c : Int) - 1))) : loopF f (-1, (nC M : Int) - 1) = loopF f (argB (dotP M l) (fun _ _ => false) (nC M), -1) := by
  have main : ∀ (j : Nat), j ≤ nC M → ∃ b : Int, loopF f (-1, (nC M : Int) - 1) = loopF f (b, ((nC M - j : Nat) : Int) - 1) ∧ ((b = -1 ∧ ∀ x, nC M - j ≤ x → x < nC M → dotP M l x = false) ∨ ∃ c : Nat, nC M - j ≤ c ∧ c < nC M ∧ dotP M l c = true ∧ (∀ x, nC M - j ≤ x → x < c → dotP M l x = false) ∧ b = (c : Int)) := by
    intro j
    induction j with
    | zero => intro _; exact ⟨-1, rfl, Or.inl ⟨rfl, fun x h1 h2 => by omega⟩⟩
    | succ j ih =>
      intro hj
      obtain ⟨b, e1, e2⟩ := ih (by omega)
      have hc : nC M - (j + 1) < nC M := by omega
      have ec : ((nC M - j : Nat) : Int) - 1 = ((nC M - (j + 1) : Nat) : Int) := by omega
      have st := hf b _ hc
      rw [ec] at e1
      refine ⟨_, by rw [e1, loopF_inl st], ?_⟩
      by_cases q : dotP M l (nC M - (j + 1)) = true
      · rw [if_pos q]
        exact Or.inr ⟨nC M - (j + 1), Nat.le_refl _, hc, q, fun x h1 h2 => by omega, rfl⟩
      · have q' : dotP M l (nC M - (j + 1)) = false := by simpa using q
        rw [if_neg q]
        rcases e2 with ⟨h1, h2⟩ | ⟨c, h1, h2, h3, h4, h5⟩
        · refine Or.inl ⟨h1, fun x g1 g2 => ?_⟩
          by_cases qx : x = nC M - (j + 1)
          · rw [qx]; exact q'
          · exact h2 x (by omega) g2
        · refine Or.inr ⟨c, by omega, h2, h3, fun x g1 g2 => ?_, h5⟩
          by_cases qx : x = nC M - (j + 1)
          · rw [qx]; exact q'
          · exact h4 x (by omega) g2
  obtain ⟨b, e1, e2⟩ := main (nC M) (Nat.le_refl _)
  rw [Nat.sub_self] at e1 e2
  have eb : b = argB (dotP M l) (fun _ _ => false) (nC M) := argB_first _ _ (by
    rcases e2 with ⟨h1, h2⟩ | ⟨c, h1, h2, h3, h4, h5⟩
    · exact Or.inl ⟨h1, fun x hx => h2 x (by omega) hx⟩
    · exact Or.inr ⟨c, h2, h3, fun x hx => h4 x (by omega) hx, h5⟩)
  rw [e1, eb]
  rfl
theorem ref_tnext {D : DT} {M : MS} {l : Nat} (R : RInv D M) (hK : RCrowd D M l) {k : List Nat} {v : Nat} (hv : v < nC M) (h100 : ∀ c, c < nC M → (D.2 100 c = 0 ∧ c ∉ k ++ [v]) ∨ (D.2 100 c = 1 ∧ c ∈ k ++ [v])) : m_X11_tours_90 (v : Int) D (-1, 0) = some (.inl (tnO (mW M) (dotP M l) (nC M) (k ++ [v]), if tnO (mW M) (dotP M l) (nC M) (k ++ [v]) = -1 then D else sF D 73 38 (D.1 73 38 + farM (mW M) (tnO (mW M) (dotP M l) (nC M) (k ++ [v])).toNat v))) := by
  have O := R.1
  have n4 := nCb O
  have ec : m_X11_cells D = some (nC M : Int) := X11_cells R.2.1.1
  rw [tnO_snoc]
  refine loop_for (st := fun o => (argB (fun c => dotP M l c && !((k ++ [v]).contains c)) (fun c b => decide (farM (mW M) c v < farM (mW M) b v)) o, (o : Int))) (nC M) (fun o ho => ?_) ?_
  · have ef := X11_far R.2.1.1 ho hv
    have fb := farM_b O.2.1.1 O.2.1.2 ho hv
    have c1 : ((o + 1 : Nat) : Int) = (o : Int) + 1 := rfl
    have eh := X11_hasDots R.1 hK ho
    have e100 := h100 o ho
    have ab := argB_cases (fun c => dotP M l c && !((k ++ [v]).contains c)) (fun c b => decide (farM (mW M) c v < farM (mW M) b v)) o
    rw [argB_s]
    generalize argB (fun c => dotP M l c && !((k ++ [v]).contains c)) (fun c b => decide (farM (mW M) c v < farM (mW M) b v)) o = b at *
    generalize k ++ [v] = L at *
    by_cases q : dotP M l o = true
    · rw [if_pos q] at eh
      rcases e100 with ⟨g1, g2⟩ | ⟨g1, g2⟩
      · have pc : (dotP M l o && !(L.contains o)) = true := by simp only [q, Bool.true_and]; simpa using g2
        rcases ab with ⟨h, -⟩ | ⟨b', h1, h2, h3⟩
        · subst h
          simp (disch := omega) only [ec, ob_some, gd_t, if_t, eh, if_f, tn, g1, ↓reduceIte, c1, pc, beq_self_eq_true, Bool.true_or, Bool.and_true]
        · subst h3
          have hbn : b' < nC M := by omega
          have ef2 := X11_far R.2.1.1 hbn hv
          have fb2 := farM_b O.2.1.1 O.2.1.2 hbn hv
          have hne2 : ¬ ((b' : Int) = -1) := by omega
          have hne3 : ((b' : Int) == -1) = false := by simp
          by_cases q2 : farM (mW M) o v < farM (mW M) b' v
          · simp (disch := omega) only [ec, ob_some, gd_t, if_t, eh, if_f, tn, g1, if_f hne2, ef, ef2, if_t q2, ↓reduceIte, c1, pc, hne3, decide_eq_true q2, Bool.or_true, Bool.and_true]
          · simp (disch := omega) only [ec, ob_some, gd_t, if_t, eh, if_f, tn, g1, if_f hne2, ef, ef2, if_f q2, ↓reduceIte, c1, pc, hne3, decide_eq_false q2, Bool.or_false, Bool.and_false, Bool.false_eq_true]
      · have pc : (dotP M l o && !(L.contains o)) = false := by simp only [q, Bool.true_and]; simpa using g2
        simp (disch := omega) only [ec, ob_some, gd_t, if_t, eh, if_f, tn, g1, c1, pc, Bool.false_and, Bool.false_eq_true, ↓reduceIte]
    · rw [if_neg q] at eh
      have q' : dotP M l o = false := by simpa using q
      simp (disch := omega) only [ec, ob_some, gd_t, if_t, eh, ↓reduceIte, c1, q', Bool.false_and, Bool.false_eq_true]
  · have ab := argB_cases (fun c => dotP M l c && !((k ++ [v]).contains c)) (fun c b => decide (farM (mW M) c v < farM (mW M) b v)) (nC M)
    generalize argB (fun c => dotP M l c && !((k ++ [v]).contains c)) (fun c b => decide (farM (mW M) c v < farM (mW M) b v)) (nC M) = b at *
    rcases ab with ⟨h, -⟩ | ⟨b', h1, h2, h3⟩
    · subst h
      simp (disch := omega) only [ec, ob_some, gd_t, if_f, ↓reduceIte, done_some]
    · subst h3
      have ef2 := X11_far R.2.1.1 h1 hv
      have hne2 : ¬ ((b' : Int) = -1) := by omega
      simp (disch := omega) only [ec, ob_some, gd_t, if_f, if_f hne2, ef2, sq_eq, done_some, tn]
theorem X11_tours {D : DT} {M : MS} {l : Nat} (R : RInv D M) (hl5 : l < 5) : ∃ E, m_X11_tours (l : Int) D = some E ∧ RInv E M ∧ FrR D E ∧ E.1 73 0 = D.1 73 0 ∧ E.1 73 36 = ((tourN (mW M) (dotP M l) (nC M) (nC M)).length : Int) ∧ ArrL (E.2 99) (tourN (mW M) (dotP M l) (nC M) (nC M)) ∧ E.1 73 38 = wayL (mW M) (tourN (mW M) (dotP M l) (nC M) (nC M)) := by
  have O := R.1
  have n4 := nCb O
  obtain ⟨F, f1, f2, f3, f4, f5⟩ := ref_crowd R hl5
  have flags : ∃ G, m_X11_tours_17 (0, sF (sF F 73 36 0) 73 38 0) = m_X11_tours_66 (argB (dotP M l) (fun _ _ => false) (nC M), G) ∧ QKp F G ∧ G.1 73 36 = 0 ∧ G.1 73 38 = 0 ∧ ∀ c, c < 384 → G.2 100 c = 0 := by
    unfold m_X11_tours_17
    obtain ⟨s', ⟨i1, i2, i3, i4, i5⟩, e⟩ := loop_inv (f := fun s : Int × DT =>
      gd (InR s.1 ∧ InR 384) (if s.1 < 384 then (
        gd (((0 : Int) ≤ s.1 ∧ s.1 < (384 : Int)) ∧ ((0 : Int) = 0 ∨ (0 : Int) = 1)) (sq (sA s.2 100 (Int.toNat s.1) 0) (fun D30 =>
        some ((.inl ((s.1 + 1), D30)) : (Int × DT) ⊕ DT)
        ))
      ) else (
        done (
        (m_X11_cells s.2).bind (fun r40 =>
        m_X11_tours_46 s.2 ((-1), (r40 - 1))
        )
        )
      ))) (fun c s => s.1 = (c : Int) ∧ QKp F s.2 ∧ s.2.1 73 36 = 0 ∧ s.2.1 73 38 = 0 ∧ ∀ x, x < c → s.2.2 100 x = 0) 384 (s := (0, sF (sF F 73 36 0) 73 38 0)) ⟨rfl, (QKp.f (Or.inl rfl)).trans (QKp.f (Or.inr rfl)), rfl, rfl, fun _ h => absurd h (by omega)⟩ (fun c s hc ⟨a1, a2, a3, a4, a5⟩ => by
        refine ⟨((c : Int) + 1, sA s.2 100 c 0), ?_, rfl, a2.trans (QKp.a (Or.inr rfl)), a3, a4, fun x hx => ?_⟩
        · simp (disch := omega) only [a1, gd_t, if_t, tn, sq_eq, true_or, and_true]
        · rw [sA2]
          by_cases q : x = c
          · rw [if_pos ⟨rfl, q⟩]
          · rw [if_neg (fun h => q h.2)]
            exact a5 x (by omega))
    have RG := i2.inv f2
    have KG := i2.crowd f5
    have ec : m_X11_cells s'.2 = some (nC M : Int) := X11_cells RG.2.1.1
    have down : m_X11_tours_46 s'.2 (-1, (nC M : Int) - 1) = m_X11_tours_66 (argB (dotP M l) (fun _ _ => false) (nC M), s'.2) := by
      unfold m_X11_tours_46
      rw [first_down RG KG _ (fun b c hc => by
        have eh := X11_hasDots O KG hc
        by_cases q : dotP M l c = true
        · rw [if_pos q] at eh
          simp (disch := omega) only [gd_t, if_t, eh, ob_some, if_f, q, ↓reduceIte]
          rfl
        · rw [if_neg q] at eh
          have q' : dotP M l c = false := by simpa using q
          simp (disch := omega) only [gd_t, if_t, eh, ob_some, ↓reduceIte, q', Bool.false_eq_true]
          rfl)]
      cases hh : m_X11_tours_66 (argB (dotP M l) (fun _ _ => false) (nC M), s'.2) with
      | none =>
        refine loopF_none ?_
        simp (disch := omega) only [gd_t, if_f, hh]
        rfl
      | some r =>
        refine loopF_inr ?_
        simp (disch := omega) only [gd_t, if_f, hh, done_some]
    refine ⟨s'.2, ?_, i2, i3, i4, i5⟩
    rw [e]
    have i1' : s'.1 = 384 := i1
    cases hh : m_X11_tours_66 (argB (dotP M l) (fun _ _ => false) (nC M), s'.2) with
    | none =>
      refine loopF_none ?_
      simp (disch := omega) only [i1', gd_t, if_f, ec, ob_some, down, hh]
      rfl
    | some r =>
      refine loopF_inr ?_
      simp (disch := omega) only [i1', gd_t, if_f, ec, ob_some, down, hh, done_some]
  obtain ⟨G, g1, g2, g3, g4, g5⟩ := flags
  have loop : ∃ E, m_X11_tours_66 (argB (dotP M l) (fun _ _ => false) (nC M), G) = some E ∧ QKp F E ∧ E.1 73 36 = ((tourN (mW M) (dotP M l) (nC M) (nC M)).length : Int) ∧ ArrL (E.2 99) (tourN (mW M) (dotP M l) (nC M) (nC M)) ∧ E.1 73 38 = wayL (mW M) (tourN (mW M) (dotP M l) (nC M) (nC M)) := by
    unfold m_X11_tours_66
    refine loop_wf (fun s : Int × DT => nC M + 1 - (s.2.1 73 36).toNat) (fun s : Int × DT => ∃ k : Nat, k ≤ nC M ∧ (tourN (mW M) (dotP M l) (nC M) k).length = k ∧ s.1 = tnO (mW M) (dotP M l) (nC M) (tourN (mW M) (dotP M l) (nC M) k) ∧ QKp F s.2 ∧ s.2.1 73 36 = (k : Int) ∧ ArrL (s.2.2 99) (tourN (mW M) (dotP M l) (nC M) k) ∧ (∀ c, c < nC M → (s.2.2 100 c = 0 ∧ c ∉ tourN (mW M) (dotP M l) (nC M) k) ∨ (s.2.2 100 c = 1 ∧ c ∈ tourN (mW M) (dotP M l) (nC M) k)) ∧ s.2.1 73 38 = if s.1 = -1 then wayL (mW M) (tourN (mW M) (dotP M l) (nC M) k) else wayL (mW M) (tourN (mW M) (dotP M l) (nC M) k ++ [s.1.toNat])) _ (fun s hs => ?_) ⟨0, Nat.zero_le _, rfl, rfl, g2, g3, ArrL.nil, fun c hc => Or.inl ⟨g5 c (by omega), by simp [tourN]⟩, by
      rw [g4]
      split <;> rfl⟩
    obtain ⟨k, hk, hl, a1, a2, a3, a4, a6, a7⟩ := hs
    rcases tnO_cases (mW M) (dotP M l) (nC M) (tourN (mW M) (dotP M l) (nC M) k) with ⟨h1, h2⟩ | ⟨v, h1, h2, h3, h4⟩
    · have eo := tour_of_stuck h1 hk
      rw [h1] at a1
      rw [if_pos a1] at a7
      refine Or.inr ⟨s.2, ?_, a2, by rw [eo, hl]; exact a3, by rw [eo]; exact a4, by rw [eo]; exact a7⟩
      simp (disch := omega) only [a1, gd_t, ↓reduceIte, done_some]
    · have on : tourN (mW M) (dotP M l) (nC M) (k + 1) = tourN (mW M) (dotP M l) (nC M) k ++ [v] := by rw [tourN_s, if_neg (by omega), h4]; rfl
      have ol := tour_le (mW M) (dotP M l) (nC M) (k + 1)
      have kn : k + 1 ≤ nC M := by
        rw [on, List.length_append, hl] at ol
        exact ol
      rw [h4] at a1
      have ne : ¬ ((v : Int) = -1) := by omega
      rw [a1, if_neg ne, tn] at a7
      have a3' : s.2.1 73 36 = ((tourN (mW M) (dotP M l) (nC M) k).length : Int) := by rw [hl]; exact a3
      have ep := X11_picks a3' (by omega) (v : Int)
      rw [hl] at ep
      have qk : QKp F (sA (sF (sA s.2 99 k (v : Int)) 73 36 ((k : Int) + 1)) 100 v 1) := ((a2.trans (QKp.a (Or.inl rfl))).trans (QKp.f (Or.inl rfl))).trans (QKp.a (Or.inr rfl))
      have f100 : ∀ c, c < nC M → ((sA (sF (sA s.2 99 k (v : Int)) 73 36 ((k : Int) + 1)) 100 v 1).2 100 c = 0 ∧ c ∉ tourN (mW M) (dotP M l) (nC M) k ++ [v]) ∨ ((sA (sF (sA s.2 99 k (v : Int)) 73 36 ((k : Int) + 1)) 100 v 1).2 100 c = 1 ∧ c ∈ tourN (mW M) (dotP M l) (nC M) k ++ [v]) := fun c hc => by
        rw [sA2]
        by_cases q : c = v
        · subst q
          rw [if_pos ⟨rfl, rfl⟩]
          exact Or.inr ⟨rfl, by simp⟩
        · rw [if_neg (fun h => q h.2), sF2, sA2, if_neg (by omega)]
          rcases a6 c hc with ⟨b1, b2⟩ | ⟨b1, b2⟩
          · exact Or.inl ⟨b1, by simp [q, b2]⟩
          · exact Or.inr ⟨b1, by simp [b2]⟩
      have en := ref_tnext (qk.inv f2) (qk.crowd f5) h1 f100
      rw [← on] at en f100
      have t36 : (sA (sF (sA s.2 99 k (v : Int)) 73 36 ((k : Int) + 1)) 100 v 1).1 73 36 = (k : Int) + 1 := rfl
      have t38 : (sA (sF (sA s.2 99 k (v : Int)) 73 36 ((k : Int) + 1)) 100 v 1).1 73 38 = wayL (mW M) (tourN (mW M) (dotP M l) (nC M) k ++ [v]) := a7
      have arr : ArrL ((sA (sF (sA s.2 99 k (v : Int)) 73 36 ((k : Int) + 1)) 100 v 1).2 99) (tourN (mW M) (dotP M l) (nC M) (k + 1)) := by
        have := arr_push (D := s.2) (a := 99) (h := 73) (k := 36) (c := v) (v := (k : Int) + 1) a4
        rw [hl] at this
        rw [on]
        intro i hi
        rw [sA2, if_neg (by omega)]
        exact this i hi
      have kl : (tourN (mW M) (dotP M l) (nC M) (k + 1)).length = k + 1 := by rw [on, List.length_append, hl]; rfl
      obtain ⟨H, hH⟩ : ∃ H, H = sA (sF (sA s.2 99 k (v : Int)) 73 36 ((k : Int) + 1)) 100 v 1 := ⟨_, rfl⟩
      rw [← hH] at qk f100 en t36 t38 arr
      by_cases q : tnO (mW M) (dotP M l) (nC M) (tourN (mW M) (dotP M l) (nC M) (k + 1)) = -1
      · rw [if_pos q] at en
        refine Or.inl ⟨(tnO (mW M) (dotP M l) (nC M) (tourN (mW M) (dotP M l) (nC M) (k + 1)), H), ?_, ⟨k + 1, kn, kl, rfl, qk, t36, arr, f100, ?_⟩, ?_⟩
        · simp (disch := omega) only [a1, gd_t, if_f ne, ep, ob_some, or_true, and_true, tn, sq_eq, ← hH, en]
        · rw [if_pos q, on]
          exact t38
        · simp only [t36, a3]
          omega
      · rw [if_neg q] at en
        refine Or.inl ⟨(tnO (mW M) (dotP M l) (nC M) (tourN (mW M) (dotP M l) (nC M) (k + 1)), sF H 73 38 (H.1 73 38 + farM (mW M) (tnO (mW M) (dotP M l) (nC M) (tourN (mW M) (dotP M l) (nC M) (k + 1))).toNat v)), ?_, ⟨k + 1, kn, kl, rfl, qk.trans (QKp.f (Or.inr rfl)), ?_, arr, f100, ?_⟩, ?_⟩
        · simp (disch := omega) only [a1, gd_t, if_f ne, ep, ob_some, or_true, and_true, tn, sq_eq, ← hH, en]
        · rw [sF1, if_neg (by omega)]
          exact t36
        · rw [if_neg q, sF1, if_pos ⟨rfl, rfl⟩, t38, on, way_snoc]
        · have : (sF H 73 38 (H.1 73 38 + farM (mW M) (tnO (mW M) (dotP M l) (nC M) (tourN (mW M) (dotP M l) (nC M) (k + 1))).toNat v)).1 73 36 = (k : Int) + 1 := by
            rw [sF1, if_neg (by omega)]; exact t36
          simp only [this, a3]
          omega
  obtain ⟨E, h1, h2, h3, h4, h5⟩ := loop
  refine ⟨E, ?_, h2.inv f2, f3.trans h2.frR, by rw [h2.thr, f4], h3, h4, h5⟩
  rw [← g1] at h1
  simp only [m_X11_tours, f1, ob_some, sq_eq, h1]
theorem step_tour : StepOK m_L_c31 := fun xs Ls s hx hs ⟨M, hC, hR⟩ => by
  have x1 := hx (Int.toNat (s.1 + 1))
  have x2 := hx (Int.toNat (s.1 + 2))
  have O := hC.1
  have n4 := nCb O
  by_cases q1 : 0 ≤ xs (Int.toNat (s.1 + 1)) ∧ xs (Int.toNat (s.1 + 1)) < 5
  · have a1 := cn_level_t (D := s.2) x1 q1
    obtain ⟨l, hl⟩ := nat_of q1.1
    rw [hl] at a1 q1 x1
    have hl5 : l < 5 := by omega
    obtain ⟨D1, e1, e2, e3, e4⟩ := bring hC (k := 1) (by omega) hl5 (n := 0) (by omega) (fun E hE K => cls_walk hE K)
    have tl := tour_le (mW M) (dotP M l) (nC M) (nC M)
    have bb := ask_b (P := tourN (mW M) (dotP M l) (nC M) (nC M)) (n := nC M) tl (fun c hc => ((tour_ok _ _ _ _).2.1 c hc).1) (xs (Int.toNat (s.1 + 2)))
    refine comb_tour hx hs (M' := M) (sp := .inl (askM (tourN (mW M) (dotP M l) (nC M) (nC M)) (xs (Int.toNat (s.1 + 2))))) (by show InR _; omega) ⟨D1, ?_, e2, e3⟩ hR (fun D r => ?_)
    · have ea := cls_ask (P := tourN (mW M) (dotP M l) (nC M) (nC M)) e4.1 e4.2.1 (by omega) x2
      have z : ((1 : Nat) : Int) = 1 := rfl
      rw [z] at e1
      simp (disch := omega) only [m_X10_tour, hl, a1, bndN_inl, e1, ob_some, ea]
    · obtain ⟨E, f1, f2, f3, f4, f5, f6, f7⟩ := X11_tours (r.thr (x := 0)) hl5
      have y1 := rn_level_t (D := sF D 73 0 0) x1 q1
      have ea := ref_ask f5 f6 (by omega) x2
      refine ⟨_, E, ?_, f2, (FrR.f (by omega)).trans f3, by rw [f4]; rfl, fun v h => by injection h⟩
      simp (disch := omega) only [m_X11_tour, sq_eq, hl, y1, bnd_some, gd_t, ↓reduceIte, f1, ob_some, ea]
  · have a1 := cn_level_f (D := s.2) x1 q1
    refine comb_tour hx hs (sp := .inr 0) (by simp [spX]) (ClsX.same hC ?_) hR (RefX.same (c := 1) 0 rfl (fun v h => by cases h) (fun D r => ?_))
    · simp (disch := omega) only [m_X10_tour, a1, bndN_inr]
    · have y1 := rn_level_f (D := sF D 73 0 0) x1 q1
      simp (disch := omega) only [m_X11_tour, sq_eq, y1, bnd_some, gd_t, if_f, sFF]
theorem step_way : StepOK m_L_c32 := fun xs Ls s hx hs ⟨M, hC, hR⟩ => by
  have x1 := hx (Int.toNat (s.1 + 1))
  have O := hC.1
  have n4 := nCb O
  by_cases q1 : 0 ≤ xs (Int.toNat (s.1 + 1)) ∧ xs (Int.toNat (s.1 + 1)) < 5
  · have a1 := cn_level_t (D := s.2) x1 q1
    obtain ⟨l, hl⟩ := nat_of q1.1
    rw [hl] at a1 q1 x1
    have hl5 : l < 5 := by omega
    obtain ⟨D1, e1, e2, e3, e4⟩ := bring hC (k := 1) (by omega) hl5 (n := 0) (by omega) (fun E hE K => cls_walk hE K)
    have tl := tour_le (mW M) (dotP M l) (nC M) (nC M)
    have bb := way_b O (tourN (mW M) (dotP M l) (nC M) (nC M)) (fun c hc => ((tour_ok _ _ _ _).2.1 c hc).1)
    refine comb_way hx hs (M' := M) (sp := .inl (wayL (mW M) (tourN (mW M) (dotP M l) (nC M) (nC M)))) (by show InR _; omega) ⟨D1, ?_, e2, e3⟩ hR (fun D r => ?_)
    · have ew : D1.1 70 1 = wayL (mW M) (tourN (mW M) (dotP M l) (nC M) (nC M)) := e4.2.2 rfl
      have z : ((1 : Nat) : Int) = 1 := rfl
      rw [z] at e1
      simp (disch := omega) only [m_X10_way, hl, a1, bndN_inl, e1, ob_some, ew]
    · obtain ⟨E, f1, f2, f3, f4, f5, f6, f7⟩ := X11_tours (r.thr (x := 0)) hl5
      have y1 := rn_level_t (D := sF D 73 0 0) x1 q1
      refine ⟨_, E, ?_, f2, (FrR.f (by omega)).trans f3, by rw [f4]; rfl, fun v h => by injection h⟩
      simp (disch := omega) only [m_X11_way, sq_eq, hl, y1, bnd_some, gd_t, ↓reduceIte, f1, ob_some, f7]
  · have a1 := cn_level_f (D := s.2) x1 q1
    refine comb_way hx hs (sp := .inr 0) (by simp [spX]) (ClsX.same hC ?_) hR (RefX.same (c := 1) 0 rfl (fun v h => by cases h) (fun D r => ?_))
    · simp (disch := omega) only [m_X10_way, a1, bndN_inr]
    · have y1 := rn_level_f (D := sF D 73 0 0) x1 q1
      simp (disch := omega) only [m_X11_way, sq_eq, y1, bnd_some, gd_t, if_f, sFF]
