/-! ===== the hull of the reference ===== -/
theorem X11_hand {D : DT} {w h : Nat} {ow se : Nat → Int} (R : RMap D w h ow se) {a b c : Nat} (ha : a < w * h) (hb : b < w * h) (hc : c < w * h) : m_X11_hand (a : Int) (b : Int) (c : Int) D = some (handM w a b c) := by
  obtain ⟨⟨h1, h2⟩, ⟨w1, w2⟩, h3⟩ := R
  have hn := wh384 w1 w2
  have hw : 0 < w := by
    have := (divh ha).2; omega
  simp (disch := omega) only [m_X11_hand, gd_t, t0, h1, cmod, cdiv, handM]
theorem hand_b {w h a b c : Nat} (hw : w ≤ 24) (hh : h ≤ 16) (ha : a < w * h) (hb : b < w * h) (hc : c < w * h) : -690 ≤ handM w a b c ∧ handM w a b c ≤ 690 := hd_b hw hh ha hb hc
theorem ref_hnext {D : DT} {M : MS} {l : Nat} (R : RInv D M) (hK : RCrowd D M l) {v : Nat} (hv : v < nC M) {f : Int} (hf : InR f) : m_X11_hulls_57 f (v : Int) D (-1, 0) = some (.inl (if hnx (mW M) (dotP M l) v (nC M) = f then -1 else hnx (mW M) (dotP M l) v (nC M), D)) := by
  have O := R.1
  have n4 := nCb O
  have ec : m_X11_cells D = some (nC M : Int) := X11_cells R.2.1.1
  unfold hnx
  refine loop_for (st := fun o => (argB (fun c => dotP M l c && !(c == v)) (fun c b => decide (handM (mW M) v b c < 0 ∨ handM (mW M) v b c = 0 ∧ farM (mW M) b v < farM (mW M) c v)) o, (o : Int))) (nC M) (fun o ho => ?_) ?_
  · have ef := X11_far R.2.1.1 ho hv
    have fb := farM_b O.2.1.1 O.2.1.2 ho hv
    have c1 : ((o + 1 : Nat) : Int) = (o : Int) + 1 := rfl
    have eh := X11_hasDots R.1 hK ho
    have ab := argB_cases (fun c => dotP M l c && !(c == v)) (fun c b => decide (handM (mW M) v b c < 0 ∨ handM (mW M) v b c = 0 ∧ farM (mW M) b v < farM (mW M) c v)) o
    rw [argB_s]
    generalize argB (fun c => dotP M l c && !(c == v)) (fun c b => decide (handM (mW M) v b c < 0 ∨ handM (mW M) v b c = 0 ∧ farM (mW M) b v < farM (mW M) c v)) o = b at *
    by_cases q : dotP M l o = true
    · rw [if_pos q] at eh
      by_cases qv : o = v
      · have pc : (dotP M l o && !(o == v)) = false := by simp [qv]
        have qi : (o : Int) = (v : Int) := by omega
        simp (disch := omega) only [ec, ob_some, gd_t, if_t, eh, if_f, if_t qi, c1, pc, Bool.false_and, Bool.false_eq_true, ↓reduceIte]
      · have pc : (dotP M l o && !(o == v)) = true := by simp only [q, Bool.true_and]; simpa using qv
        have qi : ¬ ((o : Int) = (v : Int)) := by omega
        rcases ab with ⟨h, -⟩ | ⟨b', h1, h2, h3⟩
        · subst h
          simp (disch := omega) only [ec, ob_some, gd_t, if_t, eh, if_f, if_f qi, m_X11_hulls_103, ↓reduceIte, c1, pc, beq_self_eq_true, Bool.true_or, Bool.and_true]
        · subst h3
          have hbn : b' < nC M := by omega
          have ef2 := X11_far R.2.1.1 hbn hv
          have fb2 := farM_b O.2.1.1 O.2.1.2 hbn hv
          have eg := X11_hand R.2.1.1 hv hbn ho
          have gb := hand_b O.2.1.1 O.2.1.2 hv hbn ho
          have hne2 : ¬ ((b' : Int) = -1) := by omega
          have hne3 : ((b' : Int) == -1) = false := by simp
          rw [tn]
          generalize handM (mW M) v b' o = g at *
          generalize farM (mW M) b' v = y at *
          generalize farM (mW M) o v = x at *
          by_cases q2 : 0 ≤ g
          · by_cases q3 : g = 0
            · by_cases q4 : y < x
              · have bt : decide (g < 0 ∨ g = 0 ∧ y < x) = true := decide_eq_true (by omega)
                simp (disch := omega) only [ec, ob_some, gd_t, if_t, eh, if_f, if_f qi, if_f hne2, eg, m_X11_hulls_103, if_t q2, if_t q3, ef, ef2, if_t q4, ↓reduceIte, c1, pc, hne3, bt, Bool.or_true, Bool.and_true]
              · have bt : decide (g < 0 ∨ g = 0 ∧ y < x) = false := decide_eq_false (by omega)
                simp (disch := omega) only [ec, ob_some, gd_t, if_t, eh, if_f, if_f qi, if_f hne2, eg, m_X11_hulls_103, if_t q2, if_t q3, ef, ef2, if_f q4, ↓reduceIte, c1, pc, hne3, bt, Bool.or_false, Bool.and_false, Bool.false_eq_true]
            · have bt : decide (g < 0 ∨ g = 0 ∧ y < x) = false := decide_eq_false (by omega)
              simp (disch := omega) only [ec, ob_some, gd_t, if_t, eh, if_f, if_f qi, if_f hne2, eg, m_X11_hulls_103, if_t q2, if_f q3, ↓reduceIte, c1, pc, hne3, bt, Bool.or_false, Bool.and_false, Bool.false_eq_true]
          · have bt : decide (g < 0 ∨ g = 0 ∧ y < x) = true := decide_eq_true (by omega)
            simp (disch := omega) only [ec, ob_some, gd_t, if_t, eh, if_f, if_f qi, if_f hne2, eg, m_X11_hulls_103, if_f q2, ↓reduceIte, c1, pc, hne3, bt, Bool.or_true, Bool.and_true]
    · rw [if_neg q] at eh
      have q' : dotP M l o = false := by simpa using q
      simp (disch := omega) only [ec, ob_some, gd_t, if_t, eh, ↓reduceIte, c1, q', Bool.false_and, Bool.false_eq_true]
  · have ab := argB_cases (fun c => dotP M l c && !(c == v)) (fun c b => decide (handM (mW M) v b c < 0 ∨ handM (mW M) v b c = 0 ∧ farM (mW M) b v < farM (mW M) c v)) (nC M)
    generalize argB (fun c => dotP M l c && !(c == v)) (fun c b => decide (handM (mW M) v b c < 0 ∨ handM (mW M) v b c = 0 ∧ farM (mW M) b v < farM (mW M) c v)) (nC M) = b at *
    have hbI : InR b := by
      rcases ab with ⟨h, -⟩ | ⟨b', h1, h2, h3⟩ <;> omega
    by_cases q : b = f
    · simp (disch := omega) only [ec, ob_some, gd_t, if_f, if_t q, done_some]
    · simp (disch := omega) only [ec, ob_some, gd_t, if_f, if_f q, done_some]
theorem X11_hulls {D : DT} {M : MS} {l : Nat} (R : RInv D M) (hl5 : l < 5) : ∃ E, m_X11_hulls (l : Int) D = some E ∧ RInv E M ∧ FrR D E ∧ E.1 73 0 = D.1 73 0 ∧ E.1 73 36 = ((hullN (mW M) (dotP M l) (nC M) (nC M)).length : Int) ∧ ArrL (E.2 99) (hullN (mW M) (dotP M l) (nC M) (nC M)) := by
  have O := R.1
  have n4 := nCb O
  obtain ⟨F, f1, f2, f3, f4, f5⟩ := ref_crowd R hl5
  obtain ⟨ok1, ok2, ok3⟩ := hull_wrp (w := mW M) (n := nC M) (p := dotP M l) (S := sptM M l) rfl
  rw [hull_eq ok1 ok2]
  generalize wrp (clX (mW M)) (clY (mW M)) (sptM M l) = H at *
  have qF : QKp F (sF F 73 36 0) := QKp.f (Or.inl rfl)
  have RG := qF.inv f2
  have KG := qF.crowd f5
  have ab := argB_cases (dotP M l) (fun _ _ => false) (nC M)
  have fI : InR (argB (dotP M l) (fun _ _ => false) (nC M)) := by
    rcases ab with ⟨h, -⟩ | ⟨b', h1, h2, h3⟩ <;> omega
  have loop : ∃ E, m_X11_hulls_41 (argB (dotP M l) (fun _ _ => false) (nC M)) (argB (dotP M l) (fun _ _ => false) (nC M), sF F 73 36 0) = some E ∧ QKp F E ∧ E.1 73 36 = (H.length : Int) ∧ ArrL (E.2 99) H := by
    unfold m_X11_hulls_41
    refine loop_wf (fun s : Int × DT => H.length + 1 - (s.2.1 73 36).toNat) (fun s : Int × DT => ∃ k : Nat, k ≤ H.length ∧ s.1 = hnO (mW M) (dotP M l) (nC M) (H.take k) ∧ QKp F s.2 ∧ s.2.1 73 36 = (k : Int) ∧ ArrL (s.2.2 99) (H.take k)) _ (fun s hs => ?_) ⟨0, Nat.zero_le _, rfl, qF, rfl, ArrL.nil⟩
    obtain ⟨k, hk, a1, a2, a3, a4⟩ := hs
    rcases Nat.lt_or_eq_of_le hk with hk' | hk'
    · have e1 := ok1.1 k hk'
      have ts : H.take (k + 1) = H.take k ++ [H[k]] := List.take_succ_eq_append_getElem hk'
      have hv := (ok3 _ (List.getElem_mem hk')).1
      have tl : (H.take k).length = k := by rw [List.length_take]; omega
      rw [e1] at a1
      have hn := hnO_snoc (mW M) (dotP M l) (nC M) (H.take k) H[k]
      rw [← ts] at hn
      have a3' : s.2.1 73 36 = ((H.take k).length : Int) := by rw [tl]; exact a3
      have ep := X11_picks a3' (by omega) (H[k] : Int)
      have arr := arr_push (D := s.2) (a := 99) (h := 73) (k := 36) (c := H[k]) (v := ((H.take k).length : Int) + 1) a4
      rw [← ts] at arr
      have qk : QKp F (sF (sA s.2 99 (H.take k).length (H[k] : Int)) 73 36 (((H.take k).length : Int) + 1)) := (a2.trans (QKp.a (Or.inl rfl))).trans (QKp.f (Or.inl rfl))
      have en := ref_hnext (qk.inv f2) (qk.crowd f5) hv fI
      rw [← hn] at en
      have t36 : (sF (sA s.2 99 (H.take k).length (H[k] : Int)) 73 36 (((H.take k).length : Int) + 1)).1 73 36 = (k : Int) + 1 := by
        rw [sF1, if_pos ⟨rfl, rfl⟩, tl]
      obtain ⟨G, hG⟩ : ∃ G, G = sF (sA s.2 99 (H.take k).length (H[k] : Int)) 73 36 (((H.take k).length : Int) + 1) := ⟨_, rfl⟩
      rw [← hG] at qk en t36 arr ep
      refine Or.inl ⟨(hnO (mW M) (dotP M l) (nC M) (H.take (k + 1)), G), ?_, ⟨k + 1, hk', rfl, qk, t36, arr⟩, ?_⟩
      · generalize H[k] = v at *
        have ne : ¬ ((v : Int) = -1) := by omega
        simp (disch := omega) only [a1, gd_t, if_f ne, ep, ob_some, en]
      · simp only [t36, a3]
        omega
    · subst hk'
      rw [List.take_length] at a1 a4
      rw [ok1.2] at a1
      refine Or.inr ⟨s.2, ?_, a2, a3, a4⟩
      simp (disch := omega) only [a1, gd_t, ↓reduceIte, done_some]
  have ec : m_X11_cells (sF F 73 36 0) = some (nC M : Int) := X11_cells RG.2.1.1
  have down : m_X11_hulls_19 (sF F 73 36 0) (-1, (nC M : Int) - 1) = m_X11_hulls_41 (argB (dotP M l) (fun _ _ => false) (nC M)) (argB (dotP M l) (fun _ _ => false) (nC M), sF F 73 36 0) := by
    unfold m_X11_hulls_19
    rw [first_down RG KG _ (fun b c hc => by
      have eh := X11_hasDots O KG hc
      by_cases q : dotP M l c = true
      · rw [if_pos q] at eh
        simp (disch := omega) only [gd_t, if_t, eh, ob_some, if_f, q, ↓reduceIte]
        rfl
      · rw [if_neg q] at eh
        have q' : dotP M l c = false := by simpa using q
        simp (disch := omega) only [gd_t, if_t, eh, ob_some, ↓reduceIte, q', Bool.false_eq_true]
        rfl)]
    obtain ⟨E, h1, -⟩ := loop
    rw [h1]
    refine loopF_inr ?_
    simp (disch := omega) only [gd_t, if_f, h1, done_some]
  obtain ⟨E, h1, h2, h3, h4⟩ := loop
  refine ⟨E, ?_, h2.inv f2, f3.trans h2.frR, by rw [h2.thr, f4], h3, h4⟩
  rw [← down] at h1
  simp only [m_X11_hulls, f1, ob_some, sq_eq, ec, h1]
theorem hull_facts (M : MS) (l : Nat) : (hullN (mW M) (dotP M l) (nC M) (nC M)).length ≤ nC M ∧ ∀ c, c ∈ hullN (mW M) (dotP M l) (nC M) (nC M) → c < nC M := by
  obtain ⟨ok1, ok2, ok3⟩ := hull_wrp (w := mW M) (n := nC M) (p := dotP M l) (S := sptM M l) rfl
  rw [hull_eq ok1 ok2]
  exact ⟨ok2, fun c hc => (ok3 c hc).1⟩
theorem step_hull : StepOK m_L_c33 := fun xs Ls s hx hs ⟨M, hC, hR⟩ => by
  have x1 := hx (Int.toNat (s.1 + 1))
  have x2 := hx (Int.toNat (s.1 + 2))
  have O := hC.1
  have n4 := nCb O
  by_cases q1 : 0 ≤ xs (Int.toNat (s.1 + 1)) ∧ xs (Int.toNat (s.1 + 1)) < 5
  · have a1 := cn_level_t (D := s.2) x1 q1
    obtain ⟨l, hl⟩ := nat_of q1.1
    rw [hl] at a1 q1 x1
    have hl5 : l < 5 := by omega
    obtain ⟨D1, e1, e2, e3, e4⟩ := bring hC (k := 2) (by omega) hl5 (n := 0) (by omega) (fun E hE K => cls_wrap hE K)
    obtain ⟨tl, tm⟩ := hull_facts M l
    have bb := ask_b (P := hullN (mW M) (dotP M l) (nC M) (nC M)) (n := nC M) tl tm (xs (Int.toNat (s.1 + 2)))
    refine comb_hull hx hs (M' := M) (sp := .inl (askM (hullN (mW M) (dotP M l) (nC M) (nC M)) (xs (Int.toNat (s.1 + 2))))) (by show InR _; omega) ⟨D1, ?_, e2, e3⟩ hR (fun D r => ?_)
    · have ea := cls_ask (P := hullN (mW M) (dotP M l) (nC M) (nC M)) e4.1 e4.2.1 (by omega) x2
      have z : ((2 : Nat) : Int) = 2 := rfl
      rw [z] at e1
      simp (disch := omega) only [m_X10_hull, hl, a1, bndN_inl, e1, ob_some, ea]
    · obtain ⟨E, f1, f2, f3, f4, f5, f6⟩ := X11_hulls (r.thr (x := 0)) hl5
      have y1 := rn_level_t (D := sF D 73 0 0) x1 q1
      have ea := ref_ask f5 f6 (by omega) x2
      refine ⟨_, E, ?_, f2, (FrR.f (by omega)).trans f3, by rw [f4]; rfl, fun v h => by injection h⟩
      simp (disch := omega) only [m_X11_hull, sq_eq, hl, y1, bnd_some, gd_t, ↓reduceIte, f1, ob_some, ea]
  · have a1 := cn_level_f (D := s.2) x1 q1
    refine comb_hull hx hs (sp := .inr 0) (by simp [spX]) (ClsX.same hC ?_) hR (RefX.same (c := 1) 0 rfl (fun v h => by cases h) (fun D r => ?_))
    · simp (disch := omega) only [m_X10_hull, a1, bndN_inr]
    · have y1 := rn_level_f (D := sF D 73 0 0) x1 q1
      simp (disch := omega) only [m_X11_hull, sq_eq, y1, bnd_some, gd_t, if_f, sFF]
