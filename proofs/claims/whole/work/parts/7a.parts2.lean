/-! the reference's parts -/
def YKp (D E : DT) : Prop := E.1 = D.1 ∧ ∀ b, (b ≠ 95 ∧ b ≠ 96) → E.2 b = D.2 b
theorem YKp.refl (D : DT) : YKp D D := ⟨rfl, fun _ _ => rfl⟩
theorem YKp.trans {D E F : DT} (h : YKp D E) (h' : YKp E F) : YKp D F := ⟨h'.1.trans h.1, fun b hb => (h'.2 b hb).trans (h.2 b hb)⟩
theorem YKp.a {D : DT} {b k : Nat} {v : Int} (hb : b = 95 ∨ b = 96) : YKp D (sA D b k v) := ⟨rfl, fun a ha => by funext j; rw [sA2, if_neg (by omega)]⟩
theorem YKp.inv {D E : DT} {M : MS} (h : YKp D E) (R : RInv D M) : RInv E M := R.keep (fun a ha => by
  simp only [List.mem_cons, List.not_mem_nil, or_false] at ha
  exact h.2 a (by omega)) (fun k hk => by rw [h.1])
theorem YKp.frR {D E : DT} (h : YKp D E) : FrR D E := fun a ha => ⟨by rw [h.1], h.2 a (by omega)⟩
def GI (M : MS) (z : Int) (c : Nat) (K : Nat) (L : Nat → Int) (D : DT) (T : List Nat) : Prop := TOK M z c T ∧ ArrL (D.2 96) T ∧ ∀ d, d < nC M → D.2 95 d = if d ∈ T then (K : Int) else L d
theorem ref_sides {D : DT} {M : MS} {z c K : Nat} {L : Nat → Int} {T : List Nat} (R : RInv D M) (hz : z < mZ M) (cl : ClL M (z : Int) L) (hLc : L c = -1) (hlc : isL M (z : Int) c = true) (h : GI M (z : Int) c K L D T) {i : Nat} (hi : i < T.length) (hK : K ≤ 384) (y : Int) : ∃ T' D', m_X11_laysParts_87 (z : Int) (K : Int) y (i : Int) ((T.length : Int), 0, D) = some (.inl ((T'.length : Int), (i : Int) + 1, D')) ∧ YKp D D' ∧ GI M (z : Int) c K L D' T' ∧ (∃ X, T' = T ++ X) ∧ ∀ b, adjM (mW M) (mH M) T[i] b → isL M (z : Int) b = true → b ∈ T' := by
  have O := R.1
  have n4 := nCb O
  have z8 := O.2.2.1
  have vm := h.1.2 _ (List.getElem_mem hi)
  have tl0 := h.1.len
  unfold m_X11_laysParts_87
  obtain ⟨s', ⟨T', i1, i2, i3, i4, i5, i6⟩, e⟩ := loop_inv (f := fun s : Int × Int × DT =>
    gd (InR s.2.1 ∧ InR 4) (if s.2.1 < 4 then (
      gd ((0 : Int) ≤ (i : Int) ∧ (i : Int) < (384 : Int)) (
      (m_X11_beside (s.2.2.2 96 (Int.toNat (i : Int))) s.2.1 s.2.2).bind (fun r103 =>
      gd (InR r103 ∧ InR (-1)) (if r103 = (-1) then (
        some (.inl (s.1, (s.2.1 + 1), s.2.2))
      ) else (
        (m_X11_isLandOf r103 (z : Int) s.2.2).bind (fun r118 =>
        gd (InR r118) (if r118 = 0 then (
          some (.inl (s.1, (s.2.1 + 1), s.2.2))
        ) else (
          gd ((0 : Int) ≤ r103 ∧ r103 < (384 : Int)) (
          gd (InR (s.2.2.2 95 (Int.toNat r103)) ∧ InR (-1)) (if (s.2.2.2 95 (Int.toNat r103)) = (-1) then (
            gd ((0 : Int) ≤ r103 ∧ r103 < (384 : Int)) (sq (sA s.2.2 95 (Int.toNat r103) (K : Int)) (fun D145 =>
            gd ((0 : Int) ≤ s.1 ∧ s.1 < (384 : Int)) (sq (sA D145 96 (Int.toNat s.1) r103) (fun D154 =>
            some (.inl ((s.1 + 1), (s.2.1 + 1), D154))
            ))))
          ) else (
            some (.inl (s.1, (s.2.1 + 1), s.2.2))
          ))
          )
        ))
        )
      ))
      ))
    ) else (
      done (
      some ((.inl (s.1, ((i : Int) + 1), s.2.2)) : (Int × Int × DT) ⊕ ((Int × Int × DT) ⊕ (Int × DT)))
      )
    ))) (fun k s => ∃ T' : List Nat, s.2.1 = (k : Int) ∧ s.1 = (T'.length : Int) ∧ YKp D s.2.2 ∧ GI M (z : Int) c K L s.2.2 T' ∧ (∃ X, T' = T ++ X) ∧ ∀ (j b : Nat), j < k → bsM (mW M) (mH M) T[i] (prm j) = (b : Int) → isL M (z : Int) b = true → b ∈ T') 4 (s := ((T.length : Int), 0, D)) ⟨T, rfl, rfl, YKp.refl _, h, ⟨[], by simp⟩, fun j b hj => absurd hj (by omega)⟩ (fun k s hk ⟨T', a1, a1', a2, a3, ⟨X, hX⟩, a5⟩ => by
      have R2 := a2.inv R
      have e96 : s.2.2.2 96 i = (T[i] : Int) := by
        have hi' : i < T'.length := by rw [hX, List.length_append]; omega
        rw [a3.2.1 i hi']
        simp only [hX]
        rw [List.getElem_append_left hi]
      have eb := X11_beside R2.2.1.1 vm.1 hk
      rcases bs_b vm.1 (prm k) with hb | ⟨b, hb1, hb2⟩
      · rw [hb] at eb
        refine ⟨(s.1, (k : Int) + 1, s.2.2), ?_, T', rfl, a1', a2, a3, ⟨X, hX⟩, fun j b hj hb' hl => ?_⟩
        · simp (disch := omega) only [a1, gd_t, if_t, tn, e96, eb, ob_some, ↓reduceIte]
        · by_cases qj : j = k
          · subst qj; omega
          · exact a5 j b (by omega) hb' hl
      · rw [hb2] at eb
        have hbn : b < nC M := hb1
        have el := X11_isL R2.2.1.1 O hb1 (z := (z : Int)) (by omega)
        have ne : ¬ ((b : Int) = -1) := by omega
        by_cases ql : isL M (z : Int) b = true
        · rw [if_pos ql] at el
          have pk4 : prm k < 4 := by unfold prm; split <;> (try split) <;> (try split) <;> omega
          have adj : adjM (mW M) (mH M) T[i] b := ⟨vm.1, prm k, pk4, hb2⟩
          have rb := rch_step vm.2.2 adj ql
          have e95 := a3.2.2 b hb1
          by_cases qm : b ∈ T'
          · rw [if_pos qm] at e95
            have ne2 : ¬ ((K : Int) = -1) := by omega
            refine ⟨(s.1, (k : Int) + 1, s.2.2), ?_, T', rfl, a1', a2, a3, ⟨X, hX⟩, fun j b' hj hb' hl => ?_⟩
            · simp (disch := omega) only [a1, gd_t, if_t, tn, e96, eb, ob_some, if_f ne, el, if_f, e95, if_f ne2]
            · by_cases qj : j = k
              · subst qj
                have : b' = b := by omega
                rw [this]; exact qm
              · exact a5 j b' (by omega) hb' hl
          · rw [if_neg qm, rch_free cl hLc hlc rb] at e95
            have t1 := a3.1.snoc qm hb1 ql rb
            have l1 := t1.len
            rw [List.length_append] at l1
            simp only [List.length_cons, List.length_nil] at l1
            refine ⟨((T'.length : Int) + 1, (k : Int) + 1, sA (sA s.2.2 95 b (K : Int)) 96 T'.length (b : Int)), ?_, T' ++ [b], rfl, by rw [List.length_append]; rfl, (a2.trans (YKp.a (Or.inl rfl))).trans (YKp.a (Or.inr rfl)), ⟨t1, ?_, fun d hd => ?_⟩, ⟨X ++ [b], by rw [hX, List.append_assoc]⟩, fun j b' hj hb' hl => ?_⟩
            · simp (disch := omega) only [a1, a1', gd_t, if_t, tn, e96, eb, ob_some, if_f ne, el, if_f, e95, ↓reduceIte, sq_eq]
            · refine a3.2.1.snoc (fun j => ?_)
              rw [sA2]
              by_cases q : j = T'.length
              · rw [if_pos ⟨rfl, q⟩, if_pos q]
              · rw [if_neg (fun h => q h.2), if_neg q, sA2, if_neg (by omega)]
            · rw [sA2, if_neg (by omega), sA2]
              by_cases q : d = b
              · subst q
                rw [if_pos ⟨rfl, rfl⟩, if_pos (by simp)]
              · rw [if_neg (fun h => q h.2), a3.2.2 d hd]
                by_cases q2 : d ∈ T'
                · rw [if_pos q2, if_pos (List.mem_append_left _ q2)]
                · rw [if_neg q2, if_neg (fun hh => by
                    rcases List.mem_append.mp hh with hh | hh
                    · exact q2 hh
                    · exact q (by simpa using hh))]
            · by_cases qj : j = k
              · subst qj
                have : b' = b := by omega
                rw [this]; simp
              · exact List.mem_append_left _ (a5 j b' (by omega) hb' hl)
        · rw [if_neg ql] at el
          refine ⟨(s.1, (k : Int) + 1, s.2.2), ?_, T', rfl, a1', a2, a3, ⟨X, hX⟩, fun j b' hj hb' hl => ?_⟩
          · simp (disch := omega) only [a1, gd_t, if_t, tn, e96, eb, ob_some, if_f ne, el, ↓reduceIte]
          · by_cases qj : j = k
            · subst qj
              have : b' = b := by omega
              rw [this] at hl; exact absurd hl ql
            · exact a5 j b' (by omega) hb' hl)
  refine ⟨T', s'.2.2, ?_, i3, i4, i5, fun b hb hl => ?_⟩
  · rw [e]
    refine loopF_inr ?_
    have i1' : s'.2.1 = 4 := i1
    simp (disch := omega) only [i1', i2, gd_t, if_f, done_some]
  · obtain ⟨-, k, hk, hb2⟩ := hb
    have : ∃ j, j < 4 ∧ prm j = k := by
      have : k = 0 ∨ k = 1 ∨ k = 2 ∨ k = 3 := by omega
      rcases this with rfl | rfl | rfl | rfl
      · exact ⟨2, by omega, rfl⟩
      · exact ⟨0, by omega, rfl⟩
      · exact ⟨1, by omega, rfl⟩
      · exact ⟨3, by omega, rfl⟩
    obtain ⟨j, hj, hjk⟩ := this
    exact i6 j b hj (by rw [hjk]; exact hb2) hl
theorem ref_fill {D : DT} {M : MS} {z c K : Nat} {L : Nat → Int} (R : RInv D M) (hz : z < mZ M) (cl : ClL M (z : Int) L) (hc : c < nC M) (hLc : L c = -1) (hlc : isL M (z : Int) c = true) (hK : K ≤ 384) (h : GI M (z : Int) c K L D [c]) : ∃ E, m_X11_laysParts_77 (z : Int) (K : Int) (c : Int) (1, 0, D) = some (.inl ((K : Int) + 1, (c : Int) + 1, E)) ∧ YKp D E ∧ ∀ d, d < nC M → (RchM M (z : Int) c d → E.2 95 d = (K : Int)) ∧ (¬ RchM M (z : Int) c d → E.2 95 d = L d) := by
  have O := R.1
  have n4 := nCb O
  have key : ∃ r, m_X11_laysParts_77 (z : Int) (K : Int) (c : Int) (1, 0, D) = some r ∧ ∃ E : DT, r = .inl ((K : Int) + 1, (c : Int) + 1, E) ∧ YKp D E ∧ ∀ d, d < nC M → (RchM M (z : Int) c d → E.2 95 d = (K : Int)) ∧ (¬ RchM M (z : Int) c d → E.2 95 d = L d) := by
    unfold m_X11_laysParts_77
    refine loop_wf (fun s : Int × Int × DT => nC M + 1 - s.2.1.toNat) (fun s : Int × Int × DT => ∃ (T : List Nat) (i : Nat), i ≤ T.length ∧ s.1 = (T.length : Int) ∧ s.2.1 = (i : Int) ∧ YKp D s.2.2 ∧ GI M (z : Int) c K L s.2.2 T ∧ c ∈ T ∧ ∀ j (hj : j < T.length), j < i → ∀ b, adjM (mW M) (mH M) T[j] b → isL M (z : Int) b = true → b ∈ T) _ (fun s hs => ?_) ⟨[c], 0, Nat.zero_le _, rfl, rfl, YKp.refl _, h, by simp, fun j hj hji => absurd hji (by omega)⟩
    obtain ⟨T, i, hi, a1, a1', a2, a3, a4, a5⟩ := hs
    have tl := a3.1.len
    by_cases q : i < T.length
    · obtain ⟨T', D', w1, w2, w3, ⟨X, hX⟩, w5⟩ := ref_sides (a2.inv R) hz cl hLc hlc a3 q hK (c : Int)
      refine Or.inl ⟨((T'.length : Int), (i : Int) + 1, D'), ?_, ⟨T', i + 1, by rw [hX, List.length_append]; omega, rfl, rfl, a2.trans w2, w3, by rw [hX]; exact List.mem_append_left _ a4, fun j hj hji b h1 h2 => ?_⟩, by simp only [a1']; omega⟩
      · simp (disch := omega) only [a1, a1', gd_t, if_t, w1]
      · have hjt : j < T.length := by omega
        have ej : T'[j] = T[j] := by
          simp only [hX]
          rw [List.getElem_append_left hjt]
        rw [ej] at h1
        by_cases qj : j = i
        · subst qj
          exact w5 b h1 h2
        · rw [hX]
          exact List.mem_append_left _ (a5 j hjt (by omega) b h1 h2)
    · have ei : i = T.length := by omega
      refine Or.inr ⟨_, ?_, s.2.2, rfl, a2, fun d hd => ?_⟩
      · simp (disch := omega) only [a1, a1', gd_t, if_f, done_some]
      · have e := a3.2.2 d hd
        have full := a3.1.full a4 (fun a ha b h1 h2 => by
          obtain ⟨j, hj, rfl⟩ := List.getElem_of_mem ha
          exact a5 j hj (by omega) b h1 h2) d
        exact ⟨fun hr => by rw [e, if_pos (full.mpr hr)], fun hr => by rw [e, if_neg (fun hm => hr (full.mp hm))]⟩
  obtain ⟨r, h1, E, h2, h3⟩ := key
  exact ⟨E, by rw [h1, h2], h3⟩
theorem X11_laysParts {D : DT} {M : MS} {z : Nat} (R : RInv D M) (hz : z < mZ M) : ∃ E, m_X11_laysParts (z : Int) D = some (((ptS M (z : Int) (nC M)).2 : Int), E) ∧ YKp D E ∧ ∀ d, d < nC M → E.2 95 d = (ptS M (z : Int) (nC M)).1 d := by
  have O := R.1
  have n4 := nCb O
  have z8 := O.2.2.1
  have first : ∃ F, m_X11_laysParts_4 (z : Int) 0 (0, D) = m_X11_laysParts_27 (z : Int) (0, 0, F) ∧ YKp D F ∧ ∀ d, d < nC M → F.2 95 d = -1 := by
    unfold m_X11_laysParts_4
    obtain ⟨s', ⟨i1, i2, i3⟩, e⟩ := loop_inv (f := fun s : Int × DT =>
      (m_X11_cells s.2).bind (fun r6 =>
      gd (InR s.1 ∧ InR r6) (if s.1 < r6 then (
        gd ((0 : Int) ≤ s.1 ∧ s.1 < (384 : Int)) (sq (sA s.2 95 (Int.toNat s.1) (-1)) (fun D18 =>
        some (.inl ((s.1 + 1), D18))
        ))
      ) else (
        done (
        m_X11_laysParts_27 (z : Int) (0, 0, s.2)
        )
      ))
      )) (fun k s => s.1 = (k : Int) ∧ YKp D s.2 ∧ ∀ d, d < k → s.2.2 95 d = -1) (nC M) (s := (0, D)) ⟨rfl, YKp.refl _, fun _ h => absurd h (by omega)⟩ (fun k s hk ⟨a1, a2, a3⟩ => by
        have ec : m_X11_cells s.2 = some (nC M : Int) := X11_cells (a2.inv R).2.1.1
        refine ⟨((k : Int) + 1, sA s.2 95 k (-1)), ?_, rfl, a2.trans (YKp.a (Or.inl rfl)), fun d hd => ?_⟩
        · simp (disch := omega) only [a1, ec, ob_some, gd_t, if_t, tn, sq_eq]
        · rw [sA2]
          by_cases q : d = k
          · rw [if_pos ⟨rfl, q⟩]
          · rw [if_neg (fun h => q h.2)]
            exact a3 d (by omega))
    refine ⟨s'.2, ?_, i2, i3⟩
    have ec : m_X11_cells s'.2 = some (nC M : Int) := X11_cells (i2.inv R).2.1.1
    rw [e]
    cases hh : m_X11_laysParts_27 (z : Int) (0, 0, s'.2) with
    | none =>
      refine loopF_none ?_
      simp (disch := omega) only [i1, ec, ob_some, gd_t, if_f, hh]
      rfl
    | some r =>
      refine loopF_inr ?_
      simp (disch := omega) only [i1, ec, ob_some, gd_t, if_f, hh, done_some]
  obtain ⟨F, f1, f2, f3⟩ := first
  have second : ∃ E, m_X11_laysParts_27 (z : Int) (0, 0, F) = some (((ptS M (z : Int) (nC M)).2 : Int), E) ∧ YKp D E ∧ ∀ d, d < nC M → E.2 95 d = (ptS M (z : Int) (nC M)).1 d := by
    unfold m_X11_laysParts_27
    obtain ⟨s', ⟨i1, i2, i3, i4⟩, e⟩ := loop_inv (f := fun s : Int × Int × DT =>
      (m_X11_cells s.2.2).bind (fun r29 =>
      gd (InR s.2.1 ∧ InR r29) (if s.2.1 < r29 then (
        (m_X11_isLandOf s.2.1 (z : Int) s.2.2).bind (fun r38 =>
        gd (InR r38) (if r38 = 0 then (
          some ((.inl (s.1, (s.2.1 + 1), s.2.2)) : (Int × Int × DT) ⊕ (Int × DT))
        ) else (
          gd ((0 : Int) ≤ s.2.1 ∧ s.2.1 < (384 : Int)) (
          gd (InR (s.2.2.2 95 (Int.toNat s.2.1)) ∧ InR (-1)) (if (s.2.2.2 95 (Int.toNat s.2.1)) = (-1) then (
            gd ((0 : Int) ≤ 0 ∧ 0 < (384 : Int)) (sq (sA s.2.2 96 (Int.toNat 0) s.2.1) (fun D66 =>
            gd ((0 : Int) ≤ s.2.1 ∧ s.2.1 < (384 : Int)) (sq (sA D66 95 (Int.toNat s.2.1) s.1) (fun D73 =>
            m_X11_laysParts_77 (z : Int) s.1 s.2.1 (1, 0, D73)
            ))))
          ) else (
            some (.inl (s.1, (s.2.1 + 1), s.2.2))
          ))
          )
        ))
        )
      ) else (
        done (
        some (s.1, s.2.2)
        )
      ))
      )) (fun c s => s.2.1 = (c : Int) ∧ YKp D s.2.2 ∧ s.1 = ((ptS M (z : Int) c).2 : Int) ∧ ∀ d, d < nC M → s.2.2.2 95 d = (ptS M (z : Int) c).1 d) (nC M) (s := (0, 0, F)) ⟨rfl, f2, rfl, f3⟩ (fun c s hc ⟨a1, a2, a3, a4⟩ => by
        obtain ⟨p1, p2, p3⟩ := pt_ok M (z : Int) c
        have R2 := a2.inv R
        have ec : m_X11_cells s.2.2 = some (nC M : Int) := X11_cells R2.2.1.1
        have el := X11_isL R2.2.1.1 O hc (z := (z : Int)) (by omega)
        have e95 := a4 c hc
        have pb := p2 c
        by_cases q : isL M (z : Int) c = true
        · rw [if_pos q] at el
          by_cases q2 : (ptS M (z : Int) c).1 c = -1
          · have y1 : YKp s.2.2 (sA (sA s.2.2 96 0 (c : Int)) 95 c ((ptS M (z : Int) c).2 : Int)) := (YKp.a (Or.inr rfl)).trans (YKp.a (Or.inl rfl))
            obtain ⟨E, w1, w2, w3⟩ := ref_fill (D := sA (sA s.2.2 96 0 (c : Int)) 95 c ((ptS M (z : Int) c).2 : Int)) (y1.inv R2) hz p1 hc q2 q (K := (ptS M (z : Int) c).2) (by omega) (by
              refine ⟨⟨by simp, fun d hd => ?_⟩, fun i hi => ?_, fun d hd => ?_⟩
              · have : d = c := by simpa using hd
                subst this
                exact ⟨hc, q, rch_refl M z d⟩
              · have : i = 0 := by simpa using hi
                subst this
                rw [sA2, if_neg (by omega), sA2, if_pos ⟨rfl, rfl⟩]
                rfl
              · rw [sA2]
                by_cases qd : d = c
                · rw [if_pos ⟨rfl, qd⟩, if_pos (by simp [qd])]
                · rw [if_neg (fun h => qd h.2), if_neg (by simp [qd]), sA2, if_neg (by omega)]
                  exact a4 d hd)
            refine ⟨(((ptS M (z : Int) c).2 : Int) + 1, (c : Int) + 1, E), ?_, rfl, (a2.trans y1).trans w2, ?_, fun d hd => ?_⟩
            · rw [q2] at e95
              simp (disch := omega) only [a1, a3, ec, ob_some, gd_t, if_t, el, if_f, tn, t0, e95, ↓reduceIte, sq_eq, w1]
            · rw [ptS, if_pos ⟨q, q2⟩]
              rfl
            · rw [ptS, if_pos ⟨q, q2⟩]
              by_cases qr : RchM M (z : Int) c d
              · dsimp only; rw [if_pos qr]; exact (w3 d hd).1 qr
              · dsimp only; rw [if_neg qr]; exact (w3 d hd).2 qr
          · refine ⟨(s.1, (c : Int) + 1, s.2.2), ?_, rfl, a2, ?_, fun d hd => ?_⟩
            · simp (disch := omega) only [a1, ec, ob_some, gd_t, if_t, el, if_f, tn, e95, if_f q2]
            · rw [ptS, if_neg (fun h => q2 h.2)]; exact a3
            · rw [ptS, if_neg (fun h => q2 h.2)]; exact a4 d hd
        · rw [if_neg q] at el
          refine ⟨(s.1, (c : Int) + 1, s.2.2), ?_, rfl, a2, ?_, fun d hd => ?_⟩
          · simp (disch := omega) only [a1, ec, ob_some, gd_t, if_t, el, ↓reduceIte]
          · rw [ptS, if_neg (fun h => q h.1)]; exact a3
          · rw [ptS, if_neg (fun h => q h.1)]; exact a4 d hd)
    refine ⟨s'.2.2, ?_, i2, i4⟩
    rw [e]
    refine loopF_inr ?_
    have ec : m_X11_cells s'.2.2 = some (nC M : Int) := X11_cells (i2.inv R).2.1.1
    simp (disch := omega) only [i1, i3, ec, ob_some, gd_t, if_f, done_some]
  obtain ⟨E, g1, g2, g3⟩ := second
  refine ⟨E, ?_, g2, g3⟩
  unfold m_X11_laysParts
  rw [f1, g1]
