/-! ===== parts of a zone ===== -/
def RchM (M : MS) (z : Int) (c d : Nat) : Prop := ∀ S : Nat → Prop, S c → (∀ a b, S a → adjM (mW M) (mH M) a b → isL M z b = true → S b) → S d
theorem rch_refl (M : MS) (z : Int) (c : Nat) : RchM M z c c := fun _ h _ => h
theorem rch_step {M : MS} {z : Int} {c a b : Nat} (h : RchM M z c a) (h1 : adjM (mW M) (mH M) a b) (h2 : isL M z b = true) : RchM M z c b := fun S s0 s1 => s1 a b (h S s0 s1) h1 h2
noncomputable def ptS (M : MS) (z : Int) : Nat → (Nat → Int) × Nat
  | 0 => (fun _ => -1, 0)
  | c + 1 => if isL M z c = true ∧ (ptS M z c).1 c = -1 then (fun d => @ite Int (RchM M z c d) (Classical.propDecidable _) ((ptS M z c).2 : Int) ((ptS M z c).1 d), (ptS M z c).2 + 1) else ptS M z c
def ClL (M : MS) (z : Int) (L : Nat → Int) : Prop := ∀ a b, L a ≠ -1 → adjM (mW M) (mH M) a b → isL M z b = true → L b ≠ -1
theorem pt_ok (M : MS) (z : Int) (c : Nat) : ClL M z (ptS M z c).1 ∧ (∀ d, -1 ≤ (ptS M z c).1 d ∧ (ptS M z c).1 d < ((ptS M z c).2 : Int)) ∧ (ptS M z c).2 ≤ c := by
  induction c with
  | zero => exact ⟨fun a b h => absurd rfl h, fun d => ⟨by show (-1 : Int) ≤ -1; omega, by show (-1 : Int) < ((0 : Nat) : Int); omega⟩, Nat.le_refl _⟩
  | succ c ih =>
    obtain ⟨i1, i2, i3⟩ := ih
    by_cases q : isL M z c = true ∧ (ptS M z c).1 c = -1
    · rw [ptS, if_pos q]
      refine ⟨fun a b h h1 h2 => ?_, fun d => ?_, by simp only; omega⟩
      · simp only at h ⊢
        by_cases qa : RchM M z c a
        · rw [if_pos (rch_step qa h1 h2)]
          omega
        · rw [if_neg qa] at h
          have := i1 a b h h1 h2
          split
          · omega
          · exact this
      · simp only
        have := i2 d
        split <;> omega
    · rw [ptS, if_neg q]
      exact ⟨i1, i2, by omega⟩
theorem rch_mem {M : MS} {z : Int} {c d : Nat} (hc : c < nC M) (hl : isL M z c = true) (h : RchM M z c d) : d < nC M ∧ isL M z d = true := h (fun d => d < nC M ∧ isL M z d = true) ⟨hc, hl⟩ (fun a b _ h1 h2 => ⟨adj_lt h1, h2⟩)
theorem rch_free {M : MS} {z : Int} {c d : Nat} {L : Nat → Int} (cl : ClL M z L) (hc : L c = -1) (hl : isL M z c = true) (h : RchM M z c d) : L d = -1 := by
  refine (h (fun d => L d = -1 ∧ isL M z d = true) ⟨hc, hl⟩ (fun a b ⟨h1, h2⟩ h3 h4 => ⟨?_, h4⟩)).1
  rcases Decidable.em (L b = -1) with q | q
  · exact q
  · exact absurd h1 (cl b a q (adj_sym h3) h2)
theorem nodup_lt {l : List Nat} {n : Nat} (h : l.Nodup) (hb : ∀ c, c ∈ l → c < n) : l.length ≤ n := by
  have e := nodup_len h hb
  have := sumTo_bounds (f := fun c => b2i (c ∈ l)) (n := n) (a := 0) (b := 1) (fun c _ => b2i_01)
  omega
/-- cells that a fill has reached -/
def TOK (M : MS) (z : Int) (c : Nat) (T : List Nat) : Prop := T.Nodup ∧ ∀ d, d ∈ T → d < nC M ∧ isL M z d = true ∧ RchM M z c d
theorem TOK.snoc {M : MS} {z : Int} {c b : Nat} {T : List Nat} (h : TOK M z c T) (hb : b ∉ T) (h1 : b < nC M) (h2 : isL M z b = true) (h3 : RchM M z c b) : TOK M z c (T ++ [b]) := by
  refine ⟨?_, fun d hd => ?_⟩
  · rw [List.nodup_append]
    refine ⟨h.1, by simp, fun x hx y hy => ?_⟩
    simp at hy
    rintro rfl
    exact hb (hy ▸ hx)
  · rcases List.mem_append.mp hd with hd | hd
    · exact h.2 d hd
    · have : d = b := by simpa using hd
      subst this
      exact ⟨h1, h2, h3⟩
theorem TOK.len {M : MS} {z : Int} {c : Nat} {T : List Nat} (h : TOK M z c T) : T.length ≤ nC M := nodup_lt h.1 (fun d hd => (h.2 d hd).1)
/-- all that is reached -/
theorem TOK.full {M : MS} {z : Int} {c : Nat} {T : List Nat} (h : TOK M z c T) (hc : c ∈ T) (cl : ∀ a, a ∈ T → ∀ b, adjM (mW M) (mH M) a b → isL M z b = true → b ∈ T) (d : Nat) : d ∈ T ↔ RchM M z c d := ⟨fun hd => (h.2 d hd).2.2, fun hr => hr (fun d => d ∈ T) hc (fun a b ha h1 h2 => cl a ha b h1 h2)⟩
/-! the class -/
def XKp (D D' : DT) : Prop := ∀ a, (a ≠ 67 ∧ a ≠ 68 ∧ a ≠ 69) → D'.1 a = D.1 a ∧ D'.2 a = D.2 a
theorem XKp.refl (D : DT) : XKp D D := fun _ _ => ⟨rfl, rfl⟩
theorem XKp.trans {D D' D'' : DT} (h : XKp D D') (h' : XKp D' D'') : XKp D D'' := fun a ha => ⟨(h' a ha).1.trans (h a ha).1, (h' a ha).2.trans (h a ha).2⟩
theorem XKp.f {D : DT} {k : Nat} {v : Int} : XKp D (sF D 67 k v) := fun a ha => ⟨by funext j; rw [sF1, if_neg (by omega)], rfl⟩
theorem XKp.a {D : DT} {b k : Nat} {v : Int} (hb : b = 68 ∨ b = 69) : XKp D (sA D b k v) := fun a ha => ⟨rfl, by funext j; rw [sA2, if_neg (by omega)]⟩
theorem XKp.map {D D' : DT} {w h : Nat} {ow se : Nat → Int} (f : XKp D D') (C : CMap D 2 w h ow se) : CMap D' 2 w h ow se := C.cong (fun a ha => f a (by omega))
theorem XKp.cinv {D D' : DT} {M : MS} (f : XKp D D') (h : CInv D M) : CInv D' M := by
  obtain ⟨h1, h2, ⟨h3, h4, h5⟩, h6⟩ := h
  refine ⟨h1, h2.fr (fun a ha => (f a (by omega)).1) (fun a ha => (f a (by omega)).2), ⟨?_, h4.fr (fun b hb => f b (by omega)), h5.fr (fun b hb => f b (by omega))⟩, ?_⟩
  · rw [(f (1 + 9) (by omega)).1]
    rcases h3 with t | t
    · exact Or.inl t
    · exact Or.inr ⟨t.1, t.2.fr (fun b hb => f b (by omega))⟩
  · unfold PathRep PathAt at *
    simp only [(f 70 (by omega)).1, (f 71 (by omega)).2]
    exact h6
theorem XKp.frC {D D' : DT} (h : XKp D D') : FrC D D' := fun a ha => h a (by omega)
def FI (M : MS) (z : Int) (c : Nat) (K : Nat) (L : Nat → Int) (D : DT) (Q S : List Nat) : Prop := TOK M z c (Q ++ S) ∧ (D.1 67 3 = (S.length : Int) ∧ D.1 67 0 = (K : Int)) ∧ ArrL (D.2 69) S ∧ ∀ d, d < nC M → D.2 68 d = if d ∈ Q ++ S then (K : Int) else L d
theorem X3_reach {D : DT} {M : MS} {z : Int} {c K : Nat} {L : Nat → Int} {Q S : List Nat} (O : MOK M) (h : FI M z c K L D Q S) {b : Nat} (hb : b ∉ Q ++ S) (h1 : b < nC M) (h2 : isL M z b = true) (h3 : RchM M z c b) : ∃ D', m_X3_reach (b : Int) D = some D' ∧ XKp D D' ∧ FI M z c K L D' Q (S ++ [b]) := by
  have n4 := nCb O
  obtain ⟨f1, ⟨f2, f2'⟩, f3, f4⟩ := h
  have t1 : TOK M z c (Q ++ (S ++ [b])) := by
    rw [← List.append_assoc]
    exact f1.snoc hb h1 h2 h3
  have l1 := t1.len
  rw [List.length_append, List.length_append] at l1
  simp only [List.length_cons, List.length_nil] at l1
  refine ⟨sF (sA (sA D 68 b (K : Int)) 69 S.length (b : Int)) 67 3 ((S.length : Int) + 1), ?_, ((XKp.a (Or.inl rfl)).trans (XKp.a (Or.inr rfl))).trans XKp.f, t1, ⟨?_, ?_⟩, ?_, fun d hd => ?_⟩
  · simp (disch := omega) only [m_X3_reach, f2, f2', gd_t, if_t, tn, sq_eq, sA1]
  · rw [sF1, if_pos ⟨rfl, rfl⟩, List.length_append]; rfl
  · rw [sF1, if_neg (by omega)]; exact f2'
  · refine f3.snoc (fun j => ?_)
    rw [sF2, sA2]
    by_cases q : j = S.length
    · rw [if_pos ⟨rfl, q⟩, if_pos q]
    · rw [if_neg (fun h => q h.2), if_neg q, sA2, if_neg (by omega)]
  · rw [sF2, sA2, if_neg (by omega), sA2]
    by_cases q : d = b
    · subst q
      rw [if_pos ⟨rfl, rfl⟩, if_pos (by simp)]
    · rw [if_neg (fun h => q h.2), f4 d hd]
      by_cases q2 : d ∈ Q ++ S
      · rw [if_pos q2, if_pos (by rw [← List.append_assoc]; exact List.mem_append_left _ q2)]
      · rw [if_neg q2, if_neg (fun hh => by
          rw [← List.append_assoc] at hh
          rcases List.mem_append.mp hh with hh | hh
          · exact q2 hh
          · exact q (by simpa using hh))]
theorem fill_sides {D : DT} {M : MS} {z c K : Nat} {L : Nat → Int} {Q S : List Nat} (O : MOK M) (C : CMap D 2 (mW M) (mH M) (mO M) (mS M)) (hz : z < mZ M) (cl : ClL M (z : Int) L) (hLc : L c = -1) (hlc : isL M (z : Int) c = true) (h : FI M (z : Int) c K L D Q S) {v : Nat} (hv : v ∈ Q) (hK : K ≤ 384) (n : Int) : ∃ S' D', m_X3_fill_52 2 (z : Int) n (v : Int) (0, D) = some (.inl (n + 1, D')) ∧ XKp D D' ∧ FI M (z : Int) c K L D' Q S' ∧ (∀ b, b ∈ S → b ∈ S') ∧ ∀ b, adjM (mW M) (mH M) v b → isL M (z : Int) b = true → b ∈ Q ++ S' := by
  have n4 := nCb O
  have z8 := O.2.2.1
  have vm := h.1.2 v (List.mem_append_left _ hv)
  unfold m_X3_fill_52
  obtain ⟨s', ⟨S', i1, i2, i3, i4, i5⟩, e⟩ := loop_inv (f := fun s : Int × DT =>
    gd (InR s.1 ∧ InR 4) (if s.1 < 4 then (
      (m_X1_beside 2 (v : Int) s.1 s.2).bind (fun r63 =>
      gd (InR r63 ∧ InR (-1)) (if r63 = (-1) then (
        some (.inl ((s.1 + 1), s.2))
      ) else (
        (m_X1_isLandOf 2 r63 (z : Int) s.2).bind (fun r78 =>
        gd (InR r78) (if r78 = 0 then (
          some (.inl ((s.1 + 1), s.2))
        ) else (
          gd ((0 : Int) ≤ r63 ∧ r63 < (384 : Int)) (
          gd (InR (s.2.2 68 (Int.toNat r63)) ∧ InR (-1)) (if (s.2.2 68 (Int.toNat r63)) = (-1) then (
            (m_X3_reach r63 s.2).bind (fun D98 =>
            some (.inl ((s.1 + 1), D98))
            )
          ) else (
            some (.inl ((s.1 + 1), s.2))
          ))
          )
        ))
        )
      ))
      )
    ) else (
      done (
      some ((.inl ((n + 1), s.2)) : (Int × DT) ⊕ DT)
      )
    ))) (fun k s => ∃ S' : List Nat, s.1 = (k : Int) ∧ XKp D s.2 ∧ FI M (z : Int) c K L s.2 Q S' ∧ (∀ b, b ∈ S → b ∈ S') ∧ ∀ (j b : Nat), j < k → bsM (mW M) (mH M) v j = (b : Int) → isL M (z : Int) b = true → b ∈ Q ++ S') 4 (s := (0, D)) ⟨S, rfl, XKp.refl _, h, fun _ hb => hb, fun j b hj => absurd hj (by omega)⟩ (fun k s hk ⟨S', a1, a2, a3, a4, a5⟩ => by
      have C2 := a2.map C
      have eb := X1_beside C2 vm.1 hk
      rcases bs_b vm.1 k with hb | ⟨b, hb1, hb2⟩
      · rw [hb] at eb
        refine ⟨((k : Int) + 1, s.2), ?_, S', rfl, a2, a3, a4, fun j b hj hb' hl => ?_⟩
        · simp (disch := omega) only [a1, gd_t, if_t, eb, ob_some, ↓reduceIte]
        · by_cases qj : j = k
          · subst qj; omega
          · exact a5 j b (by omega) hb' hl
      · rw [hb2] at eb
        have hbn : b < nC M := hb1
        have el := X1_isL C2 O hb1 (z := (z : Int)) (by omega)
        have ne : ¬ ((b : Int) = -1) := by omega
        by_cases ql : isL M (z : Int) b = true
        · rw [if_pos ql] at el
          have adj : adjM (mW M) (mH M) v b := ⟨vm.1, k, hk, hb2⟩
          have rb := rch_step vm.2.2 adj ql
          have e68 := a3.2.2.2 b hb1
          have tl := a3.1.len
          by_cases qm : b ∈ Q ++ S'
          · rw [if_pos qm] at e68
            refine ⟨((k : Int) + 1, s.2), ?_, S', rfl, a2, a3, a4, fun j b' hj hb' hl => ?_⟩
            · have ne2 : ¬ ((K : Int) = -1) := by omega
              simp (disch := omega) only [a1, gd_t, if_t, eb, ob_some, if_f ne, el, if_f, tn, e68, if_f ne2]
            · by_cases qj : j = k
              · subst qj
                have : b' = b := by omega
                rw [this]; exact qm
              · exact a5 j b' (by omega) hb' hl
          · rw [if_neg qm, rch_free cl hLc hlc rb] at e68
            obtain ⟨D', w1, w2, w3⟩ := X3_reach O a3 qm hb1 ql rb
            refine ⟨((k : Int) + 1, D'), ?_, S' ++ [b], rfl, a2.trans w2, w3, fun x hx => List.mem_append_left _ (a4 x hx), fun j b' hj hb' hl => ?_⟩
            · simp (disch := omega) only [a1, gd_t, if_t, eb, ob_some, if_f ne, el, if_f, tn, e68, ↓reduceIte, w1]
            · by_cases qj : j = k
              · subst qj
                have : b' = b := by omega
                rw [this]; simp
              · have := a5 j b' (by omega) hb' hl
                rw [← List.append_assoc]
                exact List.mem_append_left _ this
        · rw [if_neg ql] at el
          refine ⟨((k : Int) + 1, s.2), ?_, S', rfl, a2, a3, a4, fun j b' hj hb' hl => ?_⟩
          · simp (disch := omega) only [a1, gd_t, if_t, eb, ob_some, if_f ne, el, ↓reduceIte]
          · by_cases qj : j = k
            · subst qj
              have : b' = b := by omega
              rw [this] at hl; exact absurd hl ql
            · exact a5 j b' (by omega) hb' hl)
  refine ⟨S', s'.2, ?_, i2, i3, i4, fun b hb hl => ?_⟩
  · rw [e]
    refine loopF_inr ?_
    have i1' : s'.1 = 4 := i1
    simp (disch := omega) only [i1', gd_t, if_f, done_some]
  · obtain ⟨-, k, hk, hb2⟩ := hb
    exact i5 k b hk hb2 hl
theorem X3_fill {D : DT} {M : MS} {z c K : Nat} {L : Nat → Int} (O : MOK M) (C : CMap D 2 (mW M) (mH M) (mO M) (mS M)) (hz : z < mZ M) (cl : ClL M (z : Int) L) (hc : c < nC M) (hLc : L c = -1) (hlc : isL M (z : Int) c = true) (hK : K ≤ 384) (h0 : D.1 67 0 = (K : Int)) (h68 : ∀ d, d < nC M → D.2 68 d = L d) : ∃ D', m_X3_fill 2 (z : Int) (c : Int) D = some D' ∧ XKp D D' ∧ D'.1 67 0 = (K : Int) ∧ ∀ d, d < nC M → (RchM M (z : Int) c d → D'.2 68 d = (K : Int)) ∧ (¬ RchM M (z : Int) c d → D'.2 68 d = L d) := by
  have n4 := nCb O
  have f0 : FI M (z : Int) c K L (sF D 67 3 0) [] [] := ⟨⟨List.nodup_nil, fun d hd => absurd hd (by simp)⟩, ⟨rfl, h0⟩, ArrL.nil, fun d hd => by rw [if_neg (by simp)]; exact h68 d hd⟩
  obtain ⟨F, r1, r2, r3⟩ := X3_reach O f0 (by simp) hc hlc (rch_refl M z c)
  simp only [List.nil_append] at r3
  have loop : ∃ D', m_X3_fill_13 2 (z : Int) (0, F) = some D' ∧ XKp D D' ∧ D'.1 67 0 = (K : Int) ∧ ∀ d, d < nC M → (RchM M (z : Int) c d → D'.2 68 d = (K : Int)) ∧ (¬ RchM M (z : Int) c d → D'.2 68 d = L d) := by
    unfold m_X3_fill_13
    refine loop_wf (fun s : Int × DT => nC M + 1 - s.1.toNat) (fun s : Int × DT => ∃ P S : List Nat, s.1 = (P.length : Int) ∧ XKp D s.2 ∧ FI M (z : Int) c K L s.2 P S ∧ c ∈ P ++ S ∧ ∀ a, a ∈ P → ∀ b, adjM (mW M) (mH M) a b → isL M (z : Int) b = true → b ∈ P ++ S) _ (fun s hs => ?_) ⟨[], [c], rfl, XKp.f.trans r2, r3, by simp, fun a ha => absurd ha (by simp)⟩
    obtain ⟨P, S, a1, a2, a3, a4, a5⟩ := hs
    have tl := a3.1.len
    rw [List.length_append] at tl
    rcases List.eq_nil_or_concat S with hS | ⟨S0, v, hS⟩
    · subst hS
      have f3 := a3.2.1.1
      have f3' : s.2.1 67 3 = 0 := f3
      refine Or.inr ⟨s.2, ?_, a2, a3.2.1.2, fun d hd => ?_⟩
      · simp (disch := omega) only [f3', gd_t, if_f, done_some]
      · have e := a3.2.2.2 d hd
        have full := a3.1.full a4 (fun a ha b h1 h2 => a5 a (by simpa using ha) b h1 h2) d
        refine ⟨fun hr => by rw [e, if_pos (full.mpr hr)], fun hr => by rw [e, if_neg (fun hm => hr (full.mp hm))]⟩
    · rw [List.concat_eq_append] at hS
      subst hS
      obtain ⟨t1, ⟨t2, t2'⟩, t3, t4⟩ := a3
      rw [List.length_append] at t2 tl
      simp only [List.length_cons, List.length_nil] at t2 tl
      have pm : (P ++ (S0 ++ [v])).Perm ((P ++ [v]) ++ S0) := by
        rw [List.append_assoc]
        exact List.Perm.append_left P List.perm_append_comm
      have f1 : FI M (z : Int) c K L (sF s.2 67 3 (S0.length : Int)) (P ++ [v]) S0 := by
        refine ⟨⟨t1.1.perm pm, fun d hd => t1.2 d (pm.mem_iff.mpr hd)⟩, ⟨by rw [sF1, if_pos ⟨rfl, rfl⟩], by rw [sF1, if_neg (by omega)]; exact t2'⟩, fun i hi => ?_, fun d hd => ?_⟩
        · rw [sF2, t3 i (by rw [List.length_append]; omega), List.getElem_append_left hi]
        · rw [sF2, t4 d hd]
          by_cases q : d ∈ P ++ (S0 ++ [v])
          · rw [if_pos q, if_pos (pm.mem_iff.mp q)]
          · rw [if_neg q, if_neg (fun hh => q (pm.mem_iff.mpr hh))]
      have ev : (sF s.2 67 3 (S0.length : Int)).2 69 S0.length = (v : Int) := by
        rw [sF2, t3 S0.length (by simp), List.getElem_concat_length rfl]
      have el : (sF s.2 67 3 (S0.length : Int)).1 67 3 = (S0.length : Int) := by rw [sF1, if_pos ⟨rfl, rfl⟩]
      have es : s.2.1 67 3 - 1 = (S0.length : Int) := by rw [t2]; omega
      obtain ⟨S', D', w1, w2, w3, w4, w5⟩ := fill_sides O ((a2.trans XKp.f).map C) hz cl hLc hlc f1 (v := v) (by simp) hK (P.length : Int)
      refine Or.inl ⟨((P.length : Int) + 1, D'), ?_, ⟨P ++ [v], S', by rw [List.length_append]; rfl, (a2.trans XKp.f).trans w2, w3, ?_, fun a ha b h1 h2 => ?_⟩, by simp only [a1]; omega⟩
      · simp (disch := omega) only [a1, gd_t, if_t, es, sq_eq, el, tn, ev, w1]
      · rcases List.mem_append.mp (pm.mem_iff.mp a4) with h | h
        · exact List.mem_append_left _ h
        · exact List.mem_append_right _ (w4 c h)
      · rcases List.mem_append.mp ha with h | h
        · rcases List.mem_append.mp (pm.mem_iff.mp (a5 a h b h1 h2)) with g | g
          · exact List.mem_append_left _ g
          · exact List.mem_append_right _ (w4 b g)
        · have : a = v := by simpa using h
          subst this
          exact w5 b h1 h2
  obtain ⟨D', l1, l2, l3, l4⟩ := loop
  refine ⟨D', ?_, l2, l3, l4⟩
  simp only [m_X3_fill, sq_eq, r1, ob_some, l1]
theorem X3_find {D : DT} {M : MS} {z : Nat} (O : MOK M) (C : CMap D 2 (mW M) (mH M) (mO M) (mS M)) (hz : z < mZ M) : ∃ D', m_X3_find 2 (z : Int) D = some D' ∧ XKp D D' ∧ D'.1 67 0 = ((ptS M (z : Int) (nC M)).2 : Int) ∧ ∀ d, d < nC M → D'.2 68 d = (ptS M (z : Int) (nC M)).1 d := by
  have n4 := nCb O
  have z8 := O.2.2.1
  have k0 : XKp D (sFill (sF D 67 0 0) 68 384 (-1)) := fun a ha => ⟨by
    funext j
    show (sF D 67 0 0).1 a j = _
    rw [sF1, if_neg (by omega)], by
    funext j
    show (if a = 68 ∧ j < 384 then (-1 : Int) else (sF D 67 0 0).2 a j) = _
    rw [if_neg (by omega)]
    rfl⟩
  unfold m_X3_find
  simp only [sq_eq]
  unfold m_X3_find_15
  obtain ⟨s', ⟨i1, i2, i3, i4⟩, e⟩ := loop_inv (f := fun s : Int × DT =>
    (m_X1_cells 2 s.2).bind (fun r17 =>
    gd (InR s.1 ∧ InR r17) (if s.1 < r17 then (
      (m_X1_isLandOf 2 s.1 (z : Int) s.2).bind (fun r26 =>
      gd (InR r26) (if r26 = 0 then (
        some ((.inl ((s.1 + 1), s.2)) : (Int × DT) ⊕ DT)
      ) else (
        gd ((0 : Int) ≤ s.1 ∧ s.1 < (384 : Int)) (
        gd (InR (s.2.2 68 (Int.toNat s.1)) ∧ InR (-1)) (if (s.2.2 68 (Int.toNat s.1)) = (-1) then (
          (m_X3_fill 2 (z : Int) s.1 s.2).bind (fun D46 =>
          sq (sF D46 67 0 ((D46.1 67 0) + 1)) (fun D56 =>
          some (.inl ((s.1 + 1), D56))
          ))
        ) else (
          some (.inl ((s.1 + 1), s.2))
        ))
        )
      ))
      )
    ) else (
      done (
      some s.2
      )
    ))
    )) (fun c s => s.1 = (c : Int) ∧ XKp D s.2 ∧ s.2.1 67 0 = ((ptS M (z : Int) c).2 : Int) ∧ ∀ d, d < nC M → s.2.2 68 d = (ptS M (z : Int) c).1 d) (nC M) (s := (0, sFill (sF D 67 0 0) 68 384 (-1))) ⟨rfl, k0, rfl, fun d hd => by
      show (if 68 = 68 ∧ d < 384 then (-1 : Int) else _) = _
      rw [if_pos ⟨rfl, by omega⟩]
      rfl⟩ (fun c s hc ⟨a1, a2, a3, a4⟩ => by
      obtain ⟨p1, p2, p3⟩ := pt_ok M (z : Int) c
      have C2 := a2.map C
      have ec : m_X1_cells 2 s.2 = some (nC M : Int) := X1_cells C2
      have el := X1_isL C2 O hc (z := (z : Int)) (by omega)
      have e68 := a4 c hc
      have pb := p2 c
      by_cases q : isL M (z : Int) c = true
      · rw [if_pos q] at el
        by_cases q2 : (ptS M (z : Int) c).1 c = -1
        · obtain ⟨D', w1, w2, w3, w4⟩ := X3_fill O C2 hz p1 hc q2 q (by omega) a3 a4
          refine ⟨((c : Int) + 1, sF D' 67 0 (((ptS M (z : Int) c).2 : Int) + 1)), ?_, rfl, (a2.trans w2).trans XKp.f, ?_, fun d hd => ?_⟩
          · rw [q2] at e68
            simp (disch := omega) only [a1, ec, ob_some, gd_t, if_t, el, if_f, tn, e68, ↓reduceIte, w1, sq_eq, w3]
          · rw [sF1, if_pos ⟨rfl, rfl⟩, ptS, if_pos ⟨q, q2⟩]
            rfl
          · rw [sF2, ptS, if_pos ⟨q, q2⟩]
            by_cases qr : RchM M (z : Int) c d
            · dsimp only; rw [if_pos qr]; exact (w4 d hd).1 qr
            · dsimp only; rw [if_neg qr]; exact (w4 d hd).2 qr
        · refine ⟨((c : Int) + 1, s.2), ?_, rfl, a2, ?_, fun d hd => ?_⟩
          · simp (disch := omega) only [a1, ec, ob_some, gd_t, if_t, el, if_f, tn, e68, if_f q2]
          · rw [ptS, if_neg (fun h => q2 h.2)]; exact a3
          · rw [ptS, if_neg (fun h => q2 h.2)]; exact a4 d hd
      · rw [if_neg q] at el
        refine ⟨((c : Int) + 1, s.2), ?_, rfl, a2, ?_, fun d hd => ?_⟩
        · simp (disch := omega) only [a1, ec, ob_some, gd_t, if_t, el, ↓reduceIte]
        · rw [ptS, if_neg (fun h => q h.1)]; exact a3
        · rw [ptS, if_neg (fun h => q h.1)]; exact a4 d hd)
  refine ⟨s'.2, ?_, i2, i3, i4⟩
  rw [e]
  refine loopF_inr ?_
  have ec : m_X1_cells 2 s'.2 = some (nC M : Int) := X1_cells (i2.map C)
  simp (disch := omega) only [i1, ec, ob_some, gd_t, if_f, done_some]
