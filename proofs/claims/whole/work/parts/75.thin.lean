/-! ===== paths ===== -/
def PKp (D D' : DT) : Prop := ∀ a, (a ≠ 70 ∧ a ≠ 71 ∧ a ≠ 72) → D'.1 a = D.1 a ∧ D'.2 a = D.2 a
theorem PKp.refl (D : DT) : PKp D D := fun _ _ => ⟨rfl, rfl⟩
theorem PKp.trans {D D' D'' : DT} (h : PKp D D') (h' : PKp D' D'') : PKp D D'' := fun a ha => ⟨(h' a ha).1.trans (h a ha).1, (h' a ha).2.trans (h a ha).2⟩
theorem PKp.f {D : DT} {k : Nat} {v : Int} : PKp D (sF D 70 k v) := fun a ha => ⟨by funext j; rw [sF1, if_neg (by omega)], rfl⟩
theorem PKp.a {D : DT} {b k : Nat} {v : Int} (hb : b = 71 ∨ b = 72) : PKp D (sA D b k v) := fun a ha => ⟨rfl, by funext j; rw [sA2, if_neg (by omega)]⟩
theorem PKp.frC {D D' : DT} (h : PKp D D') : FrC D D' := fun a ha => h a (by omega)
theorem CInv.path {D D' : DT} {M : MS} (h : CInv D M) (f : PKp D D') (P : PathRep D' M) : CInv D' M := by
  obtain ⟨h1, h2, ⟨h3, h4, h5⟩, h6⟩ := h
  refine ⟨h1, h2.fr (fun a ha => (f a (by omega)).1) (fun a ha => (f a (by omega)).2), ⟨?_, h4.fr (fun b hb => f b (by omega)), h5.fr (fun b hb => f b (by omega))⟩, P⟩
  rw [(f (1 + 9) (by omega)).1]
  rcases h3 with t | t
  · exact Or.inl t
  · exact Or.inr ⟨t.1, t.2.fr (fun b hb => f b (by omega))⟩
theorem PKp.crowd {D D' : DT} {M : MS} {l : Nat} (f : PKp D D') (K : CrowdAt D 23 M l) : CrowdAt D' 23 M l := by
  unfold CrowdAt at *
  rw [(f 23 (by omega)).1, (f (23 + 1) (by omega)).2, (f (23 + 2) (by omega)).2, (f (23 + 3) (by omega)).2]
  exact K
theorem PKp.map {D D' : DT} {w h : Nat} {ow se : Nat → Int} (f : PKp D D') (C : CMap D 2 w h ow se) : CMap D' 2 w h ow se := C.cong (fun a ha => f a (by omega))
/-- the class brings a path -/
theorem bring {D : DT} {M : MS} (hC : CInv D M) {k l : Nat} (hk : k < 3) (hl : l < 5) {n : Int} (hn : 0 ≤ n ∧ n ≤ 999) (fol : ∀ E, CInv E M → CrowdAt E 23 M l → ∃ E', m_X4_follow 2 23 (k : Int) n E = some E' ∧ PKp E E' ∧ PathAt E' M k l n) : ∃ D', m_X10_bringPath (k : Int) (l : Int) n D = some D' ∧ CInv D' M ∧ FrC D D' ∧ PathAt D' M k l n := by
  have pb : InR (D.1 70 5) ∧ (D.1 70 5 = -1 ∨ (InR (D.1 70 6) ∧ InR (D.1 70 7))) := by
    rcases hC.2.2.2 with h | ⟨k', l', n', h1, h2, h3, h4, h5, h6, h7⟩
    · rw [h]; exact ⟨by omega, Or.inl rfl⟩
    · rw [h4, h5, h6]; exact ⟨by omega, Or.inr ⟨by omega, by omega⟩⟩
  have again : (D.1 70 5 = (k : Int) ∧ D.1 70 6 = (l : Int) ∧ D.1 70 7 = n) ∨ m_X4_isOf (k : Int) (l : Int) n D = some 0 := by
    by_cases q1 : D.1 70 5 = (k : Int)
    · have pb2 : InR (D.1 70 6) ∧ InR (D.1 70 7) := by
        rcases pb.2 with h | h
        · omega
        · exact h
      by_cases q2 : D.1 70 6 = (l : Int)
      · by_cases q3 : D.1 70 7 = n
        · exact Or.inl ⟨q1, q2, q3⟩
        · right
          simp (disch := omega) only [m_X4_isOf, gd_t, if_t q1, if_t q2, if_f q3]
      · right
        simp (disch := omega) only [m_X4_isOf, gd_t, if_t q1, if_f q2]
    · right
      simp (disch := omega) only [m_X4_isOf, gd_t, if_f q1]
  rcases again with ⟨q1, q2, q3⟩ | hz
  · have h1 : m_X4_isOf (k : Int) (l : Int) n D = some 1 := by
      simp (disch := omega) only [m_X4_isOf, gd_t, if_t q1, if_t q2, if_t q3]
    refine ⟨D, ?_, hC, FrC.rfl, ?_⟩
    · simp (disch := omega) only [m_X10_bringPath, h1, ob_some, gd_t, if_f]
    · rcases hC.2.2.2 with h | ⟨k', l', n', a1, a2, a3, a4, a5, a6, a7⟩
      · omega
      · have e1 : k' = k := by omega
        have e2 : l' = l := by omega
        have e3 : n' = n := by omega
        subst e1 e2 e3
        exact a7
  · obtain ⟨D1, e1, e2, e3, e4⟩ := cls_crowd hC hl
    obtain ⟨D2, f1, f2, f3⟩ := fol D1 e2 e3
    have pp : PathAt (sF (sF (sF D2 70 5 (k : Int)) 70 6 (l : Int)) 70 7 n) M k l n := by
      obtain ⟨p1, p2, p3⟩ := f3
      refine ⟨?_, p2, fun h => ?_⟩
      · rw [sF1, if_neg (by omega), sF1, if_neg (by omega), sF1, if_neg (by omega)]; exact p1
      · rw [sF1, if_neg (by omega), sF1, if_neg (by omega), sF1, if_neg (by omega)]; exact p3 h
    have kk : PKp D1 (sF (sF (sF D2 70 5 (k : Int)) 70 6 (l : Int)) 70 7 n) := ((f2.trans PKp.f).trans PKp.f).trans PKp.f
    refine ⟨_, ?_, e2.path kk (Or.inr ⟨k, l, n, hk, hl, hn, ?_, ?_, ?_, pp⟩), e4.trans kk.frC, pp⟩
    · simp (disch := omega) only [m_X10_bringPath, hz, ob_some, gd_t, ↓reduceIte, e1, f1, m_X4_keepAs, sq_eq]
    · rw [sF1, if_neg (by omega), sF1, if_neg (by omega), sF1, if_pos ⟨rfl, rfl⟩]
    · rw [sF1, if_neg (by omega), sF1, if_pos ⟨rfl, rfl⟩]
    · rw [sF1, if_pos ⟨rfl, rfl⟩]
/-- what is asked of a path -/
def askM (P : List Nat) (v : Int) : Int := if v = -1 then (P.length : Int) else if 0 ≤ v ∧ v < (P.length : Int) then ((P[v.toNat]?.getD 0 : Nat) : Int) else -1
theorem ask_b {P : List Nat} {n : Nat} (hl : P.length ≤ n) (hm : ∀ c, c ∈ P → c < n) (v : Int) : -1 ≤ askM P v ∧ askM P v ≤ (n : Int) := by
  unfold askM
  split
  · omega
  · split
    · rename_i h
      have hv : v.toNat < P.length := by omega
      rw [List.getElem?_eq_getElem hv]
      have := hm _ (List.getElem_mem hv)
      simp only [Option.getD_some]
      omega
    · omega
theorem cls_ask {D : DT} {P : List Nat} (h0 : D.1 70 0 = (P.length : Int)) (hA : ArrL (D.2 71) P) (hl : P.length ≤ 384) {v : Int} (hv : InR v) : m_X10_countOrStop v D = some (askM P v) := by
  unfold askM
  by_cases q : v = -1
  · simp (disch := omega) only [m_X10_countOrStop, gd_t, if_t q, h0]
  · by_cases q2 : 0 ≤ v ∧ v < (P.length : Int)
    · obtain ⟨i, hi⟩ := nat_of q2.1
      subst hi
      have hil : i < P.length := by omega
      have e := hA i hil
      rw [if_neg q, if_pos q2, tn, List.getElem?_eq_getElem hil]
      simp (disch := omega) only [m_X10_countOrStop, m_X4_stopAt, gd_t, if_f q, if_t, h0, tn, e, ob_some, Option.getD_some]
    · rw [if_neg q, if_neg q2]
      by_cases q3 : 0 ≤ v
      · simp (disch := omega) only [m_X10_countOrStop, m_X4_stopAt, gd_t, if_f q, if_t q3, h0, if_f, ob_some]
      · simp (disch := omega) only [m_X10_countOrStop, m_X4_stopAt, gd_t, if_f q, if_f q3, ob_some]
theorem ref_ask {D : DT} {P : List Nat} (h0 : D.1 73 36 = (P.length : Int)) (hA : ArrL (D.2 99) P) (hl : P.length ≤ 384) {v : Int} (hv : InR v) : m_X11_pickedAt v D = some (askM P v) := by
  unfold askM
  by_cases q : v = -1
  · simp (disch := omega) only [m_X11_pickedAt, gd_t, if_t q, h0]
  · by_cases q2 : 0 ≤ v ∧ v < (P.length : Int)
    · have i2 := rn_in_t (D := D) (a := 0) (b := (P.length : Int) - 1) hv (by omega) (by omega) (by omega)
      obtain ⟨i, hi⟩ := nat_of q2.1
      subst hi
      have hil : i < P.length := by omega
      have e := hA i hil
      rw [if_neg q, if_pos q2, tn, List.getElem?_eq_getElem hil]
      simp (disch := omega) only [m_X11_pickedAt, gd_t, if_f q, h0, i2, ob_some, if_f, tn, e, Option.getD_some]
    · have i2 := rn_in_f (D := D) (a := 0) (b := (P.length : Int) - 1) hv (by omega) (by omega) (by omega)
      rw [if_neg q, if_neg q2]
      simp (disch := omega) only [m_X11_pickedAt, gd_t, if_f q, h0, i2, ob_some, ↓reduceIte]
/-! thinned -/
def awy (w : Nat) (n : Int) (k : List Nat) (c : Nat) : Bool := k.all (fun o => !decide (farM w o c < n))
theorem thin_snoc (w : Nat) (n : Int) (l : List Nat) (c : Nat) : thinL w n (l ++ [c]) = if awy w n (thinL w n l) c then thinL w n l ++ [c] else thinL w n l := by
  rw [thinL, List.foldl_append, ← thinL]
  rfl
theorem thin_sub (w : Nat) (n : Int) (l : List Nat) : (∀ c, c ∈ thinL w n l → c ∈ l) ∧ (thinL w n l).length ≤ l.length := by
  induction h : l.length generalizing l with
  | zero =>
    have : l = [] := by simpa using h
    subst this
    exact ⟨fun c hc => hc, Nat.le_refl _⟩
  | succ m ih =>
    rcases List.eq_nil_or_concat l with h2 | ⟨l2, b, h2⟩
    · subst h2; simp at h
    · rw [List.concat_eq_append] at h2
      subst h2
      have hl : l2.length = m := by simpa using h
      obtain ⟨i1, i2⟩ := ih l2 hl
      rw [thin_snoc]
      split
      · refine ⟨fun c hc => ?_, ?_⟩
        · rcases List.mem_append.mp hc with h3 | h3
          · exact List.mem_append_left _ (i1 c h3)
          · exact List.mem_append_right _ h3
        · rw [List.length_append]
          simp
          omega
      · exact ⟨fun c hc => List.mem_append_left _ (i1 c hc), by omega⟩
theorem X4_isApart {D : DT} {M : MS} (O : MOK M) (C : CMap D 2 (mW M) (mH M) (mO M) (mS M)) {P : List Nat} (h0 : D.1 70 0 = (P.length : Int)) (hA : ArrL (D.2 71) P) (hm : ∀ c, c ∈ P → c < nC M) (hl : P.length ≤ 384) {c : Nat} (hc : c < nC M) {n : Int} (hn : InR n) : m_X4_isApart 2 (c : Int) n D = some (if awy (mW M) n P c then 1 else 0) := by
  have main : ∀ (m i : Nat), i + m = P.length → m_X4_isApart_3 2 (c : Int) n D (i : Int) = some (if awy (mW M) n (P.drop i) c then 1 else 0) := by
    intro m
    induction m with
    | zero =>
      intro i hi
      rw [List.drop_eq_nil_of_le (by omega)]
      unfold m_X4_isApart_3
      refine loopF_inr ?_
      simp (disch := omega) only [h0, gd_t, if_f, done_some]
      rfl
    | succ m ih =>
      intro i hi
      have hil : i < P.length := by omega
      have e := hA i hil
      have hcm := hm _ (List.getElem_mem hil)
      have ef := X1_far C hc hcm
      rw [farM_comm] at ef
      have fb := farM_b O.2.1.1 O.2.1.2 hcm hc
      have nx := ih (i + 1) (by omega)
      rw [List.drop_eq_getElem_cons hil]
      unfold awy at nx ⊢
      rw [List.all_cons]
      generalize P[i] = x at *
      by_cases q : farM (mW M) x c < n
      · rw [decide_eq_true q]
        unfold m_X4_isApart_3
        refine loopF_inr ?_
        simp (disch := omega) only [h0, gd_t, if_t, tn, e, ef, ob_some, if_t q, done_some]
        rfl
      · rw [decide_eq_false q]
        simp only [Bool.not_false, Bool.true_and]
        rw [← nx]
        unfold m_X4_isApart_3
        refine loopF_inl ?_
        simp (disch := omega) only [h0, gd_t, if_t, tn, e, ef, ob_some, if_f q]
        rfl
  exact main P.length 0 (by omega)
theorem X11_isAway {D : DT} {M : MS} (O : MOK M) (R : RMap D (mW M) (mH M) (mO M) (mS M)) {P : List Nat} (h0 : D.1 73 36 = (P.length : Int)) (hA : ArrL (D.2 99) P) (hm : ∀ c, c ∈ P → c < nC M) (hl : P.length ≤ 384) {c : Nat} (hc : c < nC M) {n : Int} (hn : InR n) : m_X11_isAway (c : Int) n D = some (if awy (mW M) n P c then 1 else 0) := by
  have main : ∀ (m i : Nat), i + m = P.length → m_X11_isAway_2 (c : Int) n D (i : Int) = some (if awy (mW M) n (P.drop i) c then 1 else 0) := by
    intro m
    induction m with
    | zero =>
      intro i hi
      rw [List.drop_eq_nil_of_le (by omega)]
      unfold m_X11_isAway_2
      refine loopF_inr ?_
      simp (disch := omega) only [h0, gd_t, if_f, done_some]
      rfl
    | succ m ih =>
      intro i hi
      have hil : i < P.length := by omega
      have e := hA i hil
      have hcm := hm _ (List.getElem_mem hil)
      have ef := X11_far R hcm hc
      have fb := farM_b O.2.1.1 O.2.1.2 hcm hc
      have nx := ih (i + 1) (by omega)
      rw [List.drop_eq_getElem_cons hil]
      unfold awy at nx ⊢
      rw [List.all_cons]
      generalize P[i] = x at *
      by_cases q : farM (mW M) x c < n
      · rw [decide_eq_true q]
        unfold m_X11_isAway_2
        refine loopF_inr ?_
        simp (disch := omega) only [h0, gd_t, if_t, tn, e, ef, ob_some, if_t q, done_some]
        rfl
      · rw [decide_eq_false q]
        simp only [Bool.not_false, Bool.true_and]
        rw [← nx]
        unfold m_X11_isAway_2
        refine loopF_inl ?_
        simp (disch := omega) only [h0, gd_t, if_t, tn, e, ef, ob_some, if_f q]
        rfl
  exact main P.length 0 (by omega)
theorem X4_push {D : DT} {P : List Nat} (h0 : D.1 70 0 = (P.length : Int)) (hl : P.length < 768) (c : Int) : m_X4_push c D = some (sF (sA D 71 P.length c) 70 0 ((P.length : Int) + 1)) := by
  simp (disch := omega) only [m_X4_push, h0, gd_t, if_t, tn, sq_eq, sA1]
theorem X11_picks {D : DT} {P : List Nat} (h0 : D.1 73 36 = (P.length : Int)) (hl : P.length < 384) (c : Int) : m_X11_picks c D = some (sF (sA D 99 P.length c) 73 36 ((P.length : Int) + 1)) := by
  simp (disch := omega) only [m_X11_picks, h0, gd_t, tn, sq_eq, sA1]
theorem arr_push {D : DT} {a h k : Nat} {P : List Nat} {c : Nat} {v : Int} (hA : ArrL (D.2 a) P) : ArrL ((sF (sA D a P.length (c : Int)) h k v).2 a) (P ++ [c]) := by
  refine hA.snoc (fun j => ?_)
  rw [sF2, sA2]
  by_cases q : j = P.length
  · rw [if_pos ⟨rfl, q⟩, if_pos q]
  · rw [if_neg (fun h => q h.2), if_neg q]
theorem cls_keep {D : DT} {M : MS} {l : Nat} (hC : CInv D M) (K : CrowdAt D 23 M l) {n : Int} (hn : 0 ≤ n ∧ n ≤ 999) : ∃ D', m_X4_follow 2 23 ((0 : Nat) : Int) n D = some D' ∧ PKp D D' ∧ PathAt D' M 0 l n := by
  have O := hC.1
  have n4 := nCb O
  have sl := spt_le M l
  have wm : ∀ x, x ∈ sptM M l → x < nC M := fun x h => (spt_mem.mp h).1
  have loop : ∃ D', m_X4_keep 2 23 n (sF (sF D 70 0 0) 70 1 0) = some D' ∧ PKp D D' ∧ D'.1 70 0 = ((thinL (mW M) n (sptM M l)).length : Int) ∧ ArrL (D'.2 71) (thinL (mW M) n (sptM M l)) := by
    unfold m_X4_keep m_X4_keep_3
    obtain ⟨s', ⟨i1, i2, i3, i4⟩, e⟩ := loop_inv (f := fun s : Int × DT =>
      gd (InR s.1 ∧ InR (s.2.1 23 5)) (if s.1 < (s.2.1 23 5) then (
        gd ((0 : Int) ≤ s.1 ∧ s.1 < (384 : Int)) (
        (m_X4_isApart 2 (s.2.2 (23 + 3) (Int.toNat s.1)) n s.2).bind (fun r22 =>
        gd (InR r22) (if r22 = 0 then (
          some ((.inl ((s.1 + 1), s.2)) : (Int × DT) ⊕ DT)
        ) else (
          gd ((0 : Int) ≤ s.1 ∧ s.1 < (384 : Int)) (
          (m_X4_push (s.2.2 (23 + 3) (Int.toNat s.1)) s.2).bind (fun D36 =>
          some (.inl ((s.1 + 1), D36))
          ))
        ))
        ))
      ) else (
        done (
        some s.2
        )
      ))) (fun i s => s.1 = (i : Int) ∧ PKp D s.2 ∧ s.2.1 70 0 = ((thinL (mW M) n ((sptM M l).take i)).length : Int) ∧ ArrL (s.2.2 71) (thinL (mW M) n ((sptM M l).take i))) (sptM M l).length (s := (0, sF (sF D 70 0 0) 70 1 0)) ⟨rfl, PKp.f.trans PKp.f, rfl, ArrL.nil⟩ (fun i s hi ⟨a1, a2, a3, a4⟩ => by
        have K2 := a2.crowd K
        have e5 := K2.2.2.2.1
        have e1 := K2.2.2.2.2 i hi
        have hci := wm _ (List.getElem_mem hi)
        have ts : (sptM M l).take (i + 1) = (sptM M l).take i ++ [(sptM M l)[i]] := List.take_succ_eq_append_getElem hi
        have sb := thin_sub (mW M) n ((sptM M l).take i)
        have tl : ((sptM M l).take i).length ≤ i := by rw [List.length_take]; omega
        have ea := X4_isApart O (a2.map hC.2.1.1.1) a3 a4 (fun c hc => wm c (List.mem_of_mem_take (sb.1 c hc))) (by omega) hci (n := n) (by omega)
        rw [ts, thin_snoc]
        generalize (sptM M l)[i] = c at *
        by_cases q : awy (mW M) n (thinL (mW M) n ((sptM M l).take i)) c = true
        · rw [if_pos q] at ea
          simp only [if_t q]
          have ep := X4_push a3 (by omega) (c : Int)
          refine ⟨((i : Int) + 1, sF (sA s.2 71 (thinL (mW M) n ((sptM M l).take i)).length (c : Int)) 70 0 (((thinL (mW M) n ((sptM M l).take i)).length : Int) + 1)), ?_, rfl, (a2.trans (PKp.a (Or.inl rfl))).trans PKp.f, ?_, arr_push a4⟩
          · simp (disch := omega) only [a1, e5, gd_t, if_t, tn, e1, ea, ob_some, if_f, ep]
          · rw [sF1, if_pos ⟨rfl, rfl⟩, List.length_append]
            rfl
        · rw [if_neg q] at ea
          simp only [if_f q]
          refine ⟨((i : Int) + 1, s.2), ?_, rfl, a2, a3, a4⟩
          simp (disch := omega) only [a1, e5, gd_t, if_t, tn, e1, ea, ob_some, ↓reduceIte])
    rw [List.take_length] at i3 i4
    refine ⟨s'.2, ?_, i2, i3, i4⟩
    rw [e]
    refine loopF_inr ?_
    have e5 := (i2.crowd K).2.2.2.1
    simp (disch := omega) only [i1, e5, gd_t, if_f, done_some]
  obtain ⟨D', f1, f2, f3, f4⟩ := loop
  refine ⟨D', ?_, f2, f3, f4, fun h => by omega⟩
  have z : ((0 : Nat) : Int) = 0 := rfl
  simp (disch := omega) only [m_X4_follow, sq_eq, z, gd_t, ↓reduceIte, f1, ob_some]
/-- what the picks of the reference leave alone -/
def QKp (D E : DT) : Prop := (∀ a k, (a = 73 → k ≠ 36 ∧ k ≠ 38) → E.1 a k = D.1 a k) ∧ ∀ b, (b ≠ 99 ∧ b ≠ 100) → E.2 b = D.2 b
theorem QKp.refl (D : DT) : QKp D D := ⟨fun _ _ _ => rfl, fun _ _ => rfl⟩
theorem QKp.trans {D E F : DT} (h : QKp D E) (h' : QKp E F) : QKp D F := ⟨fun a k hk => (h'.1 a k hk).trans (h.1 a k hk), fun b hb => (h'.2 b hb).trans (h.2 b hb)⟩
theorem QKp.f {D : DT} {k : Nat} {v : Int} (hk : k = 36 ∨ k = 38) : QKp D (sF D 73 k v) := ⟨fun a j hj => by rw [sF1, if_neg (by omega)], fun _ _ => rfl⟩
theorem QKp.a {D : DT} {b k : Nat} {v : Int} (hb : b = 99 ∨ b = 100) : QKp D (sA D b k v) := ⟨fun _ _ _ => rfl, fun a ha => by funext j; rw [sA2, if_neg (by omega)]⟩
theorem QKp.inv {D E : DT} {M : MS} (h : QKp D E) (R : RInv D M) : RInv E M := R.keep (fun a ha => by
  simp only [List.mem_cons, List.not_mem_nil, or_false] at ha
  exact h.2 a (by omega)) (fun k hk => h.1 73 k (by
  simp only [List.mem_cons, List.not_mem_nil, or_false] at hk
  omega))
theorem QKp.crowd {D E : DT} {M : MS} {l : Nat} (h : QKp D E) (K : RCrowd D M l) : RCrowd E M l := by
  unfold RCrowd at *
  rw [h.2 93 (by omega)]
  exact K
theorem QKp.frR {D E : DT} (h : QKp D E) : FrR D E := fun a ha => ⟨by funext k; exact h.1 a k (fun e => by omega), h.2 a (by omega)⟩
theorem QKp.thr {D E : DT} (h : QKp D E) : E.1 73 0 = D.1 73 0 := h.1 73 0 (by omega)
theorem ref_thin {D : DT} {M : MS} {l : Nat} (R : RInv D M) (hK : RCrowd D M l) {n v : Int} (hn : 0 ≤ n ∧ n ≤ 999) (hv : InR v) : ∃ E, m_X11_thinned_52 n v (0, sF D 73 36 0) = some (askM (thinL (mW M) n (sptM M l)) v, E) ∧ QKp D E := by
  have O := R.1
  have n4 := nCb O
  unfold m_X11_thinned_52
  obtain ⟨s', ⟨i1, i2, i3, i4⟩, e⟩ := loop_inv (f := fun s : Int × DT =>
    (m_X11_cells s.2).bind (fun r55 =>
    gd (InR s.1 ∧ InR r55) (if s.1 < r55 then (
      (m_X11_hasDots s.1 s.2).bind (fun r64 =>
      gd (InR r64) (if r64 = 0 then (
        some (.inl ((s.1 + 1), s.2))
      ) else (
        (m_X11_isAway s.1 n s.2).bind (fun r74 =>
        gd (InR r74) (if r74 = 0 then (
          some (.inl ((s.1 + 1), s.2))
        ) else (
          (m_X11_picks s.1 s.2).bind (fun D83 =>
          some ((.inl ((s.1 + 1), D83)) : (Int × DT) ⊕ (Int × DT))
          )
        ))
        )
      ))
      )
    ) else (
      done (
      (m_X11_pickedAt v s.2).bind (fun r94 =>
      some (r94, s.2)
      )
      )
    ))
    )) (fun c s => s.1 = (c : Int) ∧ QKp D s.2 ∧ s.2.1 73 36 = ((thinL (mW M) n ((List.range c).filter (dotP M l))).length : Int) ∧ ArrL (s.2.2 99) (thinL (mW M) n ((List.range c).filter (dotP M l)))) (nC M) (s := (0, sF D 73 36 0)) ⟨rfl, QKp.f (Or.inl rfl), rfl, ArrL.nil⟩ (fun c s hc ⟨a1, a2, a3, a4⟩ => by
      have R2 := a2.inv R
      have ec : m_X11_cells s.2 = some (nC M : Int) := X11_cells R2.2.1.1
      have eh := X11_hasDots O (a2.crowd hK) hc
      have lb := fr_le (dotP M l) c
      have sb := thin_sub (mW M) n ((List.range c).filter (dotP M l))
      by_cases q : dotP M l c = true
      · rw [if_pos q] at eh
        have ea := X11_isAway O R2.2.1.1 a3 a4 (fun x hx => by have := (fr_mem.mp (sb.1 x hx)).1; omega) (by omega) hc (n := n) (by omega)
        rw [frs_t q, thin_snoc]
        by_cases q2 : awy (mW M) n (thinL (mW M) n ((List.range c).filter (dotP M l))) c = true
        · rw [if_pos q2] at ea
          simp only [if_t q2]
          have ep := X11_picks a3 (by omega) (c : Int)
          refine ⟨((c : Int) + 1, sF (sA s.2 99 (thinL (mW M) n ((List.range c).filter (dotP M l))).length (c : Int)) 73 36 (((thinL (mW M) n ((List.range c).filter (dotP M l))).length : Int) + 1)), ?_, rfl, (a2.trans (QKp.a (Or.inl rfl))).trans (QKp.f (Or.inl rfl)), ?_, arr_push a4⟩
          · simp (disch := omega) only [a1, ec, ob_some, gd_t, if_t, eh, if_f, ea, ep]
          · rw [sF1, if_pos ⟨rfl, rfl⟩, List.length_append]
            rfl
        · rw [if_neg q2] at ea
          simp only [if_f q2]
          refine ⟨((c : Int) + 1, s.2), ?_, rfl, a2, a3, a4⟩
          simp (disch := omega) only [a1, ec, ob_some, gd_t, if_t, eh, if_f, ea, ↓reduceIte]
      · rw [if_neg q] at eh
        rw [frs_f q]
        refine ⟨((c : Int) + 1, s.2), ?_, rfl, a2, a3, a4⟩
        simp (disch := omega) only [a1, ec, ob_some, gd_t, if_t, eh, ↓reduceIte])
  refine ⟨s'.2, ?_, i2⟩
  rw [e]
  refine loopF_inr ?_
  have lb := fr_le (dotP M l) (nC M)
  have sb := thin_sub (mW M) n ((List.range (nC M)).filter (dotP M l))
  have ec : m_X11_cells s'.2 = some (nC M : Int) := X11_cells (i2.inv R).2.1.1
  have ea := ref_ask i3 i4 (by omega) hv
  simp (disch := omega) only [i1, ec, ob_some, gd_t, if_f, ea, done_some]
  rfl
theorem step_thinned : StepOK m_L_c30 := fun xs Ls s hx hs ⟨M, hC, hR⟩ => by
  have x1 := hx (Int.toNat (s.1 + 1))
  have x2 := hx (Int.toNat (s.1 + 2))
  have x3 := hx (Int.toNat (s.1 + 3))
  have O := hC.1
  have n4 := nCb O
  by_cases q1 : 0 ≤ xs (Int.toNat (s.1 + 1)) ∧ xs (Int.toNat (s.1 + 1)) < 5
  · have a1 := cn_level_t (D := s.2) x1 q1
    by_cases q2 : 0 ≤ xs (Int.toNat (s.1 + 2)) ∧ xs (Int.toNat (s.1 + 2)) ≤ 999
    · have a2 := cn_far_t (D := s.2) x2 q2
      obtain ⟨l, hl⟩ := nat_of q1.1
      rw [hl] at a1 q1 x1
      have hl5 : l < 5 := by omega
      obtain ⟨D1, e1, e2, e3, e4⟩ := bring hC (k := 0) (by omega) hl5 q2 (fun E hE K => cls_keep hE K q2)
      have sb := thin_sub (mW M) (xs (Int.toNat (s.1 + 2))) (sptM M l)
      have sl := spt_le M l
      have bb := ask_b (P := thinL (mW M) (xs (Int.toNat (s.1 + 2))) (sptM M l)) (n := nC M) (by omega) (fun c hc => (spt_mem.mp (sb.1 c hc)).1) (xs (Int.toNat (s.1 + 3)))
      refine comb_thinned hx hs (M' := M) (sp := .inl (askM (thinL (mW M) (xs (Int.toNat (s.1 + 2))) (sptM M l)) (xs (Int.toNat (s.1 + 3))))) (by show InR _; omega) ⟨D1, ?_, e2, e3⟩ hR (fun D r => ?_)
      · have ea := cls_ask (P := thinL (mW M) (xs (Int.toNat (s.1 + 2))) (sptM M l)) e4.1 e4.2.1 (by omega) x3
        have z : ((0 : Nat) : Int) = 0 := rfl
        rw [z] at e1
        simp (disch := omega) only [m_X10_thinned, hl, a1, a2, bndN_inl, e1, ob_some, ea]
      · obtain ⟨E, f1, f2, f3, f4, f5⟩ := ref_crowd (r.thr (x := 0)) hl5
        have y1 := rn_level_t (D := sF D 73 0 0) x1 q1
        have i2 := rn_in_t (D := sF D 73 0 0) (a := 0) (b := 999) x2 (by omega) (by omega) q2
        obtain ⟨E2, g1, g2⟩ := ref_thin f2 f5 q2 x3
        refine ⟨_, E2, ?_, g2.inv f2, ((FrR.f (by omega)).trans f3).trans g2.frR, by rw [g2.thr, f4]; rfl, fun v h => by injection h⟩
        simp (disch := omega) only [m_X11_thinned, sq_eq, hl, y1, bnd_some, gd_t, ↓reduceIte, i2, ob_some, if_f, rn_th_0, f1, g1]
    · have a2 := cn_far_f (D := s.2) x2 q2
      refine comb_thinned hx hs (sp := .inr 2) (by simp [spX]) (ClsX.same hC ?_) hR (RefX.same (c := 2) 0 rfl (fun v h => by cases h) (fun D r => ?_))
      · simp (disch := omega) only [m_X10_thinned, a1, a2, bndN_inl, bndN_inr]
      · have y1 := rn_level_t (D := sF D 73 0 0) x1 q1
        have i2 := rn_in_f (D := sF D 73 0 0) (a := 0) (b := 999) x2 (by omega) (by omega) q2
        simp (disch := omega) only [m_X11_thinned, sq_eq, y1, bnd_some, gd_t, ↓reduceIte, i2, ob_some, rn_th_1, if_f, sFF]
  · have a1 := cn_level_f (D := s.2) x1 q1
    refine comb_thinned hx hs (sp := .inr 0) (by simp [spX]) (ClsX.same hC ?_) hR (RefX.same (c := 1) 0 rfl (fun v h => by cases h) (fun D r => ?_))
    · simp (disch := omega) only [m_X10_thinned, a1, bndN_inr]
    · have y1 := rn_level_f (D := sF D 73 0 0) x1 q1
      simp (disch := omega) only [m_X11_thinned, sq_eq, y1, bnd_some, gd_t, if_f, sFF]
