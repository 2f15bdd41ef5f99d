/-! ===== step: tries ===== -/
def morM (M M' : MS) (l : Nat) : Int := sumTo (fun g => sumTo (fun c => max 0 (crwM M' l c g - crwM M l c g)) (nC M)) (mG M)
theorem mor_b {M M' : MS} (O : MOK M) (O' : MOK M') (hd : M'.1 = M.1) (l : Nat) : 0 ≤ morM M M' l ∧ morM M M' l ≤ 921590784 := by
  have n4 := nCb O
  have g3 := O.2.2.2.1
  have hn : nC M' = nC M := by unfold nC mW mH; rw [hd]
  have := sumTo_bounds (f := fun g => sumTo (fun c => max 0 (crwM M' l c g - crwM M l c g)) (nC M)) (n := mG M) (a := 0) (b := 799992 * 384) (fun g _ => by
    have := sumTo_bounds (f := fun c => max 0 (crwM M' l c g - crwM M l c g)) (n := nC M) (a := 0) (b := 799992) (fun c hc => by
      have h1 := crw_b O l c g hc
      have h2 := crw_b O' l c g (by omega)
      omega)
    omega)
  unfold morM
  omega
theorem X2_moreThan {D : DT} {l : Nat} {M M' : MS} (O : MOK M) (O' : MOK M') (hd : M'.1 = M.1) (C : ChartRep D 2 M) (K : CrowdAt D 23 M l) (K' : CrowdAt D 50 M' l) : m_X2_moreThan 50 23 2 D = some (morM M M' l) := by
  have n4 := nCb O
  have g3 := O.2.2.2.1
  have hn : nC M' = nC M := by unfold nC mW mH; rw [hd]
  have ec : m_X1_cells 2 D = some (nC M : Int) := X1_cells C.1
  have eG := C.2.1.2
  refine loop_for (st := fun g => (sumTo (fun g => sumTo (fun c => max 0 (crwM M' l c g - crwM M l c g)) (nC M)) g, (g : Int))) (mG M) (fun g hg => ?_) ?_
  · have c1 : ((g + 1 : Nat) : Int) = (g : Int) + 1 := rfl
    rw [sumTo]
    generalize sumTo (fun g => sumTo (fun c => max 0 (crwM M' l c g - crwM M l c g)) (nC M)) g = S
    have inner : m_X2_moreThan_17 50 23 2 (g : Int) D (S, 0) = some (.inl (S + sumTo (fun c => max 0 (crwM M' l c g - crwM M l c g)) (nC M), (g : Int) + 1)) := by
      have key := loop_for (f := fun s : Int × Int =>
        (m_X1_cells 2 D).bind (fun r20 =>
        gd (InR s.2 ∧ InR r20) (if s.2 < r20 then (
          (m_X2_weightOf 50 s.2 (g : Int) D).bind (fun r33 =>
          (m_X2_weightOf 23 s.2 (g : Int) D).bind (fun r41 =>
          gd (InR 0 ∧ InR (r33 - r41)) (
          some (.inl ((s.1 + (max 0 (r33 - r41))), (s.2 + 1)))
          )))
        ) else (
          done (
          some ((.inl (s.1, ((g : Int) + 1))) : (Int × Int) ⊕ Int)
          )
        ))
        )) (st := fun c => (S + sumTo (fun c => max 0 (crwM M' l c g - crwM M l c g)) c, (c : Int))) (r := (.inl (S + sumTo (fun c => max 0 (crwM M' l c g - crwM M l c g)) (nC M), (g : Int) + 1) : (Int × Int) ⊕ Int)) (nC M) (fun c hc => by
          have e1 := X2_weightOf_g O' K' (g := g) (show c < nC M' by omega) (by omega)
          have e2 := X2_weightOf_g O K (g := g) hc (by omega)
          have b1 := crw_b O l c g hc
          have b2 := crw_b O' l c g (by omega)
          have k1 : ((c + 1 : Nat) : Int) = (c : Int) + 1 := rfl
          rw [sumTo]
          simp (disch := omega) only [ec, ob_some, gd_t, if_t, e1, e2, k1, Int.add_assoc]) (by
          simp (disch := omega) only [ec, ob_some, gd_t, if_f, done_some])
      have s00 : S + sumTo (fun c => max 0 (crwM M' l c g - crwM M l c g)) 0 = S := by rw [sumTo, Int.add_zero]
      rw [s00] at key
      exact key
    simp (disch := omega) only [eG, gd_t, if_t, inner, c1]
  · simp (disch := omega) only [eG, gd_t, if_f, done_some, morM]
theorem sum_3 (h : Nat → Int) (n : Nat) : sumTo h (3 * n) = sumTo (fun c => sumTo (fun g => h (3 * c + g)) 3) n := by
  induction n with
  | zero => rfl
  | succ n ih =>
    rw [show 3 * (n + 1) = 3 * n + 3 by omega, sumTo_app, ih]
    rfl
theorem sum_pad (h : Nat → Int) {m n : Nat} (hmn : m ≤ n) (hz : ∀ k, m ≤ k → k < n → h k = 0) : sumTo h n = sumTo h m := by
  obtain ⟨d, rfl⟩ : ∃ d, n = m + d := ⟨n - m, by omega⟩
  rw [sumTo_app]
  have : sumTo (fun k => h (m + k)) d = 0 := Eq.trans (sumTo_congr (g := fun _ => 0) (fun k hk => hz _ (by omega) (by omega))) (sumTo_zero d)
  omega
theorem ref_tsum {D : DT} {l : Nat} {M M' : MS} (O : MOK M) (O' : MOK M') (hd : M'.1 = M.1) (hK : RCrowd D M' l) (hZ : ZR D M') (h94 : ∀ c g, c < nC M → g < 3 → D.2 94 (3 * c + g) = crwM M l c g) (h94z : ∀ j, 3 * nC M ≤ j → j < 1152 → D.2 94 j = 0) {E : DT} (hb : m_X11_bringsBack D = some E) : m_X11_tries_109 D (0, 0) = some (morM M M' l, E) := by
  have n4 := nCb O
  have g3 := O.2.2.2.1
  have hn : nC M' = nC M := by unfold nC mW mH; rw [hd]
  have hG : mG M' = mG M := by unfold mG; rw [hd]
  have val : ∀ j, j < 1152 → (-799992 ≤ D.2 93 j ∧ D.2 93 j ≤ 799992) ∧ (-799992 ≤ D.2 94 j ∧ D.2 94 j ≤ 799992) := fun j hj => by
    by_cases q : j < 3 * nC M
    · have e1 := hK (j / 3) (j % 3) (by omega) (by omega)
      have e2 := h94 (j / 3) (j % 3) (by omega) (by omega)
      rw [show 3 * (j / 3) + j % 3 = j by omega] at e1 e2
      have b1 := crw_b O' l (j / 3) (j % 3) (by omega)
      have b2 := crw_b O l (j / 3) (j % 3) (by omega)
      rw [e1, e2]
      omega
    · have e1 := hZ j (by omega) hj
      have e2 := h94z j (by omega) hj
      omega
  have es : sumTo (fun j => max 0 (D.2 93 j - D.2 94 j)) 1152 = morM M M' l := by
    rw [sum_pad (m := 3 * nC M) _ (by omega) (fun j h1 h2 => by
      rw [hZ j (by omega) h2, h94z j h1 h2]; rfl), sum_3]
    unfold morM
    rw [← sum_swap (fun c g => max 0 (crwM M' l c g - crwM M l c g))]
    refine sumTo_congr (fun c hc => ?_)
    rw [sum_pad (m := mG M) _ (by omega) (fun g h1 h2 => by
      rw [hK c g (by omega) h2, h94 c g hc h2, crw_big (by omega), crw_big (by omega)]; rfl)]
    refine sumTo_congr (fun g hg => ?_)
    rw [hK c g (by omega) (by omega), h94 c g hc (by omega)]
  rw [← es]
  refine loop_for (st := fun j => (sumTo (fun j => max 0 (D.2 93 j - D.2 94 j)) j, (j : Int))) 1152 (fun j hj => ?_) ?_
  · have v := val j hj
    have c1 : ((j + 1 : Nat) : Int) = (j : Int) + 1 := rfl
    rw [sumTo]
    by_cases q : D.2 94 j < D.2 93 j
    · have em : max 0 (D.2 93 j - D.2 94 j) = D.2 93 j - D.2 94 j := by omega
      rw [em]
      simp (disch := omega) only [gd_t, if_t, tn, if_t q, c1]
    · have em : max 0 (D.2 93 j - D.2 94 j) = 0 := by omega
      rw [em]
      simp (disch := omega) only [gd_t, if_t, tn, if_f q, c1]
  · have c3 : ((1152 : Nat) : Int) = 1152 := rfl
    simp (disch := omega) only [c3, gd_t, if_f, hb, ob_some, done_some]
theorem ref_tries {D : DT} {a b r x1 x2 l : Nat} {M : MS} (R : RInv D M) (ha : a < mZ M) (hb : b < mZ M) (hab : a ≠ b) (hr : r < mH M) (h12 : x1 ≤ x2) (h2w : x2 < mW M) (hl5 : l < 5) : ∃ E, (m_X11_laysCrowds (l : Int) D).bind (fun D46 => m_X11_tries_52 (a : Int) (b : Int) (r : Int) (x1 : Int) (x2 : Int) (l : Int) (0, D46)) = some (morM M (movM M a b (mW M * r + x1) (x2 + 1 - x1)) l, E) ∧ RInv E M ∧ FrR D E ∧ E.1 = D.1 := by
  have O := R.1
  have n4 := nCb O
  have lo_hi : mW M * r + x1 + (x2 + 1 - x1) ≤ nC M := by
    have := wr_lt (w := mW M) (x := x2) hr h2w
    show _ ≤ mW M * mH M
    omega
  have OM := O.mov ha hb lo_hi
  obtain ⟨F, f1, f2, f3, -, f5⟩ := X11_laysCrowds R hl5
  have RF := R.ck f2
  rw [f1]
  simp only [ob_some]
  have copy : ∃ G, m_X11_tries_52 (a : Int) (b : Int) (r : Int) (x1 : Int) (x2 : Int) (l : Int) (0, F) = ((m_X11_keepsAll G).bind (fun D81 => bnd (m_X11_moves (a : Int) (b : Int) (r : Int) (x1 : Int) (x2 : Int) D81) (fun r92 D92 => (m_X11_laysCrowds (l : Int) D92).bind (fun D100 => m_X11_tries_109 D100 (0, 0))))) ∧ G.1 = F.1 ∧ (∀ q, q ≠ 94 → G.2 q = F.2 q) ∧ ∀ j, j < 1152 → G.2 94 j = F.2 93 j := by
    unfold m_X11_tries_52
    obtain ⟨s', ⟨i1, i2, i3, i4⟩, e⟩ := loop_inv (f := fun s : Int × DT =>
      gd (InR s.1 ∧ InR 1152) (if s.1 < 1152 then (
        gd ((0 : Int) ≤ s.1 ∧ s.1 < (1152 : Int)) (
        gd ((0 : Int) ≤ s.1 ∧ s.1 < (1152 : Int)) (sq (sA s.2 94 (Int.toNat s.1) (s.2.2 93 (Int.toNat s.1))) (fun D73 =>
        some (.inl ((s.1 + 1), D73))
        )))
      ) else (
        done (
        (m_X11_keepsAll s.2).bind (fun D81 =>
        bnd (m_X11_moves (a : Int) (b : Int) (r : Int) (x1 : Int) (x2 : Int) D81) (fun r92 D92 =>
        (m_X11_laysCrowds (l : Int) D92).bind (fun D100 =>
        m_X11_tries_109 D100 (0, 0)
        )))
        )
      ))) (fun k s => s.1 = (k : Int) ∧ s.2.1 = F.1 ∧ (∀ q, q ≠ 94 → s.2.2 q = F.2 q) ∧ ∀ j, j < k → s.2.2 94 j = F.2 93 j) 1152 (s := (0, F)) ⟨rfl, rfl, fun _ _ => rfl, fun _ h => absurd h (by omega)⟩ (fun k s hk ⟨a1, a2, a3, a4⟩ => by
        refine ⟨((k : Int) + 1, sA s.2 94 k (s.2.2 93 k)), ?_, rfl, a2, fun q hq => ?_, fun c hc => ?_⟩
        · simp (disch := omega) only [a1, gd_t, if_t, tn, sq_eq]
        · funext j
          rw [sA2, if_neg (by omega), a3 q hq]
        · rw [sA2]
          by_cases q : c = k
          · rw [if_pos ⟨rfl, q⟩, q, a3 93 (by omega)]
          · rw [if_neg (fun h => q h.2)]
            exact a4 c (by omega))
    refine ⟨s'.2, ?_, i2, i3, i4⟩
    rw [e]
    have i1' : s'.1 = 1152 := i1
    cases hh : ((m_X11_keepsAll s'.2).bind (fun D81 => bnd (m_X11_moves (a : Int) (b : Int) (r : Int) (x1 : Int) (x2 : Int) D81) (fun r92 D92 => (m_X11_laysCrowds (l : Int) D92).bind (fun D100 => m_X11_tries_109 D100 (0, 0))))) with
    | none =>
      refine loopF_none ?_
      simp (disch := omega) only [i1', gd_t, if_f, hh]
      rfl
    | some v =>
      refine loopF_inr ?_
      simp (disch := omega) only [i1', gd_t, if_f, hh, done_some]
  obtain ⟨G, g1, g2, g3, g4⟩ := copy
  obtain ⟨H, h1, h2, h3, h4, h5⟩ := X11_keepsAll G
  have RG : RInv G M := RF.keep (fun q hq => g3 q (by
    simp only [List.mem_cons, List.not_mem_nil, or_false] at hq
    omega)) (fun k _ => by rw [g2])
  have RH : RInv H M := RG.keep (fun q hq => h3 q (by
    simp only [List.mem_cons, List.not_mem_nil, or_false] at hq
    omega) (by
    simp only [List.mem_cons, List.not_mem_nil, or_false] at hq
    omega)) (fun k _ => by rw [h2])
  obtain ⟨I, m1, m2, m3, m4, m5⟩ := ref_moves RH ha hb hab hr h12 h2w
  obtain ⟨J, j1, j2, j3, -, j5⟩ := X11_laysCrowds m2 hl5
  have J94 : J.2 94 = G.2 94 := by rw [j2.2 94 (by omega), m5 94 (by omega), h3 94 (by omega) (by omega)]
  have jk : ∀ q, q ∈ [74, 76, 80, 84, 85, 101] → J.2 q = F.2 q := fun q hq => by
    simp only [List.mem_cons, List.not_mem_nil, or_false] at hq
    rw [j2.2 q (by omega), m5 q (by omega), h3 q (by omega) (by omega), g3 q (by omega)]
  obtain ⟨E, e1, e2, e3, e4⟩ := X11_bringsBack (D := J) RF (by rw [j2.1, m4, h2, g2]) jk (fun c hc => by rw [j2.2 97 (by omega), m5 97 (by omega), h4 c hc, g3 78 (by omega)]) (fun k hk => by rw [j2.2 98 (by omega), m5 98 (by omega), h5 k hk, g3 82 (by omega)])
  have ts := ref_tsum (D := J) (M := M) (M' := movM M a b (mW M * r + x1) (x2 + 1 - x1)) O OM rfl j3 j5 (fun c g hc hg => by rw [J94, g4 _ (by omega)]; exact f3 c g hc hg) (fun j h1 h2 => by rw [J94, g4 _ h2]; exact f5 j h1 h2) e1
  have E1 : E.1 = D.1 := by rw [e3, j2.1, m4, h2, g2, f2.1]
  refine ⟨E, ?_, e2, fun q hq => ⟨by rw [E1], ?_⟩, E1⟩
  · rw [g1, h1]
    simp only [ob_some, m1, bnd_some, j1, ts]
  · rw [e4 q (by omega), j2.2 q (by omega), m5 q (by omega), h3 q (by omega) (by omega), g3 q (by omega), f2.2 q (by omega)]
theorem step_tries : StepOK m_L_c23 := fun xs Ls s hx hs ⟨M, hC, hR⟩ => by
  have x1 := hx (Int.toNat (s.1 + 1))
  have x2 := hx (Int.toNat (s.1 + 2))
  have x3 := hx (Int.toNat (s.1 + 3))
  have x4 := hx (Int.toNat (s.1 + 4))
  have x5 := hx (Int.toNat (s.1 + 5))
  have x6 := hx (Int.toNat (s.1 + 6))
  have O := hC.1
  have C := hC.2.1
  have z8 := O.2.2.1
  have d := O.2.1
  by_cases qz : ((0 ≤ xs (Int.toNat (s.1 + 1)) ∧ xs (Int.toNat (s.1 + 1)) < (mZ M : Int)) ∧ (0 ≤ xs (Int.toNat (s.1 + 2)) ∧ xs (Int.toNat (s.1 + 2)) < (mZ M : Int)) ∧ (0 ≤ xs (Int.toNat (s.1 + 3)) ∧ xs (Int.toNat (s.1 + 3)) < (mH M : Int)))
  · obtain ⟨q1, q2, q3⟩ := qz
    have a1 := cn_zone_t O C x1 q1
    have a2 := cn_zone_t O C x2 q2
    have a3 := cn_row_t O C x3 q3
    by_cases q6 : 0 ≤ xs (Int.toNat (s.1 + 6)) ∧ xs (Int.toNat (s.1 + 6)) < 5
    · have a6 := cn_level_t (D := s.2) x6 q6
      by_cases q4 : edgeP M (xs (Int.toNat (s.1 + 1))) (xs (Int.toNat (s.1 + 2))) (xs (Int.toNat (s.1 + 4))) (xs (Int.toNat (s.1 + 5)))
      · have a4 := cn_edge_t O C x1 x2 x4 x5 q4
        obtain ⟨a, ha⟩ := nat_of q1.1
        obtain ⟨b, hb⟩ := nat_of q2.1
        obtain ⟨r, hr⟩ := nat_of q3.1
        obtain ⟨c, hc⟩ := nat_of q4.2.1
        obtain ⟨e, he⟩ := nat_of (Int.le_trans q4.2.1 q4.2.2.1)
        obtain ⟨l, hl⟩ := nat_of q6.1
        rw [ha, hb, hc, he] at q4 a4
        rw [ha] at q1 x1 a1
        rw [hb] at q2 x2 a2
        rw [hr] at q3 x3 a3
        rw [hc] at x4
        rw [he] at x5
        rw [hl] at q6 x6 a6
        have han : a < mZ M := by omega
        have hbn : b < mZ M := by omega
        have hrn : r < mH M := by omega
        have hl5 : l < 5 := by omega
        have hab : a ≠ b := fun h => q4.1 (by rw [h])
        have hce : c ≤ e := by have := q4.2.2.1; omega
        have hew : e < mW M := by have := q4.2.2.2; omega
        have lo_hi : mW M * r + c + (e + 1 - c) ≤ nC M := by
          have := wr_lt (w := mW M) (x := e) hrn hew
          show _ ≤ mW M * mH M
          omega
        have OM := O.mov han hbn lo_hi
        have mb := mor_b O OM rfl l
        obtain ⟨D1, e1, e2, e3, e4⟩ := cls_ranked hC
        obtain ⟨D2, c1, c2, c3, c4, c5⟩ := X5_copyFrom e2
        obtain ⟨D3, s1, s2, s3, s4⟩ := X1_shift O c2 han hbn hab hrn hce hew
        have l1 := X5_landChanged D3 (p := 28) (z := a) (by omega)
        have l2 := X5_landChanged (frgL D3 28 a) (p := 28) (z := b) (by omega)
        have P := PlanOK.frg2 (p := 28) (a := a) (b := b) (M := M) OM s2 (by rw [s3]; exact c3) (c4.fr (fun q hq => ⟨by rw [s3], s4 q (by omega) (by omega)⟩)) rfl (fun y h1 h2 => mov_isL ⟨h1, h2⟩)
        have k3 : KpO D2 D3 28 54 := fun q hq => ⟨by rw [s3], s4 q (by omega) (by omega)⟩
        have k4 := frg2_kp D3 28 a b
        obtain ⟨D5, g1, g2, g3, g4⟩ := crowded_p P hl5
        have kall : KpO D1 D5 28 54 := ((c5.trans k3 (l := 28) (h := 54) (by omega)).trans k4 (l := 28) (h := 54) (by omega)).trans g4 (l := 28) (h := 54) (by omega)
        have c5' : CInv D5 M := by
          obtain ⟨h1, h2, ⟨h3, h4, h5⟩, h6⟩ := e2
          refine ⟨h1, h2.fr (fun q hq => (kall q (by omega)).1) (fun q hq => (kall q (by omega)).2), ⟨?_, h4.fr (fun q hq => kall q (by omega)), h5.fr (fun q hq => kall q (by omega))⟩, ?_⟩
          · rw [(kall (1 + 9) (by omega)).1]
            rcases h3 with t | t
            · exact Or.inl t
            · exact Or.inr ⟨t.1, t.2.fr (fun q hq => kall q (by omega))⟩
          · unfold PathRep PathAt at *
            simp only [(kall 70 (by omega)).1, (kall 71 (by omega)).2]
            exact h6
        obtain ⟨D6, t1, t2, t3, t4⟩ := crowded_p c5'.plan hl5
        have c6' := c5'.back (fun q hq => t4 q (by omega)) t2
        have K50 : CrowdAt D6 50 (movM M a b (mW M * r + c) (e + 1 - c)) l := by
          have : CrowdAt D5 50 (movM M a b (mW M * r + c) (e + 1 - c)) l := g3
          unfold CrowdAt at *
          rw [(t4 50 (by omega)).1, (t4 (50 + 1) (by omega)).2, (t4 (50 + 2) (by omega)).2, (t4 (50 + 3) (by omega)).2]
          exact this
        have mt := X2_moreThan O OM rfl c6'.2.1.1 t3 K50
        refine comb_tries hx hs (M' := M) (sp := .inl (morM M (movM M a b (mW M * r + c) (e + 1 - c)) l)) (by show InR _; omega) ⟨D6, ?_, c6', (e4.trans (kall.frC (by omega))).trans (t4.frC (by omega))⟩ hR (fun D rr => ?_)
        · rw [ha, hb, hr, hc, he, hl]
          have g1' : m_X5_crowded 28 (l : Int) (frgL (frgL D3 28 a) 28 b) = some D5 := g1
          have t1' : m_X5_crowded 1 (l : Int) D5 = some D6 := t1
          simp (disch := omega) only [m_X10_tries, a1, a2, a3, a4, a6, bndN_inl, e1, ob_some, c1, s1, bnd_some, l1, l2, g1', t1', mt]
        · obtain ⟨E, f1, f2, f3, f4⟩ := ref_tries (rr.thr (x := 0)) han hbn hab hrn hce hew hl5
          have y1 := rn_edge_t (v4 := (c : Int)) (v5 := (e : Int)) (rr.thr (x := 0)) x1 x2 x3 q1 q2 q3
          have y2 := rn_run_t (rr.thr (x := 0)) x1 x2 x4 x5 q4
          have y6 := rn_level_t (D := sF D 73 0 0) x6 q6
          refine ⟨_, E, ?_, f2, (FrR.f (by omega)).trans f3, by rw [f4]; rfl, fun v h => by injection h⟩
          rw [ha, hb, hr, hc, he, hl]
          simp (disch := omega) only [m_X11_tries, sq_eq, y1, y2, y6, bnd_some, gd_t, ↓reduceIte, f1]
      · have a4 := cn_edge_f O C x1 x2 x4 x5 q4
        refine comb_tries hx hs (sp := .inr 2) (by simp [spX]) (ClsX.same hC ?_) hR (RefX.same (c := 2) 0 rfl (fun v h => by cases h) (fun D r => ?_))
        · simp (disch := omega) only [m_X10_tries, a1, a2, a3, a6, a4, bndN_inl, bndN_inr]
        · have y1 := rn_edge_t (v4 := xs (Int.toNat (s.1 + 4))) (v5 := xs (Int.toNat (s.1 + 5))) (r.thr (x := 0)) x1 x2 x3 q1 q2 q3
          have y2 := rn_run_f (r.thr (x := 0)) x1 x2 x4 x5 q4
          have y6 := rn_level_t (D := sF D 73 0 0) x6 q6
          simp (disch := omega) only [m_X11_tries, sq_eq, y1, y2, y6, bnd_some, gd_t, ↓reduceIte, if_f, sFF]
    · have a6 := cn_level_f (D := s.2) x6 q6
      refine comb_tries hx hs (sp := .inr 0) (by simp [spX]) (ClsX.same hC ?_) hR (RefX.same (c := 1) 0 rfl (fun v h => by cases h) (fun D r => ?_))
      · simp (disch := omega) only [m_X10_tries, a1, a2, a3, a6, bndN_inl, bndN_inr]
      · have y1 := rn_edge_t (v4 := xs (Int.toNat (s.1 + 4))) (v5 := xs (Int.toNat (s.1 + 5))) (r.thr (x := 0)) x1 x2 x3 q1 q2 q3
        have y6 := rn_level_f (D := sF D 73 0 0) x6 q6
        simp (disch := omega) only [m_X11_tries, sq_eq, y1, y6, bnd_some, gd_t, ↓reduceIte, if_f, sFF]
  · have cls : m_X10_tries (xs (Int.toNat (s.1 + 1))) (xs (Int.toNat (s.1 + 2))) (xs (Int.toNat (s.1 + 3))) (xs (Int.toNat (s.1 + 4))) (xs (Int.toNat (s.1 + 5))) (xs (Int.toNat (s.1 + 6))) s.2 = some (.inr 0, s.2) := by
      by_cases q1 : 0 ≤ xs (Int.toNat (s.1 + 1)) ∧ xs (Int.toNat (s.1 + 1)) < (mZ M : Int)
      · have a1 := cn_zone_t O C x1 q1
        by_cases q2 : 0 ≤ xs (Int.toNat (s.1 + 2)) ∧ xs (Int.toNat (s.1 + 2)) < (mZ M : Int)
        · have a2 := cn_zone_t O C x2 q2
          have a3 := cn_row_f O C x3 (fun q3 => qz ⟨q1, q2, q3⟩)
          simp (disch := omega) only [m_X10_tries, a1, a2, a3, bndN_inl, bndN_inr]
        · have a2 := cn_zone_f O C x2 q2
          simp (disch := omega) only [m_X10_tries, a1, a2, bndN_inl, bndN_inr]
      · have a1 := cn_zone_f O C x1 q1
        simp (disch := omega) only [m_X10_tries, a1, bndN_inr]
    refine comb_tries hx hs (sp := .inr 0) (by simp [spX]) (ClsX.same hC cls) hR (RefX.same (c := 1) 0 rfl (fun v h => by cases h) (fun D r => ?_))
    have y1 := rn_edge_f (v4 := xs (Int.toNat (s.1 + 4))) (v5 := xs (Int.toNat (s.1 + 5))) (r.thr (x := 0)) x1 x2 x3 qz
    simp (disch := omega) only [m_X11_tries, sq_eq, y1, bnd_some, gd_t, if_f, sFF]
