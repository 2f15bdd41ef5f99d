/-! ===== how many dots stand on a cell ===== -/
def fM (G g L k : Nat) : Nat := (k * G + g) % L
def perM (G L : Nat) : Nat := if L % G = 0 then L / G else L
section Per
variable {G g L : Nat}
theorem per_dvd (hG : 1 ≤ G) : ∃ t, perM G L * G = L * t := by
  unfold perM
  split
  · rename_i h
    exact ⟨1, by rw [Nat.div_mul_cancel (Nat.dvd_of_mod_eq_zero h), Nat.mul_one]⟩
  · exact ⟨G, rfl⟩
theorem per_pos (hL : 0 < L) (hG : 1 ≤ G) : 0 < perM G L := by
  unfold perM
  split
  · rename_i h
    have := Nat.div_mul_cancel (Nat.dvd_of_mod_eq_zero h)
    rcases Nat.eq_zero_or_pos (L / G) with e | e
    · rw [e] at this; omega
    · exact e
  · exact hL
theorem per_le (hG : 1 ≤ G) : perM G L ≤ L := by
  unfold perM
  split
  · exact Nat.div_le_self _ _
  · exact Nat.le_refl _
theorem f_per (hG : 1 ≤ G) (k n : Nat) : fM G g L (k + n * perM G L) = fM G g L k := by
  obtain ⟨t, ht⟩ := per_dvd (L := L) hG
  unfold fM
  rw [Nat.add_mul, Nat.mul_assoc, ht, show k * G + n * (L * t) + g = (k * G + g) + L * (n * t) by
    rw [Nat.mul_left_comm n L t]; omega, Nat.add_mul_mod_self_left]
theorem f_mod (hG : 1 ≤ G) (k : Nat) : fM G g L k = fM G g L (k % perM G L) := by
  have h := Nat.mod_add_div k (perM G L)
  rw [Nat.mul_comm] at h
  have := f_per (g := g) (L := L) hG (k % perM G L) (k / perM G L)
  rw [h] at this
  exact this
theorem f_inj_le (hL : 0 < L) (hG : 1 ≤ G ∧ G ≤ 3) {i j : Nat} (hij : i ≤ j) (hj : j < perM G L) (h : fM G g L i = fM G g L j) : i = j := by
  unfold fM at h
  have h1 := Nat.sub_mod_eq_zero_of_mod_eq h.symm
  have h2 : j * G + g - (i * G + g) = (j - i) * G := by
    rw [Nat.sub_mul]; omega
  rw [h2] at h1
  have hd := Nat.dvd_of_mod_eq_zero h1
  unfold perM at hj
  split at hj
  · rename_i hm
    have hLG := Nat.div_mul_cancel (Nat.dvd_of_mod_eq_zero hm)
    have hlt : (j - i) * G < L := by
      rw [← hLG]
      exact Nat.mul_lt_mul_of_pos_right (by omega) (by omega)
    have := Nat.eq_zero_of_dvd_of_lt hd hlt
    rcases Nat.mul_eq_zero.mp this with e | e <;> omega
  · rename_i hm
    have co : Nat.Coprime L G := by
      have : G = 1 ∨ G = 2 ∨ G = 3 := by omega
      rw [Nat.coprime_comm]
      unfold Nat.Coprime
      rw [Nat.gcd_rec]
      rcases this with e | e | e
      · subst e; omega
      · subst e
        have : L % 2 = 1 := by omega
        rw [this]
        rfl
      · subst e
        have : L % 3 = 1 ∨ L % 3 = 2 := by omega
        rcases this with e | e <;> rw [e] <;> rfl
    have := Nat.eq_zero_of_dvd_of_lt (co.dvd_of_dvd_mul_right hd) (by omega)
    omega
theorem f_inj (hL : 0 < L) (hG : 1 ≤ G ∧ G ≤ 3) {i j : Nat} (hi : i < perM G L) (hj : j < perM G L) (h : fM G g L i = fM G g L j) : i = j := by
  rcases Nat.le_total i j with q | q
  · exact f_inj_le hL hG q hj h
  · exact (f_inj_le hL hG q hi h.symm).symm
theorem cnt_mod {P i : Nat} (hi : i < P) (d : Nat) : sumTo (fun k => b2i (k % P = i)) d = ((d / P : Nat) : Int) + b2i (i < d % P) := by
  induction d with
  | zero =>
    rw [sumTo, b2i_f (by simp)]
    simp
  | succ d ih =>
    rw [sumTo, ih]
    have hd : d + 1 = P * (d / P) + (d % P + 1) := by have := Nat.div_add_mod d P; omega
    have hr := Nat.mod_lt d (show 0 < P by omega)
    by_cases q : d % P + 1 < P
    · have e1 : (d + 1) / P = d / P := by
        rw [hd, Nat.mul_add_div (by omega), Nat.div_eq_of_lt q]; rfl
      have e2 : (d + 1) % P = d % P + 1 := by
        rw [hd, Nat.mul_add_mod, Nat.mod_eq_of_lt q]
      rw [e1, e2]
      by_cases q2 : i < d % P
      · rw [b2i_t q2, b2i_f (by omega), b2i_t (by omega)]; omega
      · by_cases q3 : d % P = i
        · rw [b2i_f q2, b2i_t q3, b2i_t (by omega)]; omega
        · rw [b2i_f q2, b2i_f q3, b2i_f (by omega)]; omega
    · have e0 : d % P + 1 = P := by omega
      have e1 : (d + 1) / P = d / P + 1 := by
        rw [hd, Nat.mul_add_div (by omega), e0, Nat.div_self (by omega)]
      have e2 : (d + 1) % P = 0 := by
        rw [hd, Nat.mul_add_mod, e0, Nat.mod_self]
      rw [e1, e2, b2i_f (show ¬ i < 0 by omega)]
      have c1 : ((d / P + 1 : Nat) : Int) = ((d / P : Nat) : Int) + 1 := rfl
      by_cases q3 : d % P = i
      · rw [b2i_f (by omega), b2i_t q3]; omega
      · rw [b2i_t (by omega), b2i_f q3]; omega
theorem cnt_f (hL : 0 < L) (hG : 1 ≤ G ∧ G ≤ 3) {i x : Nat} (hi : i < perM G L) (hx : fM G g L i = x) (d : Nat) : sumTo (fun k => b2i ((((k * G + g : Nat) : Int) % (L : Int)) = (x : Int))) d = ((d / perM G L : Nat) : Int) + b2i (i < d % perM G L) := by
  rw [← cnt_mod hi]
  refine sumTo_congr (fun k _ => ?_)
  rw [cmod]
  have e : (k * G + g) % L = fM G g L (k % perM G L) := f_mod hG.1 k
  have hp := Nat.mod_lt k (per_pos hL hG.1)
  by_cases q : k % perM G L = i
  · rw [b2i_t q, b2i_t (by rw [e, q, hx])]
  · rw [b2i_f q, b2i_f (fun h => q (f_inj hL hG hp hi (by rw [← e, hx]; omega)))]
theorem cnt_none (hL : 0 < L) (hG : 1 ≤ G ∧ G ≤ 3) {x : Nat} (d : Nat) (h : ∀ i, i < perM G L → i < d → fM G g L i ≠ x) : sumTo (fun k => b2i ((((k * G + g : Nat) : Int) % (L : Int)) = (x : Int))) d = 0 := by
  rw [← sumTo_zero d]
  refine sumTo_congr (fun k hk => ?_)
  rw [cmod]
  have e : (k * G + g) % L = fM G g L (k % perM G L) := f_mod hG.1 k
  have hp := Nat.mod_lt k (per_pos hL hG.1)
  have hk2 := Nat.mod_le k (perM G L)
  rw [b2i_f]
  intro hh
  exact h _ hp (by omega) (by rw [← e]; omega)
end Per
/-! ===== the class stands the dots of a zone, of a group ===== -/
theorem X2_stand {D : DT} {p l z g : Nat} {M : MS} (O : MOK M) (T : TallyRep D (p + 9) M) (K : RanksAll D (p + 14) M) (hl : D.1 (p + 22) 0 = (l : Int)) (hl5 : l < 5) (hz : z < mZ M) (hg : g < mG M) (h0 : ∀ c, c < nC M → isL M (z : Int) c = true → D.2 (p + 22 + 1) (g * 384 + c) = 0) : ∃ D', m_X2_stand (p + 22) (mG M : Int) (p + 9) (p + 14) (z : Int) (g : Int) D = some D' ∧ D'.1 = D.1 ∧ (∀ a, a ≠ p + 22 + 1 → D'.2 a = D.2 a) ∧ (∀ j, (∀ c, c < nC M → isL M (z : Int) c = true → j ≠ g * 384 + c) → D'.2 (p + 22 + 1) j = D.2 (p + 22 + 1) j) ∧ ∀ c, c < nC M → isL M (z : Int) c = true → D'.2 (p + 22 + 1) (g * 384 + c) = crwM M l c g := by
  have n4 := nCb O
  have z8 := O.2.2.1
  have g3 := O.2.2.2.1
  have ub := O.ufx
  have ll : ((ordL M (z : Int)).length : Int) = ldM M z := ord_len M z
  have eL : D.2 (p + 9 + 1) z = ((ordL M (z : Int)).length : Int) := by rw [T.1 z (by omega), ll]
  have Lb := ordN_le M (z : Int) (nC M)
  have Lb' : (ordL M (z : Int)).length ≤ nC M := Lb
  obtain ⟨d, hd⟩ := nat_of (dotM_b O (u := mU M) (by omega) (show g < 3 by omega) l (show z < 8 by omega)).1
  have db := (dotM_b O (u := mU M) (by omega) (show g < 3 by omega) l (show z < 8 by omega)).2
  have eD := (T.2.2.1 l g z hl5 hg hz).1
  rw [hd] at eD
  have k1 : ((l : Int) * 3 + (g : Int)) * 8 + (z : Int) = (((l * 3 + g) * 8 + z : Nat) : Int) := by omega
  have ed : m_X8_dotsOf (p + 9) (z : Int) (g : Int) (l : Int) D = some (d : Int) := by
    simp (disch := omega) only [m_X8_dotsOf, m_X8_placeOf, ob_some, k1, gd_t, tn, eD]
  rcases Nat.eq_zero_or_pos (ordL M (z : Int)).length with q0 | q0
  · have none : ∀ c, c < nC M → isL M (z : Int) c = true → False := fun c hc h => by
      have := ord_all hc h
      have e : ordL M (z : Int) = [] := by simpa using q0
      rw [e] at this
      simp at this
    refine ⟨D, ?_, rfl, fun _ _ => rfl, fun _ _ => rfl, fun c hc h => (none c hc h).elim⟩
    rw [q0] at eL
    simp (disch := omega) only [m_X2_stand, gd_t, tn, eL, if_f]
  · have spec : ∀ c, c < nC M → isL M (z : Int) c = true → ∃ x, x < (ordL M (z : Int)).length ∧ plcM M c = (x : Int) ∧ (ordL M (z : Int))[x]? = some c ∧ crwM M l c g = sumTo (fun k => b2i ((((k * mG M + g : Nat) : Int) % ((ordL M (z : Int)).length : Int)) = (x : Int))) d := fun c hc h => by
      have hm := ord_all hc h
      obtain ⟨x, hx, hxe⟩ := List.getElem_of_mem hm
      have hp := plc_get (M := M) (z := (z : Int)) (by omega) hx
      rw [hxe] at hp
      refine ⟨x, hx, hp, by rw [List.getElem?_eq_getElem hx, hxe], ?_⟩
      unfold crwM
      rw [if_pos ⟨has_of h, hg⟩, hp, (isL_iff.mp h).1, tn, hd, tn, ← ord_len]
    revert spec eL Lb' K
    generalize hLL : (ordL M (z : Int)).length = L at *
    intro K eL Lb' spec
    have hP := per_pos (G := mG M) q0 g3.1
    have hPl := per_le (G := mG M) (L := L) g3.1
    have eP : m_X2_stand (p + 22) (mG M : Int) (p + 9) (p + 14) (z : Int) (g : Int) D = m_X2_stand_63 (p + 22) (p + 9) (p + 14) (mG M : Int) (z : Int) (g : Int) (L : Int) (d : Int) (perM (mG M) L : Int) (0, D) := by
      have m1 : (L : Int) % (mG M : Int) = ((L % mG M : Nat) : Int) := cmod _ _
      have m2 : (L : Int) / (mG M : Int) = ((L / mG M : Nat) : Int) := cdiv _ _
      have mb := Nat.mod_lt L (show 0 < mG M by omega)
      have mi : InR ((L % mG M : Nat) : Int) := by
        have : (0 : Int) ≤ ((L % mG M : Nat) : Int) := Int.natCast_nonneg _
        omega
      by_cases q : L % mG M = 0
      · have ep : perM (mG M) L = L / mG M := by unfold perM; rw [if_pos q]
        rw [ep] at hP ⊢
        have dl := Nat.div_le_self L (mG M)
        have di : InR ((L / mG M : Nat) : Int) ∧ InR 1 := by omega
        have dn : ¬ (((L / mG M : Nat) : Int) < 1) := by omega
        have q' : ((L % mG M : Nat) : Int) = 0 := by omega
        simp (disch := omega) only [m_X2_stand, gd_t, tn, eL, if_t, if_f, hl, ed, ob_some, m1, gd_t mi, if_t q', m2, gd_t di, if_f dn]
      · have ep : perM (mG M) L = L := by unfold perM; rw [if_neg q]
        have q' : ¬ ((L % mG M : Nat) : Int) = 0 := by omega
        rw [ep]
        simp (disch := omega) only [m_X2_stand, gd_t, tn, eL, if_t, if_f, hl, ed, ob_some, m1, gd_t mi, if_f q']
    have fl : ∀ i, fM (mG M) g L i < L := fun i => Nat.mod_lt _ q0
    have ob : ∀ i, i < L → ∃ c, (ordL M (z : Int))[i]? = some c ∧ c < nC M ∧ isL M (z : Int) c = true := fun i hi => by
      have hi2 : i < (ordL M (z : Int)).length := by omega
      have := ord_mem (List.getElem_mem hi2)
      exact ⟨_, List.getElem?_eq_getElem hi2, this⟩
    have oi : ∀ i j c, (ordL M (z : Int))[i]? = some c → (ordL M (z : Int))[j]? = some c → i = j := fun i j c h1 h2 => by
      have hi2 : i < (ordL M (z : Int)).length := by
        rcases Nat.lt_or_ge i (ordL M (z : Int)).length with h | h
        · exact h
        · rw [List.getElem?_eq_none h] at h1; cases h1
      exact (List.getElem?_inj hi2 (ord_nodup M (z : Int))).mp (h1.trans h2.symm)
    rw [eP]
    unfold m_X2_stand_63
    obtain ⟨s', ⟨i1, i2, i3, i4, i5⟩, e⟩ := loop_inv (f := fun s : Int × DT =>
      gd (InR s.1 ∧ InR (perM (mG M) L : Int)) (if s.1 < (perM (mG M) L : Int) then (
        gd (InR s.1 ∧ InR (d : Int)) (if s.1 < (d : Int) then (
          gd ((0 : Int) ≤ ((s.1 * (mG M : Int)) + (g : Int)) ∧ ((s.1 * (mG M : Int)) + (g : Int)) ≤ (2147483647 : Int) ∧ (0 : Int) < (L : Int) ∧ (L : Int) ≤ (2147483647 : Int)) (
          (m_X6_cellAt (p + 14) (z : Int) (((s.1 * (mG M : Int)) + (g : Int)) % (L : Int)) s.2).bind (fun r90 =>
          gd (InR r90 ∧ InR (-1)) (if r90 = (-1) then (
            some ((.inl ((s.1 + 1), s.2)) : (Int × DT) ⊕ DT)
          ) else (
            gd ((0 : Int) ≤ (d : Int) ∧ (d : Int) ≤ (2147483647 : Int) ∧ (0 : Int) < (perM (mG M) L : Int) ∧ (perM (mG M) L : Int) ≤ (2147483647 : Int)) (
            gd ((0 : Int) ≤ (d : Int) ∧ (d : Int) ≤ (2147483647 : Int) ∧ (0 : Int) < (perM (mG M) L : Int) ∧ (perM (mG M) L : Int) ≤ (2147483647 : Int)) (
            gd (InR s.1 ∧ InR ((d : Int) % (perM (mG M) L : Int))) (if s.1 < ((d : Int) % (perM (mG M) L : Int)) then (
              gd ((0 : Int) ≤ (((g : Int) * 384) + r90) ∧ (((g : Int) * 384) + r90) < (1152 : Int)) (sq (sA s.2 (p + 22 + 1) (Int.toNat (((g : Int) * 384) + r90)) (((d : Int) / (perM (mG M) L : Int)) + 1)) (fun D135 =>
              some (.inl ((s.1 + 1), D135))
              ))
            ) else (
              gd ((0 : Int) ≤ (((g : Int) * 384) + r90) ∧ (((g : Int) * 384) + r90) < (1152 : Int)) (sq (sA s.2 (p + 22 + 1) (Int.toNat (((g : Int) * 384) + r90)) (((d : Int) / (perM (mG M) L : Int)) + 0)) (fun D135 =>
              some (.inl ((s.1 + 1), D135))
              ))
            ))
            ))
          ))
          ))
        ) else (
          done (
          some s.2
          )
        ))
      ) else (
        done (
        some s.2
        )
      ))) (fun n s => s.1 = (n : Int) ∧ s.2.1 = D.1 ∧ (∀ a, a ≠ p + 22 + 1 → s.2.2 a = D.2 a) ∧ (∀ i c, i < n → (ordL M (z : Int))[fM (mG M) g L i]? = some c → s.2.2 (p + 22 + 1) (g * 384 + c) = ((d / perM (mG M) L : Nat) : Int) + b2i (i < d % perM (mG M) L)) ∧ ∀ j, (∀ i c, i < n → (ordL M (z : Int))[fM (mG M) g L i]? = some c → j ≠ g * 384 + c) → s.2.2 (p + 22 + 1) j = D.2 (p + 22 + 1) j) (min (perM (mG M) L) d) (s := (0, D)) ⟨rfl, rfl, fun _ _ => rfl, fun i c h => absurd h (by omega), fun _ _ => rfl⟩ (fun n s hn ⟨a1, a2, a3, a4, a5⟩ => by
        have nP : n < perM (mG M) L := by omega
        have nd : n < d := by omega
        obtain ⟨c, hc1, hc2, hc3⟩ := ob _ (fl n)
        have hi2 : fM (mG M) g L n < (ordL M (z : Int)).length := by rw [hLL]; exact fl n
        have hce : (ordL M (z : Int))[fM (mG M) g L n] = c := by
          rw [List.getElem?_eq_getElem hi2] at hc1
          exact Option.some.inj hc1
        have K2 : RanksAll s.2 (p + 14) M := by
          unfold RanksAll at *
          rw [a3 _ (by omega), a3 _ (by omega), a3 _ (by omega)]
          exact K
        have ec := X6_cellAt O K2 hz hi2
        rw [hce] at ec
        have v1 : (n : Int) * (mG M : Int) + (g : Int) = ((n * mG M + g : Nat) : Int) := by rw [Int.natCast_add, Int.natCast_mul]
        have v2 : ((n * mG M + g : Nat) : Int) % (L : Int) = (fM (mG M) g L n : Int) := cmod _ _
        have v3 : n * mG M + g ≤ 384 * 3 + 3 := Nat.add_le_add (Nat.mul_le_mul (by omega) g3.2) (by omega)
        have v4 : (0 : Int) ≤ ((n * mG M + g : Nat) : Int) ∧ ((n * mG M + g : Nat) : Int) ≤ (2147483647 : Int) ∧ (0 : Int) < (L : Int) ∧ (L : Int) ≤ (2147483647 : Int) := by
          generalize n * mG M + g = y at v3
          omega
        have m1 : (d : Int) % (perM (mG M) L : Int) = ((d % perM (mG M) L : Nat) : Int) := cmod _ _
        have m2 : (d : Int) / (perM (mG M) L : Int) = ((d / perM (mG M) L : Nat) : Int) := cdiv _ _
        have mb := Nat.mod_lt d hP
        have mi : InR (n : Int) ∧ InR ((d % perM (mG M) L : Nat) : Int) := by
          have : (0 : Int) ≤ ((d % perM (mG M) L : Nat) : Int) := Int.natCast_nonneg _
          omega
        have w1 : (g : Int) * 384 + (c : Int) = ((g * 384 + c : Nat) : Int) := by omega
        have ne : ¬ ((c : Int) = -1) := by omega
        refine ⟨((n : Int) + 1, sA s.2 (p + 22 + 1) (g * 384 + c) (((d / perM (mG M) L : Nat) : Int) + b2i (n < d % perM (mG M) L))), ?_, rfl, a2, fun a ha => ?_, fun i c' hi hc' => ?_, fun j hj => ?_⟩
        · by_cases q : n < d % perM (mG M) L
          · have q' : (n : Int) < ((d % perM (mG M) L : Nat) : Int) := by omega
            simp (disch := omega) only [a1, gd_t, if_t, v1, gd_t v4, v2, ec, ob_some, if_f ne, m1, gd_t mi, if_t q', m2, w1, tn, sq_eq, b2i_t q]
          · have q' : ¬ ((n : Int) < ((d % perM (mG M) L : Nat) : Int)) := by omega
            simp (disch := omega) only [a1, gd_t, if_t, v1, gd_t v4, v2, ec, ob_some, if_f ne, m1, gd_t mi, if_f q', m2, w1, tn, sq_eq, b2i_f q]
        · funext j
          rw [sA2, if_neg (fun h => ha h.1), a3 a ha]
        · rw [sA2]
          by_cases q : i = n
          · subst q
            rw [hc1] at hc'
            have hc'' := Option.some.inj hc'
            subst hc''
            rw [if_pos ⟨rfl, rfl⟩]
          · have : c' ≠ c := fun h => q (by
              subst h
              exact f_inj q0 g3 (by omega) nP (oi _ _ _ hc' hc1))
            rw [if_neg (fun h => this (by have := h.2; omega))]
            exact a4 i c' (by omega) hc'
        · rw [sA2, if_neg (fun h => hj n c (by omega) hc1 h.2)]
          exact a5 j (fun i c' hi hc' => hj i c' (by omega) hc'))
    have fin : ∃ D', loopF (fun s : Int × DT =>
      gd (InR s.1 ∧ InR (perM (mG M) L : Int)) (if s.1 < (perM (mG M) L : Int) then (
        gd (InR s.1 ∧ InR (d : Int)) (if s.1 < (d : Int) then (
          gd ((0 : Int) ≤ ((s.1 * (mG M : Int)) + (g : Int)) ∧ ((s.1 * (mG M : Int)) + (g : Int)) ≤ (2147483647 : Int) ∧ (0 : Int) < (L : Int) ∧ (L : Int) ≤ (2147483647 : Int)) (
          (m_X6_cellAt (p + 14) (z : Int) (((s.1 * (mG M : Int)) + (g : Int)) % (L : Int)) s.2).bind (fun r90 =>
          gd (InR r90 ∧ InR (-1)) (if r90 = (-1) then (
            some ((.inl ((s.1 + 1), s.2)) : (Int × DT) ⊕ DT)
          ) else (
            gd ((0 : Int) ≤ (d : Int) ∧ (d : Int) ≤ (2147483647 : Int) ∧ (0 : Int) < (perM (mG M) L : Int) ∧ (perM (mG M) L : Int) ≤ (2147483647 : Int)) (
            gd ((0 : Int) ≤ (d : Int) ∧ (d : Int) ≤ (2147483647 : Int) ∧ (0 : Int) < (perM (mG M) L : Int) ∧ (perM (mG M) L : Int) ≤ (2147483647 : Int)) (
            gd (InR s.1 ∧ InR ((d : Int) % (perM (mG M) L : Int))) (if s.1 < ((d : Int) % (perM (mG M) L : Int)) then (
              gd ((0 : Int) ≤ (((g : Int) * 384) + r90) ∧ (((g : Int) * 384) + r90) < (1152 : Int)) (sq (sA s.2 (p + 22 + 1) (Int.toNat (((g : Int) * 384) + r90)) (((d : Int) / (perM (mG M) L : Int)) + 1)) (fun D135 =>
              some (.inl ((s.1 + 1), D135))
              ))
            ) else (
              gd ((0 : Int) ≤ (((g : Int) * 384) + r90) ∧ (((g : Int) * 384) + r90) < (1152 : Int)) (sq (sA s.2 (p + 22 + 1) (Int.toNat (((g : Int) * 384) + r90)) (((d : Int) / (perM (mG M) L : Int)) + 0)) (fun D135 =>
              some (.inl ((s.1 + 1), D135))
              ))
            ))
            ))
          ))
          ))
        ) else (
          done (
          some s.2
          )
        ))
      ) else (
        done (
        some s.2
        )
      ))) s' = some D' ∧ D' = s'.2 := by
      refine ⟨s'.2, loopF_inr ?_, rfl⟩
      by_cases q : perM (mG M) L ≤ d
      · have i1' : s'.1 = (perM (mG M) L : Int) := by rw [i1]; omega
        simp (disch := omega) only [i1', gd_t, if_f, done_some]
      · have i1' : s'.1 = (d : Int) := by rw [i1]; omega
        simp (disch := omega) only [i1', gd_t, if_t, if_f, done_some]
    obtain ⟨D', f1, f2⟩ := fin
    subst f2
    refine ⟨s'.2, by rw [e]; exact f1, i2, i3, fun j hj => ?_, fun c hc h => ?_⟩
    · refine i5 j (fun i c hi hc => ?_)
      obtain ⟨c', h1, h2, h3⟩ := ob _ (fl i)
      rw [hc] at h1
      have h1' := Option.some.inj h1
      subst h1'
      exact hj c h2 h3
    · obtain ⟨x, hx, hp, hxe, hcr⟩ := spec c hc h
      rw [hcr]
      by_cases q : ∃ i, i < perM (mG M) L ∧ i < d ∧ fM (mG M) g L i = x
      · obtain ⟨i, h1, h2, h3⟩ := q
        rw [cnt_f q0 g3 h1 h3]
        exact i4 i c (by omega) (by rw [h3]; exact hxe)
      · have q' : ∀ i, i < perM (mG M) L → i < d → fM (mG M) g L i ≠ x := fun i h1 h2 h3 => q ⟨i, h1, h2, h3⟩
        rw [cnt_none q0 g3 d q', ← h0 c hc h]
        refine i5 _ (fun i c' hi hc' hh => ?_)
        have : c = c' := by omega
        subst this
        exact q' i (by omega) (by omega) (oi _ _ _ hc' hxe)
