/-! ===== the law from the steps ===== -/
theorem loop_inv_end {σ α : Type} {f : σ → Option (σ ⊕ α)} (I : Nat → σ → Prop) (n : Nat) {s : σ} {r : α} (h0 : I 0 s) (hs : ∀ k s, k < n → I k s → ∃ s', f s = some (.inl s') ∧ I (k + 1) s') (he : ∀ s', I n s' → f s' = some (.inr r)) : loopF f s = some r := by
  obtain ⟨s', h1, e1⟩ := loop_inv I n h0 hs
  rw [e1, loopF_inr (he s' h1)]
def StepOK (f : (Nat → Int) → Nat → Int × DT → Option ((Int × DT) ⊕ Int)) : Prop := ∀ (xs : Nat → Int) (Ls : Nat) (s : Int × DT), (∀ j, InR (xs j)) → 0 ≤ s.1 ∧ s.1 + 7 ≤ (Ls : Int) → Good s.2 → ∃ D', f xs Ls s = some (.inl (s.1 + 7, D')) ∧ Good D'
theorem andI_63 (a : Int) : 0 ≤ andI a 63 ∧ andI a 63 ≤ 63 := by
  unfold andI
  obtain ⟨j, hj, e⟩ := pk_andE (Int32.ofInt a) (m := Int32.ofInt 63) 6 (by decide)
  rw [e]
  have : (nI j).toInt = (j : Int) := by
    unfold nI
    first | exact Int32.toInt_ofNat_of_lt (by omega) | (rw [Int32.toInt_ofNat]; simp; omega)
  rw [this]
  omega
theorem s43 {n : Nat} (h : n < 43) (e0 : n ≠ 0) (e1 : n ≠ 1) (e2 : n ≠ 2) (e3 : n ≠ 3) (e4 : n ≠ 4) (e5 : n ≠ 5) (e6 : n ≠ 6) (e7 : n ≠ 7) (e8 : n ≠ 8) (e9 : n ≠ 9) (e10 : n ≠ 10) (e11 : n ≠ 11) (e12 : n ≠ 12) (e13 : n ≠ 13) (e14 : n ≠ 14) (e15 : n ≠ 15) (e16 : n ≠ 16) (e17 : n ≠ 17) (e18 : n ≠ 18) (e19 : n ≠ 19) (e20 : n ≠ 20) (e21 : n ≠ 21) (e22 : n ≠ 22) (e23 : n ≠ 23) (e24 : n ≠ 24) (e25 : n ≠ 25) (e26 : n ≠ 26) (e27 : n ≠ 27) (e28 : n ≠ 28) (e29 : n ≠ 29) (e30 : n ≠ 30) (e31 : n ≠ 31) (e32 : n ≠ 32) (e33 : n ≠ 33) (e34 : n ≠ 34) (e35 : n ≠ 35) (e36 : n ≠ 36) (e37 : n ≠ 37) (e38 : n ≠ 38) (e39 : n ≠ 39) (e40 : n ≠ 40) (e41 : n ≠ 41) (e42 : n ≠ 42) : False := by
  match n, h with
  | 0, _ => exact e0 rfl
  | 1, _ => exact e1 rfl
  | 2, _ => exact e2 rfl
  | 3, _ => exact e3 rfl
  | 4, _ => exact e4 rfl
  | 5, _ => exact e5 rfl
  | 6, _ => exact e6 rfl
  | 7, _ => exact e7 rfl
  | 8, _ => exact e8 rfl
  | 9, _ => exact e9 rfl
  | 10, _ => exact e10 rfl
  | 11, _ => exact e11 rfl
  | 12, _ => exact e12 rfl
  | 13, _ => exact e13 rfl
  | 14, _ => exact e14 rfl
  | 15, _ => exact e15 rfl
  | 16, _ => exact e16 rfl
  | 17, _ => exact e17 rfl
  | 18, _ => exact e18 rfl
  | 19, _ => exact e19 rfl
  | 20, _ => exact e20 rfl
  | 21, _ => exact e21 rfl
  | 22, _ => exact e22 rfl
  | 23, _ => exact e23 rfl
  | 24, _ => exact e24 rfl
  | 25, _ => exact e25 rfl
  | 26, _ => exact e26 rfl
  | 27, _ => exact e27 rfl
  | 28, _ => exact e28 rfl
  | 29, _ => exact e29 rfl
  | 30, _ => exact e30 rfl
  | 31, _ => exact e31 rfl
  | 32, _ => exact e32 rfl
  | 33, _ => exact e33 rfl
  | 34, _ => exact e34 rfl
  | 35, _ => exact e35 rfl
  | 36, _ => exact e36 rfl
  | 37, _ => exact e37 rfl
  | 38, _ => exact e38 rfl
  | 39, _ => exact e39 rfl
  | 40, _ => exact e40 rfl
  | 41, _ => exact e41 rfl
  | 42, _ => exact e42 rfl
  | n + 43, h => exact absurd h (by omega)
theorem pure_steps (h0 : StepOK m_L_c0) (h1 : StepOK m_L_c1) (h2 : StepOK m_L_c2) (h3 : StepOK m_L_c3) (h4 : StepOK m_L_c4) (h5 : StepOK m_L_c5) (h6 : StepOK m_L_c6) (h7 : StepOK m_L_c7) (h8 : StepOK m_L_c8) (h9 : StepOK m_L_c9) (h10 : StepOK m_L_c10) (h11 : StepOK m_L_c11) (h12 : StepOK m_L_c12) (h13 : StepOK m_L_c13) (h14 : StepOK m_L_c14) (h15 : StepOK m_L_c15) (h16 : StepOK m_L_c16) (h17 : StepOK m_L_c17) (h18 : StepOK m_L_c18) (h19 : StepOK m_L_c19) (h20 : StepOK m_L_c20) (h21 : StepOK m_L_c21) (h22 : StepOK m_L_c22) (h23 : StepOK m_L_c23) (h24 : StepOK m_L_c24) (h25 : StepOK m_L_c25) (h26 : StepOK m_L_c26) (h27 : StepOK m_L_c27) (h28 : StepOK m_L_c28) (h29 : StepOK m_L_c29) (h30 : StepOK m_L_c30) (h31 : StepOK m_L_c31) (h32 : StepOK m_L_c32) (h33 : StepOK m_L_c33) (h34 : StepOK m_L_c34) (h35 : StepOK m_L_c35) (h36 : StepOK m_L_c36) (h37 : StepOK m_L_c37) (h38 : StepOK m_L_c38) (h39 : StepOK m_L_c39) (h40 : StepOK m_L_c40) (h41 : StepOK m_L_c41) (h42 : StepOK m_L_c42) {xs : Nat → Int} {Ls : Nat} (hx : ∀ j, InR (xs j)) (hL : Ls ≤ 3584) (hgd : Good Dini) : m_L_loop xs Ls (0, Dini) = some 1 := by
  unfold m_L_loop
  refine loop_inv_end (I := fun k s => s.1 = 7 * (k : Int) ∧ Good s.2) (Ls / 7) ⟨by simp, hgd⟩ (fun k s hk hI => ?_) (fun s' hI => ?_)
  · obtain ⟨i1, i2⟩ := hI
    have hs : 0 ≤ s.1 ∧ s.1 + 7 ≤ (Ls : Int) := by omega
    have fin : ∀ {f : (Nat → Int) → Nat → Int × DT → Option ((Int × DT) ⊕ Int)}, StepOK f → ∃ s', f xs Ls s = some (.inl s') ∧ s'.1 = 7 * ((k + 1 : Nat) : Int) ∧ Good s'.2 := by
      intro f hf
      obtain ⟨D', q1, q2⟩ := hf xs Ls s hx hs i2
      exact ⟨_, q1, by show s.1 + 7 = _; omega, q2⟩
    have an := andI_63 (xs (Int.toNat s.1))
    rw [gd_t (by omega), gd_t (by omega), if_t (by omega), gd_t (by omega), gd_t (by omega)]
    by_cases hr : 0 ≤ andI (xs (Int.toNat s.1)) 63 ∧ andI (xs (Int.toNat s.1)) 63 ≤ 42
    · rw [if_t hr]
      generalize andI (xs (Int.toNat s.1)) 63 = a at hr
      clear an
      by_cases e0 : a = 0
      · rw [if_t e0]; exact fin h0
      rw [if_f e0]
      by_cases e1 : a = 1
      · rw [if_t e1]; exact fin h1
      rw [if_f e1]
      by_cases e2 : a = 2
      · rw [if_t e2]; exact fin h2
      rw [if_f e2]
      by_cases e3 : a = 3
      · rw [if_t e3]; exact fin h3
      rw [if_f e3]
      by_cases e4 : a = 4
      · rw [if_t e4]; exact fin h4
      rw [if_f e4]
      by_cases e5 : a = 5
      · rw [if_t e5]; exact fin h5
      rw [if_f e5]
      by_cases e6 : a = 6
      · rw [if_t e6]; exact fin h6
      rw [if_f e6]
      by_cases e7 : a = 7
      · rw [if_t e7]; exact fin h7
      rw [if_f e7]
      by_cases e8 : a = 8
      · rw [if_t e8]; exact fin h8
      rw [if_f e8]
      by_cases e9 : a = 9
      · rw [if_t e9]; exact fin h9
      rw [if_f e9]
      by_cases e10 : a = 10
      · rw [if_t e10]; exact fin h10
      rw [if_f e10]
      by_cases e11 : a = 11
      · rw [if_t e11]; exact fin h11
      rw [if_f e11]
      by_cases e12 : a = 12
      · rw [if_t e12]; exact fin h12
      rw [if_f e12]
      by_cases e13 : a = 13
      · rw [if_t e13]; exact fin h13
      rw [if_f e13]
      by_cases e14 : a = 14
      · rw [if_t e14]; exact fin h14
      rw [if_f e14]
      by_cases e15 : a = 15
      · rw [if_t e15]; exact fin h15
      rw [if_f e15]
      by_cases e16 : a = 16
      · rw [if_t e16]; exact fin h16
      rw [if_f e16]
      by_cases e17 : a = 17
      · rw [if_t e17]; exact fin h17
      rw [if_f e17]
      by_cases e18 : a = 18
      · rw [if_t e18]; exact fin h18
      rw [if_f e18]
      by_cases e19 : a = 19
      · rw [if_t e19]; exact fin h19
      rw [if_f e19]
      by_cases e20 : a = 20
      · rw [if_t e20]; exact fin h20
      rw [if_f e20]
      by_cases e21 : a = 21
      · rw [if_t e21]; exact fin h21
      rw [if_f e21]
      by_cases e22 : a = 22
      · rw [if_t e22]; exact fin h22
      rw [if_f e22]
      by_cases e23 : a = 23
      · rw [if_t e23]; exact fin h23
      rw [if_f e23]
      by_cases e24 : a = 24
      · rw [if_t e24]; exact fin h24
      rw [if_f e24]
      by_cases e25 : a = 25
      · rw [if_t e25]; exact fin h25
      rw [if_f e25]
      by_cases e26 : a = 26
      · rw [if_t e26]; exact fin h26
      rw [if_f e26]
      by_cases e27 : a = 27
      · rw [if_t e27]; exact fin h27
      rw [if_f e27]
      by_cases e28 : a = 28
      · rw [if_t e28]; exact fin h28
      rw [if_f e28]
      by_cases e29 : a = 29
      · rw [if_t e29]; exact fin h29
      rw [if_f e29]
      by_cases e30 : a = 30
      · rw [if_t e30]; exact fin h30
      rw [if_f e30]
      by_cases e31 : a = 31
      · rw [if_t e31]; exact fin h31
      rw [if_f e31]
      by_cases e32 : a = 32
      · rw [if_t e32]; exact fin h32
      rw [if_f e32]
      by_cases e33 : a = 33
      · rw [if_t e33]; exact fin h33
      rw [if_f e33]
      by_cases e34 : a = 34
      · rw [if_t e34]; exact fin h34
      rw [if_f e34]
      by_cases e35 : a = 35
      · rw [if_t e35]; exact fin h35
      rw [if_f e35]
      by_cases e36 : a = 36
      · rw [if_t e36]; exact fin h36
      rw [if_f e36]
      by_cases e37 : a = 37
      · rw [if_t e37]; exact fin h37
      rw [if_f e37]
      by_cases e38 : a = 38
      · rw [if_t e38]; exact fin h38
      rw [if_f e38]
      by_cases e39 : a = 39
      · rw [if_t e39]; exact fin h39
      rw [if_f e39]
      by_cases e40 : a = 40
      · rw [if_t e40]; exact fin h40
      rw [if_f e40]
      by_cases e41 : a = 41
      · rw [if_t e41]; exact fin h41
      rw [if_f e41]
      by_cases e42 : a = 42
      · rw [if_t e42]; exact fin h42
      rw [if_f e42]
      exfalso
      obtain ⟨n, rfl⟩ : ∃ n : Nat, a = (n : Int) := ⟨a.toNat, by omega⟩
      have hn : n < 43 := by clear fin; omega
      exact s43 hn (fun z => e0 (by rw [z]; rfl)) (fun z => e1 (by rw [z]; rfl)) (fun z => e2 (by rw [z]; rfl)) (fun z => e3 (by rw [z]; rfl)) (fun z => e4 (by rw [z]; rfl)) (fun z => e5 (by rw [z]; rfl)) (fun z => e6 (by rw [z]; rfl)) (fun z => e7 (by rw [z]; rfl)) (fun z => e8 (by rw [z]; rfl)) (fun z => e9 (by rw [z]; rfl)) (fun z => e10 (by rw [z]; rfl)) (fun z => e11 (by rw [z]; rfl)) (fun z => e12 (by rw [z]; rfl)) (fun z => e13 (by rw [z]; rfl)) (fun z => e14 (by rw [z]; rfl)) (fun z => e15 (by rw [z]; rfl)) (fun z => e16 (by rw [z]; rfl)) (fun z => e17 (by rw [z]; rfl)) (fun z => e18 (by rw [z]; rfl)) (fun z => e19 (by rw [z]; rfl)) (fun z => e20 (by rw [z]; rfl)) (fun z => e21 (by rw [z]; rfl)) (fun z => e22 (by rw [z]; rfl)) (fun z => e23 (by rw [z]; rfl)) (fun z => e24 (by rw [z]; rfl)) (fun z => e25 (by rw [z]; rfl)) (fun z => e26 (by rw [z]; rfl)) (fun z => e27 (by rw [z]; rfl)) (fun z => e28 (by rw [z]; rfl)) (fun z => e29 (by rw [z]; rfl)) (fun z => e30 (by rw [z]; rfl)) (fun z => e31 (by rw [z]; rfl)) (fun z => e32 (by rw [z]; rfl)) (fun z => e33 (by rw [z]; rfl)) (fun z => e34 (by rw [z]; rfl)) (fun z => e35 (by rw [z]; rfl)) (fun z => e36 (by rw [z]; rfl)) (fun z => e37 (by rw [z]; rfl)) (fun z => e38 (by rw [z]; rfl)) (fun z => e39 (by rw [z]; rfl)) (fun z => e40 (by rw [z]; rfl)) (fun z => e41 (by rw [z]; rfl)) (fun z => e42 (by rw [z]; rfl))
    · rw [if_f hr]
      exact ⟨_, rfl, by show s.1 + 7 = _; omega, i2⟩
  · obtain ⟨e1, hg⟩ := hI
    rw [gd_t (by omega), gd_t (by omega), if_f (by omega), done_some]
