/-! ===== the cases of the law, from what both sides answer ===== -/
def nz (x : Int) : Int := if x = 0 then 0 else 1
theorem case_0 {xs : Nat → Int} {Ls : Nat} {s : Int × DT} (hs : 0 ≤ s.1 ∧ s.1 + 7 ≤ (Ls : Int)) (hx : ∀ j, InR (xs j)) {b : Int} {D1 D2 : DT} (hw : m_X10_feed (xs (Int.toNat (s.1 + 1))) (xs (Int.toNat (s.1 + 2))) (xs (Int.toNat (s.1 + 3))) (xs (Int.toNat (s.1 + 4))) (xs (Int.toNat (s.1 + 5))) s.2 = some (b, D1)) (hm : m_X11_feed (xs (Int.toNat (s.1 + 1))) (xs (Int.toNat (s.1 + 2))) (xs (Int.toNat (s.1 + 3))) (xs (Int.toNat (s.1 + 4))) (xs (Int.toNat (s.1 + 5))) D1 = some (b, D2)) (hb : InR b) : m_L_c0 xs Ls s = some (.inl (s.1 + 7, D2)) := by
  simp (disch := omega) only [m_L_c0, gd_t, hw, hm, bnd_some, ob_some, if_t, if_f, ↓reduceIte]
theorem case_1 {xs : Nat → Int} {Ls : Nat} {s : Int × DT} (hs : 0 ≤ s.1 ∧ s.1 + 7 ≤ (Ls : Int)) (hx : ∀ j, InR (xs j)) {b : Int} {D1 D2 : DT} (hw : m_X10_end (xs (Int.toNat (s.1 + 1))) s.2 = some (b, D1)) (hm : m_X11_end (xs (Int.toNat (s.1 + 1))) D1 = some (b, D2)) (hb : InR b) : m_L_c1 xs Ls s = some (.inl (s.1 + 7, D2)) := by
  simp (disch := omega) only [m_L_c1, gd_t, hw, hm, bnd_some, ob_some, if_t, if_f, ↓reduceIte]
theorem case_2 {xs : Nat → Int} {Ls : Nat} {s : Int × DT} (hs : 0 ≤ s.1 ∧ s.1 + 7 ≤ (Ls : Int)) (hx : ∀ j, InR (xs j)) {k b : Int} {D1 D2 : DT} (hw : m_L_read s.2 = some (k, D1)) (hm : m_X11_read D1 = some (b, D2)) (ht : D2.1 73 0 = k) (hk : 0 ≤ k ∧ k ≤ 3) (hb : k = 0 → InR b ∧ D2.2 102 0 = b) : m_L_c2 xs Ls s = some (.inl (s.1 + 7, D2)) := by
  have hx1 := hx (Int.toNat (s.1 + 1))
  have hx2 := hx (Int.toNat (s.1 + 2))
  have hx4 := hx (Int.toNat (s.1 + 4))
  have e0 : Int.toNat 0 = 0 := rfl
  by_cases k0 : k = 0
  · obtain ⟨h1, h2⟩ := hb k0
    simp (disch := omega) only [m_L_c2, gd_t, hw, hm, bnd_some, m_X11_thrown, ob_some, ht, if_t, if_f, ↓reduceIte, e0, h2, k0]
  · simp (disch := omega) only [m_L_c2, gd_t, hw, hm, bnd_some, m_X11_thrown, ob_some, ht, if_t, if_f, ↓reduceIte, k0]
theorem case_3 {xs : Nat → Int} {Ls : Nat} {s : Int × DT} (hs : 0 ≤ s.1 ∧ s.1 + 7 ≤ (Ls : Int)) (hx : ∀ j, InR (xs j)) {b : Int} {D1 D2 : DT} (hw : m_X10_fault s.2 = some b) (hm : m_X11_fault s.2 = some (b, D2)) (hb : InR b) : m_L_c3 xs Ls s = some (.inl (s.1 + 7, D2)) := by
  simp (disch := omega) only [m_L_c3, gd_t, hw, hm, bnd_some, ob_some, if_t, if_f, ↓reduceIte]
theorem case_4 {xs : Nat → Int} {Ls : Nat} {s : Int × DT} (hs : 0 ≤ s.1 ∧ s.1 + 7 ≤ (Ls : Int)) (hx : ∀ j, InR (xs j)) {k b : Int} {D1 D2 : DT} (hw : m_L_cell (xs (Int.toNat (s.1 + 1))) (xs (Int.toNat (s.1 + 2))) s.2 = some (k, D1)) (hm : m_X11_cell (xs (Int.toNat (s.1 + 1))) (xs (Int.toNat (s.1 + 2))) D1 = some (b, D2)) (ht : D2.1 73 0 = k) (hk : 0 ≤ k ∧ k ≤ 3) (hb : k = 0 → InR b ∧ D2.2 102 0 = b) : m_L_c4 xs Ls s = some (.inl (s.1 + 7, D2)) := by
  have hx1 := hx (Int.toNat (s.1 + 1))
  have hx2 := hx (Int.toNat (s.1 + 2))
  have hx4 := hx (Int.toNat (s.1 + 4))
  have e0 : Int.toNat 0 = 0 := rfl
  by_cases k0 : k = 0
  · obtain ⟨h1, h2⟩ := hb k0
    simp (disch := omega) only [m_L_c4, gd_t, hw, hm, bnd_some, m_X11_thrown, ob_some, ht, if_t, if_f, ↓reduceIte, e0, h2, k0]
  · simp (disch := omega) only [m_L_c4, gd_t, hw, hm, bnd_some, m_X11_thrown, ob_some, ht, if_t, if_f, ↓reduceIte, k0]
theorem case_5 {xs : Nat → Int} {Ls : Nat} {s : Int × DT} (hs : 0 ≤ s.1 ∧ s.1 + 7 ≤ (Ls : Int)) (hx : ∀ j, InR (xs j)) {k b : Int} {D1 D2 : DT} (hw : m_L_zone (xs (Int.toNat (s.1 + 1))) (xs (Int.toNat (s.1 + 2))) s.2 = some (k, D1)) (hm : m_X11_zone (xs (Int.toNat (s.1 + 1))) (xs (Int.toNat (s.1 + 2))) D1 = some (b, D2)) (ht : D2.1 73 0 = k) (hk : 0 ≤ k ∧ k ≤ 3) (hb : k = 0 → InR b ∧ D2.2 102 0 = b) : m_L_c5 xs Ls s = some (.inl (s.1 + 7, D2)) := by
  have hx1 := hx (Int.toNat (s.1 + 1))
  have hx2 := hx (Int.toNat (s.1 + 2))
  have hx4 := hx (Int.toNat (s.1 + 4))
  have e0 : Int.toNat 0 = 0 := rfl
  by_cases k0 : k = 0
  · obtain ⟨h1, h2⟩ := hb k0
    simp (disch := omega) only [m_L_c5, gd_t, hw, hm, bnd_some, m_X11_thrown, ob_some, ht, if_t, if_f, ↓reduceIte, e0, h2, k0]
  · simp (disch := omega) only [m_L_c5, gd_t, hw, hm, bnd_some, m_X11_thrown, ob_some, ht, if_t, if_f, ↓reduceIte, k0]
theorem case_6 {xs : Nat → Int} {Ls : Nat} {s : Int × DT} (hs : 0 ≤ s.1 ∧ s.1 + 7 ≤ (Ls : Int)) (hx : ∀ j, InR (xs j)) {k b : Int} {D1 D2 : DT} (hw : m_L_name (xs (Int.toNat (s.1 + 1))) (xs (Int.toNat (s.1 + 2))) s.2 = some (k, D1)) (hm : m_X11_name (xs (Int.toNat (s.1 + 1))) (xs (Int.toNat (s.1 + 2))) D1 = some (b, D2)) (ht : D2.1 73 0 = k) (hk : 0 ≤ k ∧ k ≤ 3) (hb : k = 0 → InR b ∧ D2.2 102 0 = b) : m_L_c6 xs Ls s = some (.inl (s.1 + 7, D2)) := by
  have hx1 := hx (Int.toNat (s.1 + 1))
  have hx2 := hx (Int.toNat (s.1 + 2))
  have hx4 := hx (Int.toNat (s.1 + 4))
  have e0 : Int.toNat 0 = 0 := rfl
  by_cases k0 : k = 0
  · obtain ⟨h1, h2⟩ := hb k0
    simp (disch := omega) only [m_L_c6, gd_t, hw, hm, bnd_some, m_X11_thrown, ob_some, ht, if_t, if_f, ↓reduceIte, e0, h2, k0]
  · simp (disch := omega) only [m_L_c6, gd_t, hw, hm, bnd_some, m_X11_thrown, ob_some, ht, if_t, if_f, ↓reduceIte, k0]
theorem case_7 {xs : Nat → Int} {Ls : Nat} {s : Int × DT} (hs : 0 ≤ s.1 ∧ s.1 + 7 ≤ (Ls : Int)) (hx : ∀ j, InR (xs j)) {k b : Int} {D1 D2 : DT} (hw : m_L_people (xs (Int.toNat (s.1 + 1))) (xs (Int.toNat (s.1 + 2))) (xs (Int.toNat (s.1 + 3))) s.2 = some (k, D1)) (hm : m_X11_people (xs (Int.toNat (s.1 + 1))) (xs (Int.toNat (s.1 + 2))) (xs (Int.toNat (s.1 + 3))) D1 = some (b, D2)) (ht : D2.1 73 0 = k) (hk : 0 ≤ k ∧ k ≤ 3) (hb : k = 0 → InR b ∧ D2.2 102 0 = b) : m_L_c7 xs Ls s = some (.inl (s.1 + 7, D2)) := by
  have hx1 := hx (Int.toNat (s.1 + 1))
  have hx2 := hx (Int.toNat (s.1 + 2))
  have hx4 := hx (Int.toNat (s.1 + 4))
  have e0 : Int.toNat 0 = 0 := rfl
  by_cases k0 : k = 0
  · obtain ⟨h1, h2⟩ := hb k0
    simp (disch := omega) only [m_L_c7, gd_t, hw, hm, bnd_some, m_X11_thrown, ob_some, ht, if_t, if_f, ↓reduceIte, e0, h2, k0]
  · simp (disch := omega) only [m_L_c7, gd_t, hw, hm, bnd_some, m_X11_thrown, ob_some, ht, if_t, if_f, ↓reduceIte, k0]
theorem case_8 {xs : Nat → Int} {Ls : Nat} {s : Int × DT} (hs : 0 ≤ s.1 ∧ s.1 + 7 ≤ (Ls : Int)) (hx : ∀ j, InR (xs j)) {k b : Int} {D1 D2 : DT} (hw : m_L_lives (xs (Int.toNat (s.1 + 1))) (xs (Int.toNat (s.1 + 2))) s.2 = some (k, D1)) (hm : m_X11_lives (xs (Int.toNat (s.1 + 1))) (xs (Int.toNat (s.1 + 2))) D1 = some (b, D2)) (ht : D2.1 73 0 = k) (hk : 0 ≤ k ∧ k ≤ 3) (hb : k = 0 → InR b ∧ D2.2 102 0 = b) : m_L_c8 xs Ls s = some (.inl (s.1 + 7, D2)) := by
  have hx1 := hx (Int.toNat (s.1 + 1))
  have hx2 := hx (Int.toNat (s.1 + 2))
  have hx4 := hx (Int.toNat (s.1 + 4))
  have e0 : Int.toNat 0 = 0 := rfl
  by_cases k0 : k = 0
  · obtain ⟨h1, h2⟩ := hb k0
    simp (disch := omega) only [m_L_c8, gd_t, hw, hm, bnd_some, m_X11_thrown, ob_some, ht, if_t, if_f, ↓reduceIte, e0, h2, k0]
  · simp (disch := omega) only [m_L_c8, gd_t, hw, hm, bnd_some, m_X11_thrown, ob_some, ht, if_t, if_f, ↓reduceIte, k0]
theorem case_9 {xs : Nat → Int} {Ls : Nat} {s : Int × DT} (hs : 0 ≤ s.1 ∧ s.1 + 7 ≤ (Ls : Int)) (hx : ∀ j, InR (xs j)) {k b : Int} {D1 D2 : DT} (hw : m_L_flood (xs (Int.toNat (s.1 + 1))) (nz (xs (Int.toNat (s.1 + 2)))) s.2 = some (k, D1)) (hm : m_X11_flood (xs (Int.toNat (s.1 + 1))) (nz (xs (Int.toNat (s.1 + 2)))) D1 = some (b, D2)) (ht : D2.1 73 0 = k) (hk : 0 ≤ k ∧ k ≤ 3) (hb : k = 0 → (b = 0 ∨ b = 1) ∧ D2.2 102 0 = b) : m_L_c9 xs Ls s = some (.inl (s.1 + 7, D2)) := by
  have hx1 := hx (Int.toNat (s.1 + 1))
  have hx2 := hx (Int.toNat (s.1 + 2))
  have hx4 := hx (Int.toNat (s.1 + 4))
  have e0 : Int.toNat 0 = 0 := rfl
  by_cases z : xs (Int.toNat (s.1 + 2)) = 0
  · simp only [nz, if_t z] at hw hm
    by_cases k0 : k = 0
    · obtain ⟨h1, h2⟩ := hb k0
      rcases h1 with h1 | h1
      · simp (disch := omega) only [m_L_c9, gd_t, if_t z, hw, hm, bnd_some, m_X11_thrown, ob_some, ht, if_t, if_f, ↓reduceIte, e0, h2, h1, k0]
      · simp (disch := omega) only [m_L_c9, gd_t, if_t z, hw, hm, bnd_some, m_X11_thrown, ob_some, ht, if_t, if_f, ↓reduceIte, e0, h2, h1, k0]
    · simp (disch := omega) only [m_L_c9, gd_t, if_t z, hw, hm, bnd_some, m_X11_thrown, ob_some, ht, if_t, if_f, ↓reduceIte, k0]
  · simp only [nz, if_f z] at hw hm
    by_cases k0 : k = 0
    · obtain ⟨h1, h2⟩ := hb k0
      rcases h1 with h1 | h1
      · simp (disch := omega) only [m_L_c9, gd_t, if_f z, hw, hm, bnd_some, m_X11_thrown, ob_some, ht, if_t, if_f, ↓reduceIte, e0, h2, h1, k0]
      · simp (disch := omega) only [m_L_c9, gd_t, if_f z, hw, hm, bnd_some, m_X11_thrown, ob_some, ht, if_t, if_f, ↓reduceIte, e0, h2, h1, k0]
    · simp (disch := omega) only [m_L_c9, gd_t, if_f z, hw, hm, bnd_some, m_X11_thrown, ob_some, ht, if_t, if_f, ↓reduceIte, k0]
theorem case_10 {xs : Nat → Int} {Ls : Nat} {s : Int × DT} (hs : 0 ≤ s.1 ∧ s.1 + 7 ≤ (Ls : Int)) (hx : ∀ j, InR (xs j)) {k b : Int} {D1 D2 : DT} (hw : m_L_unit (xs (Int.toNat (s.1 + 1))) s.2 = some (k, D1)) (hm : m_X11_unit (xs (Int.toNat (s.1 + 1))) D1 = some (b, D2)) (ht : D2.1 73 0 = k) (hk : 0 ≤ k ∧ k ≤ 3) (hb : k = 0 → InR b ∧ D2.2 102 0 = b) : m_L_c10 xs Ls s = some (.inl (s.1 + 7, D2)) := by
  have hx1 := hx (Int.toNat (s.1 + 1))
  have hx2 := hx (Int.toNat (s.1 + 2))
  have hx4 := hx (Int.toNat (s.1 + 4))
  have e0 : Int.toNat 0 = 0 := rfl
  by_cases k0 : k = 0
  · obtain ⟨h1, h2⟩ := hb k0
    simp (disch := omega) only [m_L_c10, gd_t, hw, hm, bnd_some, m_X11_thrown, ob_some, ht, if_t, if_f, ↓reduceIte, e0, h2, k0]
  · simp (disch := omega) only [m_L_c10, gd_t, hw, hm, bnd_some, m_X11_thrown, ob_some, ht, if_t, if_f, ↓reduceIte, k0]
theorem case_11 {xs : Nat → Int} {Ls : Nat} {s : Int × DT} (hs : 0 ≤ s.1 ∧ s.1 + 7 ≤ (Ls : Int)) (hx : ∀ j, InR (xs j)) {k b : Int} {D1 D2 : DT} (hw : m_L_factor (xs (Int.toNat (s.1 + 1))) s.2 = some (k, D1)) (hm : m_X11_factor (xs (Int.toNat (s.1 + 1))) D1 = some (b, D2)) (ht : D2.1 73 0 = k) (hk : 0 ≤ k ∧ k ≤ 3) (hb : k = 0 → InR b ∧ D2.2 102 0 = b) : m_L_c11 xs Ls s = some (.inl (s.1 + 7, D2)) := by
  have hx1 := hx (Int.toNat (s.1 + 1))
  have hx2 := hx (Int.toNat (s.1 + 2))
  have hx4 := hx (Int.toNat (s.1 + 4))
  have e0 : Int.toNat 0 = 0 := rfl
  by_cases k0 : k = 0
  · obtain ⟨h1, h2⟩ := hb k0
    simp (disch := omega) only [m_L_c11, gd_t, hw, hm, bnd_some, m_X11_thrown, ob_some, ht, if_t, if_f, ↓reduceIte, e0, h2, k0]
  · simp (disch := omega) only [m_L_c11, gd_t, hw, hm, bnd_some, m_X11_thrown, ob_some, ht, if_t, if_f, ↓reduceIte, k0]
theorem case_12 {xs : Nat → Int} {Ls : Nat} {s : Int × DT} (hs : 0 ≤ s.1 ∧ s.1 + 7 ≤ (Ls : Int)) (hx : ∀ j, InR (xs j)) {k b : Int} {D1 D2 : DT} (hw : m_L_order (xs (Int.toNat (s.1 + 1))) (xs (Int.toNat (s.1 + 2))) s.2 = some (k, D1)) (hm : m_X11_order (xs (Int.toNat (s.1 + 1))) (xs (Int.toNat (s.1 + 2))) D1 = some (b, D2)) (ht : D2.1 73 0 = k) (hk : 0 ≤ k ∧ k ≤ 3) (hb : k = 0 → InR b ∧ D2.2 102 0 = b) : m_L_c12 xs Ls s = some (.inl (s.1 + 7, D2)) := by
  have hx1 := hx (Int.toNat (s.1 + 1))
  have hx2 := hx (Int.toNat (s.1 + 2))
  have hx4 := hx (Int.toNat (s.1 + 4))
  have e0 : Int.toNat 0 = 0 := rfl
  by_cases k0 : k = 0
  · obtain ⟨h1, h2⟩ := hb k0
    simp (disch := omega) only [m_L_c12, gd_t, hw, hm, bnd_some, m_X11_thrown, ob_some, ht, if_t, if_f, ↓reduceIte, e0, h2, k0]
  · simp (disch := omega) only [m_L_c12, gd_t, hw, hm, bnd_some, m_X11_thrown, ob_some, ht, if_t, if_f, ↓reduceIte, k0]
theorem case_13 {xs : Nat → Int} {Ls : Nat} {s : Int × DT} (hs : 0 ≤ s.1 ∧ s.1 + 7 ≤ (Ls : Int)) (hx : ∀ j, InR (xs j)) {k b : Int} {D1 D2 : DT} (hw : m_L_stands (xs (Int.toNat (s.1 + 1))) s.2 = some (k, D1)) (hm : m_X11_stands (xs (Int.toNat (s.1 + 1))) D1 = some (b, D2)) (ht : D2.1 73 0 = k) (hk : 0 ≤ k ∧ k ≤ 3) (hb : k = 0 → InR b ∧ D2.2 102 0 = b) : m_L_c13 xs Ls s = some (.inl (s.1 + 7, D2)) := by
  have hx1 := hx (Int.toNat (s.1 + 1))
  have hx2 := hx (Int.toNat (s.1 + 2))
  have hx4 := hx (Int.toNat (s.1 + 4))
  have e0 : Int.toNat 0 = 0 := rfl
  by_cases k0 : k = 0
  · obtain ⟨h1, h2⟩ := hb k0
    simp (disch := omega) only [m_L_c13, gd_t, hw, hm, bnd_some, m_X11_thrown, ob_some, ht, if_t, if_f, ↓reduceIte, e0, h2, k0]
  · simp (disch := omega) only [m_L_c13, gd_t, hw, hm, bnd_some, m_X11_thrown, ob_some, ht, if_t, if_f, ↓reduceIte, k0]
theorem case_14 {xs : Nat → Int} {Ls : Nat} {s : Int × DT} (hs : 0 ≤ s.1 ∧ s.1 + 7 ≤ (Ls : Int)) (hx : ∀ j, InR (xs j)) {k b : Int} {D1 D2 : DT} (hw : m_L_dots (xs (Int.toNat (s.1 + 1))) (xs (Int.toNat (s.1 + 2))) (xs (Int.toNat (s.1 + 3))) s.2 = some (k, D1)) (hm : m_X11_dots (xs (Int.toNat (s.1 + 1))) (xs (Int.toNat (s.1 + 2))) (xs (Int.toNat (s.1 + 3))) D1 = some (b, D2)) (ht : D2.1 73 0 = k) (hk : 0 ≤ k ∧ k ≤ 3) (hb : k = 0 → InR b ∧ D2.2 102 0 = b) : m_L_c14 xs Ls s = some (.inl (s.1 + 7, D2)) := by
  have hx1 := hx (Int.toNat (s.1 + 1))
  have hx2 := hx (Int.toNat (s.1 + 2))
  have hx4 := hx (Int.toNat (s.1 + 4))
  have e0 : Int.toNat 0 = 0 := rfl
  by_cases k0 : k = 0
  · obtain ⟨h1, h2⟩ := hb k0
    simp (disch := omega) only [m_L_c14, gd_t, hw, hm, bnd_some, m_X11_thrown, ob_some, ht, if_t, if_f, ↓reduceIte, e0, h2, k0]
  · simp (disch := omega) only [m_L_c14, gd_t, hw, hm, bnd_some, m_X11_thrown, ob_some, ht, if_t, if_f, ↓reduceIte, k0]
theorem case_15 {xs : Nat → Int} {Ls : Nat} {s : Int × DT} (hs : 0 ≤ s.1 ∧ s.1 + 7 ≤ (Ls : Int)) (hx : ∀ j, InR (xs j)) {k b : Int} {D1 D2 : DT} (hw : m_L_carried (xs (Int.toNat (s.1 + 1))) (xs (Int.toNat (s.1 + 2))) (xs (Int.toNat (s.1 + 3))) s.2 = some (k, D1)) (hm : m_X11_carried (xs (Int.toNat (s.1 + 1))) (xs (Int.toNat (s.1 + 2))) (xs (Int.toNat (s.1 + 3))) D1 = some (b, D2)) (ht : D2.1 73 0 = k) (hk : 0 ≤ k ∧ k ≤ 3) (hb : k = 0 → InR b ∧ D2.2 102 0 = b) : m_L_c15 xs Ls s = some (.inl (s.1 + 7, D2)) := by
  have hx1 := hx (Int.toNat (s.1 + 1))
  have hx2 := hx (Int.toNat (s.1 + 2))
  have hx4 := hx (Int.toNat (s.1 + 4))
  have e0 : Int.toNat 0 = 0 := rfl
  by_cases k0 : k = 0
  · obtain ⟨h1, h2⟩ := hb k0
    simp (disch := omega) only [m_L_c15, gd_t, hw, hm, bnd_some, m_X11_thrown, ob_some, ht, if_t, if_f, ↓reduceIte, e0, h2, k0]
  · simp (disch := omega) only [m_L_c15, gd_t, hw, hm, bnd_some, m_X11_thrown, ob_some, ht, if_t, if_f, ↓reduceIte, k0]
theorem case_16 {xs : Nat → Int} {Ls : Nat} {s : Int × DT} (hs : 0 ≤ s.1 ∧ s.1 + 7 ≤ (Ls : Int)) (hx : ∀ j, InR (xs j)) {k b : Int} {D1 D2 : DT} (hw : m_L_left (xs (Int.toNat (s.1 + 1))) (xs (Int.toNat (s.1 + 2))) s.2 = some (k, D1)) (hm : m_X11_left (xs (Int.toNat (s.1 + 1))) (xs (Int.toNat (s.1 + 2))) D1 = some (b, D2)) (ht : D2.1 73 0 = k) (hk : 0 ≤ k ∧ k ≤ 3) (hb : k = 0 → InR b ∧ D2.2 102 0 = b) : m_L_c16 xs Ls s = some (.inl (s.1 + 7, D2)) := by
  have hx1 := hx (Int.toNat (s.1 + 1))
  have hx2 := hx (Int.toNat (s.1 + 2))
  have hx4 := hx (Int.toNat (s.1 + 4))
  have e0 : Int.toNat 0 = 0 := rfl
  by_cases k0 : k = 0
  · obtain ⟨h1, h2⟩ := hb k0
    simp (disch := omega) only [m_L_c16, gd_t, hw, hm, bnd_some, m_X11_thrown, ob_some, ht, if_t, if_f, ↓reduceIte, e0, h2, k0]
  · simp (disch := omega) only [m_L_c16, gd_t, hw, hm, bnd_some, m_X11_thrown, ob_some, ht, if_t, if_f, ↓reduceIte, k0]
theorem case_17 {xs : Nat → Int} {Ls : Nat} {s : Int × DT} (hs : 0 ≤ s.1 ∧ s.1 + 7 ≤ (Ls : Int)) (hx : ∀ j, InR (xs j)) {k b : Int} {D1 D2 : DT} (hw : m_L_all (xs (Int.toNat (s.1 + 1))) (xs (Int.toNat (s.1 + 2))) s.2 = some (k, D1)) (hm : m_X11_all (xs (Int.toNat (s.1 + 1))) (xs (Int.toNat (s.1 + 2))) D1 = some (b, D2)) (ht : D2.1 73 0 = k) (hk : 0 ≤ k ∧ k ≤ 3) (hb : k = 0 → InR b ∧ D2.2 102 0 = b) : m_L_c17 xs Ls s = some (.inl (s.1 + 7, D2)) := by
  have hx1 := hx (Int.toNat (s.1 + 1))
  have hx2 := hx (Int.toNat (s.1 + 2))
  have hx4 := hx (Int.toNat (s.1 + 4))
  have e0 : Int.toNat 0 = 0 := rfl
  by_cases k0 : k = 0
  · obtain ⟨h1, h2⟩ := hb k0
    simp (disch := omega) only [m_L_c17, gd_t, hw, hm, bnd_some, m_X11_thrown, ob_some, ht, if_t, if_f, ↓reduceIte, e0, h2, k0]
  · simp (disch := omega) only [m_L_c17, gd_t, hw, hm, bnd_some, m_X11_thrown, ob_some, ht, if_t, if_f, ↓reduceIte, k0]
theorem case_18 {xs : Nat → Int} {Ls : Nat} {s : Int × DT} (hs : 0 ≤ s.1 ∧ s.1 + 7 ≤ (Ls : Int)) (hx : ∀ j, InR (xs j)) {k b : Int} {D1 D2 : DT} (hw : m_L_dot (xs (Int.toNat (s.1 + 1))) (xs (Int.toNat (s.1 + 2))) (xs (Int.toNat (s.1 + 3))) (xs (Int.toNat (s.1 + 4))) s.2 = some (k, D1)) (hm : m_X11_dot (xs (Int.toNat (s.1 + 1))) (xs (Int.toNat (s.1 + 2))) (xs (Int.toNat (s.1 + 3))) (xs (Int.toNat (s.1 + 4))) D1 = some (b, D2)) (ht : D2.1 73 0 = k) (hk : 0 ≤ k ∧ k ≤ 3) (hb : k = 0 → InR b ∧ D2.2 102 0 = b) : m_L_c18 xs Ls s = some (.inl (s.1 + 7, D2)) := by
  have hx1 := hx (Int.toNat (s.1 + 1))
  have hx2 := hx (Int.toNat (s.1 + 2))
  have hx4 := hx (Int.toNat (s.1 + 4))
  have e0 : Int.toNat 0 = 0 := rfl
  by_cases k0 : k = 0
  · obtain ⟨h1, h2⟩ := hb k0
    simp (disch := omega) only [m_L_c18, gd_t, hw, hm, bnd_some, m_X11_thrown, ob_some, ht, if_t, if_f, ↓reduceIte, e0, h2, k0]
  · simp (disch := omega) only [m_L_c18, gd_t, hw, hm, bnd_some, m_X11_thrown, ob_some, ht, if_t, if_f, ↓reduceIte, k0]
theorem case_19 {xs : Nat → Int} {Ls : Nat} {s : Int × DT} (hs : 0 ≤ s.1 ∧ s.1 + 7 ≤ (Ls : Int)) (hx : ∀ j, InR (xs j)) {k b : Int} {D1 D2 : DT} (hw : m_L_crowd (xs (Int.toNat (s.1 + 1))) (xs (Int.toNat (s.1 + 2))) (xs (Int.toNat (s.1 + 3))) s.2 = some (k, D1)) (hm : m_X11_crowd (xs (Int.toNat (s.1 + 1))) (xs (Int.toNat (s.1 + 2))) (xs (Int.toNat (s.1 + 3))) D1 = some (b, D2)) (ht : D2.1 73 0 = k) (hk : 0 ≤ k ∧ k ≤ 3) (hb : k = 0 → InR b ∧ D2.2 102 0 = b) : m_L_c19 xs Ls s = some (.inl (s.1 + 7, D2)) := by
  have hx1 := hx (Int.toNat (s.1 + 1))
  have hx2 := hx (Int.toNat (s.1 + 2))
  have hx4 := hx (Int.toNat (s.1 + 4))
  have e0 : Int.toNat 0 = 0 := rfl
  by_cases k0 : k = 0
  · obtain ⟨h1, h2⟩ := hb k0
    simp (disch := omega) only [m_L_c19, gd_t, hw, hm, bnd_some, m_X11_thrown, ob_some, ht, if_t, if_f, ↓reduceIte, e0, h2, k0]
  · simp (disch := omega) only [m_L_c19, gd_t, hw, hm, bnd_some, m_X11_thrown, ob_some, ht, if_t, if_f, ↓reduceIte, k0]
theorem case_20 {xs : Nat → Int} {Ls : Nat} {s : Int × DT} (hs : 0 ≤ s.1 ∧ s.1 + 7 ≤ (Ls : Int)) (hx : ∀ j, InR (xs j)) {k b : Int} {D1 D2 : DT} (hw : m_L_apart (xs (Int.toNat (s.1 + 1))) s.2 = some (k, D1)) (hm : m_X11_apart (xs (Int.toNat (s.1 + 1))) D1 = some (b, D2)) (ht : D2.1 73 0 = k) (hk : 0 ≤ k ∧ k ≤ 3) (hb : k = 0 → InR b ∧ D2.2 102 0 = b) : m_L_c20 xs Ls s = some (.inl (s.1 + 7, D2)) := by
  have hx1 := hx (Int.toNat (s.1 + 1))
  have hx2 := hx (Int.toNat (s.1 + 2))
  have hx4 := hx (Int.toNat (s.1 + 4))
  have e0 : Int.toNat 0 = 0 := rfl
  by_cases k0 : k = 0
  · obtain ⟨h1, h2⟩ := hb k0
    simp (disch := omega) only [m_L_c20, gd_t, hw, hm, bnd_some, m_X11_thrown, ob_some, ht, if_t, if_f, ↓reduceIte, e0, h2, k0]
  · simp (disch := omega) only [m_L_c20, gd_t, hw, hm, bnd_some, m_X11_thrown, ob_some, ht, if_t, if_f, ↓reduceIte, k0]
theorem case_21 {xs : Nat → Int} {Ls : Nat} {s : Int × DT} (hs : 0 ≤ s.1 ∧ s.1 + 7 ≤ (Ls : Int)) (hx : ∀ j, InR (xs j)) {k b : Int} {D1 D2 : DT} (hw : m_L_off (xs (Int.toNat (s.1 + 1))) (xs (Int.toNat (s.1 + 2))) s.2 = some (k, D1)) (hm : m_X11_off (xs (Int.toNat (s.1 + 1))) (xs (Int.toNat (s.1 + 2))) D1 = some (b, D2)) (ht : D2.1 73 0 = k) (hk : 0 ≤ k ∧ k ≤ 3) (hb : k = 0 → InR b ∧ D2.2 102 0 = b) : m_L_c21 xs Ls s = some (.inl (s.1 + 7, D2)) := by
  have hx1 := hx (Int.toNat (s.1 + 1))
  have hx2 := hx (Int.toNat (s.1 + 2))
  have hx4 := hx (Int.toNat (s.1 + 4))
  have e0 : Int.toNat 0 = 0 := rfl
  by_cases k0 : k = 0
  · obtain ⟨h1, h2⟩ := hb k0
    simp (disch := omega) only [m_L_c21, gd_t, hw, hm, bnd_some, m_X11_thrown, ob_some, ht, if_t, if_f, ↓reduceIte, e0, h2, k0]
  · simp (disch := omega) only [m_L_c21, gd_t, hw, hm, bnd_some, m_X11_thrown, ob_some, ht, if_t, if_f, ↓reduceIte, k0]
theorem case_22 {xs : Nat → Int} {Ls : Nat} {s : Int × DT} (hs : 0 ≤ s.1 ∧ s.1 + 7 ≤ (Ls : Int)) (hx : ∀ j, InR (xs j)) {k b : Int} {D1 D2 : DT} (hw : m_L_move (xs (Int.toNat (s.1 + 1))) (xs (Int.toNat (s.1 + 2))) (xs (Int.toNat (s.1 + 3))) (xs (Int.toNat (s.1 + 4))) (xs (Int.toNat (s.1 + 5))) s.2 = some (k, D1)) (hm : m_X11_move (xs (Int.toNat (s.1 + 1))) (xs (Int.toNat (s.1 + 2))) (xs (Int.toNat (s.1 + 3))) (xs (Int.toNat (s.1 + 4))) (xs (Int.toNat (s.1 + 5))) D1 = some (b, D2)) (ht : D2.1 73 0 = k) (hk : 0 ≤ k ∧ k ≤ 3) (hb : k = 0 → InR b ∧ D2.2 102 0 = b) : m_L_c22 xs Ls s = some (.inl (s.1 + 7, D2)) := by
  have hx1 := hx (Int.toNat (s.1 + 1))
  have hx2 := hx (Int.toNat (s.1 + 2))
  have hx4 := hx (Int.toNat (s.1 + 4))
  have e0 : Int.toNat 0 = 0 := rfl
  by_cases k0 : k = 0
  · obtain ⟨h1, h2⟩ := hb k0
    simp (disch := omega) only [m_L_c22, gd_t, hw, hm, bnd_some, m_X11_thrown, ob_some, ht, if_t, if_f, ↓reduceIte, e0, h2, k0]
  · simp (disch := omega) only [m_L_c22, gd_t, hw, hm, bnd_some, m_X11_thrown, ob_some, ht, if_t, if_f, ↓reduceIte, k0]
theorem case_23 {xs : Nat → Int} {Ls : Nat} {s : Int × DT} (hs : 0 ≤ s.1 ∧ s.1 + 7 ≤ (Ls : Int)) (hx : ∀ j, InR (xs j)) {k b : Int} {D1 D2 : DT} (hw : m_L_tries (xs (Int.toNat (s.1 + 1))) (xs (Int.toNat (s.1 + 2))) (xs (Int.toNat (s.1 + 3))) (xs (Int.toNat (s.1 + 4))) (xs (Int.toNat (s.1 + 5))) (xs (Int.toNat (s.1 + 6))) s.2 = some (k, D1)) (hm : m_X11_tries (xs (Int.toNat (s.1 + 1))) (xs (Int.toNat (s.1 + 2))) (xs (Int.toNat (s.1 + 3))) (xs (Int.toNat (s.1 + 4))) (xs (Int.toNat (s.1 + 5))) (xs (Int.toNat (s.1 + 6))) D1 = some (b, D2)) (ht : D2.1 73 0 = k) (hk : 0 ≤ k ∧ k ≤ 3) (hb : k = 0 → InR b ∧ D2.2 102 0 = b) : m_L_c23 xs Ls s = some (.inl (s.1 + 7, D2)) := by
  have hx1 := hx (Int.toNat (s.1 + 1))
  have hx2 := hx (Int.toNat (s.1 + 2))
  have hx4 := hx (Int.toNat (s.1 + 4))
  have e0 : Int.toNat 0 = 0 := rfl
  by_cases k0 : k = 0
  · obtain ⟨h1, h2⟩ := hb k0
    simp (disch := omega) only [m_L_c23, gd_t, hw, hm, bnd_some, m_X11_thrown, ob_some, ht, if_t, if_f, ↓reduceIte, e0, h2, k0]
  · simp (disch := omega) only [m_L_c23, gd_t, hw, hm, bnd_some, m_X11_thrown, ob_some, ht, if_t, if_f, ↓reduceIte, k0]
theorem case_24 {xs : Nat → Int} {Ls : Nat} {s : Int × DT} (hs : 0 ≤ s.1 ∧ s.1 + 7 ≤ (Ls : Int)) (hx : ∀ j, InR (xs j)) {k b : Int} {D1 D2 : DT} (hw : m_L_run (xs (Int.toNat (s.1 + 1))) (xs (Int.toNat (s.1 + 2))) (xs (Int.toNat (s.1 + 3))) (nz (xs (Int.toNat (s.1 + 4)))) s.2 = some (k, D1)) (hm : m_X11_run (xs (Int.toNat (s.1 + 1))) (xs (Int.toNat (s.1 + 2))) (xs (Int.toNat (s.1 + 3))) (nz (xs (Int.toNat (s.1 + 4)))) D1 = some (b, D2)) (ht : D2.1 73 0 = k) (hk : 0 ≤ k ∧ k ≤ 3) (hb : k = 0 → InR b ∧ D2.2 102 0 = b) : m_L_c24 xs Ls s = some (.inl (s.1 + 7, D2)) := by
  have hx1 := hx (Int.toNat (s.1 + 1))
  have hx2 := hx (Int.toNat (s.1 + 2))
  have hx4 := hx (Int.toNat (s.1 + 4))
  have e0 : Int.toNat 0 = 0 := rfl
  by_cases z : xs (Int.toNat (s.1 + 4)) = 0
  · simp only [nz, if_t z] at hw hm
    by_cases k0 : k = 0
    · obtain ⟨h1, h2⟩ := hb k0
      simp (disch := omega) only [m_L_c24, gd_t, if_t z, hw, hm, bnd_some, m_X11_thrown, ob_some, ht, if_t, if_f, ↓reduceIte, e0, h2, k0]
    · simp (disch := omega) only [m_L_c24, gd_t, if_t z, hw, hm, bnd_some, m_X11_thrown, ob_some, ht, if_t, if_f, ↓reduceIte, k0]
  · simp only [nz, if_f z] at hw hm
    by_cases k0 : k = 0
    · obtain ⟨h1, h2⟩ := hb k0
      simp (disch := omega) only [m_L_c24, gd_t, if_f z, hw, hm, bnd_some, m_X11_thrown, ob_some, ht, if_t, if_f, ↓reduceIte, e0, h2, k0]
    · simp (disch := omega) only [m_L_c24, gd_t, if_f z, hw, hm, bnd_some, m_X11_thrown, ob_some, ht, if_t, if_f, ↓reduceIte, k0]
theorem case_25 {xs : Nat → Int} {Ls : Nat} {s : Int × DT} (hs : 0 ≤ s.1 ∧ s.1 + 7 ≤ (Ls : Int)) (hx : ∀ j, InR (xs j)) {k b : Int} {D1 D2 : DT} (hw : m_L_part (xs (Int.toNat (s.1 + 1))) s.2 = some (k, D1)) (hm : m_X11_part (xs (Int.toNat (s.1 + 1))) D1 = some (b, D2)) (ht : D2.1 73 0 = k) (hk : 0 ≤ k ∧ k ≤ 3) (hb : k = 0 → InR b ∧ D2.2 102 0 = b) : m_L_c25 xs Ls s = some (.inl (s.1 + 7, D2)) := by
  have hx1 := hx (Int.toNat (s.1 + 1))
  have hx2 := hx (Int.toNat (s.1 + 2))
  have hx4 := hx (Int.toNat (s.1 + 4))
  have e0 : Int.toNat 0 = 0 := rfl
  by_cases k0 : k = 0
  · obtain ⟨h1, h2⟩ := hb k0
    simp (disch := omega) only [m_L_c25, gd_t, hw, hm, bnd_some, m_X11_thrown, ob_some, ht, if_t, if_f, ↓reduceIte, e0, h2, k0]
  · simp (disch := omega) only [m_L_c25, gd_t, hw, hm, bnd_some, m_X11_thrown, ob_some, ht, if_t, if_f, ↓reduceIte, k0]
theorem case_26 {xs : Nat → Int} {Ls : Nat} {s : Int × DT} (hs : 0 ≤ s.1 ∧ s.1 + 7 ≤ (Ls : Int)) (hx : ∀ j, InR (xs j)) {k b : Int} {D1 D2 : DT} (hw : m_L_measure (xs (Int.toNat (s.1 + 1))) (xs (Int.toNat (s.1 + 2))) (xs (Int.toNat (s.1 + 3))) (xs (Int.toNat (s.1 + 4))) s.2 = some (k, D1)) (hm : m_X11_measure (xs (Int.toNat (s.1 + 1))) (xs (Int.toNat (s.1 + 2))) (xs (Int.toNat (s.1 + 3))) (xs (Int.toNat (s.1 + 4))) D1 = some (b, D2)) (ht : D2.1 73 0 = k) (hk : 0 ≤ k ∧ k ≤ 3) (hb : k = 0 → InR b ∧ D2.2 102 0 = b) : m_L_c26 xs Ls s = some (.inl (s.1 + 7, D2)) := by
  have hx1 := hx (Int.toNat (s.1 + 1))
  have hx2 := hx (Int.toNat (s.1 + 2))
  have hx4 := hx (Int.toNat (s.1 + 4))
  have e0 : Int.toNat 0 = 0 := rfl
  by_cases k0 : k = 0
  · obtain ⟨h1, h2⟩ := hb k0
    simp (disch := omega) only [m_L_c26, gd_t, hw, hm, bnd_some, m_X11_thrown, ob_some, ht, if_t, if_f, ↓reduceIte, e0, h2, k0]
  · simp (disch := omega) only [m_L_c26, gd_t, hw, hm, bnd_some, m_X11_thrown, ob_some, ht, if_t, if_f, ↓reduceIte, k0]
theorem case_27 {xs : Nat → Int} {Ls : Nat} {s : Int × DT} (hs : 0 ≤ s.1 ∧ s.1 + 7 ≤ (Ls : Int)) (hx : ∀ j, InR (xs j)) {k b : Int} {D1 D2 : DT} (hw : m_L_best (xs (Int.toNat (s.1 + 1))) (xs (Int.toNat (s.1 + 2))) (xs (Int.toNat (s.1 + 3))) s.2 = some (k, D1)) (hm : m_X11_best (xs (Int.toNat (s.1 + 1))) (xs (Int.toNat (s.1 + 2))) (xs (Int.toNat (s.1 + 3))) D1 = some (b, D2)) (ht : D2.1 73 0 = k) (hk : 0 ≤ k ∧ k ≤ 3) (hb : k = 0 → InR b ∧ D2.2 102 0 = b) : m_L_c27 xs Ls s = some (.inl (s.1 + 7, D2)) := by
  have hx1 := hx (Int.toNat (s.1 + 1))
  have hx2 := hx (Int.toNat (s.1 + 2))
  have hx4 := hx (Int.toNat (s.1 + 4))
  have e0 : Int.toNat 0 = 0 := rfl
  by_cases k0 : k = 0
  · obtain ⟨h1, h2⟩ := hb k0
    simp (disch := omega) only [m_L_c27, gd_t, hw, hm, bnd_some, m_X11_thrown, ob_some, ht, if_t, if_f, ↓reduceIte, e0, h2, k0]
  · simp (disch := omega) only [m_L_c27, gd_t, hw, hm, bnd_some, m_X11_thrown, ob_some, ht, if_t, if_f, ↓reduceIte, k0]
theorem case_28 {xs : Nat → Int} {Ls : Nat} {s : Int × DT} (hs : 0 ≤ s.1 ∧ s.1 + 7 ≤ (Ls : Int)) (hx : ∀ j, InR (xs j)) {k b : Int} {D1 D2 : DT} (hw : m_L_nearest (xs (Int.toNat (s.1 + 1))) (xs (Int.toNat (s.1 + 2))) s.2 = some (k, D1)) (hm : m_X11_nearest (xs (Int.toNat (s.1 + 1))) (xs (Int.toNat (s.1 + 2))) D1 = some (b, D2)) (ht : D2.1 73 0 = k) (hk : 0 ≤ k ∧ k ≤ 3) (hb : k = 0 → InR b ∧ D2.2 102 0 = b) : m_L_c28 xs Ls s = some (.inl (s.1 + 7, D2)) := by
  have hx1 := hx (Int.toNat (s.1 + 1))
  have hx2 := hx (Int.toNat (s.1 + 2))
  have hx4 := hx (Int.toNat (s.1 + 4))
  have e0 : Int.toNat 0 = 0 := rfl
  by_cases k0 : k = 0
  · obtain ⟨h1, h2⟩ := hb k0
    simp (disch := omega) only [m_L_c28, gd_t, hw, hm, bnd_some, m_X11_thrown, ob_some, ht, if_t, if_f, ↓reduceIte, e0, h2, k0]
  · simp (disch := omega) only [m_L_c28, gd_t, hw, hm, bnd_some, m_X11_thrown, ob_some, ht, if_t, if_f, ↓reduceIte, k0]
theorem case_29 {xs : Nat → Int} {Ls : Nat} {s : Int × DT} (hs : 0 ≤ s.1 ∧ s.1 + 7 ≤ (Ls : Int)) (hx : ∀ j, InR (xs j)) {k b : Int} {D1 D2 : DT} (hw : m_L_served (xs (Int.toNat (s.1 + 1))) (xs (Int.toNat (s.1 + 2))) s.2 = some (k, D1)) (hm : m_X11_served (xs (Int.toNat (s.1 + 1))) (xs (Int.toNat (s.1 + 2))) D1 = some (b, D2)) (ht : D2.1 73 0 = k) (hk : 0 ≤ k ∧ k ≤ 3) (hb : k = 0 → InR b ∧ D2.2 102 0 = b) : m_L_c29 xs Ls s = some (.inl (s.1 + 7, D2)) := by
  have hx1 := hx (Int.toNat (s.1 + 1))
  have hx2 := hx (Int.toNat (s.1 + 2))
  have hx4 := hx (Int.toNat (s.1 + 4))
  have e0 : Int.toNat 0 = 0 := rfl
  by_cases k0 : k = 0
  · obtain ⟨h1, h2⟩ := hb k0
    simp (disch := omega) only [m_L_c29, gd_t, hw, hm, bnd_some, m_X11_thrown, ob_some, ht, if_t, if_f, ↓reduceIte, e0, h2, k0]
  · simp (disch := omega) only [m_L_c29, gd_t, hw, hm, bnd_some, m_X11_thrown, ob_some, ht, if_t, if_f, ↓reduceIte, k0]
theorem case_30 {xs : Nat → Int} {Ls : Nat} {s : Int × DT} (hs : 0 ≤ s.1 ∧ s.1 + 7 ≤ (Ls : Int)) (hx : ∀ j, InR (xs j)) {k b : Int} {D1 D2 : DT} (hw : m_L_thinned (xs (Int.toNat (s.1 + 1))) (xs (Int.toNat (s.1 + 2))) (xs (Int.toNat (s.1 + 3))) s.2 = some (k, D1)) (hm : m_X11_thinned (xs (Int.toNat (s.1 + 1))) (xs (Int.toNat (s.1 + 2))) (xs (Int.toNat (s.1 + 3))) D1 = some (b, D2)) (ht : D2.1 73 0 = k) (hk : 0 ≤ k ∧ k ≤ 3) (hb : k = 0 → InR b ∧ D2.2 102 0 = b) : m_L_c30 xs Ls s = some (.inl (s.1 + 7, D2)) := by
  have hx1 := hx (Int.toNat (s.1 + 1))
  have hx2 := hx (Int.toNat (s.1 + 2))
  have hx4 := hx (Int.toNat (s.1 + 4))
  have e0 : Int.toNat 0 = 0 := rfl
  by_cases k0 : k = 0
  · obtain ⟨h1, h2⟩ := hb k0
    simp (disch := omega) only [m_L_c30, gd_t, hw, hm, bnd_some, m_X11_thrown, ob_some, ht, if_t, if_f, ↓reduceIte, e0, h2, k0]
  · simp (disch := omega) only [m_L_c30, gd_t, hw, hm, bnd_some, m_X11_thrown, ob_some, ht, if_t, if_f, ↓reduceIte, k0]
theorem case_31 {xs : Nat → Int} {Ls : Nat} {s : Int × DT} (hs : 0 ≤ s.1 ∧ s.1 + 7 ≤ (Ls : Int)) (hx : ∀ j, InR (xs j)) {k b : Int} {D1 D2 : DT} (hw : m_L_tour (xs (Int.toNat (s.1 + 1))) (xs (Int.toNat (s.1 + 2))) s.2 = some (k, D1)) (hm : m_X11_tour (xs (Int.toNat (s.1 + 1))) (xs (Int.toNat (s.1 + 2))) D1 = some (b, D2)) (ht : D2.1 73 0 = k) (hk : 0 ≤ k ∧ k ≤ 3) (hb : k = 0 → InR b ∧ D2.2 102 0 = b) : m_L_c31 xs Ls s = some (.inl (s.1 + 7, D2)) := by
  have hx1 := hx (Int.toNat (s.1 + 1))
  have hx2 := hx (Int.toNat (s.1 + 2))
  have hx4 := hx (Int.toNat (s.1 + 4))
  have e0 : Int.toNat 0 = 0 := rfl
  by_cases k0 : k = 0
  · obtain ⟨h1, h2⟩ := hb k0
    simp (disch := omega) only [m_L_c31, gd_t, hw, hm, bnd_some, m_X11_thrown, ob_some, ht, if_t, if_f, ↓reduceIte, e0, h2, k0]
  · simp (disch := omega) only [m_L_c31, gd_t, hw, hm, bnd_some, m_X11_thrown, ob_some, ht, if_t, if_f, ↓reduceIte, k0]
theorem case_32 {xs : Nat → Int} {Ls : Nat} {s : Int × DT} (hs : 0 ≤ s.1 ∧ s.1 + 7 ≤ (Ls : Int)) (hx : ∀ j, InR (xs j)) {k b : Int} {D1 D2 : DT} (hw : m_L_way (xs (Int.toNat (s.1 + 1))) s.2 = some (k, D1)) (hm : m_X11_way (xs (Int.toNat (s.1 + 1))) D1 = some (b, D2)) (ht : D2.1 73 0 = k) (hk : 0 ≤ k ∧ k ≤ 3) (hb : k = 0 → InR b ∧ D2.2 102 0 = b) : m_L_c32 xs Ls s = some (.inl (s.1 + 7, D2)) := by
  have hx1 := hx (Int.toNat (s.1 + 1))
  have hx2 := hx (Int.toNat (s.1 + 2))
  have hx4 := hx (Int.toNat (s.1 + 4))
  have e0 : Int.toNat 0 = 0 := rfl
  by_cases k0 : k = 0
  · obtain ⟨h1, h2⟩ := hb k0
    simp (disch := omega) only [m_L_c32, gd_t, hw, hm, bnd_some, m_X11_thrown, ob_some, ht, if_t, if_f, ↓reduceIte, e0, h2, k0]
  · simp (disch := omega) only [m_L_c32, gd_t, hw, hm, bnd_some, m_X11_thrown, ob_some, ht, if_t, if_f, ↓reduceIte, k0]
theorem case_33 {xs : Nat → Int} {Ls : Nat} {s : Int × DT} (hs : 0 ≤ s.1 ∧ s.1 + 7 ≤ (Ls : Int)) (hx : ∀ j, InR (xs j)) {k b : Int} {D1 D2 : DT} (hw : m_L_hull (xs (Int.toNat (s.1 + 1))) (xs (Int.toNat (s.1 + 2))) s.2 = some (k, D1)) (hm : m_X11_hull (xs (Int.toNat (s.1 + 1))) (xs (Int.toNat (s.1 + 2))) D1 = some (b, D2)) (ht : D2.1 73 0 = k) (hk : 0 ≤ k ∧ k ≤ 3) (hb : k = 0 → InR b ∧ D2.2 102 0 = b) : m_L_c33 xs Ls s = some (.inl (s.1 + 7, D2)) := by
  have hx1 := hx (Int.toNat (s.1 + 1))
  have hx2 := hx (Int.toNat (s.1 + 2))
  have hx4 := hx (Int.toNat (s.1 + 4))
  have e0 : Int.toNat 0 = 0 := rfl
  by_cases k0 : k = 0
  · obtain ⟨h1, h2⟩ := hb k0
    simp (disch := omega) only [m_L_c33, gd_t, hw, hm, bnd_some, m_X11_thrown, ob_some, ht, if_t, if_f, ↓reduceIte, e0, h2, k0]
  · simp (disch := omega) only [m_L_c33, gd_t, hw, hm, bnd_some, m_X11_thrown, ob_some, ht, if_t, if_f, ↓reduceIte, k0]
theorem case_34 {xs : Nat → Int} {Ls : Nat} {s : Int × DT} (hs : 0 ≤ s.1 ∧ s.1 + 7 ≤ (Ls : Int)) (hx : ∀ j, InR (xs j)) {k b : Int} {D1 D2 : DT} (hw : m_L_area (xs (Int.toNat (s.1 + 1))) s.2 = some (k, D1)) (hm : m_X11_area (xs (Int.toNat (s.1 + 1))) D1 = some (b, D2)) (ht : D2.1 73 0 = k) (hk : 0 ≤ k ∧ k ≤ 3) (hb : k = 0 → InR b ∧ D2.2 102 0 = b) : m_L_c34 xs Ls s = some (.inl (s.1 + 7, D2)) := by
  have hx1 := hx (Int.toNat (s.1 + 1))
  have hx2 := hx (Int.toNat (s.1 + 2))
  have hx4 := hx (Int.toNat (s.1 + 4))
  have e0 : Int.toNat 0 = 0 := rfl
  by_cases k0 : k = 0
  · obtain ⟨h1, h2⟩ := hb k0
    simp (disch := omega) only [m_L_c34, gd_t, hw, hm, bnd_some, m_X11_thrown, ob_some, ht, if_t, if_f, ↓reduceIte, e0, h2, k0]
  · simp (disch := omega) only [m_L_c34, gd_t, hw, hm, bnd_some, m_X11_thrown, ob_some, ht, if_t, if_f, ↓reduceIte, k0]
theorem case_35 {xs : Nat → Int} {Ls : Nat} {s : Int × DT} (hs : 0 ≤ s.1 ∧ s.1 + 7 ≤ (Ls : Int)) (hx : ∀ j, InR (xs j)) {k b : Int} {D1 D2 : DT} (hw : m_L_middle (xs (Int.toNat (s.1 + 1))) (xs (Int.toNat (s.1 + 2))) s.2 = some (k, D1)) (hm : m_X11_middle (xs (Int.toNat (s.1 + 1))) (xs (Int.toNat (s.1 + 2))) D1 = some (b, D2)) (ht : D2.1 73 0 = k) (hk : 0 ≤ k ∧ k ≤ 3) (hb : k = 0 → InR b ∧ D2.2 102 0 = b) : m_L_c35 xs Ls s = some (.inl (s.1 + 7, D2)) := by
  have hx1 := hx (Int.toNat (s.1 + 1))
  have hx2 := hx (Int.toNat (s.1 + 2))
  have hx4 := hx (Int.toNat (s.1 + 4))
  have e0 : Int.toNat 0 = 0 := rfl
  by_cases k0 : k = 0
  · obtain ⟨h1, h2⟩ := hb k0
    simp (disch := omega) only [m_L_c35, gd_t, hw, hm, bnd_some, m_X11_thrown, ob_some, ht, if_t, if_f, ↓reduceIte, e0, h2, k0]
  · simp (disch := omega) only [m_L_c35, gd_t, hw, hm, bnd_some, m_X11_thrown, ob_some, ht, if_t, if_f, ↓reduceIte, k0]
theorem case_36 {xs : Nat → Int} {Ls : Nat} {s : Int × DT} (hs : 0 ≤ s.1 ∧ s.1 + 7 ≤ (Ls : Int)) (hx : ∀ j, InR (xs j)) {k b : Int} {D1 D2 : DT} (hw : m_L_line (nz (xs (Int.toNat (s.1 + 1)))) (xs (Int.toNat (s.1 + 2))) (xs (Int.toNat (s.1 + 3))) s.2 = some (k, D1)) (hm : m_X11_line_ (nz (xs (Int.toNat (s.1 + 1)))) (xs (Int.toNat (s.1 + 2))) (xs (Int.toNat (s.1 + 3))) D1 = some (b, D2)) (ht : D2.1 73 0 = k) (hk : 0 ≤ k ∧ k ≤ 3) (hb : k = 0 → InR b ∧ D2.2 102 0 = b) : m_L_c36 xs Ls s = some (.inl (s.1 + 7, D2)) := by
  have hx1 := hx (Int.toNat (s.1 + 1))
  have hx2 := hx (Int.toNat (s.1 + 2))
  have hx4 := hx (Int.toNat (s.1 + 4))
  have e0 : Int.toNat 0 = 0 := rfl
  by_cases z : xs (Int.toNat (s.1 + 1)) = 0
  · simp only [nz, if_t z] at hw hm
    by_cases k0 : k = 0
    · obtain ⟨h1, h2⟩ := hb k0
      simp (disch := omega) only [m_L_c36, gd_t, if_t z, hw, hm, bnd_some, m_X11_thrown, ob_some, ht, if_t, if_f, ↓reduceIte, e0, h2, k0]
    · simp (disch := omega) only [m_L_c36, gd_t, if_t z, hw, hm, bnd_some, m_X11_thrown, ob_some, ht, if_t, if_f, ↓reduceIte, k0]
  · simp only [nz, if_f z] at hw hm
    by_cases k0 : k = 0
    · obtain ⟨h1, h2⟩ := hb k0
      simp (disch := omega) only [m_L_c36, gd_t, if_f z, hw, hm, bnd_some, m_X11_thrown, ob_some, ht, if_t, if_f, ↓reduceIte, e0, h2, k0]
    · simp (disch := omega) only [m_L_c36, gd_t, if_f z, hw, hm, bnd_some, m_X11_thrown, ob_some, ht, if_t, if_f, ↓reduceIte, k0]
theorem case_37 {xs : Nat → Int} {Ls : Nat} {s : Int × DT} (hs : 0 ≤ s.1 ∧ s.1 + 7 ≤ (Ls : Int)) (hx : ∀ j, InR (xs j)) {k b : Int} {D1 D2 : DT} (hw : m_L_joined (xs (Int.toNat (s.1 + 1))) (xs (Int.toNat (s.1 + 2))) (xs (Int.toNat (s.1 + 3))) s.2 = some (k, D1)) (hm : m_X11_joined (xs (Int.toNat (s.1 + 1))) (xs (Int.toNat (s.1 + 2))) (xs (Int.toNat (s.1 + 3))) D1 = some (b, D2)) (ht : D2.1 73 0 = k) (hk : 0 ≤ k ∧ k ≤ 3) (hb : k = 0 → InR b ∧ D2.2 102 0 = b) : m_L_c37 xs Ls s = some (.inl (s.1 + 7, D2)) := by
  have hx1 := hx (Int.toNat (s.1 + 1))
  have hx2 := hx (Int.toNat (s.1 + 2))
  have hx4 := hx (Int.toNat (s.1 + 4))
  have e0 : Int.toNat 0 = 0 := rfl
  by_cases k0 : k = 0
  · obtain ⟨h1, h2⟩ := hb k0
    simp (disch := omega) only [m_L_c37, gd_t, hw, hm, bnd_some, m_X11_thrown, ob_some, ht, if_t, if_f, ↓reduceIte, e0, h2, k0]
  · simp (disch := omega) only [m_L_c37, gd_t, hw, hm, bnd_some, m_X11_thrown, ob_some, ht, if_t, if_f, ↓reduceIte, k0]
theorem case_38 {xs : Nat → Int} {Ls : Nat} {s : Int × DT} (hs : 0 ≤ s.1 ∧ s.1 + 7 ≤ (Ls : Int)) (hx : ∀ j, InR (xs j)) {b : Int} {D1 D2 : DT} (hw : m_X10_fits (xs (Int.toNat (s.1 + 1))) s.2 = some (b, D1)) (hm : m_X11_fits (xs (Int.toNat (s.1 + 1))) D1 = some (b, D2)) (hb : InR b) : m_L_c38 xs Ls s = some (.inl (s.1 + 7, D2)) := by
  simp (disch := omega) only [m_L_c38, gd_t, hw, hm, bnd_some, ob_some, if_t, if_f, ↓reduceIte]
theorem case_39 {xs : Nat → Int} {Ls : Nat} {s : Int × DT} (hs : 0 ≤ s.1 ∧ s.1 + 7 ≤ (Ls : Int)) (hx : ∀ j, InR (xs j)) {b : Int} {D1 D2 : DT} (hw : m_X10_scale (xs (Int.toNat (s.1 + 1))) s.2 = some (b, D1)) (hm : m_X11_scale (xs (Int.toNat (s.1 + 1))) D1 = some (b, D2)) (hb : InR b) : m_L_c39 xs Ls s = some (.inl (s.1 + 7, D2)) := by
  simp (disch := omega) only [m_L_c39, gd_t, hw, hm, bnd_some, ob_some, if_t, if_f, ↓reduceIte]
theorem case_40 {xs : Nat → Int} {Ls : Nat} {s : Int × DT} (hs : 0 ≤ s.1 ∧ s.1 + 7 ≤ (Ls : Int)) (hx : ∀ j, InR (xs j)) {k b : Int} {D1 D2 : DT} (hw : m_L_write (xs (Int.toNat (s.1 + 1))) s.2 = some (k, D1)) (hm : m_X11_write (xs (Int.toNat (s.1 + 1))) D1 = some (b, D2)) (ht : D2.1 73 0 = k) (hk : 0 ≤ k ∧ k ≤ 3) (hb : k = 0 → InR b ∧ D2.2 102 0 = b) : m_L_c40 xs Ls s = some (.inl (s.1 + 7, D2)) := by
  have hx1 := hx (Int.toNat (s.1 + 1))
  have hx2 := hx (Int.toNat (s.1 + 2))
  have hx4 := hx (Int.toNat (s.1 + 4))
  have e0 : Int.toNat 0 = 0 := rfl
  by_cases k0 : k = 0
  · obtain ⟨h1, h2⟩ := hb k0
    simp (disch := omega) only [m_L_c40, gd_t, hw, hm, bnd_some, m_X11_thrown, ob_some, ht, if_t, if_f, ↓reduceIte, e0, h2, k0]
  · simp (disch := omega) only [m_L_c40, gd_t, hw, hm, bnd_some, m_X11_thrown, ob_some, ht, if_t, if_f, ↓reduceIte, k0]
theorem case_41 {xs : Nat → Int} {Ls : Nat} {s : Int × DT} (hs : 0 ≤ s.1 ∧ s.1 + 7 ≤ (Ls : Int)) (hx : ∀ j, InR (xs j)) {b : Int} {D1 D2 : DT} (hw : m_X10_octet (xs (Int.toNat (s.1 + 1))) s.2 = some b) (hm : m_X11_octet (xs (Int.toNat (s.1 + 1))) s.2 = some (b, D2)) (hb : InR b) : m_L_c41 xs Ls s = some (.inl (s.1 + 7, D2)) := by
  simp (disch := omega) only [m_L_c41, gd_t, hw, hm, bnd_some, ob_some, if_t, if_f, ↓reduceIte]
theorem case_42 {xs : Nat → Int} {Ls : Nat} {s : Int × DT} (hs : 0 ≤ s.1 ∧ s.1 + 7 ≤ (Ls : Int)) (hx : ∀ j, InR (xs j)) {b : Int} {D1 D2 : DT} (hw : m_X10_count (xs (Int.toNat (s.1 + 1))) s.2 = some b) (hm : m_X11_count (xs (Int.toNat (s.1 + 1))) s.2 = some (b, D2)) (hb : InR b) : m_L_c42 xs Ls s = some (.inl (s.1 + 7, D2)) := by
  simp (disch := omega) only [m_L_c42, gd_t, hw, hm, bnd_some, ob_some, if_t, if_f, ↓reduceIte]
