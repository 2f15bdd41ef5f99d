/-! ===== a step from what each side does ===== -/
/-- the law's number of an outcome, by the wrapper's handlers -/
def cdX (l : List (Nat × Int)) : Int ⊕ Nat → Int
  | .inl _ => 0
  | .inr e => ((l.find? (fun q => q.1 == e)).map (fun q => q.2)).getD 0
def spX (l : List (Nat × Int)) : Int ⊕ Nat → Prop
  | .inl v => InR v
  | .inr e => e ∈ l.map (fun q => q.1)
/-- what the class does with a call that may throw -/
def ClsX (X : DT → Option ((Int ⊕ Nat) × DT)) (D : DT) (sp : Int ⊕ Nat) (M' : MS) : Prop := ∃ D1, X D = some (sp, D1) ∧ CInv D1 M' ∧ FrC D D1
/-- what the reference does -/
def RefX (X : DT → Option (Int × DT)) (cd : Int ⊕ Nat → Int) (M : MS) (sp : Int ⊕ Nat) (M' : MS) : Prop := ∀ D, RInv D M → ∃ b D2, X D = some (b, D2) ∧ RInv D2 M' ∧ FrR D D2 ∧ D2.1 73 0 = cd sp ∧ ∀ v, sp = .inl v → b = v
theorem CInv.out {D : DT} {M : MS} {v : Int} (h : CInv D M) : CInv (sA D 102 0 v) M := h.frR (fun a ha => ⟨rfl, by funext k; rw [sA2, if_neg (by omega)]⟩)
theorem RInv.out {D : DT} {M : MS} {v : Int} (h : RInv D M) : RInv (sA D 102 0 v) M := h.keep (fun a ha => by funext k; simp only [List.mem_cons, List.not_mem_nil, or_false] at ha; rw [sA2, if_neg (by omega)]) (fun k _ => rfl)
abbrev cd_read : List (Nat × Int) := [(2, 1)]
theorem wn_read {D D1 : DT} {v : Int} (h : m_X10_read D = some (.inl v, D1)) (hv : InR v) : m_L_read D = some (0, sA D1 102 0 v) := by
  simp (disch := omega) only [m_L_read, h, bndH_inl, gd_t, sq_eq, t0]
theorem we_read_2 {D D1 : DT} (h : m_X10_read D = some (.inr 2, D1)) : m_L_read D = some (1, D1) := by
  simp (disch := omega) only [m_L_read, h, bndH_inr, if_t, if_f, ↓reduceIte]
theorem comb_read {xs : Nat → Int} {Ls : Nat} {s : Int × DT} (hx : ∀ j, InR (xs j)) (hs : 0 ≤ s.1 ∧ s.1 + 7 ≤ (Ls : Int)) {M M' : MS} {sp : Int ⊕ Nat} (hsp : spX cd_read sp) (hC : ClsX (m_X10_read) s.2 sp M') (hR0 : RInv s.2 M) (hR : RefX (m_X11_read) (cdX cd_read) M sp M') : ∃ D', m_L_c2 xs Ls s = some (.inl (s.1 + 7, D')) ∧ Good D' := by
  obtain ⟨D1, e1, c1, f1⟩ := hC
  have r1 := hR0.frC f1
  cases sp with
  | inl v =>
    have hv : InR v := by exact hsp
    obtain ⟨b, D2, e2, r2, f2, t2, b2⟩ := hR _ (r1.out (v := v))
    have hb := b2 v rfl
    subst hb
    have o2 : D2.2 102 0 = b := by rw [(f2 102 (by omega)).2, sA2, if_pos ⟨rfl, rfl⟩]
    exact ⟨D2, case_2 hs hx (wn_read e1 hv) e2 t2 (by decide) (fun _ => ⟨hv, o2⟩), M', (c1.out (v := b)).frR (fun a ha => f2 a (Or.inl ha)), r2⟩
  | inr e =>
    obtain ⟨b, D2, e2, r2, f2, t2, -⟩ := hR _ r1
    by_cases q2 : e = 2
    · subst q2
      exact ⟨D2, case_2 hs hx (we_read_2 e1) e2 t2 (by decide) (fun h => absurd h (by decide)), M', c1.frR (fun a ha => f2 a (Or.inl ha)), r2⟩
    · exfalso
      simp only [spX, List.map_cons, List.map_nil, List.mem_cons, List.not_mem_nil, or_false] at hsp
      omega
abbrev cd_cell : List (Nat × Int) := [(0, 1), (1, 2)]
theorem wn_cell {v1 v2 : Int} {D D1 : DT} {v : Int} (h : m_X10_cell v1 v2 D = some (.inl v, D1)) (hv : InR v) : m_L_cell v1 v2 D = some (0, sA D1 102 0 v) := by
  simp (disch := omega) only [m_L_cell, h, bndH_inl, gd_t, sq_eq, t0]
theorem we_cell_0 {v1 v2 : Int} {D D1 : DT} (h : m_X10_cell v1 v2 D = some (.inr 0, D1)) : m_L_cell v1 v2 D = some (1, D1) := by
  simp (disch := omega) only [m_L_cell, h, bndH_inr, if_t, if_f, ↓reduceIte]
theorem we_cell_1 {v1 v2 : Int} {D D1 : DT} (h : m_X10_cell v1 v2 D = some (.inr 1, D1)) : m_L_cell v1 v2 D = some (2, D1) := by
  simp (disch := omega) only [m_L_cell, h, bndH_inr, if_t, if_f, ↓reduceIte]
theorem comb_cell {xs : Nat → Int} {Ls : Nat} {s : Int × DT} (hx : ∀ j, InR (xs j)) (hs : 0 ≤ s.1 ∧ s.1 + 7 ≤ (Ls : Int)) {M M' : MS} {sp : Int ⊕ Nat} (hsp : spX cd_cell sp) (hC : ClsX (m_X10_cell (xs (Int.toNat (s.1 + 1))) (xs (Int.toNat (s.1 + 2)))) s.2 sp M') (hR0 : RInv s.2 M) (hR : RefX (m_X11_cell (xs (Int.toNat (s.1 + 1))) (xs (Int.toNat (s.1 + 2)))) (cdX cd_cell) M sp M') : ∃ D', m_L_c4 xs Ls s = some (.inl (s.1 + 7, D')) ∧ Good D' := by
  obtain ⟨D1, e1, c1, f1⟩ := hC
  have r1 := hR0.frC f1
  cases sp with
  | inl v =>
    have hv : InR v := by exact hsp
    obtain ⟨b, D2, e2, r2, f2, t2, b2⟩ := hR _ (r1.out (v := v))
    have hb := b2 v rfl
    subst hb
    have o2 : D2.2 102 0 = b := by rw [(f2 102 (by omega)).2, sA2, if_pos ⟨rfl, rfl⟩]
    exact ⟨D2, case_4 hs hx (wn_cell e1 hv) e2 t2 (by decide) (fun _ => ⟨hv, o2⟩), M', (c1.out (v := b)).frR (fun a ha => f2 a (Or.inl ha)), r2⟩
  | inr e =>
    obtain ⟨b, D2, e2, r2, f2, t2, -⟩ := hR _ r1
    by_cases q0 : e = 0
    · subst q0
      exact ⟨D2, case_4 hs hx (we_cell_0 e1) e2 t2 (by decide) (fun h => absurd h (by decide)), M', c1.frR (fun a ha => f2 a (Or.inl ha)), r2⟩
    by_cases q1 : e = 1
    · subst q1
      exact ⟨D2, case_4 hs hx (we_cell_1 e1) e2 t2 (by decide) (fun h => absurd h (by decide)), M', c1.frR (fun a ha => f2 a (Or.inl ha)), r2⟩
    · exfalso
      simp only [spX, List.map_cons, List.map_nil, List.mem_cons, List.not_mem_nil, or_false] at hsp
      omega
abbrev cd_zone : List (Nat × Int) := [(0, 1), (1, 2)]
theorem wn_zone {v1 v2 : Int} {D D1 : DT} {v : Int} (h : m_X10_zone v1 v2 D = some (.inl v, D1)) (hv : InR v) : m_L_zone v1 v2 D = some (0, sA D1 102 0 v) := by
  simp (disch := omega) only [m_L_zone, h, bndH_inl, gd_t, sq_eq, t0]
theorem we_zone_0 {v1 v2 : Int} {D D1 : DT} (h : m_X10_zone v1 v2 D = some (.inr 0, D1)) : m_L_zone v1 v2 D = some (1, D1) := by
  simp (disch := omega) only [m_L_zone, h, bndH_inr, if_t, if_f, ↓reduceIte]
theorem we_zone_1 {v1 v2 : Int} {D D1 : DT} (h : m_X10_zone v1 v2 D = some (.inr 1, D1)) : m_L_zone v1 v2 D = some (2, D1) := by
  simp (disch := omega) only [m_L_zone, h, bndH_inr, if_t, if_f, ↓reduceIte]
theorem comb_zone {xs : Nat → Int} {Ls : Nat} {s : Int × DT} (hx : ∀ j, InR (xs j)) (hs : 0 ≤ s.1 ∧ s.1 + 7 ≤ (Ls : Int)) {M M' : MS} {sp : Int ⊕ Nat} (hsp : spX cd_zone sp) (hC : ClsX (m_X10_zone (xs (Int.toNat (s.1 + 1))) (xs (Int.toNat (s.1 + 2)))) s.2 sp M') (hR0 : RInv s.2 M) (hR : RefX (m_X11_zone (xs (Int.toNat (s.1 + 1))) (xs (Int.toNat (s.1 + 2)))) (cdX cd_zone) M sp M') : ∃ D', m_L_c5 xs Ls s = some (.inl (s.1 + 7, D')) ∧ Good D' := by
  obtain ⟨D1, e1, c1, f1⟩ := hC
  have r1 := hR0.frC f1
  cases sp with
  | inl v =>
    have hv : InR v := by exact hsp
    obtain ⟨b, D2, e2, r2, f2, t2, b2⟩ := hR _ (r1.out (v := v))
    have hb := b2 v rfl
    subst hb
    have o2 : D2.2 102 0 = b := by rw [(f2 102 (by omega)).2, sA2, if_pos ⟨rfl, rfl⟩]
    exact ⟨D2, case_5 hs hx (wn_zone e1 hv) e2 t2 (by decide) (fun _ => ⟨hv, o2⟩), M', (c1.out (v := b)).frR (fun a ha => f2 a (Or.inl ha)), r2⟩
  | inr e =>
    obtain ⟨b, D2, e2, r2, f2, t2, -⟩ := hR _ r1
    by_cases q0 : e = 0
    · subst q0
      exact ⟨D2, case_5 hs hx (we_zone_0 e1) e2 t2 (by decide) (fun h => absurd h (by decide)), M', c1.frR (fun a ha => f2 a (Or.inl ha)), r2⟩
    by_cases q1 : e = 1
    · subst q1
      exact ⟨D2, case_5 hs hx (we_zone_1 e1) e2 t2 (by decide) (fun h => absurd h (by decide)), M', c1.frR (fun a ha => f2 a (Or.inl ha)), r2⟩
    · exfalso
      simp only [spX, List.map_cons, List.map_nil, List.mem_cons, List.not_mem_nil, or_false] at hsp
      omega
abbrev cd_name : List (Nat × Int) := [(0, 1)]
theorem wn_name {v1 v2 : Int} {D D1 : DT} {v : Int} (h : m_X10_name v1 v2 D = some (.inl v, D1)) (hv : InR v) : m_L_name v1 v2 D = some (0, sA D1 102 0 v) := by
  simp (disch := omega) only [m_L_name, h, bndH_inl, gd_t, sq_eq, t0]
theorem we_name_0 {v1 v2 : Int} {D D1 : DT} (h : m_X10_name v1 v2 D = some (.inr 0, D1)) : m_L_name v1 v2 D = some (1, D1) := by
  simp (disch := omega) only [m_L_name, h, bndH_inr, if_t, if_f, ↓reduceIte]
theorem comb_name {xs : Nat → Int} {Ls : Nat} {s : Int × DT} (hx : ∀ j, InR (xs j)) (hs : 0 ≤ s.1 ∧ s.1 + 7 ≤ (Ls : Int)) {M M' : MS} {sp : Int ⊕ Nat} (hsp : spX cd_name sp) (hC : ClsX (m_X10_name (xs (Int.toNat (s.1 + 1))) (xs (Int.toNat (s.1 + 2)))) s.2 sp M') (hR0 : RInv s.2 M) (hR : RefX (m_X11_name (xs (Int.toNat (s.1 + 1))) (xs (Int.toNat (s.1 + 2)))) (cdX cd_name) M sp M') : ∃ D', m_L_c6 xs Ls s = some (.inl (s.1 + 7, D')) ∧ Good D' := by
  obtain ⟨D1, e1, c1, f1⟩ := hC
  have r1 := hR0.frC f1
  cases sp with
  | inl v =>
    have hv : InR v := by exact hsp
    obtain ⟨b, D2, e2, r2, f2, t2, b2⟩ := hR _ (r1.out (v := v))
    have hb := b2 v rfl
    subst hb
    have o2 : D2.2 102 0 = b := by rw [(f2 102 (by omega)).2, sA2, if_pos ⟨rfl, rfl⟩]
    exact ⟨D2, case_6 hs hx (wn_name e1 hv) e2 t2 (by decide) (fun _ => ⟨hv, o2⟩), M', (c1.out (v := b)).frR (fun a ha => f2 a (Or.inl ha)), r2⟩
  | inr e =>
    obtain ⟨b, D2, e2, r2, f2, t2, -⟩ := hR _ r1
    by_cases q0 : e = 0
    · subst q0
      exact ⟨D2, case_6 hs hx (we_name_0 e1) e2 t2 (by decide) (fun h => absurd h (by decide)), M', c1.frR (fun a ha => f2 a (Or.inl ha)), r2⟩
    · exfalso
      simp only [spX, List.map_cons, List.map_nil, List.mem_cons, List.not_mem_nil, or_false] at hsp
      omega
abbrev cd_people : List (Nat × Int) := [(0, 1), (2, 2)]
theorem wn_people {v1 v2 v3 : Int} {D D1 : DT} {v : Int} (h : m_X10_people v1 v2 v3 D = some (.inl v, D1)) (hv : InR v) : m_L_people v1 v2 v3 D = some (0, sA D1 102 0 v) := by
  simp (disch := omega) only [m_L_people, h, bndH_inl, gd_t, sq_eq, t0]
theorem we_people_0 {v1 v2 v3 : Int} {D D1 : DT} (h : m_X10_people v1 v2 v3 D = some (.inr 0, D1)) : m_L_people v1 v2 v3 D = some (1, D1) := by
  simp (disch := omega) only [m_L_people, h, bndH_inr, if_t, if_f, ↓reduceIte]
theorem we_people_2 {v1 v2 v3 : Int} {D D1 : DT} (h : m_X10_people v1 v2 v3 D = some (.inr 2, D1)) : m_L_people v1 v2 v3 D = some (2, D1) := by
  simp (disch := omega) only [m_L_people, h, bndH_inr, if_t, if_f, ↓reduceIte]
theorem comb_people {xs : Nat → Int} {Ls : Nat} {s : Int × DT} (hx : ∀ j, InR (xs j)) (hs : 0 ≤ s.1 ∧ s.1 + 7 ≤ (Ls : Int)) {M M' : MS} {sp : Int ⊕ Nat} (hsp : spX cd_people sp) (hC : ClsX (m_X10_people (xs (Int.toNat (s.1 + 1))) (xs (Int.toNat (s.1 + 2))) (xs (Int.toNat (s.1 + 3)))) s.2 sp M') (hR0 : RInv s.2 M) (hR : RefX (m_X11_people (xs (Int.toNat (s.1 + 1))) (xs (Int.toNat (s.1 + 2))) (xs (Int.toNat (s.1 + 3)))) (cdX cd_people) M sp M') : ∃ D', m_L_c7 xs Ls s = some (.inl (s.1 + 7, D')) ∧ Good D' := by
  obtain ⟨D1, e1, c1, f1⟩ := hC
  have r1 := hR0.frC f1
  cases sp with
  | inl v =>
    have hv : InR v := by exact hsp
    obtain ⟨b, D2, e2, r2, f2, t2, b2⟩ := hR _ (r1.out (v := v))
    have hb := b2 v rfl
    subst hb
    have o2 : D2.2 102 0 = b := by rw [(f2 102 (by omega)).2, sA2, if_pos ⟨rfl, rfl⟩]
    exact ⟨D2, case_7 hs hx (wn_people e1 hv) e2 t2 (by decide) (fun _ => ⟨hv, o2⟩), M', (c1.out (v := b)).frR (fun a ha => f2 a (Or.inl ha)), r2⟩
  | inr e =>
    obtain ⟨b, D2, e2, r2, f2, t2, -⟩ := hR _ r1
    by_cases q0 : e = 0
    · subst q0
      exact ⟨D2, case_7 hs hx (we_people_0 e1) e2 t2 (by decide) (fun h => absurd h (by decide)), M', c1.frR (fun a ha => f2 a (Or.inl ha)), r2⟩
    by_cases q2 : e = 2
    · subst q2
      exact ⟨D2, case_7 hs hx (we_people_2 e1) e2 t2 (by decide) (fun h => absurd h (by decide)), M', c1.frR (fun a ha => f2 a (Or.inl ha)), r2⟩
    · exfalso
      simp only [spX, List.map_cons, List.map_nil, List.mem_cons, List.not_mem_nil, or_false] at hsp
      omega
abbrev cd_lives : List (Nat × Int) := [(0, 1)]
theorem wn_lives {v1 v2 : Int} {D D1 : DT} {v : Int} (h : m_X10_lives v1 v2 D = some (.inl v, D1)) (hv : InR v) : m_L_lives v1 v2 D = some (0, sA D1 102 0 v) := by
  simp (disch := omega) only [m_L_lives, h, bndH_inl, gd_t, sq_eq, t0]
theorem we_lives_0 {v1 v2 : Int} {D D1 : DT} (h : m_X10_lives v1 v2 D = some (.inr 0, D1)) : m_L_lives v1 v2 D = some (1, D1) := by
  simp (disch := omega) only [m_L_lives, h, bndH_inr, if_t, if_f, ↓reduceIte]
theorem comb_lives {xs : Nat → Int} {Ls : Nat} {s : Int × DT} (hx : ∀ j, InR (xs j)) (hs : 0 ≤ s.1 ∧ s.1 + 7 ≤ (Ls : Int)) {M M' : MS} {sp : Int ⊕ Nat} (hsp : spX cd_lives sp) (hC : ClsX (m_X10_lives (xs (Int.toNat (s.1 + 1))) (xs (Int.toNat (s.1 + 2)))) s.2 sp M') (hR0 : RInv s.2 M) (hR : RefX (m_X11_lives (xs (Int.toNat (s.1 + 1))) (xs (Int.toNat (s.1 + 2)))) (cdX cd_lives) M sp M') : ∃ D', m_L_c8 xs Ls s = some (.inl (s.1 + 7, D')) ∧ Good D' := by
  obtain ⟨D1, e1, c1, f1⟩ := hC
  have r1 := hR0.frC f1
  cases sp with
  | inl v =>
    have hv : InR v := by exact hsp
    obtain ⟨b, D2, e2, r2, f2, t2, b2⟩ := hR _ (r1.out (v := v))
    have hb := b2 v rfl
    subst hb
    have o2 : D2.2 102 0 = b := by rw [(f2 102 (by omega)).2, sA2, if_pos ⟨rfl, rfl⟩]
    exact ⟨D2, case_8 hs hx (wn_lives e1 hv) e2 t2 (by decide) (fun _ => ⟨hv, o2⟩), M', (c1.out (v := b)).frR (fun a ha => f2 a (Or.inl ha)), r2⟩
  | inr e =>
    obtain ⟨b, D2, e2, r2, f2, t2, -⟩ := hR _ r1
    by_cases q0 : e = 0
    · subst q0
      exact ⟨D2, case_8 hs hx (we_lives_0 e1) e2 t2 (by decide) (fun h => absurd h (by decide)), M', c1.frR (fun a ha => f2 a (Or.inl ha)), r2⟩
    · exfalso
      simp only [spX, List.map_cons, List.map_nil, List.mem_cons, List.not_mem_nil, or_false] at hsp
      omega
abbrev cd_flood : List (Nat × Int) := [(0, 1)]
theorem wn_flood {v1 v2 : Int} {D D1 : DT} {v : Int} (h : m_X10_flood v1 v2 D = some (.inl v, D1)) (hv : v = 0 ∨ v = 1) : m_L_flood v1 v2 D = some (0, sA D1 102 0 v) := by
  rcases hv with rfl | rfl
  · simp (disch := omega) only [m_L_flood, h, bndH_inl, gd_t, sq_eq, t0, ↓reduceIte]
  · simp (disch := omega) only [m_L_flood, h, bndH_inl, gd_t, sq_eq, t0, if_f]
theorem we_flood_0 {v1 v2 : Int} {D D1 : DT} (h : m_X10_flood v1 v2 D = some (.inr 0, D1)) : m_L_flood v1 v2 D = some (1, D1) := by
  simp (disch := omega) only [m_L_flood, h, bndH_inr, if_t, if_f, ↓reduceIte]
theorem comb_flood {xs : Nat → Int} {Ls : Nat} {s : Int × DT} (hx : ∀ j, InR (xs j)) (hs : 0 ≤ s.1 ∧ s.1 + 7 ≤ (Ls : Int)) {M M' : MS} {sp : Int ⊕ Nat} (hsp : sp = .inl 0 ∨ sp = .inl 1 ∨ spX cd_flood sp ∧ ∃ e, sp = .inr e) (hC : ClsX (m_X10_flood (xs (Int.toNat (s.1 + 1))) (nz (xs (Int.toNat (s.1 + 2))))) s.2 sp M') (hR0 : RInv s.2 M) (hR : RefX (m_X11_flood (xs (Int.toNat (s.1 + 1))) (nz (xs (Int.toNat (s.1 + 2))))) (cdX cd_flood) M sp M') : ∃ D', m_L_c9 xs Ls s = some (.inl (s.1 + 7, D')) ∧ Good D' := by
  obtain ⟨D1, e1, c1, f1⟩ := hC
  have r1 := hR0.frC f1
  cases sp with
  | inl v =>
    have hv : v = 0 ∨ v = 1 := by 
      rcases hsp with h | h | ⟨_, e, h⟩
      · cases h; exact Or.inl rfl
      · cases h; exact Or.inr rfl
      · cases h
    obtain ⟨b, D2, e2, r2, f2, t2, b2⟩ := hR _ (r1.out (v := v))
    have hb := b2 v rfl
    subst hb
    have o2 : D2.2 102 0 = b := by rw [(f2 102 (by omega)).2, sA2, if_pos ⟨rfl, rfl⟩]
    exact ⟨D2, case_9 hs hx (wn_flood e1 hv) e2 t2 (by decide) (fun _ => ⟨hv, o2⟩), M', (c1.out (v := b)).frR (fun a ha => f2 a (Or.inl ha)), r2⟩
  | inr e =>
    obtain ⟨b, D2, e2, r2, f2, t2, -⟩ := hR _ r1
    have hsp : spX cd_flood (.inr e) := by
      rcases hsp with h | h | ⟨h, _⟩
      · cases h
      · cases h
      · exact h
    by_cases q0 : e = 0
    · subst q0
      exact ⟨D2, case_9 hs hx (we_flood_0 e1) e2 t2 (by decide) (fun h => absurd h (by decide)), M', c1.frR (fun a ha => f2 a (Or.inl ha)), r2⟩
    · exfalso
      simp only [spX, List.map_cons, List.map_nil, List.mem_cons, List.not_mem_nil, or_false] at hsp
      omega
abbrev cd_unit : List (Nat × Int) := [(2, 1)]
theorem wn_unit {v1 : Int} {D D1 : DT} {v : Int} (h : m_X10_unit v1 D = some (.inl v, D1)) (hv : InR v) : m_L_unit v1 D = some (0, sA D1 102 0 v) := by
  simp (disch := omega) only [m_L_unit, h, bndH_inl, gd_t, sq_eq, t0]
theorem we_unit_2 {v1 : Int} {D D1 : DT} (h : m_X10_unit v1 D = some (.inr 2, D1)) : m_L_unit v1 D = some (1, D1) := by
  simp (disch := omega) only [m_L_unit, h, bndH_inr, if_t, if_f, ↓reduceIte]
theorem comb_unit {xs : Nat → Int} {Ls : Nat} {s : Int × DT} (hx : ∀ j, InR (xs j)) (hs : 0 ≤ s.1 ∧ s.1 + 7 ≤ (Ls : Int)) {M M' : MS} {sp : Int ⊕ Nat} (hsp : spX cd_unit sp) (hC : ClsX (m_X10_unit (xs (Int.toNat (s.1 + 1)))) s.2 sp M') (hR0 : RInv s.2 M) (hR : RefX (m_X11_unit (xs (Int.toNat (s.1 + 1)))) (cdX cd_unit) M sp M') : ∃ D', m_L_c10 xs Ls s = some (.inl (s.1 + 7, D')) ∧ Good D' := by
  obtain ⟨D1, e1, c1, f1⟩ := hC
  have r1 := hR0.frC f1
  cases sp with
  | inl v =>
    have hv : InR v := by exact hsp
    obtain ⟨b, D2, e2, r2, f2, t2, b2⟩ := hR _ (r1.out (v := v))
    have hb := b2 v rfl
    subst hb
    have o2 : D2.2 102 0 = b := by rw [(f2 102 (by omega)).2, sA2, if_pos ⟨rfl, rfl⟩]
    exact ⟨D2, case_10 hs hx (wn_unit e1 hv) e2 t2 (by decide) (fun _ => ⟨hv, o2⟩), M', (c1.out (v := b)).frR (fun a ha => f2 a (Or.inl ha)), r2⟩
  | inr e =>
    obtain ⟨b, D2, e2, r2, f2, t2, -⟩ := hR _ r1
    by_cases q2 : e = 2
    · subst q2
      exact ⟨D2, case_10 hs hx (we_unit_2 e1) e2 t2 (by decide) (fun h => absurd h (by decide)), M', c1.frR (fun a ha => f2 a (Or.inl ha)), r2⟩
    · exfalso
      simp only [spX, List.map_cons, List.map_nil, List.mem_cons, List.not_mem_nil, or_false] at hsp
      omega
abbrev cd_factor : List (Nat × Int) := [(2, 1)]
theorem wn_factor {v1 : Int} {D D1 : DT} {v : Int} (h : m_X10_factor v1 D = some (.inl v, D1)) (hv : InR v) : m_L_factor v1 D = some (0, sA D1 102 0 v) := by
  simp (disch := omega) only [m_L_factor, h, bndH_inl, gd_t, sq_eq, t0]
theorem we_factor_2 {v1 : Int} {D D1 : DT} (h : m_X10_factor v1 D = some (.inr 2, D1)) : m_L_factor v1 D = some (1, D1) := by
  simp (disch := omega) only [m_L_factor, h, bndH_inr, if_t, if_f, ↓reduceIte]
theorem comb_factor {xs : Nat → Int} {Ls : Nat} {s : Int × DT} (hx : ∀ j, InR (xs j)) (hs : 0 ≤ s.1 ∧ s.1 + 7 ≤ (Ls : Int)) {M M' : MS} {sp : Int ⊕ Nat} (hsp : spX cd_factor sp) (hC : ClsX (m_X10_factor (xs (Int.toNat (s.1 + 1)))) s.2 sp M') (hR0 : RInv s.2 M) (hR : RefX (m_X11_factor (xs (Int.toNat (s.1 + 1)))) (cdX cd_factor) M sp M') : ∃ D', m_L_c11 xs Ls s = some (.inl (s.1 + 7, D')) ∧ Good D' := by
  obtain ⟨D1, e1, c1, f1⟩ := hC
  have r1 := hR0.frC f1
  cases sp with
  | inl v =>
    have hv : InR v := by exact hsp
    obtain ⟨b, D2, e2, r2, f2, t2, b2⟩ := hR _ (r1.out (v := v))
    have hb := b2 v rfl
    subst hb
    have o2 : D2.2 102 0 = b := by rw [(f2 102 (by omega)).2, sA2, if_pos ⟨rfl, rfl⟩]
    exact ⟨D2, case_11 hs hx (wn_factor e1 hv) e2 t2 (by decide) (fun _ => ⟨hv, o2⟩), M', (c1.out (v := b)).frR (fun a ha => f2 a (Or.inl ha)), r2⟩
  | inr e =>
    obtain ⟨b, D2, e2, r2, f2, t2, -⟩ := hR _ r1
    by_cases q2 : e = 2
    · subst q2
      exact ⟨D2, case_11 hs hx (we_factor_2 e1) e2 t2 (by decide) (fun h => absurd h (by decide)), M', c1.frR (fun a ha => f2 a (Or.inl ha)), r2⟩
    · exfalso
      simp only [spX, List.map_cons, List.map_nil, List.mem_cons, List.not_mem_nil, or_false] at hsp
      omega
abbrev cd_order : List (Nat × Int) := [(0, 1)]
theorem wn_order {v1 v2 : Int} {D D1 : DT} {v : Int} (h : m_X10_order v1 v2 D = some (.inl v, D1)) (hv : InR v) : m_L_order v1 v2 D = some (0, sA D1 102 0 v) := by
  simp (disch := omega) only [m_L_order, h, bndH_inl, gd_t, sq_eq, t0]
theorem we_order_0 {v1 v2 : Int} {D D1 : DT} (h : m_X10_order v1 v2 D = some (.inr 0, D1)) : m_L_order v1 v2 D = some (1, D1) := by
  simp (disch := omega) only [m_L_order, h, bndH_inr, if_t, if_f, ↓reduceIte]
theorem comb_order {xs : Nat → Int} {Ls : Nat} {s : Int × DT} (hx : ∀ j, InR (xs j)) (hs : 0 ≤ s.1 ∧ s.1 + 7 ≤ (Ls : Int)) {M M' : MS} {sp : Int ⊕ Nat} (hsp : spX cd_order sp) (hC : ClsX (m_X10_order (xs (Int.toNat (s.1 + 1))) (xs (Int.toNat (s.1 + 2)))) s.2 sp M') (hR0 : RInv s.2 M) (hR : RefX (m_X11_order (xs (Int.toNat (s.1 + 1))) (xs (Int.toNat (s.1 + 2)))) (cdX cd_order) M sp M') : ∃ D', m_L_c12 xs Ls s = some (.inl (s.1 + 7, D')) ∧ Good D' := by
  obtain ⟨D1, e1, c1, f1⟩ := hC
  have r1 := hR0.frC f1
  cases sp with
  | inl v =>
    have hv : InR v := by exact hsp
    obtain ⟨b, D2, e2, r2, f2, t2, b2⟩ := hR _ (r1.out (v := v))
    have hb := b2 v rfl
    subst hb
    have o2 : D2.2 102 0 = b := by rw [(f2 102 (by omega)).2, sA2, if_pos ⟨rfl, rfl⟩]
    exact ⟨D2, case_12 hs hx (wn_order e1 hv) e2 t2 (by decide) (fun _ => ⟨hv, o2⟩), M', (c1.out (v := b)).frR (fun a ha => f2 a (Or.inl ha)), r2⟩
  | inr e =>
    obtain ⟨b, D2, e2, r2, f2, t2, -⟩ := hR _ r1
    by_cases q0 : e = 0
    · subst q0
      exact ⟨D2, case_12 hs hx (we_order_0 e1) e2 t2 (by decide) (fun h => absurd h (by decide)), M', c1.frR (fun a ha => f2 a (Or.inl ha)), r2⟩
    · exfalso
      simp only [spX, List.map_cons, List.map_nil, List.mem_cons, List.not_mem_nil, or_false] at hsp
      omega
abbrev cd_stands : List (Nat × Int) := [(0, 1)]
theorem wn_stands {v1 : Int} {D D1 : DT} {v : Int} (h : m_X10_stands v1 D = some (.inl v, D1)) (hv : InR v) : m_L_stands v1 D = some (0, sA D1 102 0 v) := by
  simp (disch := omega) only [m_L_stands, h, bndH_inl, gd_t, sq_eq, t0]
theorem we_stands_0 {v1 : Int} {D D1 : DT} (h : m_X10_stands v1 D = some (.inr 0, D1)) : m_L_stands v1 D = some (1, D1) := by
  simp (disch := omega) only [m_L_stands, h, bndH_inr, if_t, if_f, ↓reduceIte]
theorem comb_stands {xs : Nat → Int} {Ls : Nat} {s : Int × DT} (hx : ∀ j, InR (xs j)) (hs : 0 ≤ s.1 ∧ s.1 + 7 ≤ (Ls : Int)) {M M' : MS} {sp : Int ⊕ Nat} (hsp : spX cd_stands sp) (hC : ClsX (m_X10_stands (xs (Int.toNat (s.1 + 1)))) s.2 sp M') (hR0 : RInv s.2 M) (hR : RefX (m_X11_stands (xs (Int.toNat (s.1 + 1)))) (cdX cd_stands) M sp M') : ∃ D', m_L_c13 xs Ls s = some (.inl (s.1 + 7, D')) ∧ Good D' := by
  obtain ⟨D1, e1, c1, f1⟩ := hC
  have r1 := hR0.frC f1
  cases sp with
  | inl v =>
    have hv : InR v := by exact hsp
    obtain ⟨b, D2, e2, r2, f2, t2, b2⟩ := hR _ (r1.out (v := v))
    have hb := b2 v rfl
    subst hb
    have o2 : D2.2 102 0 = b := by rw [(f2 102 (by omega)).2, sA2, if_pos ⟨rfl, rfl⟩]
    exact ⟨D2, case_13 hs hx (wn_stands e1 hv) e2 t2 (by decide) (fun _ => ⟨hv, o2⟩), M', (c1.out (v := b)).frR (fun a ha => f2 a (Or.inl ha)), r2⟩
  | inr e =>
    obtain ⟨b, D2, e2, r2, f2, t2, -⟩ := hR _ r1
    by_cases q0 : e = 0
    · subst q0
      exact ⟨D2, case_13 hs hx (we_stands_0 e1) e2 t2 (by decide) (fun h => absurd h (by decide)), M', c1.frR (fun a ha => f2 a (Or.inl ha)), r2⟩
    · exfalso
      simp only [spX, List.map_cons, List.map_nil, List.mem_cons, List.not_mem_nil, or_false] at hsp
      omega
abbrev cd_dots : List (Nat × Int) := [(0, 1)]
theorem wn_dots {v1 v2 v3 : Int} {D D1 : DT} {v : Int} (h : m_X10_dots v1 v2 v3 D = some (.inl v, D1)) (hv : InR v) : m_L_dots v1 v2 v3 D = some (0, sA D1 102 0 v) := by
  simp (disch := omega) only [m_L_dots, h, bndH_inl, gd_t, sq_eq, t0]
theorem we_dots_0 {v1 v2 v3 : Int} {D D1 : DT} (h : m_X10_dots v1 v2 v3 D = some (.inr 0, D1)) : m_L_dots v1 v2 v3 D = some (1, D1) := by
  simp (disch := omega) only [m_L_dots, h, bndH_inr, if_t, if_f, ↓reduceIte]
theorem comb_dots {xs : Nat → Int} {Ls : Nat} {s : Int × DT} (hx : ∀ j, InR (xs j)) (hs : 0 ≤ s.1 ∧ s.1 + 7 ≤ (Ls : Int)) {M M' : MS} {sp : Int ⊕ Nat} (hsp : spX cd_dots sp) (hC : ClsX (m_X10_dots (xs (Int.toNat (s.1 + 1))) (xs (Int.toNat (s.1 + 2))) (xs (Int.toNat (s.1 + 3)))) s.2 sp M') (hR0 : RInv s.2 M) (hR : RefX (m_X11_dots (xs (Int.toNat (s.1 + 1))) (xs (Int.toNat (s.1 + 2))) (xs (Int.toNat (s.1 + 3)))) (cdX cd_dots) M sp M') : ∃ D', m_L_c14 xs Ls s = some (.inl (s.1 + 7, D')) ∧ Good D' := by
  obtain ⟨D1, e1, c1, f1⟩ := hC
  have r1 := hR0.frC f1
  cases sp with
  | inl v =>
    have hv : InR v := by exact hsp
    obtain ⟨b, D2, e2, r2, f2, t2, b2⟩ := hR _ (r1.out (v := v))
    have hb := b2 v rfl
    subst hb
    have o2 : D2.2 102 0 = b := by rw [(f2 102 (by omega)).2, sA2, if_pos ⟨rfl, rfl⟩]
    exact ⟨D2, case_14 hs hx (wn_dots e1 hv) e2 t2 (by decide) (fun _ => ⟨hv, o2⟩), M', (c1.out (v := b)).frR (fun a ha => f2 a (Or.inl ha)), r2⟩
  | inr e =>
    obtain ⟨b, D2, e2, r2, f2, t2, -⟩ := hR _ r1
    by_cases q0 : e = 0
    · subst q0
      exact ⟨D2, case_14 hs hx (we_dots_0 e1) e2 t2 (by decide) (fun h => absurd h (by decide)), M', c1.frR (fun a ha => f2 a (Or.inl ha)), r2⟩
    · exfalso
      simp only [spX, List.map_cons, List.map_nil, List.mem_cons, List.not_mem_nil, or_false] at hsp
      omega
abbrev cd_carried : List (Nat × Int) := [(0, 1)]
theorem wn_carried {v1 v2 v3 : Int} {D D1 : DT} {v : Int} (h : m_X10_carried v1 v2 v3 D = some (.inl v, D1)) (hv : InR v) : m_L_carried v1 v2 v3 D = some (0, sA D1 102 0 v) := by
  simp (disch := omega) only [m_L_carried, h, bndH_inl, gd_t, sq_eq, t0]
theorem we_carried_0 {v1 v2 v3 : Int} {D D1 : DT} (h : m_X10_carried v1 v2 v3 D = some (.inr 0, D1)) : m_L_carried v1 v2 v3 D = some (1, D1) := by
  simp (disch := omega) only [m_L_carried, h, bndH_inr, if_t, if_f, ↓reduceIte]
theorem comb_carried {xs : Nat → Int} {Ls : Nat} {s : Int × DT} (hx : ∀ j, InR (xs j)) (hs : 0 ≤ s.1 ∧ s.1 + 7 ≤ (Ls : Int)) {M M' : MS} {sp : Int ⊕ Nat} (hsp : spX cd_carried sp) (hC : ClsX (m_X10_carried (xs (Int.toNat (s.1 + 1))) (xs (Int.toNat (s.1 + 2))) (xs (Int.toNat (s.1 + 3)))) s.2 sp M') (hR0 : RInv s.2 M) (hR : RefX (m_X11_carried (xs (Int.toNat (s.1 + 1))) (xs (Int.toNat (s.1 + 2))) (xs (Int.toNat (s.1 + 3)))) (cdX cd_carried) M sp M') : ∃ D', m_L_c15 xs Ls s = some (.inl (s.1 + 7, D')) ∧ Good D' := by
  obtain ⟨D1, e1, c1, f1⟩ := hC
  have r1 := hR0.frC f1
  cases sp with
  | inl v =>
    have hv : InR v := by exact hsp
    obtain ⟨b, D2, e2, r2, f2, t2, b2⟩ := hR _ (r1.out (v := v))
    have hb := b2 v rfl
    subst hb
    have o2 : D2.2 102 0 = b := by rw [(f2 102 (by omega)).2, sA2, if_pos ⟨rfl, rfl⟩]
    exact ⟨D2, case_15 hs hx (wn_carried e1 hv) e2 t2 (by decide) (fun _ => ⟨hv, o2⟩), M', (c1.out (v := b)).frR (fun a ha => f2 a (Or.inl ha)), r2⟩
  | inr e =>
    obtain ⟨b, D2, e2, r2, f2, t2, -⟩ := hR _ r1
    by_cases q0 : e = 0
    · subst q0
      exact ⟨D2, case_15 hs hx (we_carried_0 e1) e2 t2 (by decide) (fun h => absurd h (by decide)), M', c1.frR (fun a ha => f2 a (Or.inl ha)), r2⟩
    · exfalso
      simp only [spX, List.map_cons, List.map_nil, List.mem_cons, List.not_mem_nil, or_false] at hsp
      omega
abbrev cd_left : List (Nat × Int) := [(0, 1)]
theorem wn_left {v1 v2 : Int} {D D1 : DT} {v : Int} (h : m_X10_left v1 v2 D = some (.inl v, D1)) (hv : InR v) : m_L_left v1 v2 D = some (0, sA D1 102 0 v) := by
  simp (disch := omega) only [m_L_left, h, bndH_inl, gd_t, sq_eq, t0]
theorem we_left_0 {v1 v2 : Int} {D D1 : DT} (h : m_X10_left v1 v2 D = some (.inr 0, D1)) : m_L_left v1 v2 D = some (1, D1) := by
  simp (disch := omega) only [m_L_left, h, bndH_inr, if_t, if_f, ↓reduceIte]
theorem comb_left {xs : Nat → Int} {Ls : Nat} {s : Int × DT} (hx : ∀ j, InR (xs j)) (hs : 0 ≤ s.1 ∧ s.1 + 7 ≤ (Ls : Int)) {M M' : MS} {sp : Int ⊕ Nat} (hsp : spX cd_left sp) (hC : ClsX (m_X10_left (xs (Int.toNat (s.1 + 1))) (xs (Int.toNat (s.1 + 2)))) s.2 sp M') (hR0 : RInv s.2 M) (hR : RefX (m_X11_left (xs (Int.toNat (s.1 + 1))) (xs (Int.toNat (s.1 + 2)))) (cdX cd_left) M sp M') : ∃ D', m_L_c16 xs Ls s = some (.inl (s.1 + 7, D')) ∧ Good D' := by
  obtain ⟨D1, e1, c1, f1⟩ := hC
  have r1 := hR0.frC f1
  cases sp with
  | inl v =>
    have hv : InR v := by exact hsp
    obtain ⟨b, D2, e2, r2, f2, t2, b2⟩ := hR _ (r1.out (v := v))
    have hb := b2 v rfl
    subst hb
    have o2 : D2.2 102 0 = b := by rw [(f2 102 (by omega)).2, sA2, if_pos ⟨rfl, rfl⟩]
    exact ⟨D2, case_16 hs hx (wn_left e1 hv) e2 t2 (by decide) (fun _ => ⟨hv, o2⟩), M', (c1.out (v := b)).frR (fun a ha => f2 a (Or.inl ha)), r2⟩
  | inr e =>
    obtain ⟨b, D2, e2, r2, f2, t2, -⟩ := hR _ r1
    by_cases q0 : e = 0
    · subst q0
      exact ⟨D2, case_16 hs hx (we_left_0 e1) e2 t2 (by decide) (fun h => absurd h (by decide)), M', c1.frR (fun a ha => f2 a (Or.inl ha)), r2⟩
    · exfalso
      simp only [spX, List.map_cons, List.map_nil, List.mem_cons, List.not_mem_nil, or_false] at hsp
      omega
abbrev cd_all : List (Nat × Int) := [(0, 1)]
theorem wn_all {v1 v2 : Int} {D D1 : DT} {v : Int} (h : m_X10_all v1 v2 D = some (.inl v, D1)) (hv : InR v) : m_L_all v1 v2 D = some (0, sA D1 102 0 v) := by
  simp (disch := omega) only [m_L_all, h, bndH_inl, gd_t, sq_eq, t0]
theorem we_all_0 {v1 v2 : Int} {D D1 : DT} (h : m_X10_all v1 v2 D = some (.inr 0, D1)) : m_L_all v1 v2 D = some (1, D1) := by
  simp (disch := omega) only [m_L_all, h, bndH_inr, if_t, if_f, ↓reduceIte]
theorem comb_all {xs : Nat → Int} {Ls : Nat} {s : Int × DT} (hx : ∀ j, InR (xs j)) (hs : 0 ≤ s.1 ∧ s.1 + 7 ≤ (Ls : Int)) {M M' : MS} {sp : Int ⊕ Nat} (hsp : spX cd_all sp) (hC : ClsX (m_X10_all (xs (Int.toNat (s.1 + 1))) (xs (Int.toNat (s.1 + 2)))) s.2 sp M') (hR0 : RInv s.2 M) (hR : RefX (m_X11_all (xs (Int.toNat (s.1 + 1))) (xs (Int.toNat (s.1 + 2)))) (cdX cd_all) M sp M') : ∃ D', m_L_c17 xs Ls s = some (.inl (s.1 + 7, D')) ∧ Good D' := by
  obtain ⟨D1, e1, c1, f1⟩ := hC
  have r1 := hR0.frC f1
  cases sp with
  | inl v =>
    have hv : InR v := by exact hsp
    obtain ⟨b, D2, e2, r2, f2, t2, b2⟩ := hR _ (r1.out (v := v))
    have hb := b2 v rfl
    subst hb
    have o2 : D2.2 102 0 = b := by rw [(f2 102 (by omega)).2, sA2, if_pos ⟨rfl, rfl⟩]
    exact ⟨D2, case_17 hs hx (wn_all e1 hv) e2 t2 (by decide) (fun _ => ⟨hv, o2⟩), M', (c1.out (v := b)).frR (fun a ha => f2 a (Or.inl ha)), r2⟩
  | inr e =>
    obtain ⟨b, D2, e2, r2, f2, t2, -⟩ := hR _ r1
    by_cases q0 : e = 0
    · subst q0
      exact ⟨D2, case_17 hs hx (we_all_0 e1) e2 t2 (by decide) (fun h => absurd h (by decide)), M', c1.frR (fun a ha => f2 a (Or.inl ha)), r2⟩
    · exfalso
      simp only [spX, List.map_cons, List.map_nil, List.mem_cons, List.not_mem_nil, or_false] at hsp
      omega
abbrev cd_dot : List (Nat × Int) := [(0, 1), (1, 2)]
theorem wn_dot {v1 v2 v3 v4 : Int} {D D1 : DT} {v : Int} (h : m_X10_dot v1 v2 v3 v4 D = some (.inl v, D1)) (hv : InR v) : m_L_dot v1 v2 v3 v4 D = some (0, sA D1 102 0 v) := by
  simp (disch := omega) only [m_L_dot, h, bndH_inl, gd_t, sq_eq, t0]
theorem we_dot_0 {v1 v2 v3 v4 : Int} {D D1 : DT} (h : m_X10_dot v1 v2 v3 v4 D = some (.inr 0, D1)) : m_L_dot v1 v2 v3 v4 D = some (1, D1) := by
  simp (disch := omega) only [m_L_dot, h, bndH_inr, if_t, if_f, ↓reduceIte]
theorem we_dot_1 {v1 v2 v3 v4 : Int} {D D1 : DT} (h : m_X10_dot v1 v2 v3 v4 D = some (.inr 1, D1)) : m_L_dot v1 v2 v3 v4 D = some (2, D1) := by
  simp (disch := omega) only [m_L_dot, h, bndH_inr, if_t, if_f, ↓reduceIte]
theorem comb_dot {xs : Nat → Int} {Ls : Nat} {s : Int × DT} (hx : ∀ j, InR (xs j)) (hs : 0 ≤ s.1 ∧ s.1 + 7 ≤ (Ls : Int)) {M M' : MS} {sp : Int ⊕ Nat} (hsp : spX cd_dot sp) (hC : ClsX (m_X10_dot (xs (Int.toNat (s.1 + 1))) (xs (Int.toNat (s.1 + 2))) (xs (Int.toNat (s.1 + 3))) (xs (Int.toNat (s.1 + 4)))) s.2 sp M') (hR0 : RInv s.2 M) (hR : RefX (m_X11_dot (xs (Int.toNat (s.1 + 1))) (xs (Int.toNat (s.1 + 2))) (xs (Int.toNat (s.1 + 3))) (xs (Int.toNat (s.1 + 4)))) (cdX cd_dot) M sp M') : ∃ D', m_L_c18 xs Ls s = some (.inl (s.1 + 7, D')) ∧ Good D' := by
  obtain ⟨D1, e1, c1, f1⟩ := hC
  have r1 := hR0.frC f1
  cases sp with
  | inl v =>
    have hv : InR v := by exact hsp
    obtain ⟨b, D2, e2, r2, f2, t2, b2⟩ := hR _ (r1.out (v := v))
    have hb := b2 v rfl
    subst hb
    have o2 : D2.2 102 0 = b := by rw [(f2 102 (by omega)).2, sA2, if_pos ⟨rfl, rfl⟩]
    exact ⟨D2, case_18 hs hx (wn_dot e1 hv) e2 t2 (by decide) (fun _ => ⟨hv, o2⟩), M', (c1.out (v := b)).frR (fun a ha => f2 a (Or.inl ha)), r2⟩
  | inr e =>
    obtain ⟨b, D2, e2, r2, f2, t2, -⟩ := hR _ r1
    by_cases q0 : e = 0
    · subst q0
      exact ⟨D2, case_18 hs hx (we_dot_0 e1) e2 t2 (by decide) (fun h => absurd h (by decide)), M', c1.frR (fun a ha => f2 a (Or.inl ha)), r2⟩
    by_cases q1 : e = 1
    · subst q1
      exact ⟨D2, case_18 hs hx (we_dot_1 e1) e2 t2 (by decide) (fun h => absurd h (by decide)), M', c1.frR (fun a ha => f2 a (Or.inl ha)), r2⟩
    · exfalso
      simp only [spX, List.map_cons, List.map_nil, List.mem_cons, List.not_mem_nil, or_false] at hsp
      omega
abbrev cd_crowd : List (Nat × Int) := [(0, 1)]
theorem wn_crowd {v1 v2 v3 : Int} {D D1 : DT} {v : Int} (h : m_X10_crowd v1 v2 v3 D = some (.inl v, D1)) (hv : InR v) : m_L_crowd v1 v2 v3 D = some (0, sA D1 102 0 v) := by
  simp (disch := omega) only [m_L_crowd, h, bndH_inl, gd_t, sq_eq, t0]
theorem we_crowd_0 {v1 v2 v3 : Int} {D D1 : DT} (h : m_X10_crowd v1 v2 v3 D = some (.inr 0, D1)) : m_L_crowd v1 v2 v3 D = some (1, D1) := by
  simp (disch := omega) only [m_L_crowd, h, bndH_inr, if_t, if_f, ↓reduceIte]
theorem comb_crowd {xs : Nat → Int} {Ls : Nat} {s : Int × DT} (hx : ∀ j, InR (xs j)) (hs : 0 ≤ s.1 ∧ s.1 + 7 ≤ (Ls : Int)) {M M' : MS} {sp : Int ⊕ Nat} (hsp : spX cd_crowd sp) (hC : ClsX (m_X10_crowd (xs (Int.toNat (s.1 + 1))) (xs (Int.toNat (s.1 + 2))) (xs (Int.toNat (s.1 + 3)))) s.2 sp M') (hR0 : RInv s.2 M) (hR : RefX (m_X11_crowd (xs (Int.toNat (s.1 + 1))) (xs (Int.toNat (s.1 + 2))) (xs (Int.toNat (s.1 + 3)))) (cdX cd_crowd) M sp M') : ∃ D', m_L_c19 xs Ls s = some (.inl (s.1 + 7, D')) ∧ Good D' := by
  obtain ⟨D1, e1, c1, f1⟩ := hC
  have r1 := hR0.frC f1
  cases sp with
  | inl v =>
    have hv : InR v := by exact hsp
    obtain ⟨b, D2, e2, r2, f2, t2, b2⟩ := hR _ (r1.out (v := v))
    have hb := b2 v rfl
    subst hb
    have o2 : D2.2 102 0 = b := by rw [(f2 102 (by omega)).2, sA2, if_pos ⟨rfl, rfl⟩]
    exact ⟨D2, case_19 hs hx (wn_crowd e1 hv) e2 t2 (by decide) (fun _ => ⟨hv, o2⟩), M', (c1.out (v := b)).frR (fun a ha => f2 a (Or.inl ha)), r2⟩
  | inr e =>
    obtain ⟨b, D2, e2, r2, f2, t2, -⟩ := hR _ r1
    by_cases q0 : e = 0
    · subst q0
      exact ⟨D2, case_19 hs hx (we_crowd_0 e1) e2 t2 (by decide) (fun h => absurd h (by decide)), M', c1.frR (fun a ha => f2 a (Or.inl ha)), r2⟩
    · exfalso
      simp only [spX, List.map_cons, List.map_nil, List.mem_cons, List.not_mem_nil, or_false] at hsp
      omega
abbrev cd_apart : List (Nat × Int) := [(0, 1)]
theorem wn_apart {v1 : Int} {D D1 : DT} {v : Int} (h : m_X10_apart v1 D = some (.inl v, D1)) (hv : InR v) : m_L_apart v1 D = some (0, sA D1 102 0 v) := by
  simp (disch := omega) only [m_L_apart, h, bndH_inl, gd_t, sq_eq, t0]
theorem we_apart_0 {v1 : Int} {D D1 : DT} (h : m_X10_apart v1 D = some (.inr 0, D1)) : m_L_apart v1 D = some (1, D1) := by
  simp (disch := omega) only [m_L_apart, h, bndH_inr, if_t, if_f, ↓reduceIte]
theorem comb_apart {xs : Nat → Int} {Ls : Nat} {s : Int × DT} (hx : ∀ j, InR (xs j)) (hs : 0 ≤ s.1 ∧ s.1 + 7 ≤ (Ls : Int)) {M M' : MS} {sp : Int ⊕ Nat} (hsp : spX cd_apart sp) (hC : ClsX (m_X10_apart (xs (Int.toNat (s.1 + 1)))) s.2 sp M') (hR0 : RInv s.2 M) (hR : RefX (m_X11_apart (xs (Int.toNat (s.1 + 1)))) (cdX cd_apart) M sp M') : ∃ D', m_L_c20 xs Ls s = some (.inl (s.1 + 7, D')) ∧ Good D' := by
  obtain ⟨D1, e1, c1, f1⟩ := hC
  have r1 := hR0.frC f1
  cases sp with
  | inl v =>
    have hv : InR v := by exact hsp
    obtain ⟨b, D2, e2, r2, f2, t2, b2⟩ := hR _ (r1.out (v := v))
    have hb := b2 v rfl
    subst hb
    have o2 : D2.2 102 0 = b := by rw [(f2 102 (by omega)).2, sA2, if_pos ⟨rfl, rfl⟩]
    exact ⟨D2, case_20 hs hx (wn_apart e1 hv) e2 t2 (by decide) (fun _ => ⟨hv, o2⟩), M', (c1.out (v := b)).frR (fun a ha => f2 a (Or.inl ha)), r2⟩
  | inr e =>
    obtain ⟨b, D2, e2, r2, f2, t2, -⟩ := hR _ r1
    by_cases q0 : e = 0
    · subst q0
      exact ⟨D2, case_20 hs hx (we_apart_0 e1) e2 t2 (by decide) (fun h => absurd h (by decide)), M', c1.frR (fun a ha => f2 a (Or.inl ha)), r2⟩
    · exfalso
      simp only [spX, List.map_cons, List.map_nil, List.mem_cons, List.not_mem_nil, or_false] at hsp
      omega
abbrev cd_off : List (Nat × Int) := [(0, 1)]
theorem wn_off {v1 v2 : Int} {D D1 : DT} {v : Int} (h : m_X10_off v1 v2 D = some (.inl v, D1)) (hv : InR v) : m_L_off v1 v2 D = some (0, sA D1 102 0 v) := by
  simp (disch := omega) only [m_L_off, h, bndH_inl, gd_t, sq_eq, t0]
theorem we_off_0 {v1 v2 : Int} {D D1 : DT} (h : m_X10_off v1 v2 D = some (.inr 0, D1)) : m_L_off v1 v2 D = some (1, D1) := by
  simp (disch := omega) only [m_L_off, h, bndH_inr, if_t, if_f, ↓reduceIte]
theorem comb_off {xs : Nat → Int} {Ls : Nat} {s : Int × DT} (hx : ∀ j, InR (xs j)) (hs : 0 ≤ s.1 ∧ s.1 + 7 ≤ (Ls : Int)) {M M' : MS} {sp : Int ⊕ Nat} (hsp : spX cd_off sp) (hC : ClsX (m_X10_off (xs (Int.toNat (s.1 + 1))) (xs (Int.toNat (s.1 + 2)))) s.2 sp M') (hR0 : RInv s.2 M) (hR : RefX (m_X11_off (xs (Int.toNat (s.1 + 1))) (xs (Int.toNat (s.1 + 2)))) (cdX cd_off) M sp M') : ∃ D', m_L_c21 xs Ls s = some (.inl (s.1 + 7, D')) ∧ Good D' := by
  obtain ⟨D1, e1, c1, f1⟩ := hC
  have r1 := hR0.frC f1
  cases sp with
  | inl v =>
    have hv : InR v := by exact hsp
    obtain ⟨b, D2, e2, r2, f2, t2, b2⟩ := hR _ (r1.out (v := v))
    have hb := b2 v rfl
    subst hb
    have o2 : D2.2 102 0 = b := by rw [(f2 102 (by omega)).2, sA2, if_pos ⟨rfl, rfl⟩]
    exact ⟨D2, case_21 hs hx (wn_off e1 hv) e2 t2 (by decide) (fun _ => ⟨hv, o2⟩), M', (c1.out (v := b)).frR (fun a ha => f2 a (Or.inl ha)), r2⟩
  | inr e =>
    obtain ⟨b, D2, e2, r2, f2, t2, -⟩ := hR _ r1
    by_cases q0 : e = 0
    · subst q0
      exact ⟨D2, case_21 hs hx (we_off_0 e1) e2 t2 (by decide) (fun h => absurd h (by decide)), M', c1.frR (fun a ha => f2 a (Or.inl ha)), r2⟩
    · exfalso
      simp only [spX, List.map_cons, List.map_nil, List.mem_cons, List.not_mem_nil, or_false] at hsp
      omega
abbrev cd_move : List (Nat × Int) := [(0, 1), (2, 2)]
theorem wn_move {v1 v2 v3 v4 v5 : Int} {D D1 : DT} {v : Int} (h : m_X10_move v1 v2 v3 v4 v5 D = some (.inl v, D1)) (hv : InR v) : m_L_move v1 v2 v3 v4 v5 D = some (0, sA D1 102 0 v) := by
  simp (disch := omega) only [m_L_move, h, bndH_inl, gd_t, sq_eq, t0]
theorem we_move_0 {v1 v2 v3 v4 v5 : Int} {D D1 : DT} (h : m_X10_move v1 v2 v3 v4 v5 D = some (.inr 0, D1)) : m_L_move v1 v2 v3 v4 v5 D = some (1, D1) := by
  simp (disch := omega) only [m_L_move, h, bndH_inr, if_t, if_f, ↓reduceIte]
theorem we_move_2 {v1 v2 v3 v4 v5 : Int} {D D1 : DT} (h : m_X10_move v1 v2 v3 v4 v5 D = some (.inr 2, D1)) : m_L_move v1 v2 v3 v4 v5 D = some (2, D1) := by
  simp (disch := omega) only [m_L_move, h, bndH_inr, if_t, if_f, ↓reduceIte]
theorem comb_move {xs : Nat → Int} {Ls : Nat} {s : Int × DT} (hx : ∀ j, InR (xs j)) (hs : 0 ≤ s.1 ∧ s.1 + 7 ≤ (Ls : Int)) {M M' : MS} {sp : Int ⊕ Nat} (hsp : spX cd_move sp) (hC : ClsX (m_X10_move (xs (Int.toNat (s.1 + 1))) (xs (Int.toNat (s.1 + 2))) (xs (Int.toNat (s.1 + 3))) (xs (Int.toNat (s.1 + 4))) (xs (Int.toNat (s.1 + 5)))) s.2 sp M') (hR0 : RInv s.2 M) (hR : RefX (m_X11_move (xs (Int.toNat (s.1 + 1))) (xs (Int.toNat (s.1 + 2))) (xs (Int.toNat (s.1 + 3))) (xs (Int.toNat (s.1 + 4))) (xs (Int.toNat (s.1 + 5)))) (cdX cd_move) M sp M') : ∃ D', m_L_c22 xs Ls s = some (.inl (s.1 + 7, D')) ∧ Good D' := by
  obtain ⟨D1, e1, c1, f1⟩ := hC
  have r1 := hR0.frC f1
  cases sp with
  | inl v =>
    have hv : InR v := by exact hsp
    obtain ⟨b, D2, e2, r2, f2, t2, b2⟩ := hR _ (r1.out (v := v))
    have hb := b2 v rfl
    subst hb
    have o2 : D2.2 102 0 = b := by rw [(f2 102 (by omega)).2, sA2, if_pos ⟨rfl, rfl⟩]
    exact ⟨D2, case_22 hs hx (wn_move e1 hv) e2 t2 (by decide) (fun _ => ⟨hv, o2⟩), M', (c1.out (v := b)).frR (fun a ha => f2 a (Or.inl ha)), r2⟩
  | inr e =>
    obtain ⟨b, D2, e2, r2, f2, t2, -⟩ := hR _ r1
    by_cases q0 : e = 0
    · subst q0
      exact ⟨D2, case_22 hs hx (we_move_0 e1) e2 t2 (by decide) (fun h => absurd h (by decide)), M', c1.frR (fun a ha => f2 a (Or.inl ha)), r2⟩
    by_cases q2 : e = 2
    · subst q2
      exact ⟨D2, case_22 hs hx (we_move_2 e1) e2 t2 (by decide) (fun h => absurd h (by decide)), M', c1.frR (fun a ha => f2 a (Or.inl ha)), r2⟩
    · exfalso
      simp only [spX, List.map_cons, List.map_nil, List.mem_cons, List.not_mem_nil, or_false] at hsp
      omega
abbrev cd_tries : List (Nat × Int) := [(0, 1), (2, 2)]
theorem wn_tries {v1 v2 v3 v4 v5 v6 : Int} {D D1 : DT} {v : Int} (h : m_X10_tries v1 v2 v3 v4 v5 v6 D = some (.inl v, D1)) (hv : InR v) : m_L_tries v1 v2 v3 v4 v5 v6 D = some (0, sA D1 102 0 v) := by
  simp (disch := omega) only [m_L_tries, h, bndH_inl, gd_t, sq_eq, t0]
theorem we_tries_0 {v1 v2 v3 v4 v5 v6 : Int} {D D1 : DT} (h : m_X10_tries v1 v2 v3 v4 v5 v6 D = some (.inr 0, D1)) : m_L_tries v1 v2 v3 v4 v5 v6 D = some (1, D1) := by
  simp (disch := omega) only [m_L_tries, h, bndH_inr, if_t, if_f, ↓reduceIte]
theorem we_tries_2 {v1 v2 v3 v4 v5 v6 : Int} {D D1 : DT} (h : m_X10_tries v1 v2 v3 v4 v5 v6 D = some (.inr 2, D1)) : m_L_tries v1 v2 v3 v4 v5 v6 D = some (2, D1) := by
  simp (disch := omega) only [m_L_tries, h, bndH_inr, if_t, if_f, ↓reduceIte]
theorem comb_tries {xs : Nat → Int} {Ls : Nat} {s : Int × DT} (hx : ∀ j, InR (xs j)) (hs : 0 ≤ s.1 ∧ s.1 + 7 ≤ (Ls : Int)) {M M' : MS} {sp : Int ⊕ Nat} (hsp : spX cd_tries sp) (hC : ClsX (m_X10_tries (xs (Int.toNat (s.1 + 1))) (xs (Int.toNat (s.1 + 2))) (xs (Int.toNat (s.1 + 3))) (xs (Int.toNat (s.1 + 4))) (xs (Int.toNat (s.1 + 5))) (xs (Int.toNat (s.1 + 6)))) s.2 sp M') (hR0 : RInv s.2 M) (hR : RefX (m_X11_tries (xs (Int.toNat (s.1 + 1))) (xs (Int.toNat (s.1 + 2))) (xs (Int.toNat (s.1 + 3))) (xs (Int.toNat (s.1 + 4))) (xs (Int.toNat (s.1 + 5))) (xs (Int.toNat (s.1 + 6)))) (cdX cd_tries) M sp M') : ∃ D', m_L_c23 xs Ls s = some (.inl (s.1 + 7, D')) ∧ Good D' := by
  obtain ⟨D1, e1, c1, f1⟩ := hC
  have r1 := hR0.frC f1
  cases sp with
  | inl v =>
    have hv : InR v := by exact hsp
    obtain ⟨b, D2, e2, r2, f2, t2, b2⟩ := hR _ (r1.out (v := v))
    have hb := b2 v rfl
    subst hb
    have o2 : D2.2 102 0 = b := by rw [(f2 102 (by omega)).2, sA2, if_pos ⟨rfl, rfl⟩]
    exact ⟨D2, case_23 hs hx (wn_tries e1 hv) e2 t2 (by decide) (fun _ => ⟨hv, o2⟩), M', (c1.out (v := b)).frR (fun a ha => f2 a (Or.inl ha)), r2⟩
  | inr e =>
    obtain ⟨b, D2, e2, r2, f2, t2, -⟩ := hR _ r1
    by_cases q0 : e = 0
    · subst q0
      exact ⟨D2, case_23 hs hx (we_tries_0 e1) e2 t2 (by decide) (fun h => absurd h (by decide)), M', c1.frR (fun a ha => f2 a (Or.inl ha)), r2⟩
    by_cases q2 : e = 2
    · subst q2
      exact ⟨D2, case_23 hs hx (we_tries_2 e1) e2 t2 (by decide) (fun h => absurd h (by decide)), M', c1.frR (fun a ha => f2 a (Or.inl ha)), r2⟩
    · exfalso
      simp only [spX, List.map_cons, List.map_nil, List.mem_cons, List.not_mem_nil, or_false] at hsp
      omega
abbrev cd_run : List (Nat × Int) := [(0, 1)]
theorem wn_run {v1 v2 v3 v4 : Int} {D D1 : DT} {v : Int} (h : m_X10_run v1 v2 v3 v4 D = some (.inl v, D1)) (hv : InR v) : m_L_run v1 v2 v3 v4 D = some (0, sA D1 102 0 v) := by
  simp (disch := omega) only [m_L_run, h, bndH_inl, gd_t, sq_eq, t0]
theorem we_run_0 {v1 v2 v3 v4 : Int} {D D1 : DT} (h : m_X10_run v1 v2 v3 v4 D = some (.inr 0, D1)) : m_L_run v1 v2 v3 v4 D = some (1, D1) := by
  simp (disch := omega) only [m_L_run, h, bndH_inr, if_t, if_f, ↓reduceIte]
theorem comb_run {xs : Nat → Int} {Ls : Nat} {s : Int × DT} (hx : ∀ j, InR (xs j)) (hs : 0 ≤ s.1 ∧ s.1 + 7 ≤ (Ls : Int)) {M M' : MS} {sp : Int ⊕ Nat} (hsp : spX cd_run sp) (hC : ClsX (m_X10_run (xs (Int.toNat (s.1 + 1))) (xs (Int.toNat (s.1 + 2))) (xs (Int.toNat (s.1 + 3))) (nz (xs (Int.toNat (s.1 + 4))))) s.2 sp M') (hR0 : RInv s.2 M) (hR : RefX (m_X11_run (xs (Int.toNat (s.1 + 1))) (xs (Int.toNat (s.1 + 2))) (xs (Int.toNat (s.1 + 3))) (nz (xs (Int.toNat (s.1 + 4))))) (cdX cd_run) M sp M') : ∃ D', m_L_c24 xs Ls s = some (.inl (s.1 + 7, D')) ∧ Good D' := by
  obtain ⟨D1, e1, c1, f1⟩ := hC
  have r1 := hR0.frC f1
  cases sp with
  | inl v =>
    have hv : InR v := by exact hsp
    obtain ⟨b, D2, e2, r2, f2, t2, b2⟩ := hR _ (r1.out (v := v))
    have hb := b2 v rfl
    subst hb
    have o2 : D2.2 102 0 = b := by rw [(f2 102 (by omega)).2, sA2, if_pos ⟨rfl, rfl⟩]
    exact ⟨D2, case_24 hs hx (wn_run e1 hv) e2 t2 (by decide) (fun _ => ⟨hv, o2⟩), M', (c1.out (v := b)).frR (fun a ha => f2 a (Or.inl ha)), r2⟩
  | inr e =>
    obtain ⟨b, D2, e2, r2, f2, t2, -⟩ := hR _ r1
    by_cases q0 : e = 0
    · subst q0
      exact ⟨D2, case_24 hs hx (we_run_0 e1) e2 t2 (by decide) (fun h => absurd h (by decide)), M', c1.frR (fun a ha => f2 a (Or.inl ha)), r2⟩
    · exfalso
      simp only [spX, List.map_cons, List.map_nil, List.mem_cons, List.not_mem_nil, or_false] at hsp
      omega
abbrev cd_part : List (Nat × Int) := [(0, 1)]
theorem wn_part {v1 : Int} {D D1 : DT} {v : Int} (h : m_X10_part v1 D = some (.inl v, D1)) (hv : InR v) : m_L_part v1 D = some (0, sA D1 102 0 v) := by
  simp (disch := omega) only [m_L_part, h, bndH_inl, gd_t, sq_eq, t0]
theorem we_part_0 {v1 : Int} {D D1 : DT} (h : m_X10_part v1 D = some (.inr 0, D1)) : m_L_part v1 D = some (1, D1) := by
  simp (disch := omega) only [m_L_part, h, bndH_inr, if_t, if_f, ↓reduceIte]
theorem comb_part {xs : Nat → Int} {Ls : Nat} {s : Int × DT} (hx : ∀ j, InR (xs j)) (hs : 0 ≤ s.1 ∧ s.1 + 7 ≤ (Ls : Int)) {M M' : MS} {sp : Int ⊕ Nat} (hsp : spX cd_part sp) (hC : ClsX (m_X10_part (xs (Int.toNat (s.1 + 1)))) s.2 sp M') (hR0 : RInv s.2 M) (hR : RefX (m_X11_part (xs (Int.toNat (s.1 + 1)))) (cdX cd_part) M sp M') : ∃ D', m_L_c25 xs Ls s = some (.inl (s.1 + 7, D')) ∧ Good D' := by
  obtain ⟨D1, e1, c1, f1⟩ := hC
  have r1 := hR0.frC f1
  cases sp with
  | inl v =>
    have hv : InR v := by exact hsp
    obtain ⟨b, D2, e2, r2, f2, t2, b2⟩ := hR _ (r1.out (v := v))
    have hb := b2 v rfl
    subst hb
    have o2 : D2.2 102 0 = b := by rw [(f2 102 (by omega)).2, sA2, if_pos ⟨rfl, rfl⟩]
    exact ⟨D2, case_25 hs hx (wn_part e1 hv) e2 t2 (by decide) (fun _ => ⟨hv, o2⟩), M', (c1.out (v := b)).frR (fun a ha => f2 a (Or.inl ha)), r2⟩
  | inr e =>
    obtain ⟨b, D2, e2, r2, f2, t2, -⟩ := hR _ r1
    by_cases q0 : e = 0
    · subst q0
      exact ⟨D2, case_25 hs hx (we_part_0 e1) e2 t2 (by decide) (fun h => absurd h (by decide)), M', c1.frR (fun a ha => f2 a (Or.inl ha)), r2⟩
    · exfalso
      simp only [spX, List.map_cons, List.map_nil, List.mem_cons, List.not_mem_nil, or_false] at hsp
      omega
abbrev cd_measure : List (Nat × Int) := [(0, 1), (1, 2), (2, 3)]
theorem wn_measure {v1 v2 v3 v4 : Int} {D D1 : DT} {v : Int} (h : m_X10_measure v1 v2 v3 v4 D = some (.inl v, D1)) (hv : InR v) : m_L_measure v1 v2 v3 v4 D = some (0, sA D1 102 0 v) := by
  simp (disch := omega) only [m_L_measure, h, bndH_inl, gd_t, sq_eq, t0]
theorem we_measure_0 {v1 v2 v3 v4 : Int} {D D1 : DT} (h : m_X10_measure v1 v2 v3 v4 D = some (.inr 0, D1)) : m_L_measure v1 v2 v3 v4 D = some (1, D1) := by
  simp (disch := omega) only [m_L_measure, h, bndH_inr, if_t, if_f, ↓reduceIte]
theorem we_measure_1 {v1 v2 v3 v4 : Int} {D D1 : DT} (h : m_X10_measure v1 v2 v3 v4 D = some (.inr 1, D1)) : m_L_measure v1 v2 v3 v4 D = some (2, D1) := by
  simp (disch := omega) only [m_L_measure, h, bndH_inr, if_t, if_f, ↓reduceIte]
theorem we_measure_2 {v1 v2 v3 v4 : Int} {D D1 : DT} (h : m_X10_measure v1 v2 v3 v4 D = some (.inr 2, D1)) : m_L_measure v1 v2 v3 v4 D = some (3, D1) := by
  simp (disch := omega) only [m_L_measure, h, bndH_inr, if_t, if_f, ↓reduceIte]
theorem comb_measure {xs : Nat → Int} {Ls : Nat} {s : Int × DT} (hx : ∀ j, InR (xs j)) (hs : 0 ≤ s.1 ∧ s.1 + 7 ≤ (Ls : Int)) {M M' : MS} {sp : Int ⊕ Nat} (hsp : spX cd_measure sp) (hC : ClsX (m_X10_measure (xs (Int.toNat (s.1 + 1))) (xs (Int.toNat (s.1 + 2))) (xs (Int.toNat (s.1 + 3))) (xs (Int.toNat (s.1 + 4)))) s.2 sp M') (hR0 : RInv s.2 M) (hR : RefX (m_X11_measure (xs (Int.toNat (s.1 + 1))) (xs (Int.toNat (s.1 + 2))) (xs (Int.toNat (s.1 + 3))) (xs (Int.toNat (s.1 + 4)))) (cdX cd_measure) M sp M') : ∃ D', m_L_c26 xs Ls s = some (.inl (s.1 + 7, D')) ∧ Good D' := by
  obtain ⟨D1, e1, c1, f1⟩ := hC
  have r1 := hR0.frC f1
  cases sp with
  | inl v =>
    have hv : InR v := by exact hsp
    obtain ⟨b, D2, e2, r2, f2, t2, b2⟩ := hR _ (r1.out (v := v))
    have hb := b2 v rfl
    subst hb
    have o2 : D2.2 102 0 = b := by rw [(f2 102 (by omega)).2, sA2, if_pos ⟨rfl, rfl⟩]
    exact ⟨D2, case_26 hs hx (wn_measure e1 hv) e2 t2 (by decide) (fun _ => ⟨hv, o2⟩), M', (c1.out (v := b)).frR (fun a ha => f2 a (Or.inl ha)), r2⟩
  | inr e =>
    obtain ⟨b, D2, e2, r2, f2, t2, -⟩ := hR _ r1
    by_cases q0 : e = 0
    · subst q0
      exact ⟨D2, case_26 hs hx (we_measure_0 e1) e2 t2 (by decide) (fun h => absurd h (by decide)), M', c1.frR (fun a ha => f2 a (Or.inl ha)), r2⟩
    by_cases q1 : e = 1
    · subst q1
      exact ⟨D2, case_26 hs hx (we_measure_1 e1) e2 t2 (by decide) (fun h => absurd h (by decide)), M', c1.frR (fun a ha => f2 a (Or.inl ha)), r2⟩
    by_cases q2 : e = 2
    · subst q2
      exact ⟨D2, case_26 hs hx (we_measure_2 e1) e2 t2 (by decide) (fun h => absurd h (by decide)), M', c1.frR (fun a ha => f2 a (Or.inl ha)), r2⟩
    · exfalso
      simp only [spX, List.map_cons, List.map_nil, List.mem_cons, List.not_mem_nil, or_false] at hsp
      omega
abbrev cd_best : List (Nat × Int) := [(0, 1), (1, 2), (2, 3)]
theorem wn_best {v1 v2 v3 : Int} {D D1 : DT} {v : Int} (h : m_X10_best v1 v2 v3 D = some (.inl v, D1)) (hv : InR v) : m_L_best v1 v2 v3 D = some (0, sA D1 102 0 v) := by
  simp (disch := omega) only [m_L_best, h, bndH_inl, gd_t, sq_eq, t0]
theorem we_best_0 {v1 v2 v3 : Int} {D D1 : DT} (h : m_X10_best v1 v2 v3 D = some (.inr 0, D1)) : m_L_best v1 v2 v3 D = some (1, D1) := by
  simp (disch := omega) only [m_L_best, h, bndH_inr, if_t, if_f, ↓reduceIte]
theorem we_best_1 {v1 v2 v3 : Int} {D D1 : DT} (h : m_X10_best v1 v2 v3 D = some (.inr 1, D1)) : m_L_best v1 v2 v3 D = some (2, D1) := by
  simp (disch := omega) only [m_L_best, h, bndH_inr, if_t, if_f, ↓reduceIte]
theorem we_best_2 {v1 v2 v3 : Int} {D D1 : DT} (h : m_X10_best v1 v2 v3 D = some (.inr 2, D1)) : m_L_best v1 v2 v3 D = some (3, D1) := by
  simp (disch := omega) only [m_L_best, h, bndH_inr, if_t, if_f, ↓reduceIte]
theorem comb_best {xs : Nat → Int} {Ls : Nat} {s : Int × DT} (hx : ∀ j, InR (xs j)) (hs : 0 ≤ s.1 ∧ s.1 + 7 ≤ (Ls : Int)) {M M' : MS} {sp : Int ⊕ Nat} (hsp : spX cd_best sp) (hC : ClsX (m_X10_best (xs (Int.toNat (s.1 + 1))) (xs (Int.toNat (s.1 + 2))) (xs (Int.toNat (s.1 + 3)))) s.2 sp M') (hR0 : RInv s.2 M) (hR : RefX (m_X11_best (xs (Int.toNat (s.1 + 1))) (xs (Int.toNat (s.1 + 2))) (xs (Int.toNat (s.1 + 3)))) (cdX cd_best) M sp M') : ∃ D', m_L_c27 xs Ls s = some (.inl (s.1 + 7, D')) ∧ Good D' := by
  obtain ⟨D1, e1, c1, f1⟩ := hC
  have r1 := hR0.frC f1
  cases sp with
  | inl v =>
    have hv : InR v := by exact hsp
    obtain ⟨b, D2, e2, r2, f2, t2, b2⟩ := hR _ (r1.out (v := v))
    have hb := b2 v rfl
    subst hb
    have o2 : D2.2 102 0 = b := by rw [(f2 102 (by omega)).2, sA2, if_pos ⟨rfl, rfl⟩]
    exact ⟨D2, case_27 hs hx (wn_best e1 hv) e2 t2 (by decide) (fun _ => ⟨hv, o2⟩), M', (c1.out (v := b)).frR (fun a ha => f2 a (Or.inl ha)), r2⟩
  | inr e =>
    obtain ⟨b, D2, e2, r2, f2, t2, -⟩ := hR _ r1
    by_cases q0 : e = 0
    · subst q0
      exact ⟨D2, case_27 hs hx (we_best_0 e1) e2 t2 (by decide) (fun h => absurd h (by decide)), M', c1.frR (fun a ha => f2 a (Or.inl ha)), r2⟩
    by_cases q1 : e = 1
    · subst q1
      exact ⟨D2, case_27 hs hx (we_best_1 e1) e2 t2 (by decide) (fun h => absurd h (by decide)), M', c1.frR (fun a ha => f2 a (Or.inl ha)), r2⟩
    by_cases q2 : e = 2
    · subst q2
      exact ⟨D2, case_27 hs hx (we_best_2 e1) e2 t2 (by decide) (fun h => absurd h (by decide)), M', c1.frR (fun a ha => f2 a (Or.inl ha)), r2⟩
    · exfalso
      simp only [spX, List.map_cons, List.map_nil, List.mem_cons, List.not_mem_nil, or_false] at hsp
      omega
abbrev cd_nearest : List (Nat × Int) := [(0, 1)]
theorem wn_nearest {v1 v2 : Int} {D D1 : DT} {v : Int} (h : m_X10_nearest v1 v2 D = some (.inl v, D1)) (hv : InR v) : m_L_nearest v1 v2 D = some (0, sA D1 102 0 v) := by
  simp (disch := omega) only [m_L_nearest, h, bndH_inl, gd_t, sq_eq, t0]
theorem we_nearest_0 {v1 v2 : Int} {D D1 : DT} (h : m_X10_nearest v1 v2 D = some (.inr 0, D1)) : m_L_nearest v1 v2 D = some (1, D1) := by
  simp (disch := omega) only [m_L_nearest, h, bndH_inr, if_t, if_f, ↓reduceIte]
theorem comb_nearest {xs : Nat → Int} {Ls : Nat} {s : Int × DT} (hx : ∀ j, InR (xs j)) (hs : 0 ≤ s.1 ∧ s.1 + 7 ≤ (Ls : Int)) {M M' : MS} {sp : Int ⊕ Nat} (hsp : spX cd_nearest sp) (hC : ClsX (m_X10_nearest (xs (Int.toNat (s.1 + 1))) (xs (Int.toNat (s.1 + 2)))) s.2 sp M') (hR0 : RInv s.2 M) (hR : RefX (m_X11_nearest (xs (Int.toNat (s.1 + 1))) (xs (Int.toNat (s.1 + 2)))) (cdX cd_nearest) M sp M') : ∃ D', m_L_c28 xs Ls s = some (.inl (s.1 + 7, D')) ∧ Good D' := by
  obtain ⟨D1, e1, c1, f1⟩ := hC
  have r1 := hR0.frC f1
  cases sp with
  | inl v =>
    have hv : InR v := by exact hsp
    obtain ⟨b, D2, e2, r2, f2, t2, b2⟩ := hR _ (r1.out (v := v))
    have hb := b2 v rfl
    subst hb
    have o2 : D2.2 102 0 = b := by rw [(f2 102 (by omega)).2, sA2, if_pos ⟨rfl, rfl⟩]
    exact ⟨D2, case_28 hs hx (wn_nearest e1 hv) e2 t2 (by decide) (fun _ => ⟨hv, o2⟩), M', (c1.out (v := b)).frR (fun a ha => f2 a (Or.inl ha)), r2⟩
  | inr e =>
    obtain ⟨b, D2, e2, r2, f2, t2, -⟩ := hR _ r1
    by_cases q0 : e = 0
    · subst q0
      exact ⟨D2, case_28 hs hx (we_nearest_0 e1) e2 t2 (by decide) (fun h => absurd h (by decide)), M', c1.frR (fun a ha => f2 a (Or.inl ha)), r2⟩
    · exfalso
      simp only [spX, List.map_cons, List.map_nil, List.mem_cons, List.not_mem_nil, or_false] at hsp
      omega
abbrev cd_served : List (Nat × Int) := [(0, 1)]
theorem wn_served {v1 v2 : Int} {D D1 : DT} {v : Int} (h : m_X10_served v1 v2 D = some (.inl v, D1)) (hv : InR v) : m_L_served v1 v2 D = some (0, sA D1 102 0 v) := by
  simp (disch := omega) only [m_L_served, h, bndH_inl, gd_t, sq_eq, t0]
theorem we_served_0 {v1 v2 : Int} {D D1 : DT} (h : m_X10_served v1 v2 D = some (.inr 0, D1)) : m_L_served v1 v2 D = some (1, D1) := by
  simp (disch := omega) only [m_L_served, h, bndH_inr, if_t, if_f, ↓reduceIte]
theorem comb_served {xs : Nat → Int} {Ls : Nat} {s : Int × DT} (hx : ∀ j, InR (xs j)) (hs : 0 ≤ s.1 ∧ s.1 + 7 ≤ (Ls : Int)) {M M' : MS} {sp : Int ⊕ Nat} (hsp : spX cd_served sp) (hC : ClsX (m_X10_served (xs (Int.toNat (s.1 + 1))) (xs (Int.toNat (s.1 + 2)))) s.2 sp M') (hR0 : RInv s.2 M) (hR : RefX (m_X11_served (xs (Int.toNat (s.1 + 1))) (xs (Int.toNat (s.1 + 2)))) (cdX cd_served) M sp M') : ∃ D', m_L_c29 xs Ls s = some (.inl (s.1 + 7, D')) ∧ Good D' := by
  obtain ⟨D1, e1, c1, f1⟩ := hC
  have r1 := hR0.frC f1
  cases sp with
  | inl v =>
    have hv : InR v := by exact hsp
    obtain ⟨b, D2, e2, r2, f2, t2, b2⟩ := hR _ (r1.out (v := v))
    have hb := b2 v rfl
    subst hb
    have o2 : D2.2 102 0 = b := by rw [(f2 102 (by omega)).2, sA2, if_pos ⟨rfl, rfl⟩]
    exact ⟨D2, case_29 hs hx (wn_served e1 hv) e2 t2 (by decide) (fun _ => ⟨hv, o2⟩), M', (c1.out (v := b)).frR (fun a ha => f2 a (Or.inl ha)), r2⟩
  | inr e =>
    obtain ⟨b, D2, e2, r2, f2, t2, -⟩ := hR _ r1
    by_cases q0 : e = 0
    · subst q0
      exact ⟨D2, case_29 hs hx (we_served_0 e1) e2 t2 (by decide) (fun h => absurd h (by decide)), M', c1.frR (fun a ha => f2 a (Or.inl ha)), r2⟩
    · exfalso
      simp only [spX, List.map_cons, List.map_nil, List.mem_cons, List.not_mem_nil, or_false] at hsp
      omega
abbrev cd_thinned : List (Nat × Int) := [(0, 1), (2, 2)]
theorem wn_thinned {v1 v2 v3 : Int} {D D1 : DT} {v : Int} (h : m_X10_thinned v1 v2 v3 D = some (.inl v, D1)) (hv : InR v) : m_L_thinned v1 v2 v3 D = some (0, sA D1 102 0 v) := by
  simp (disch := omega) only [m_L_thinned, h, bndH_inl, gd_t, sq_eq, t0]
theorem we_thinned_0 {v1 v2 v3 : Int} {D D1 : DT} (h : m_X10_thinned v1 v2 v3 D = some (.inr 0, D1)) : m_L_thinned v1 v2 v3 D = some (1, D1) := by
  simp (disch := omega) only [m_L_thinned, h, bndH_inr, if_t, if_f, ↓reduceIte]
theorem we_thinned_2 {v1 v2 v3 : Int} {D D1 : DT} (h : m_X10_thinned v1 v2 v3 D = some (.inr 2, D1)) : m_L_thinned v1 v2 v3 D = some (2, D1) := by
  simp (disch := omega) only [m_L_thinned, h, bndH_inr, if_t, if_f, ↓reduceIte]
theorem comb_thinned {xs : Nat → Int} {Ls : Nat} {s : Int × DT} (hx : ∀ j, InR (xs j)) (hs : 0 ≤ s.1 ∧ s.1 + 7 ≤ (Ls : Int)) {M M' : MS} {sp : Int ⊕ Nat} (hsp : spX cd_thinned sp) (hC : ClsX (m_X10_thinned (xs (Int.toNat (s.1 + 1))) (xs (Int.toNat (s.1 + 2))) (xs (Int.toNat (s.1 + 3)))) s.2 sp M') (hR0 : RInv s.2 M) (hR : RefX (m_X11_thinned (xs (Int.toNat (s.1 + 1))) (xs (Int.toNat (s.1 + 2))) (xs (Int.toNat (s.1 + 3)))) (cdX cd_thinned) M sp M') : ∃ D', m_L_c30 xs Ls s = some (.inl (s.1 + 7, D')) ∧ Good D' := by
  obtain ⟨D1, e1, c1, f1⟩ := hC
  have r1 := hR0.frC f1
  cases sp with
  | inl v =>
    have hv : InR v := by exact hsp
    obtain ⟨b, D2, e2, r2, f2, t2, b2⟩ := hR _ (r1.out (v := v))
    have hb := b2 v rfl
    subst hb
    have o2 : D2.2 102 0 = b := by rw [(f2 102 (by omega)).2, sA2, if_pos ⟨rfl, rfl⟩]
    exact ⟨D2, case_30 hs hx (wn_thinned e1 hv) e2 t2 (by decide) (fun _ => ⟨hv, o2⟩), M', (c1.out (v := b)).frR (fun a ha => f2 a (Or.inl ha)), r2⟩
  | inr e =>
    obtain ⟨b, D2, e2, r2, f2, t2, -⟩ := hR _ r1
    by_cases q0 : e = 0
    · subst q0
      exact ⟨D2, case_30 hs hx (we_thinned_0 e1) e2 t2 (by decide) (fun h => absurd h (by decide)), M', c1.frR (fun a ha => f2 a (Or.inl ha)), r2⟩
    by_cases q2 : e = 2
    · subst q2
      exact ⟨D2, case_30 hs hx (we_thinned_2 e1) e2 t2 (by decide) (fun h => absurd h (by decide)), M', c1.frR (fun a ha => f2 a (Or.inl ha)), r2⟩
    · exfalso
      simp only [spX, List.map_cons, List.map_nil, List.mem_cons, List.not_mem_nil, or_false] at hsp
      omega
abbrev cd_tour : List (Nat × Int) := [(0, 1)]
theorem wn_tour {v1 v2 : Int} {D D1 : DT} {v : Int} (h : m_X10_tour v1 v2 D = some (.inl v, D1)) (hv : InR v) : m_L_tour v1 v2 D = some (0, sA D1 102 0 v) := by
  simp (disch := omega) only [m_L_tour, h, bndH_inl, gd_t, sq_eq, t0]
theorem we_tour_0 {v1 v2 : Int} {D D1 : DT} (h : m_X10_tour v1 v2 D = some (.inr 0, D1)) : m_L_tour v1 v2 D = some (1, D1) := by
  simp (disch := omega) only [m_L_tour, h, bndH_inr, if_t, if_f, ↓reduceIte]
theorem comb_tour {xs : Nat → Int} {Ls : Nat} {s : Int × DT} (hx : ∀ j, InR (xs j)) (hs : 0 ≤ s.1 ∧ s.1 + 7 ≤ (Ls : Int)) {M M' : MS} {sp : Int ⊕ Nat} (hsp : spX cd_tour sp) (hC : ClsX (m_X10_tour (xs (Int.toNat (s.1 + 1))) (xs (Int.toNat (s.1 + 2)))) s.2 sp M') (hR0 : RInv s.2 M) (hR : RefX (m_X11_tour (xs (Int.toNat (s.1 + 1))) (xs (Int.toNat (s.1 + 2)))) (cdX cd_tour) M sp M') : ∃ D', m_L_c31 xs Ls s = some (.inl (s.1 + 7, D')) ∧ Good D' := by
  obtain ⟨D1, e1, c1, f1⟩ := hC
  have r1 := hR0.frC f1
  cases sp with
  | inl v =>
    have hv : InR v := by exact hsp
    obtain ⟨b, D2, e2, r2, f2, t2, b2⟩ := hR _ (r1.out (v := v))
    have hb := b2 v rfl
    subst hb
    have o2 : D2.2 102 0 = b := by rw [(f2 102 (by omega)).2, sA2, if_pos ⟨rfl, rfl⟩]
    exact ⟨D2, case_31 hs hx (wn_tour e1 hv) e2 t2 (by decide) (fun _ => ⟨hv, o2⟩), M', (c1.out (v := b)).frR (fun a ha => f2 a (Or.inl ha)), r2⟩
  | inr e =>
    obtain ⟨b, D2, e2, r2, f2, t2, -⟩ := hR _ r1
    by_cases q0 : e = 0
    · subst q0
      exact ⟨D2, case_31 hs hx (we_tour_0 e1) e2 t2 (by decide) (fun h => absurd h (by decide)), M', c1.frR (fun a ha => f2 a (Or.inl ha)), r2⟩
    · exfalso
      simp only [spX, List.map_cons, List.map_nil, List.mem_cons, List.not_mem_nil, or_false] at hsp
      omega
abbrev cd_way : List (Nat × Int) := [(0, 1)]
theorem wn_way {v1 : Int} {D D1 : DT} {v : Int} (h : m_X10_way v1 D = some (.inl v, D1)) (hv : InR v) : m_L_way v1 D = some (0, sA D1 102 0 v) := by
  simp (disch := omega) only [m_L_way, h, bndH_inl, gd_t, sq_eq, t0]
theorem we_way_0 {v1 : Int} {D D1 : DT} (h : m_X10_way v1 D = some (.inr 0, D1)) : m_L_way v1 D = some (1, D1) := by
  simp (disch := omega) only [m_L_way, h, bndH_inr, if_t, if_f, ↓reduceIte]
theorem comb_way {xs : Nat → Int} {Ls : Nat} {s : Int × DT} (hx : ∀ j, InR (xs j)) (hs : 0 ≤ s.1 ∧ s.1 + 7 ≤ (Ls : Int)) {M M' : MS} {sp : Int ⊕ Nat} (hsp : spX cd_way sp) (hC : ClsX (m_X10_way (xs (Int.toNat (s.1 + 1)))) s.2 sp M') (hR0 : RInv s.2 M) (hR : RefX (m_X11_way (xs (Int.toNat (s.1 + 1)))) (cdX cd_way) M sp M') : ∃ D', m_L_c32 xs Ls s = some (.inl (s.1 + 7, D')) ∧ Good D' := by
  obtain ⟨D1, e1, c1, f1⟩ := hC
  have r1 := hR0.frC f1
  cases sp with
  | inl v =>
    have hv : InR v := by exact hsp
    obtain ⟨b, D2, e2, r2, f2, t2, b2⟩ := hR _ (r1.out (v := v))
    have hb := b2 v rfl
    subst hb
    have o2 : D2.2 102 0 = b := by rw [(f2 102 (by omega)).2, sA2, if_pos ⟨rfl, rfl⟩]
    exact ⟨D2, case_32 hs hx (wn_way e1 hv) e2 t2 (by decide) (fun _ => ⟨hv, o2⟩), M', (c1.out (v := b)).frR (fun a ha => f2 a (Or.inl ha)), r2⟩
  | inr e =>
    obtain ⟨b, D2, e2, r2, f2, t2, -⟩ := hR _ r1
    by_cases q0 : e = 0
    · subst q0
      exact ⟨D2, case_32 hs hx (we_way_0 e1) e2 t2 (by decide) (fun h => absurd h (by decide)), M', c1.frR (fun a ha => f2 a (Or.inl ha)), r2⟩
    · exfalso
      simp only [spX, List.map_cons, List.map_nil, List.mem_cons, List.not_mem_nil, or_false] at hsp
      omega
abbrev cd_hull : List (Nat × Int) := [(0, 1)]
theorem wn_hull {v1 v2 : Int} {D D1 : DT} {v : Int} (h : m_X10_hull v1 v2 D = some (.inl v, D1)) (hv : InR v) : m_L_hull v1 v2 D = some (0, sA D1 102 0 v) := by
  simp (disch := omega) only [m_L_hull, h, bndH_inl, gd_t, sq_eq, t0]
theorem we_hull_0 {v1 v2 : Int} {D D1 : DT} (h : m_X10_hull v1 v2 D = some (.inr 0, D1)) : m_L_hull v1 v2 D = some (1, D1) := by
  simp (disch := omega) only [m_L_hull, h, bndH_inr, if_t, if_f, ↓reduceIte]
theorem comb_hull {xs : Nat → Int} {Ls : Nat} {s : Int × DT} (hx : ∀ j, InR (xs j)) (hs : 0 ≤ s.1 ∧ s.1 + 7 ≤ (Ls : Int)) {M M' : MS} {sp : Int ⊕ Nat} (hsp : spX cd_hull sp) (hC : ClsX (m_X10_hull (xs (Int.toNat (s.1 + 1))) (xs (Int.toNat (s.1 + 2)))) s.2 sp M') (hR0 : RInv s.2 M) (hR : RefX (m_X11_hull (xs (Int.toNat (s.1 + 1))) (xs (Int.toNat (s.1 + 2)))) (cdX cd_hull) M sp M') : ∃ D', m_L_c33 xs Ls s = some (.inl (s.1 + 7, D')) ∧ Good D' := by
  obtain ⟨D1, e1, c1, f1⟩ := hC
  have r1 := hR0.frC f1
  cases sp with
  | inl v =>
    have hv : InR v := by exact hsp
    obtain ⟨b, D2, e2, r2, f2, t2, b2⟩ := hR _ (r1.out (v := v))
    have hb := b2 v rfl
    subst hb
    have o2 : D2.2 102 0 = b := by rw [(f2 102 (by omega)).2, sA2, if_pos ⟨rfl, rfl⟩]
    exact ⟨D2, case_33 hs hx (wn_hull e1 hv) e2 t2 (by decide) (fun _ => ⟨hv, o2⟩), M', (c1.out (v := b)).frR (fun a ha => f2 a (Or.inl ha)), r2⟩
  | inr e =>
    obtain ⟨b, D2, e2, r2, f2, t2, -⟩ := hR _ r1
    by_cases q0 : e = 0
    · subst q0
      exact ⟨D2, case_33 hs hx (we_hull_0 e1) e2 t2 (by decide) (fun h => absurd h (by decide)), M', c1.frR (fun a ha => f2 a (Or.inl ha)), r2⟩
    · exfalso
      simp only [spX, List.map_cons, List.map_nil, List.mem_cons, List.not_mem_nil, or_false] at hsp
      omega
abbrev cd_area : List (Nat × Int) := [(0, 1)]
theorem wn_area {v1 : Int} {D D1 : DT} {v : Int} (h : m_X10_area v1 D = some (.inl v, D1)) (hv : InR v) : m_L_area v1 D = some (0, sA D1 102 0 v) := by
  simp (disch := omega) only [m_L_area, h, bndH_inl, gd_t, sq_eq, t0]
theorem we_area_0 {v1 : Int} {D D1 : DT} (h : m_X10_area v1 D = some (.inr 0, D1)) : m_L_area v1 D = some (1, D1) := by
  simp (disch := omega) only [m_L_area, h, bndH_inr, if_t, if_f, ↓reduceIte]
theorem comb_area {xs : Nat → Int} {Ls : Nat} {s : Int × DT} (hx : ∀ j, InR (xs j)) (hs : 0 ≤ s.1 ∧ s.1 + 7 ≤ (Ls : Int)) {M M' : MS} {sp : Int ⊕ Nat} (hsp : spX cd_area sp) (hC : ClsX (m_X10_area (xs (Int.toNat (s.1 + 1)))) s.2 sp M') (hR0 : RInv s.2 M) (hR : RefX (m_X11_area (xs (Int.toNat (s.1 + 1)))) (cdX cd_area) M sp M') : ∃ D', m_L_c34 xs Ls s = some (.inl (s.1 + 7, D')) ∧ Good D' := by
  obtain ⟨D1, e1, c1, f1⟩ := hC
  have r1 := hR0.frC f1
  cases sp with
  | inl v =>
    have hv : InR v := by exact hsp
    obtain ⟨b, D2, e2, r2, f2, t2, b2⟩ := hR _ (r1.out (v := v))
    have hb := b2 v rfl
    subst hb
    have o2 : D2.2 102 0 = b := by rw [(f2 102 (by omega)).2, sA2, if_pos ⟨rfl, rfl⟩]
    exact ⟨D2, case_34 hs hx (wn_area e1 hv) e2 t2 (by decide) (fun _ => ⟨hv, o2⟩), M', (c1.out (v := b)).frR (fun a ha => f2 a (Or.inl ha)), r2⟩
  | inr e =>
    obtain ⟨b, D2, e2, r2, f2, t2, -⟩ := hR _ r1
    by_cases q0 : e = 0
    · subst q0
      exact ⟨D2, case_34 hs hx (we_area_0 e1) e2 t2 (by decide) (fun h => absurd h (by decide)), M', c1.frR (fun a ha => f2 a (Or.inl ha)), r2⟩
    · exfalso
      simp only [spX, List.map_cons, List.map_nil, List.mem_cons, List.not_mem_nil, or_false] at hsp
      omega
abbrev cd_middle : List (Nat × Int) := [(0, 1)]
theorem wn_middle {v1 v2 : Int} {D D1 : DT} {v : Int} (h : m_X10_middle v1 v2 D = some (.inl v, D1)) (hv : InR v) : m_L_middle v1 v2 D = some (0, sA D1 102 0 v) := by
  simp (disch := omega) only [m_L_middle, h, bndH_inl, gd_t, sq_eq, t0]
theorem we_middle_0 {v1 v2 : Int} {D D1 : DT} (h : m_X10_middle v1 v2 D = some (.inr 0, D1)) : m_L_middle v1 v2 D = some (1, D1) := by
  simp (disch := omega) only [m_L_middle, h, bndH_inr, if_t, if_f, ↓reduceIte]
theorem comb_middle {xs : Nat → Int} {Ls : Nat} {s : Int × DT} (hx : ∀ j, InR (xs j)) (hs : 0 ≤ s.1 ∧ s.1 + 7 ≤ (Ls : Int)) {M M' : MS} {sp : Int ⊕ Nat} (hsp : spX cd_middle sp) (hC : ClsX (m_X10_middle (xs (Int.toNat (s.1 + 1))) (xs (Int.toNat (s.1 + 2)))) s.2 sp M') (hR0 : RInv s.2 M) (hR : RefX (m_X11_middle (xs (Int.toNat (s.1 + 1))) (xs (Int.toNat (s.1 + 2)))) (cdX cd_middle) M sp M') : ∃ D', m_L_c35 xs Ls s = some (.inl (s.1 + 7, D')) ∧ Good D' := by
  obtain ⟨D1, e1, c1, f1⟩ := hC
  have r1 := hR0.frC f1
  cases sp with
  | inl v =>
    have hv : InR v := by exact hsp
    obtain ⟨b, D2, e2, r2, f2, t2, b2⟩ := hR _ (r1.out (v := v))
    have hb := b2 v rfl
    subst hb
    have o2 : D2.2 102 0 = b := by rw [(f2 102 (by omega)).2, sA2, if_pos ⟨rfl, rfl⟩]
    exact ⟨D2, case_35 hs hx (wn_middle e1 hv) e2 t2 (by decide) (fun _ => ⟨hv, o2⟩), M', (c1.out (v := b)).frR (fun a ha => f2 a (Or.inl ha)), r2⟩
  | inr e =>
    obtain ⟨b, D2, e2, r2, f2, t2, -⟩ := hR _ r1
    by_cases q0 : e = 0
    · subst q0
      exact ⟨D2, case_35 hs hx (we_middle_0 e1) e2 t2 (by decide) (fun h => absurd h (by decide)), M', c1.frR (fun a ha => f2 a (Or.inl ha)), r2⟩
    · exfalso
      simp only [spX, List.map_cons, List.map_nil, List.mem_cons, List.not_mem_nil, or_false] at hsp
      omega
abbrev cd_line : List (Nat × Int) := [(0, 1)]
theorem wn_line {v1 v2 v3 : Int} {D D1 : DT} {v : Int} (h : m_X10_line v1 v2 v3 D = some (.inl v, D1)) (hv : InR v) : m_L_line v1 v2 v3 D = some (0, sA D1 102 0 v) := by
  simp (disch := omega) only [m_L_line, h, bndH_inl, gd_t, sq_eq, t0]
theorem we_line_0 {v1 v2 v3 : Int} {D D1 : DT} (h : m_X10_line v1 v2 v3 D = some (.inr 0, D1)) : m_L_line v1 v2 v3 D = some (1, D1) := by
  simp (disch := omega) only [m_L_line, h, bndH_inr, if_t, if_f, ↓reduceIte]
theorem comb_line {xs : Nat → Int} {Ls : Nat} {s : Int × DT} (hx : ∀ j, InR (xs j)) (hs : 0 ≤ s.1 ∧ s.1 + 7 ≤ (Ls : Int)) {M M' : MS} {sp : Int ⊕ Nat} (hsp : spX cd_line sp) (hC : ClsX (m_X10_line (nz (xs (Int.toNat (s.1 + 1)))) (xs (Int.toNat (s.1 + 2))) (xs (Int.toNat (s.1 + 3)))) s.2 sp M') (hR0 : RInv s.2 M) (hR : RefX (m_X11_line_ (nz (xs (Int.toNat (s.1 + 1)))) (xs (Int.toNat (s.1 + 2))) (xs (Int.toNat (s.1 + 3)))) (cdX cd_line) M sp M') : ∃ D', m_L_c36 xs Ls s = some (.inl (s.1 + 7, D')) ∧ Good D' := by
  obtain ⟨D1, e1, c1, f1⟩ := hC
  have r1 := hR0.frC f1
  cases sp with
  | inl v =>
    have hv : InR v := by exact hsp
    obtain ⟨b, D2, e2, r2, f2, t2, b2⟩ := hR _ (r1.out (v := v))
    have hb := b2 v rfl
    subst hb
    have o2 : D2.2 102 0 = b := by rw [(f2 102 (by omega)).2, sA2, if_pos ⟨rfl, rfl⟩]
    exact ⟨D2, case_36 hs hx (wn_line e1 hv) e2 t2 (by decide) (fun _ => ⟨hv, o2⟩), M', (c1.out (v := b)).frR (fun a ha => f2 a (Or.inl ha)), r2⟩
  | inr e =>
    obtain ⟨b, D2, e2, r2, f2, t2, -⟩ := hR _ r1
    by_cases q0 : e = 0
    · subst q0
      exact ⟨D2, case_36 hs hx (we_line_0 e1) e2 t2 (by decide) (fun h => absurd h (by decide)), M', c1.frR (fun a ha => f2 a (Or.inl ha)), r2⟩
    · exfalso
      simp only [spX, List.map_cons, List.map_nil, List.mem_cons, List.not_mem_nil, or_false] at hsp
      omega
abbrev cd_joined : List (Nat × Int) := [(0, 1), (2, 2)]
theorem wn_joined {v1 v2 v3 : Int} {D D1 : DT} {v : Int} (h : m_X10_joined v1 v2 v3 D = some (.inl v, D1)) (hv : InR v) : m_L_joined v1 v2 v3 D = some (0, sA D1 102 0 v) := by
  simp (disch := omega) only [m_L_joined, h, bndH_inl, gd_t, sq_eq, t0]
theorem we_joined_0 {v1 v2 v3 : Int} {D D1 : DT} (h : m_X10_joined v1 v2 v3 D = some (.inr 0, D1)) : m_L_joined v1 v2 v3 D = some (1, D1) := by
  simp (disch := omega) only [m_L_joined, h, bndH_inr, if_t, if_f, ↓reduceIte]
theorem we_joined_2 {v1 v2 v3 : Int} {D D1 : DT} (h : m_X10_joined v1 v2 v3 D = some (.inr 2, D1)) : m_L_joined v1 v2 v3 D = some (2, D1) := by
  simp (disch := omega) only [m_L_joined, h, bndH_inr, if_t, if_f, ↓reduceIte]
theorem comb_joined {xs : Nat → Int} {Ls : Nat} {s : Int × DT} (hx : ∀ j, InR (xs j)) (hs : 0 ≤ s.1 ∧ s.1 + 7 ≤ (Ls : Int)) {M M' : MS} {sp : Int ⊕ Nat} (hsp : spX cd_joined sp) (hC : ClsX (m_X10_joined (xs (Int.toNat (s.1 + 1))) (xs (Int.toNat (s.1 + 2))) (xs (Int.toNat (s.1 + 3)))) s.2 sp M') (hR0 : RInv s.2 M) (hR : RefX (m_X11_joined (xs (Int.toNat (s.1 + 1))) (xs (Int.toNat (s.1 + 2))) (xs (Int.toNat (s.1 + 3)))) (cdX cd_joined) M sp M') : ∃ D', m_L_c37 xs Ls s = some (.inl (s.1 + 7, D')) ∧ Good D' := by
  obtain ⟨D1, e1, c1, f1⟩ := hC
  have r1 := hR0.frC f1
  cases sp with
  | inl v =>
    have hv : InR v := by exact hsp
    obtain ⟨b, D2, e2, r2, f2, t2, b2⟩ := hR _ (r1.out (v := v))
    have hb := b2 v rfl
    subst hb
    have o2 : D2.2 102 0 = b := by rw [(f2 102 (by omega)).2, sA2, if_pos ⟨rfl, rfl⟩]
    exact ⟨D2, case_37 hs hx (wn_joined e1 hv) e2 t2 (by decide) (fun _ => ⟨hv, o2⟩), M', (c1.out (v := b)).frR (fun a ha => f2 a (Or.inl ha)), r2⟩
  | inr e =>
    obtain ⟨b, D2, e2, r2, f2, t2, -⟩ := hR _ r1
    by_cases q0 : e = 0
    · subst q0
      exact ⟨D2, case_37 hs hx (we_joined_0 e1) e2 t2 (by decide) (fun h => absurd h (by decide)), M', c1.frR (fun a ha => f2 a (Or.inl ha)), r2⟩
    by_cases q2 : e = 2
    · subst q2
      exact ⟨D2, case_37 hs hx (we_joined_2 e1) e2 t2 (by decide) (fun h => absurd h (by decide)), M', c1.frR (fun a ha => f2 a (Or.inl ha)), r2⟩
    · exfalso
      simp only [spX, List.map_cons, List.map_nil, List.mem_cons, List.not_mem_nil, or_false] at hsp
      omega
abbrev cd_write : List (Nat × Int) := [(0, 1)]
theorem wn_write {v1 : Int} {D D1 : DT} {v : Int} (h : m_X10_write v1 D = some (.inl v, D1)) (hv : InR v) : m_L_write v1 D = some (0, sA D1 102 0 v) := by
  simp (disch := omega) only [m_L_write, h, bndH_inl, gd_t, sq_eq, t0]
theorem we_write_0 {v1 : Int} {D D1 : DT} (h : m_X10_write v1 D = some (.inr 0, D1)) : m_L_write v1 D = some (1, D1) := by
  simp (disch := omega) only [m_L_write, h, bndH_inr, if_t, if_f, ↓reduceIte]
theorem comb_write {xs : Nat → Int} {Ls : Nat} {s : Int × DT} (hx : ∀ j, InR (xs j)) (hs : 0 ≤ s.1 ∧ s.1 + 7 ≤ (Ls : Int)) {M M' : MS} {sp : Int ⊕ Nat} (hsp : spX cd_write sp) (hC : ClsX (m_X10_write (xs (Int.toNat (s.1 + 1)))) s.2 sp M') (hR0 : RInv s.2 M) (hR : RefX (m_X11_write (xs (Int.toNat (s.1 + 1)))) (cdX cd_write) M sp M') : ∃ D', m_L_c40 xs Ls s = some (.inl (s.1 + 7, D')) ∧ Good D' := by
  obtain ⟨D1, e1, c1, f1⟩ := hC
  have r1 := hR0.frC f1
  cases sp with
  | inl v =>
    have hv : InR v := by exact hsp
    obtain ⟨b, D2, e2, r2, f2, t2, b2⟩ := hR _ (r1.out (v := v))
    have hb := b2 v rfl
    subst hb
    have o2 : D2.2 102 0 = b := by rw [(f2 102 (by omega)).2, sA2, if_pos ⟨rfl, rfl⟩]
    exact ⟨D2, case_40 hs hx (wn_write e1 hv) e2 t2 (by decide) (fun _ => ⟨hv, o2⟩), M', (c1.out (v := b)).frR (fun a ha => f2 a (Or.inl ha)), r2⟩
  | inr e =>
    obtain ⟨b, D2, e2, r2, f2, t2, -⟩ := hR _ r1
    by_cases q0 : e = 0
    · subst q0
      exact ⟨D2, case_40 hs hx (we_write_0 e1) e2 t2 (by decide) (fun h => absurd h (by decide)), M', c1.frR (fun a ha => f2 a (Or.inl ha)), r2⟩
    · exfalso
      simp only [spX, List.map_cons, List.map_nil, List.mem_cons, List.not_mem_nil, or_false] at hsp
      omega
theorem comb_feed {xs : Nat → Int} {Ls : Nat} {s : Int × DT} (hx : ∀ j, InR (xs j)) (hs : 0 ≤ s.1 ∧ s.1 + 7 ≤ (Ls : Int)) {M M' : MS} {v : Int} (hv : InR v) (hC : ∃ D1, m_X10_feed (xs (Int.toNat (s.1 + 1))) (xs (Int.toNat (s.1 + 2))) (xs (Int.toNat (s.1 + 3))) (xs (Int.toNat (s.1 + 4))) (xs (Int.toNat (s.1 + 5))) s.2 = some (v, D1) ∧ CInv D1 M' ∧ FrC s.2 D1) (hR0 : RInv s.2 M) (hR : ∀ D, RInv D M → ∃ D2, m_X11_feed (xs (Int.toNat (s.1 + 1))) (xs (Int.toNat (s.1 + 2))) (xs (Int.toNat (s.1 + 3))) (xs (Int.toNat (s.1 + 4))) (xs (Int.toNat (s.1 + 5))) D = some (v, D2) ∧ RInv D2 M' ∧ FrR D D2) : ∃ D', m_L_c0 xs Ls s = some (.inl (s.1 + 7, D')) ∧ Good D' := by
  obtain ⟨D1, e1, c1, f1⟩ := hC
  obtain ⟨D2, e2, r2, f2⟩ := hR _ (hR0.frC f1)
  exact ⟨D2, case_0 hs hx e1 e2 hv, M', c1.frR (fun a ha => f2 a (Or.inl ha)), r2⟩
theorem comb_end {xs : Nat → Int} {Ls : Nat} {s : Int × DT} (hx : ∀ j, InR (xs j)) (hs : 0 ≤ s.1 ∧ s.1 + 7 ≤ (Ls : Int)) {M M' : MS} {v : Int} (hv : InR v) (hC : ∃ D1, m_X10_end (xs (Int.toNat (s.1 + 1))) s.2 = some (v, D1) ∧ CInv D1 M' ∧ FrC s.2 D1) (hR0 : RInv s.2 M) (hR : ∀ D, RInv D M → ∃ D2, m_X11_end (xs (Int.toNat (s.1 + 1))) D = some (v, D2) ∧ RInv D2 M' ∧ FrR D D2) : ∃ D', m_L_c1 xs Ls s = some (.inl (s.1 + 7, D')) ∧ Good D' := by
  obtain ⟨D1, e1, c1, f1⟩ := hC
  obtain ⟨D2, e2, r2, f2⟩ := hR _ (hR0.frC f1)
  exact ⟨D2, case_1 hs hx e1 e2 hv, M', c1.frR (fun a ha => f2 a (Or.inl ha)), r2⟩
theorem comb_fault {xs : Nat → Int} {Ls : Nat} {s : Int × DT} (hx : ∀ j, InR (xs j)) (hs : 0 ≤ s.1 ∧ s.1 + 7 ≤ (Ls : Int)) {M : MS} {v : Int} (hv : InR v) (hC : m_X10_fault s.2 = some v) (hC0 : CInv s.2 M) (hR0 : RInv s.2 M) (hR : ∀ D, RInv D M → ∃ D2, m_X11_fault D = some (v, D2) ∧ RInv D2 M ∧ FrR D D2) : ∃ D', m_L_c3 xs Ls s = some (.inl (s.1 + 7, D')) ∧ Good D' := by
  obtain ⟨D2, e2, r2, f2⟩ := hR _ hR0
  exact ⟨D2, case_3 (D1 := s.2) hs hx hC e2 hv, M, hC0.frR (fun a ha => f2 a (Or.inl ha)), r2⟩
theorem comb_fits {xs : Nat → Int} {Ls : Nat} {s : Int × DT} (hx : ∀ j, InR (xs j)) (hs : 0 ≤ s.1 ∧ s.1 + 7 ≤ (Ls : Int)) {M M' : MS} {v : Int} (hv : InR v) (hC : ∃ D1, m_X10_fits (xs (Int.toNat (s.1 + 1))) s.2 = some (v, D1) ∧ CInv D1 M' ∧ FrC s.2 D1) (hR0 : RInv s.2 M) (hR : ∀ D, RInv D M → ∃ D2, m_X11_fits (xs (Int.toNat (s.1 + 1))) D = some (v, D2) ∧ RInv D2 M' ∧ FrR D D2) : ∃ D', m_L_c38 xs Ls s = some (.inl (s.1 + 7, D')) ∧ Good D' := by
  obtain ⟨D1, e1, c1, f1⟩ := hC
  obtain ⟨D2, e2, r2, f2⟩ := hR _ (hR0.frC f1)
  exact ⟨D2, case_38 hs hx e1 e2 hv, M', c1.frR (fun a ha => f2 a (Or.inl ha)), r2⟩
theorem comb_scale {xs : Nat → Int} {Ls : Nat} {s : Int × DT} (hx : ∀ j, InR (xs j)) (hs : 0 ≤ s.1 ∧ s.1 + 7 ≤ (Ls : Int)) {M M' : MS} {v : Int} (hv : InR v) (hC : ∃ D1, m_X10_scale (xs (Int.toNat (s.1 + 1))) s.2 = some (v, D1) ∧ CInv D1 M' ∧ FrC s.2 D1) (hR0 : RInv s.2 M) (hR : ∀ D, RInv D M → ∃ D2, m_X11_scale (xs (Int.toNat (s.1 + 1))) D = some (v, D2) ∧ RInv D2 M' ∧ FrR D D2) : ∃ D', m_L_c39 xs Ls s = some (.inl (s.1 + 7, D')) ∧ Good D' := by
  obtain ⟨D1, e1, c1, f1⟩ := hC
  obtain ⟨D2, e2, r2, f2⟩ := hR _ (hR0.frC f1)
  exact ⟨D2, case_39 hs hx e1 e2 hv, M', c1.frR (fun a ha => f2 a (Or.inl ha)), r2⟩
theorem comb_octet {xs : Nat → Int} {Ls : Nat} {s : Int × DT} (hx : ∀ j, InR (xs j)) (hs : 0 ≤ s.1 ∧ s.1 + 7 ≤ (Ls : Int)) {M : MS} {v : Int} (hv : InR v) (hC : m_X10_octet (xs (Int.toNat (s.1 + 1))) s.2 = some v) (hC0 : CInv s.2 M) (hR0 : RInv s.2 M) (hR : ∀ D, RInv D M → ∃ D2, m_X11_octet (xs (Int.toNat (s.1 + 1))) D = some (v, D2) ∧ RInv D2 M ∧ FrR D D2) : ∃ D', m_L_c41 xs Ls s = some (.inl (s.1 + 7, D')) ∧ Good D' := by
  obtain ⟨D2, e2, r2, f2⟩ := hR _ hR0
  exact ⟨D2, case_41 (D1 := s.2) hs hx hC e2 hv, M, hC0.frR (fun a ha => f2 a (Or.inl ha)), r2⟩
theorem comb_count {xs : Nat → Int} {Ls : Nat} {s : Int × DT} (hx : ∀ j, InR (xs j)) (hs : 0 ≤ s.1 ∧ s.1 + 7 ≤ (Ls : Int)) {M : MS} {v : Int} (hv : InR v) (hC : m_X10_count (xs (Int.toNat (s.1 + 1))) s.2 = some v) (hC0 : CInv s.2 M) (hR0 : RInv s.2 M) (hR : ∀ D, RInv D M → ∃ D2, m_X11_count (xs (Int.toNat (s.1 + 1))) D = some (v, D2) ∧ RInv D2 M ∧ FrR D D2) : ∃ D', m_L_c42 xs Ls s = some (.inl (s.1 + 7, D')) ∧ Good D' := by
  obtain ⟨D2, e2, r2, f2⟩ := hR _ hR0
  exact ⟨D2, case_42 (D1 := s.2) hs hx hC e2 hv, M, hC0.frR (fun a ha => f2 a (Or.inl ha)), r2⟩
