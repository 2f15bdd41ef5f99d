/-! ===== both read: the same signs ===== -/
def LX (D E : DT) (n : Nat) (T : Nat → Int) (p : Nat) : Prop := (CT D n T p ∧ RT E n T p) ∧ D.1 55 8 = -1 ∧ E.1 73 19 = -1
/-- the reference behind a failure -/
def RY (E : DT) (n : Nat) (T : Nat → Int) : Prop := (∃ q, RT E n T q) ∧ 0 ≤ E.1 73 19 ∧ E.1 73 19 ≤ 400
def LZ (D E : DT) (n : Nat) (T : Nat → Int) : Prop := (∃ q, CT D n T q) ∧ RY E n T ∧ D.1 55 8 = E.1 73 19
theorem J_number {D E : DT} {n p p' : Nat} {T : Nat → Int} {lo hi : Int} (hlo : InR lo) (hhi : InR hi) (h : CT D n T p) (hr : RT E n T p') (hs : skp n T p' = skp n T p) (f1 : D.1 55 8 = -1) (f2 : E.1 73 19 = -1) : ∃ D' E' v, m_X11_number lo hi E = some (v, E') ∧ (0 ≤ v ∧ v ≤ 99999) ∧ (D'.1 55 7 = v ∧ D'.1 55 6 = (skp n T p : Int)) ∧ TKp D D' [3, 6, 7, 8] ∧ LKp E E' [16, 17, 19] ∧ ((m_X9_readNumber lo hi D = some (1, D') ∧ (∃ q, p < q ∧ LX D' E' n T q) ∧ lo ≤ v ∧ v ≤ hi) ∨ (m_X9_readNumber lo hi D = some (0, D') ∧ LZ D' E' n T)) := by
  obtain ⟨D', d1, d2, d3, d4, d5, d6⟩ := X9_readNumber hlo hhi h
  obtain ⟨E', e1, e2, e3, e4, e5, e6⟩ := X11_number hlo hhi hr f2
  rw [hs] at e1 e3 e4 e5 e6
  have hb := skp_b (T := T) h.2.2.2.2
  have n400 := h.1.1
  refine ⟨D', E', _, e1, numR_b, ⟨d4, d3⟩, d1, e2, ?_⟩
  rcases Classical.em (numOK T (skp n T p) (dnd n T (skp n T p)) lo hi) with ok | ok
  · left
    obtain ⟨a1, a2⟩ := d5 ok
    refine ⟨a1, ⟨_, ?_, ⟨d2, e3⟩, by rw [a2]; exact f1, e5 ok⟩, ?_⟩
    · have := ok.1
      omega
    · obtain ⟨o1, o2, o3, o4⟩ := ok
      unfold numR
      rw [show min (dnd n T (skp n T p) - skp n T p) 5 = dnd n T (skp n T p) - skp n T p by omega]
      exact ⟨o3, o4⟩
  · right
    obtain ⟨a1, a2⟩ := d6 ok
    have e6' := e6 ok
    refine ⟨a1, ⟨_, d2⟩, ⟨⟨_, e3⟩, by rw [e6']; omega, by rw [e6']; omega⟩, by rw [a2, e6']⟩
theorem J_sign {D E : DT} {n p : Nat} {T : Nat → Int} {c : Int} (hc : InR c) (h : LX D E n T p) : ∃ D' E', m_X11_asks c E = some E' ∧ TKp D D' [3, 8] ∧ LKp E E' [16, 17, 19] ∧ ((m_X9_readSign c D = some (1, D') ∧ (∃ q, p < q ∧ LX D' E' n T q)) ∨ (m_X9_readSign c D = some (0, D') ∧ LZ D' E' n T)) := by
  obtain ⟨⟨h1, h2⟩, f1, f2⟩ := h
  obtain ⟨D', d1, d2, d3⟩ := X9_readSign hc h1
  obtain ⟨E', e1, e2, e3, e4⟩ := X11_asks hc h2 f2
  have hb := skp_b (T := T) h1.2.2.2.2
  have n400 := h1.1.1
  refine ⟨D', E', e1, d1, e2, ?_⟩
  rcases Classical.em (sgn n T p c) with s | s
  · left
    obtain ⟨a1, a2, a3⟩ := d2 s
    obtain ⟨b1, b2⟩ := e3 s
    exact ⟨a1, _, by omega, ⟨a2, b1⟩, by rw [a3]; exact f1, b2⟩
  · right
    obtain ⟨a1, a2, a3⟩ := d3 s
    obtain ⟨b1, b2⟩ := e4 s
    exact ⟨a1, ⟨_, a2⟩, ⟨⟨_, b1⟩, by rw [b2]; omega, by rw [b2]; omega⟩, by rw [a3, b2]⟩
theorem J_key {D E : DT} {n p : Nat} {T : Nat → Int} (i j : Nat) (hi : 0 < (strB i).length) (hij : strB j = strB i) (h : LX D E n T p) : ∃ D' E', m_X11_asksWord j E = some E' ∧ TKp D D' [3, 4, 5, 8] ∧ LKp E E' [16, 17, 19] ∧ ((m_X9_readKeyword i D = some (1, D') ∧ (∃ q, p < q ∧ LX D' E' n T q)) ∨ (m_X9_readKeyword i D = some (0, D') ∧ LZ D' E' n T)) := by
  obtain ⟨⟨h1, h2⟩, f1, f2⟩ := h
  obtain ⟨D', d1, d2, d3, d4⟩ := X9_readKeyword i hi h1
  obtain ⟨E', e1, e2, e3, e4⟩ := X11_asksWord j h2 f2
  rw [hij] at e3 e4
  have hb := skp_b (T := T) h1.2.2.2.2
  have n400 := h1.1.1
  refine ⟨D', E', e1, d1, e2, ?_⟩
  rcases Classical.em (isW T (skp n T p) (wnd n T (skp n T p)) (strB i)) with s | s
  · left
    obtain ⟨a1, a2⟩ := d3 s
    obtain ⟨b1, b2, b3⟩ := e3 s
    exact ⟨a1, _, by have := s.1; omega, ⟨d2, b1⟩, by rw [a2]; exact f1, b2⟩
  · right
    obtain ⟨a1, a2⟩ := d4 s
    obtain ⟨b1, b2⟩ := e4 s
    exact ⟨a1, ⟨_, d2⟩, ⟨⟨_, b1⟩, by rw [b2]; omega, by rw [b2]; omega⟩, by rw [a2, b2]⟩
/-! what a line leaves alone -/
def CGo (D D' : DT) : Prop := KpO D D' 55 63 ∧ (ChartRng D 56 → ChartRng D' 56)
def RGo (E E' : DT) : Prop := ((∀ a k, (a = 73 → k ∉ [16, 17, 19, 21]) → E'.1 a k = E.1 a k) ∧ ∀ a, a ∉ [77, 79, 81, 83, 85] → E'.2 a = E.2 a) ∧ (((∀ c, c < 384 → E.2 81 c = 0 ∨ E.2 81 c = 1) → ∀ c, c < 384 → E'.2 81 c = 0 ∨ E'.2 81 c = 1) ∧ ((∀ k, k < 48 → -128 ≤ E.2 85 k ∧ E.2 85 k ≤ 127) → ∀ k, k < 48 → -128 ≤ E'.2 85 k ∧ E'.2 85 k ≤ 127))
theorem CGo.refl (D : DT) : CGo D D := ⟨fun _ _ => ⟨rfl, rfl⟩, id⟩
theorem CGo.trans {D D' D'' : DT} (h : CGo D D') (h' : CGo D' D'') : CGo D D'' := ⟨fun b hb => ⟨(h'.1 b hb).1.trans (h.1 b hb).1, (h'.1 b hb).2.trans (h.1 b hb).2⟩, fun x => h'.2 (h.2 x)⟩
theorem RGo.refl (E : DT) : RGo E E := ⟨⟨fun _ _ _ => rfl, fun _ _ => rfl⟩, id, id⟩
theorem RGo.trans {E E' E'' : DT} (h : RGo E E') (h' : RGo E' E'') : RGo E E'' := ⟨⟨fun a k hk => (h'.1.1 a k hk).trans (h.1.1 a k hk), fun a ha => (h'.1.2 a ha).trans (h.1.2 a ha)⟩, fun x => h'.2.1 (h.2.1 x), fun x => h'.2.2 (h.2.2 x)⟩
theorem TKp.go {D D' : DT} {ks : List Nat} (h : TKp D D' ks) : CGo D D' := ⟨fun b hb => ⟨funext fun k => h.1 b k (fun e => by omega), by rw [h.2]⟩, fun x => by unfold ChartRng at *; rw [h.2]; exact x⟩
theorem LKp.go {E E' : DT} {ks : List Nat} (h : LKp E E' ks) (hk : ∀ k, k ∈ ks → k ∈ [16, 17, 19, 21]) : RGo E E' := ⟨⟨fun a k hh => h.1 a k (fun e hm => hh e (hk k hm)), fun a _ => by rw [h.2]⟩, fun x => by rw [h.2]; exact x, fun x => by rw [h.2]; exact x⟩
theorem LKp.go3 {E E' : DT} (h : LKp E E' [16, 17, 19]) : RGo E E' := h.go (by simp)
theorem LKp.go2 {E E' : DT} (h : LKp E E' [16, 17]) : RGo E E' := h.go (by simp)
theorem RGo.a {E : DT} {a k : Nat} {v : Int} (ha : a = 77 ∨ a = 79 ∨ a = 83) : RGo E (sA E a k v) := ⟨⟨fun _ _ _ => rfl, fun b hb => by
  funext j
  rw [sA2, if_neg (fun h => hb (by rw [h.1]; simp; omega))]⟩, fun x c hc => by
  rw [sA2, if_neg (by omega)]; exact x c hc, fun x c hc => by
  rw [sA2, if_neg (by omega)]; exact x c hc⟩
theorem RGo.s {E : DT} {k : Nat} : RGo E (sA E 81 k 1) := ⟨⟨fun _ _ _ => rfl, fun b hb => by
  funext j
  rw [sA2, if_neg (fun h => hb (by rw [h.1]; simp))]⟩, fun x c hc => by
  rw [sA2]
  split
  · right; rfl
  · exact x c hc, fun x c hc => by
  rw [sA2, if_neg (by omega)]; exact x c hc⟩
theorem RGo.n {E : DT} {k : Nat} {v : Int} (hv : -128 ≤ v ∧ v ≤ 127) : RGo E (sA E 85 k v) := ⟨⟨fun _ _ _ => rfl, fun b hb => by
  funext j
  rw [sA2, if_neg (fun h => hb (by rw [h.1]; simp))]⟩, fun x c hc => by
  rw [sA2, if_neg (by omega)]; exact x c hc, fun x c hc => by
  rw [sA2]
  split
  · exact hv
  · exact x c hc⟩
theorem RT.a {E : DT} {n q : Nat} {T : Nat → Int} {a k : Nat} {v : Int} (h : RT E n T q) (ha : a ≠ 74) : RT (sA E a k v) n T q := ⟨h.1, h.2.1, fun j hj => by
  rw [sA2, if_neg (fun e => ha e.1.symm)]; exact h.2.2.1 j hj, h.2.2.2⟩
theorem CT.a {D : DT} {n q : Nat} {T : Nat → Int} {a k : Nat} {v : Int} (h : CT D n T q) (ha : a ≠ 64) : CT (sA D a k v) n T q := ⟨h.1, h.2.1, fun j hj => by
  rw [sA2, if_neg (fun e => ha e.1.symm)]; exact h.2.2.1 j hj, h.2.2.2⟩
theorem CT.f6 {D : DT} {n q : Nat} {T : Nat → Int} {a k : Nat} {v : Int} (h : CT D n T q) (ha : a ≠ 55 ∨ k ≠ 0 ∧ k ≠ 3) : CT (sF D a k v) n T q := ⟨h.1, by rw [sF1, if_neg (by omega)]; exact h.2.1, h.2.2.1, by rw [sF1, if_neg (by omega)]; exact h.2.2.2.1, h.2.2.2.2⟩
theorem RY.a {E : DT} {n : Nat} {T : Nat → Int} {a k : Nat} {v : Int} (h : RY E n T) (ha : a ≠ 74) : RY (sA E a k v) n T := ⟨⟨_, h.1.choose_spec.a ha⟩, h.2⟩
theorem LX.a {D E : DT} {n q : Nat} {T : Nat → Int} {a k : Nat} {v : Int} (h : LX D E n T q) (ha : a ≠ 74) : LX D (sA E a k v) n T q := ⟨⟨h.1.1, h.1.2.a ha⟩, h.2⟩
theorem LZ.a {D E : DT} {n : Nat} {T : Nat → Int} {a k : Nat} {v : Int} (h : LZ D E n T) (ha : a ≠ 74) : LZ D (sA E a k v) n T := ⟨h.1, h.2.1.a ha, h.2.2⟩
/-! the reference goes on behind a failure -/
theorem Y_number {E : DT} {n : Nat} {T : Nat → Int} {lo hi : Int} (h : RY E n T) : m_X11_number lo hi E = some (0, E) := X11_number_y h.2
theorem Y_asks {E : DT} {n : Nat} {T : Nat → Int} {c : Int} (h : RY E n T) : m_X11_asks c E = some E := X11_asks_y h.2
theorem Y_word {E : DT} {n : Nat} {T : Nat → Int} {i : Nat} (h : RY E n T) : m_X11_asksWord i E = some E := X11_asksWord_y i h.2
theorem Y_takes {E : DT} {n : Nat} {T : Nat → Int} {c : Int} (h : RY E n T) : ∃ E', m_X11_takes c E = some (0, E') ∧ RY E' n T ∧ E'.1 73 19 = E.1 73 19 ∧ RGo E E' := by
  obtain ⟨⟨q, hq⟩, hf⟩ := h
  obtain ⟨E', e1, e2, e3⟩ := X11_takes_y (c := c) hq hf
  have ef : E'.1 73 19 = E.1 73 19 := e2.1 73 19 (by simp)
  exact ⟨E', e1, ⟨⟨_, e3⟩, by rw [ef]; exact hf.1, by rw [ef]; exact hf.2⟩, ef, e2.go2⟩
theorem Y_blanks {E : DT} {n : Nat} {T : Nat → Int} (h : RY E n T) : ∃ E', m_X11_blanks E = some E' ∧ RY E' n T ∧ E'.1 73 19 = E.1 73 19 ∧ RGo E E' := by
  obtain ⟨⟨q, hq⟩, hf⟩ := h
  obtain ⟨E', e1, e2, e3, e4⟩ := X11_blanks hq
  have ef : E'.1 73 19 = E.1 73 19 := e3.1 73 19 (by simp)
  exact ⟨E', e1, ⟨⟨_, e2⟩, by rw [ef]; exact hf.1, by rw [ef]; exact hf.2⟩, ef, e3.go2⟩
theorem Y_runs142 {E : DT} {n : Nat} {T : Nat → Int} {v1 v2 v4 v5 : Int} (h : RY E n T) (h4 : InR v4) (h5 : InR v5) : ∃ E', m_X11_runs_142 v1 v2 v5 (v4, E) = some (.inr E') ∧ RY E' n T ∧ E'.1 73 19 = E.1 73 19 ∧ RGo E E' := by
  obtain ⟨E', e1, e2⟩ := Y_takes (c := 44) h
  have q := X11_hasF_y h.2
  refine ⟨E', ?_, e2⟩
  unfold m_X11_runs_142
  refine loopF_inr ?_
  by_cases c : v4 ≤ v5
  · simp (disch := omega) only [gd_t, if_t c, q, ob_some, if_f, e1, bnd_some, ↓reduceIte, done_some]
  · simp (disch := omega) only [gd_t, if_f c, e1, bnd_some, ↓reduceIte, done_some]
theorem Y_runs101 {E : DT} {n : Nat} {T : Nat → Int} {v1 v2 v3 v4 v5 x : Int} (h : RY E n T) (h4 : InR v4) (h5 : InR v5) (hx : InR x) : ∃ E', m_X11_runs_101 v1 v2 v3 v4 v5 (x, E) = some (.inr E') ∧ RY E' n T ∧ E'.1 73 19 = E.1 73 19 ∧ RGo E E' := by
  obtain ⟨E', e1, e2⟩ := Y_runs142 (v1 := v1) (v2 := v2) h h4 h5
  have q := X11_hasF_y h.2
  refine ⟨E', ?_, e2⟩
  unfold m_X11_runs_101
  refine loopF_inr ?_
  by_cases c : x ≤ v5
  · simp (disch := omega) only [gd_t, if_t c, q, ob_some, if_f, e1, done_some]
  · simp (disch := omega) only [gd_t, if_f c, e1, done_some]
theorem Y_runs75 {E : DT} {n : Nat} {T : Nat → Int} {v1 v2 v3 v4 : Int} (h : RY E n T) (h4 : InR v4) : ∃ E', m_X11_runs_75 v1 v2 v3 v4 E = some (.inr E') ∧ RY E' n T ∧ E'.1 73 19 = E.1 73 19 ∧ RGo E E' := by
  obtain ⟨E', e1, e2⟩ := Y_runs101 (v1 := v1) (v2 := v2) (v3 := v3) (v4 := v4) (v5 := 0) (x := v4) h h4 (by omega) h4
  refine ⟨E', ?_, e2⟩
  simp (disch := omega) only [m_X11_runs_75, Y_asks h, ob_some, gd_t, Y_number h, bnd_some, e1]
theorem Y_runs27 {E : DT} {n : Nat} {T : Nat → Int} {v1 v2 : Int} (h : RY E n T) : ∃ E', m_X11_runs_27 v1 v2 E = some E' ∧ RY E' n T ∧ E'.1 73 19 = E.1 73 19 ∧ RGo E E' := by
  obtain ⟨E1, a1, a2, a3, a4⟩ := Y_blanks h
  have q := X11_hasF_y a2.2
  obtain ⟨E', e1, e2, e3, e4⟩ := Y_runs75 (v1 := v1) (v2 := v2) (v3 := E1.1 73 17) (v4 := 0) a2 (by omega)
  refine ⟨E', ?_, e2, by rw [e3, a3], a4.trans e4⟩
  unfold m_X11_runs_27
  refine loopF_inr ?_
  simp (disch := omega) only [a1, ob_some, gd_t, Y_number a2, bnd_some, q, if_f, e1]
