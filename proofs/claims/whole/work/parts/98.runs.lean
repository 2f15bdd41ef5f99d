/-! ===== both read: runs ===== -/
def otherQ (Q : MS) (v : Int) (c : Nat) : Prop := v ≠ -1 ∧ mO Q c ≠ -1 ∧ mO Q c ≠ v
theorem X9_isOfAnother {D : DT} {Q : MS} {v : Int} {c : Nat} (O : MOK Q) (C : ChartRep D 56 Q) (hc : c < nC Q) (hv : -1 ≤ v ∧ v < (mZ Q : Int)) : (otherQ Q v c → m_X9_isOfAnother (c : Int) v D = some 1) ∧ (¬ otherQ Q v c → m_X9_isOfAnother (c : Int) v D = some 0) := by
  have n4 := nCb O
  have z8 := O.2.2.1
  have e : D.2 57 c = mO Q c := (C.1.2.2 c hc).1
  have ob := (O.2.2.2.2.1 c hc).1
  unfold otherQ
  by_cases q1 : v = -1
  · refine ⟨fun h => absurd q1 h.1, fun _ => ?_⟩
    simp (disch := omega) only [m_X9_isOfAnother, gd_t, if_t q1]
  · by_cases q2 : mO Q c = -1
    · refine ⟨fun h => absurd q2 h.2.1, fun _ => ?_⟩
      simp (disch := omega) only [m_X9_isOfAnother, gd_t, if_f q1, tn, e, if_t q2]
    · by_cases q3 : mO Q c = v
      · refine ⟨fun h => absurd q3 h.2.2, fun _ => ?_⟩
        simp (disch := omega) only [m_X9_isOfAnother, gd_t, if_f q1, tn, e, if_f q2, if_t q3]
      · refine ⟨fun _ => ?_, fun h => absurd ⟨q1, q2, q3⟩ h⟩
        simp (disch := omega) only [m_X9_isOfAnother, gd_t, if_f q1, tn, e, if_f q2, if_f q3]
theorem X11_isOther {E : DT} {Q : MS} {v : Int} {c : Nat} (O : MOK Q) (C : RDr E Q) (hc : c < nC Q) (hv : -1 ≤ v ∧ v < (mZ Q : Int)) : (otherQ Q v c → m_X11_isOther (c : Int) v E = some 1) ∧ (¬ otherQ Q v c → m_X11_isOther (c : Int) v E = some 0) := by
  have n4 := nCb O
  have z8 := O.2.2.1
  have e : E.2 79 c = mO Q c := (C.2.1 c hc).1
  have ob := (O.2.2.2.2.1 c hc).1
  unfold otherQ
  by_cases q1 : v = -1
  · refine ⟨fun h => absurd q1 h.1, fun _ => ?_⟩
    simp (disch := omega) only [m_X11_isOther, gd_t, if_t q1]
  · by_cases q2 : mO Q c = -1
    · refine ⟨fun h => absurd q2 h.2.1, fun _ => ?_⟩
      simp (disch := omega) only [m_X11_isOther, gd_t, if_f q1, tn, e, if_t q2]
    · by_cases q3 : mO Q c = v
      · refine ⟨fun h => absurd q3 h.2.2, fun _ => ?_⟩
        simp (disch := omega) only [m_X11_isOther, gd_t, if_f q1, tn, e, if_f q2, if_t q3]
      · refine ⟨fun _ => ?_, fun h => absurd ⟨q1, q2, q3⟩ h⟩
        simp (disch := omega) only [m_X11_isOther, gd_t, if_f q1, tn, e, if_f q2, if_f q3]
/-- a run is marked: cells a to b - 1 -/
def MK (D D' : DT) (q0 : Nat) (v0 : Int) (a b : Nat) : Prop := D'.1 = D.1 ∧ ∀ q c, D'.2 q c = if q = q0 ∧ a ≤ c ∧ c < b then v0 else D.2 q c
theorem MK.z (D : DT) (q0 : Nat) (v0 : Int) (a : Nat) : MK D D q0 v0 a a := ⟨rfl, fun q c => by rw [if_neg (by omega)]⟩
theorem MK.s {D D' : DT} {q0 a b : Nat} {v0 : Int} (h : MK D D' q0 v0 a b) (hab : a ≤ b) : MK D (sA D' q0 b v0) q0 v0 a (b + 1) := ⟨h.1, fun q c => by
  rw [sA2, h.2]
  by_cases e1 : q = q0 ∧ c = b
  · rw [if_pos e1, if_pos (by omega)]
  · rw [if_neg e1]
    by_cases e2 : q = q0 ∧ a ≤ c ∧ c < b
    · rw [if_pos e2, if_pos (by omega)]
    · rw [if_neg e2, if_neg (by omega)]⟩
theorem X9_mark {v : Int} {a : Nat} {D : DT} (hv : InR v) : ∀ (m b : Nat) (D1 : DT) (x : Nat), a ≤ b → b + m = x + 1 → x < 384 → (MK D D1 (if v = -1 then 58 else 57) (if v = -1 then 1 else v) a b) → ∃ D', m_X9_mark_3 v (x : Int) ((b : Int), D1) = some D' ∧ MK D D' (if v = -1 then 58 else 57) (if v = -1 then 1 else v) a (x + 1) := by
  intro m
  induction m with
  | zero =>
    intro b D1 x hab hb hx h
    refine ⟨D1, ?_, by rw [← hb]; exact h⟩
    unfold m_X9_mark_3
    refine loopF_inr ?_
    simp (disch := omega) only [gd_t, if_f, done_some]
  | succ m ih =>
    intro b D1 x hab hb hx h
    have hs := h.s hab
    obtain ⟨D', e1, e2⟩ := ih (b + 1) _ x (by omega) (by omega) hx hs
    refine ⟨D', ?_, e2⟩
    rw [← e1]
    unfold m_X9_mark_3
    refine loopF_inl ?_
    by_cases q : v = -1
    · simp (disch := omega) only [gd_t, if_t, if_t q, tn, or_true, and_true, sq_eq]
      rfl
    · simp (disch := omega) only [gd_t, if_t, if_f q, tn, sq_eq]
      rfl
/-- what the reference does behind a run -/
noncomputable def refc (v v2 : Int) (E : DT) : Option DT := bnd (m_X11_takes 44 E) (fun r E2 => if r = 0 then some E2 else m_X11_runs_27 v v2 E2)
theorem X11_marks {v : Int} {y a : Nat} {E : DT} (hv : InR v) (hf : E.1 73 19 = -1) : ∀ (m b : Nat) (E1 : DT) (x : Nat), a ≤ b → b + m = x + 1 → y + x < 384 → (MK E E1 (if v = -1 then 81 else 79) (if v = -1 then 1 else v) (y + a) (y + b)) → ∃ E', m_X11_runs_142 v (y : Int) (x : Int) ((b : Int), E1) = bnd (m_X11_takes 44 E') (fun r193 D193 => gd (InR r193) (if r193 = 0 then (done (some D193)) else (some (.inl D193)))) ∧ MK E E' (if v = -1 then 81 else 79) (if v = -1 then 1 else v) (y + a) (y + (x + 1)) := by
  intro m
  induction m with
  | zero =>
    intro b E1 x hab hb hx h
    refine ⟨E1, ?_, by rw [← hb]; exact h⟩
    unfold m_X11_runs_142
    refine loopF_dn ?_
    simp (disch := omega) only [gd_t, if_f]
  | succ m ih =>
    intro b E1 x hab hb hx h
    have hs := h.s (by omega)
    obtain ⟨E', e1, e2⟩ := ih (b + 1) _ x (by omega) (by omega) hx hs
    refine ⟨E', ?_, e2⟩
    rw [← e1]
    have q0 := X11_hasF_n (D := E1) (by rw [h.1]; exact hf)
    have k1 : (y : Int) + (b : Int) = ((y + b : Nat) : Int) := by omega
    unfold m_X11_runs_142
    refine loopF_inl ?_
    by_cases q : v = -1
    · simp (disch := omega) only [gd_t, if_t, q0, ob_some, ↓reduceIte, if_t q, k1, tn, or_true, and_true, sq_eq]
      rfl
    · simp (disch := omega) only [gd_t, if_t, q0, ob_some, ↓reduceIte, if_f q, k1, tn, sq_eq]
      rfl
theorem X9_run97 {D : DT} {Q : MS} {v : Int} {y x1 x2 b : Nat} (O : MOK Q) (C : ChartRep D 56 Q) (hv : -1 ≤ v ∧ v < (mZ Q : Int)) (hx : y + x2 < nC Q) : ∀ (m k : Nat), x1 ≤ k → k + m = x2 + 1 → (∀ j, x1 ≤ j → j < k → ¬ otherQ Q v (y + j)) → ((∀ j, x1 ≤ j → j ≤ x2 → ¬ otherQ Q v (y + j)) → m_X9_readRun_97 v (x1 : Int) (b : Int) (y : Int) (x2 : Int) D (k : Int) = (m_X9_mark v ((y : Int) + (x1 : Int)) ((y : Int) + (x2 : Int)) D).bind (fun D141 => some (1, D141))) ∧ (¬ (∀ j, x1 ≤ j → j ≤ x2 → ¬ otherQ Q v (y + j)) → m_X9_readRun_97 v (x1 : Int) (b : Int) (y : Int) (x2 : Int) D (k : Int) = some (0, sF D 55 8 (b : Int))) := by
  have n4 := nCb O
  intro m
  induction m with
  | zero =>
    intro k hk hm hall
    refine ⟨fun _ => ?_, fun hn => absurd (fun j h1 h2 => hall j h1 (by omega)) hn⟩
    unfold m_X9_readRun_97
    refine loopF_dn ?_
    simp (disch := omega) only [gd_t, if_f]
  | succ m ih =>
    intro k hk hm hall
    obtain ⟨w1, w2⟩ := X9_isOfAnother (c := y + k) O C (by omega) hv
    have k1 : (y : Int) + (k : Int) = ((y + k : Nat) : Int) := by omega
    rcases Classical.em (otherQ Q v (y + k)) with s | s
    · have g := w1 s
      refine ⟨fun hh => absurd s (hh k hk (by omega)), fun _ => ?_⟩
      unfold m_X9_readRun_97
      refine loopF_inr ?_
      simp (disch := omega) only [gd_t, if_t, k1, g, ob_some, if_f, m_X9_failAt, sq_eq, bnd_some, true_or, gd_T, done_some]
    · have g := w2 s
      have st : m_X9_readRun_97 v (x1 : Int) (b : Int) (y : Int) (x2 : Int) D (k : Int) = m_X9_readRun_97 v (x1 : Int) (b : Int) (y : Int) (x2 : Int) D ((k + 1 : Nat) : Int) := by
        unfold m_X9_readRun_97
        refine loopF_inl ?_
        simp (disch := omega) only [gd_t, if_t, k1, g, ob_some, ↓reduceIte]
        rfl
      rw [st]
      exact ih (k + 1) (by omega) (by omega) (fun j h1 h2 => by
        by_cases ej : j = k
        · rw [ej]; exact s
        · exact hall j h1 (by omega))
theorem X11_run101 {E : DT} {n q : Nat} {T : Nat → Int} {Q : MS} {v : Int} {y x1 x2 b : Nat} (O : MOK Q) (C : RDr E Q) (hr : RT E n T q) (hf : E.1 73 19 = -1) (hb : b ≤ n) (hv : -1 ≤ v ∧ v < (mZ Q : Int)) (hx : y + x2 < nC Q) (hx1 : x1 ≤ x2) : ∀ (m k : Nat), x1 ≤ k → k + m = x2 + 1 → (∀ j, x1 ≤ j → j < k → ¬ otherQ Q v (y + j)) → ((∀ j, x1 ≤ j → j ≤ x2 → ¬ otherQ Q v (y + j)) → m_X11_runs_101 v (y : Int) (b : Int) (x1 : Int) (x2 : Int) ((k : Int), E) = m_X11_runs_142 v (y : Int) (x2 : Int) ((x1 : Int), E)) ∧ (¬ (∀ j, x1 ≤ j → j ≤ x2 → ¬ otherQ Q v (y + j)) → ∃ E', m_X11_runs_101 v (y : Int) (b : Int) (x1 : Int) (x2 : Int) ((k : Int), E) = some (.inr E') ∧ RY E' n T ∧ E'.1 73 19 = (b : Int) ∧ RGo E E') := by
  have n4 := nCb O
  have q0 := X11_hasF_n hf
  have n400 := hr.1.1
  intro m
  induction m with
  | zero =>
    intro k hk hm hall
    refine ⟨fun _ => ?_, fun hn => absurd (fun j h1 h2 => hall j h1 (by omega)) hn⟩
    unfold m_X11_runs_101
    refine loopF_dn ?_
    simp (disch := omega) only [gd_t, if_f]
  | succ m ih =>
    intro k hk hm hall
    obtain ⟨w1, w2⟩ := X11_isOther (c := y + k) O C (by omega) hv
    have k1 : (y : Int) + (k : Int) = ((y + k : Nat) : Int) := by omega
    rcases Classical.em (otherQ Q v (y + k)) with s | s
    · have g := w1 s
      have fl := X11_failsAt_n (v := (b : Int)) hf
      refine ⟨fun hh => absurd s (hh k hk (by omega)), fun _ => ?_⟩
      have ry : RY (sF E 73 19 (b : Int)) n T := ⟨⟨q, hr.to LKp.f (by simp) (by rw [sF1, if_neg (by omega)]; exact hr.2.2.2.1) hr.2.2.2.2⟩, by rw [sF1, if_pos ⟨rfl, rfl⟩]; omega, by rw [sF1, if_pos ⟨rfl, rfl⟩]; omega⟩
      obtain ⟨E', e1, e2, e3, e4⟩ := Y_runs101 (v1 := v) (v2 := (y : Int)) (v3 := (b : Int)) (v4 := (x1 : Int)) (v5 := (x2 : Int)) (x := ((k + 1 : Nat) : Int)) ry (by omega) (by omega) (by omega)
      refine ⟨E', ?_, e2, by rw [e3, sF1, if_pos ⟨rfl, rfl⟩], RGo.trans (LKp.f.go (by simp)) e4⟩
      rw [← e1]
      unfold m_X11_runs_101
      refine loopF_inl ?_
      simp (disch := omega) only [gd_t, if_t, q0, ob_some, ↓reduceIte, k1, g, if_f, fl]
      rfl
    · have g := w2 s
      have st : m_X11_runs_101 v (y : Int) (b : Int) (x1 : Int) (x2 : Int) ((k : Int), E) = m_X11_runs_101 v (y : Int) (b : Int) (x1 : Int) (x2 : Int) (((k + 1 : Nat) : Int), E) := by
        unfold m_X11_runs_101
        refine loopF_inl ?_
        simp (disch := omega) only [gd_t, if_t, q0, ob_some, ↓reduceIte, k1, g]
        rfl
      rw [st]
      exact ih (k + 1) (by omega) (by omega) (fun j h1 h2 => by
        by_cases ej : j = k
        · rw [ej]; exact s
        · exact hall j h1 (by omega))
def markQ (Q : MS) (v : Int) (a b : Nat) : MS := (Q.1, (fun c => if v ≠ -1 ∧ a ≤ c ∧ c < b then v else mO Q c, fun c => if v = -1 ∧ a ≤ c ∧ c < b then 1 else mS Q c), Q.2.2)
theorem DS.mark {D E D' E' : DT} {R : RS} {t v : Int} {Q : MS} {a b : Nat} (S : DS D E R t Q) (hv : -1 ≤ v ∧ v < (mZ Q : Int)) (hC : MK D D' (if v = -1 then 58 else 57) (if v = -1 then 1 else v) a b) (hR : MK E E' (if v = -1 then 81 else 79) (if v = -1 then 1 else v) a b) : DS D' E' R t (markQ Q v a b) ∧ CGo D D' ∧ RGo E E' := by
  obtain ⟨⟨a1, a2, a3⟩, ⟨b1, b2⟩, ⟨c1, c2⟩, ⟨O, d2, d3⟩, d4⟩ := S
  obtain ⟨⟨⟨r11, r11'⟩, r12, r13⟩, ⟨r14, r15⟩, r16, r17⟩ := b1
  obtain ⟨⟨s1, s2, s3, s4⟩, s5, s6, s7⟩ := b2
  obtain ⟨o1, o2, o3, o4, o5, o6⟩ := O
  have qa : (if v = -1 then 58 else 57) = 58 ∨ (if v = -1 then 58 else 57) = 57 := by split <;> omega
  have qb : (if v = -1 then 81 else 79) = 81 ∨ (if v = -1 then 81 else 79) = 79 := by split <;> omega
  have oC : ∀ q, q ≠ 57 → q ≠ 58 → D'.2 q = D.2 q := fun q h1 h2 => by funext c; rw [hC.2, if_neg (by omega)]
  have oR : ∀ q, q ≠ 79 → q ≠ 81 → E'.2 q = E.2 q := fun q h1 h2 => by funext c; rw [hR.2, if_neg (by omega)]
  have c57 : ∀ c, D'.2 57 c = if v ≠ -1 ∧ a ≤ c ∧ c < b then v else D.2 57 c := fun c => by
    rw [hC.2]
    by_cases q : v = -1
    · rw [if_neg (by rw [if_pos q]; omega), if_neg (by omega)]
    · rw [if_neg q, if_neg q]
      by_cases q2 : a ≤ c ∧ c < b
      · rw [if_pos ⟨rfl, q2⟩, if_pos ⟨q, q2⟩]
      · rw [if_neg (fun hh => q2 hh.2), if_neg (fun hh => q2 hh.2)]
  have c58 : ∀ c, D'.2 58 c = if v = -1 ∧ a ≤ c ∧ c < b then 1 else D.2 58 c := fun c => by
    rw [hC.2]
    by_cases q : v = -1
    · rw [if_pos q, if_pos q]
      by_cases q2 : a ≤ c ∧ c < b
      · rw [if_pos ⟨rfl, q2⟩, if_pos ⟨q, q2⟩]
      · rw [if_neg (fun hh => q2 hh.2), if_neg (fun hh => q2 hh.2)]
    · rw [if_neg (by rw [if_neg q]; omega), if_neg (by omega)]
  have e79 : ∀ c, E'.2 79 c = if v ≠ -1 ∧ a ≤ c ∧ c < b then v else E.2 79 c := fun c => by
    rw [hR.2]
    by_cases q : v = -1
    · rw [if_neg (by rw [if_pos q]; omega), if_neg (by omega)]
    · rw [if_neg q, if_neg q]
      by_cases q2 : a ≤ c ∧ c < b
      · rw [if_pos ⟨rfl, q2⟩, if_pos ⟨q, q2⟩]
      · rw [if_neg (fun hh => q2 hh.2), if_neg (fun hh => q2 hh.2)]
  have e81 : ∀ c, E'.2 81 c = if v = -1 ∧ a ≤ c ∧ c < b then 1 else E.2 81 c := fun c => by
    rw [hR.2]
    by_cases q : v = -1
    · rw [if_pos q, if_pos q]
      by_cases q2 : a ≤ c ∧ c < b
      · rw [if_pos ⟨rfl, q2⟩, if_pos ⟨q, q2⟩]
      · rw [if_neg (fun hh => q2 hh.2), if_neg (fun hh => q2 hh.2)]
    · rw [if_neg (by rw [if_neg q]; omega), if_neg (by omega)]
  have gC : CGo D D' := ⟨fun b hb => ⟨by rw [hC.1], oC b (by omega) (by omega)⟩, fun x => ⟨fun c hc => by
    show D'.2 58 c = 0 ∨ D'.2 58 c = 1
    rw [c58]
    split
    · right; rfl
    · exact x.1 c hc, fun k hk => by
    show -128 ≤ D'.2 62 k ∧ D'.2 62 k ≤ 127
    rw [oC 62 (by omega) (by omega)]; exact x.2 k hk⟩⟩
  have gR : RGo E E' := ⟨⟨fun a k _ => by rw [hR.1], fun a ha => oR a (fun hh => ha (by rw [hh]; simp)) (fun hh => ha (by rw [hh]; simp))⟩, fun x c hc => by
    rw [e81]
    split
    · right; rfl
    · exact x c hc, fun x k hk => by rw [oR 85 (by omega) (by omega)]; exact x k hk⟩
  refine ⟨⟨⟨a1, by rw [hC.1]; exact a2, by rw [hR.1]; exact a3⟩, ⟨⟨⟨by rw [hC.1]; exact ⟨r11, r11'⟩, r12, fun c hc => ?_⟩, by rw [hC.1]; exact ⟨r14, r15⟩, fun k hk => ?_, fun z hz => ?_⟩, ⟨⟨?_, ?_, ?_, ?_⟩, fun c hc => ?_, fun k hk => ?_, fun z hz k hk => ?_⟩⟩, ⟨gC.2 c1, gR.dg c2⟩, ⟨⟨o1, o2, o3, o4, fun c hc => ?_, o6⟩, d2, d3⟩, d4⟩, gC, gR⟩
  · obtain ⟨x1, x2, x3, x4⟩ := r13 c hc
    refine ⟨?_, ?_, ?_, ?_⟩
    · show D'.2 57 c = if v ≠ -1 ∧ a ≤ c ∧ c < b then v else mO Q c
      rw [c57, ← x1]
    · show D'.2 58 c = if v = -1 ∧ a ≤ c ∧ c < b then 1 else mS Q c
      rw [c58, ← x2]
    · rw [oC _ (by omega) (by omega)]; exact x3
    · rw [oC _ (by omega) (by omega)]; exact x4
  · rw [oC _ (by omega) (by omega)]; exact r16 k hk
  · rw [oC _ (by omega) (by omega), oC _ (by omega) (by omega)]; exact r17 z hz
  · rw [oR _ (by omega) (by omega)]; exact s1
  · rw [oR _ (by omega) (by omega)]; exact s2
  · rw [oR _ (by omega) (by omega)]; exact s3
  · rw [oR _ (by omega) (by omega)]; exact s4
  · obtain ⟨x1, x2⟩ := s5 c hc
    refine ⟨?_, ?_⟩
    · show E'.2 79 c = if v ≠ -1 ∧ a ≤ c ∧ c < b then v else mO Q c
      rw [e79, x1]
    · show E'.2 81 c = if v = -1 ∧ a ≤ c ∧ c < b then 1 else mS Q c
      rw [e81, x2]
  · rw [oR _ (by omega) (by omega)]; exact s6 k hk
  · rw [oR _ (by omega) (by omega)]; exact s7 z hz k hk
  · obtain ⟨x1, x2⟩ := o5 c hc
    show (-1 ≤ (if v ≠ -1 ∧ a ≤ c ∧ c < b then v else mO Q c) ∧ (if v ≠ -1 ∧ a ≤ c ∧ c < b then v else mO Q c) < (mZ Q : Int)) ∧ ((if v = -1 ∧ a ≤ c ∧ c < b then 1 else mS Q c) = 0 ∨ (if v = -1 ∧ a ≤ c ∧ c < b then 1 else mS Q c) = 1)
    refine ⟨?_, ?_⟩
    · split
      · exact hv
      · exact x1
    · split
      · right; rfl
      · exact x2
