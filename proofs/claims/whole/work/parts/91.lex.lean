/-! ===== words, numbers, signs: the class ===== -/
def isW (T : Nat → Int) (b e : Nat) (w : List Int) : Prop := e - b = w.length ∧ ∀ k, k < w.length → T (b + k) = w.getD k 0
theorem isW_dec (T : Nat → Int) (b e : Nat) (w : List Int) : isW T b e w ∨ ¬ isW T b e w := Classical.em _
theorem strB_b (i k : Nat) : -128 ≤ strC i k ∧ strC i k ≤ 127 := by
  unfold strC strB
  have h : ∀ l, l ∈ strBs → ∀ v, v ∈ l → -128 ≤ v ∧ v ≤ 127 := by decide
  rw [List.getD_eq_getElem?_getD, List.getD_eq_getElem?_getD]
  cases h1 : strBs[i]? with
  | none =>
    simp
  | some l =>
    have hl := List.mem_of_getElem? h1
    simp only [Option.getD_some]
    cases h2 : l[k]? with
    | none => simp
    | some v =>
      simp only [Option.getD_some]
      exact h l hl v (List.mem_of_getElem? h2)
theorem strL_b (i : Nat) : (strB i).length ≤ 100 := by
  unfold strB
  have h : ∀ l, l ∈ strBs → l.length ≤ 100 := by decide
  rw [List.getD_eq_getElem?_getD]
  cases h1 : strBs[i]? with
  | none => simp
  | some l => exact h l (List.mem_of_getElem? h1)
theorem X9_wordIs {D : DT} {n q b e : Nat} {T : Nat → Int} (i : Nat) (h : CT D n T q) (h4 : D.1 55 4 = (b : Int)) (h5 : D.1 55 5 = ((e - b : Nat) : Int)) (hbe : b ≤ e ∧ e ≤ n) : (isW T b e (strB i) → m_X9_wordIs i D = some 1) ∧ (¬ isW T b e (strB i) → m_X9_wordIs i D = some 0) := by
  have n400 := h.1.1
  have eL : strL i = ((strB i).length : Int) := rfl
  have lb := strL_b i
  by_cases q : (strB i).length = e - b
  · have q' : ((strB i).length : Int) = ((e - b : Nat) : Int) := by omega
    have main : ∀ (m k : Nat), k + m = e - b → (∀ j, j < k → T (b + j) = (strB i).getD j 0) → (isW T b e (strB i) → m_X9_wordIs_15 i D (k : Int) = some 1) ∧ (¬ isW T b e (strB i) → m_X9_wordIs_15 i D (k : Int) = some 0) := by
      intro m
      induction m with
      | zero =>
        intro k hk hall
        have w : isW T b e (strB i) := ⟨q.symm, fun j hj => hall j (by omega)⟩
        refine ⟨fun _ => ?_, fun hn => absurd w hn⟩
        unfold m_X9_wordIs_15
        refine loopF_inr ?_
        simp (disch := omega) only [h5, gd_t, if_f, done_some]
      | succ m ih =>
        intro k hk hall
        have tk := h.2.2.1 (b + k) (by omega)
        have tb := h.1.2 (b + k) (by omega)
        have cb := strB_b i k
        have k1 : (b : Int) + (k : Int) = ((b + k : Nat) : Int) := by omega
        by_cases qc : strC i k = T (b + k)
        · obtain ⟨i1, i2⟩ := ih (k + 1) (by omega) (fun j hj => by
            by_cases ej : j = k
            · rw [ej, ← qc]; rfl
            · exact hall j (by omega))
          have st : m_X9_wordIs_15 i D (k : Int) = m_X9_wordIs_15 i D ((k + 1 : Nat) : Int) := by
            unfold m_X9_wordIs_15
            refine loopF_inl ?_
            simp (disch := omega) only [h5, h4, eL, gd_t, if_t, k1, tn, tk, if_t qc]
            rfl
          rw [st]
          exact ⟨i1, i2⟩
        · refine ⟨fun w => absurd (w.2 k (by omega)).symm qc, fun _ => ?_⟩
          unfold m_X9_wordIs_15
          refine loopF_inr ?_
          simp (disch := omega) only [h5, h4, eL, gd_t, if_t, k1, tn, tk, if_f qc, done_some]
    have := main (e - b) 0 (by omega) (fun j hj => by omega)
    have st : m_X9_wordIs i D = m_X9_wordIs_15 i D ((0 : Nat) : Int) := by
      unfold m_X9_wordIs
      simp (disch := omega) only [eL, h5, gd_t, if_t q']
      rfl
    rw [st]
    exact this
  · have q' : ¬ ((strB i).length : Int) = ((e - b : Nat) : Int) := by omega
    refine ⟨fun w => absurd w.1.symm q, fun _ => ?_⟩
    simp (disch := omega) only [m_X9_wordIs, eL, h5, gd_t, if_f q']
def numV (T : Nat → Int) (b : Nat) : Nat → Int
  | 0 => 0
  | k + 1 => numV T b k * 10 + T (b + k) - 48
theorem numV_b {T : Nat → Int} {b k : Nat} (hk : k ≤ 5) (hd : ∀ j, j < k → isDi (T (b + j))) : 0 ≤ numV T b k ∧ numV T b k ≤ 99999 := by
  have key : ∀ k, (∀ j, j < k → isDi (T (b + j))) → 0 ≤ numV T b k ∧ numV T b k < 10 ^ k := by
    intro k
    induction k with
    | zero => intro _; simp [numV]
    | succ k ih =>
      intro hd
      obtain ⟨i1, i2⟩ := ih (fun j hj => hd j (by omega))
      have h := hd k (by omega)
      rw [numV, Int.pow_succ]
      generalize (10 : Int) ^ k = y at *
      omega
  obtain ⟨h1, h2⟩ := key k hd
  refine ⟨h1, ?_⟩
  have : k = 0 ∨ k = 1 ∨ k = 2 ∨ k = 3 ∨ k = 4 ∨ k = 5 := by omega
  rcases this with rfl | rfl | rfl | rfl | rfl | rfl <;> omega
def numOK (T : Nat → Int) (b e : Nat) (lo hi : Int) : Prop := b < e ∧ e - b ≤ 5 ∧ lo ≤ numV T b (e - b) ∧ numV T b (e - b) ≤ hi
/-- the number that is told, however long -/
abbrev numR (T : Nat → Int) (b e : Nat) : Int := numV T b (min (e - b) 5)
theorem numR_b {n : Nat} {T : Nat → Int} {b : Nat} : 0 ≤ numR T b (dnd n T b) ∧ numR T b (dnd n T b) ≤ 99999 := numV_b (by omega) (fun j hj => scn_in (T := T) isDi (n - b) b (b + j) (by omega) (by
  show b + j < dnd n T b
  omega))
theorem X9_readNumber {D : DT} {n p : Nat} {T : Nat → Int} {lo hi : Int} (hlo : InR lo) (hhi : InR hi) (h : CT D n T p) : ∃ D', TKp D D' [3, 6, 7, 8] ∧ CT D' n T (dnd n T (skp n T p)) ∧ D'.1 55 6 = (skp n T p : Int) ∧ D'.1 55 7 = numR T (skp n T p) (dnd n T (skp n T p)) ∧ (numOK T (skp n T p) (dnd n T (skp n T p)) lo hi → m_X9_readNumber lo hi D = some (1, D') ∧ D'.1 55 8 = D.1 55 8) ∧ (¬ numOK T (skp n T p) (dnd n T (skp n T p)) lo hi → m_X9_readNumber lo hi D = some (0, D') ∧ D'.1 55 8 = (skp n T p : Int)) := by
  have hb := skp_b (T := T) h.2.2.2.2
  have db := dnd_b (T := T) hb.2
  have n400 := h.1.1
  obtain ⟨D1, e1, e2, e3⟩ := X9_skipBlanks h
  generalize hbb : skp n T p = b at *
  have k1 : TKp D (sF (sF D1 55 6 (b : Int)) 55 7 0) [3, 6, 7] := ((e3.trans TKp.f).trans TKp.f).mono (by simp)
  have c1 : CT (sF (sF D1 55 6 (b : Int)) 55 7 0) n T b := e2.to (TKp.f.trans TKp.f) (by simp) (by rw [sF1, if_neg (by omega), sF1, if_neg (by omega)]; exact e2.2.2.2.1) hb.2
  have scan : ∀ (k q : Nat) (E : DT), CT E n T q → q + k = n → b ≤ q → (∀ j, b ≤ j → j < q → isDi (T j)) → TKp D E [3, 6, 7] → E.1 55 6 = (b : Int) → E.1 55 7 = numV T b (min (q - b) 5) → ∃ E', CT E' n T (scn isDi T k q) ∧ TKp D E' [3, 6, 7] ∧ E'.1 55 6 = (b : Int) ∧ E'.1 55 7 = numV T b (min (scn isDi T k q - b) 5) ∧ m_X9_readNumber_17 lo hi E = m_X9_readNumber_17 lo hi E' := by
    intro k
    induction k with
    | zero => intro q E hE _ _ _ hk h6 h7; exact ⟨E, hE, hk, h6, h7, rfl⟩
    | succ k ih =>
      intro q E hE hq hbq hall hk h6 h7
      rw [scn]
      by_cases qd : isDi (T q)
      · rw [if_pos qd]
        obtain ⟨⟨b1, b2⟩, t1, t2, t3, t4⟩ := hE
        have tk := t2 q (by omega)
        have vb := numV_b (T := T) (b := b) (k := min (q - b) 5) (by omega) (fun j hj => hall _ (by omega) (by omega))
        by_cases q5 : q - b < 5
        · have m1 : min (q - b) 5 = q - b := by omega
          have m2 : min (q + 1 - b) 5 = (q - b) + 1 := by omega
          have ev : numV T b (min (q + 1 - b) 5) = numV T b (min (q - b) 5) * 10 + T q - 48 := by
            rw [m2, m1, numV, show b + (q - b) = q by omega]
          have kE : TKp E (sF (sF E 55 7 (numV T b (min (q - b) 5) * 10 + T q - 48)) 55 3 ((q : Int) + 1)) [3, 6, 7] := (TKp.f.trans TKp.f).mono (by simp)
          obtain ⟨E', g1, g2, g3, g4, g5⟩ := ih (q + 1) (sF (sF E 55 7 (numV T b (min (q - b) 5) * 10 + T q - 48)) 55 3 ((q : Int) + 1)) (CT.to ⟨⟨b1, b2⟩, t1, t2, t3, t4⟩ kE (by simp) (by rw [sF1, if_pos ⟨rfl, rfl⟩]; rfl) (by omega)) (by omega) (by omega) (fun j h1 h2 => by
            by_cases ej : j = q
            · rw [ej]; exact qd
            · exact hall j h1 (by omega)) ((hk.trans kE).mono (by simp)) (by rw [sF1, if_neg (by omega), sF1, if_neg (by omega)]; exact h6) (by rw [sF1, if_neg (by omega), sF1, if_pos ⟨rfl, rfl⟩, ev])
          refine ⟨E', g1, g2, g3, g4, ?_⟩
          rw [← g5]
          unfold m_X9_readNumber_17
          refine loopF_inl ?_
          have x3 : (sF E 55 7 (numV T b (min (q - b) 5) * 10 + T q - 48)).1 55 3 = (q : Int) := by rw [sF1, if_neg (by omega)]; exact t3
          simp (disch := omega) only [t3, t1, gd_t, if_t, tn, tk, h6, h7, sq_eq, x3]
        · have m2 : min (q + 1 - b) 5 = min (q - b) 5 := by omega
          have kE : TKp E (sF E 55 3 ((q : Int) + 1)) [3, 6, 7] := TKp.f.mono (by simp)
          obtain ⟨E', g1, g2, g3, g4, g5⟩ := ih (q + 1) (sF E 55 3 ((q : Int) + 1)) (CT.to ⟨⟨b1, b2⟩, t1, t2, t3, t4⟩ kE (by simp) (by rw [sF1, if_pos ⟨rfl, rfl⟩]; rfl) (by omega)) (by omega) (by omega) (fun j h1 h2 => by
            by_cases ej : j = q
            · rw [ej]; exact qd
            · exact hall j h1 (by omega)) ((hk.trans kE).mono (by simp)) (by rw [sF1, if_neg (by omega)]; exact h6) (by rw [sF1, if_neg (by omega), m2]; exact h7)
          refine ⟨E', g1, g2, g3, g4, ?_⟩
          rw [← g5]
          unfold m_X9_readNumber_17
          refine loopF_inl ?_
          simp (disch := omega) only [t3, t1, gd_t, if_t, tn, tk, h6, if_f, sq_eq]
      · rw [if_neg qd]
        exact ⟨E, hE, hk, h6, h7, rfl⟩
  obtain ⟨E, g1, g2, g3, g4, g5⟩ := scan (n - b) b _ c1 (by omega) (Nat.le_refl _) (fun j h1 h2 => by omega) k1 (by rw [sF1, if_neg (by omega), sF1, if_pos ⟨rfl, rfl⟩]) (by rw [sF1, if_pos ⟨rfl, rfl⟩, Nat.sub_self]; rfl)
  have g1' : CT E n T (dnd n T b) := g1
  have g4' : E.1 55 7 = numR T b (dnd n T b) := g4
  have vb := numR_b (n := n) (T := T) (b := b)
  have f8 : E.1 55 8 = D.1 55 8 := g2.1 55 8 (by simp)
  have t3 := g1'.2.2.2.1
  have t1 := g1'.2.1
  have red : m_X9_readNumber lo hi D = m_X9_readNumber_106 lo hi E := by
    unfold m_X9_readNumber
    rw [e1]
    simp only [ob_some, sq_eq]
    rw [e2.2.2.2.1, g5]
    unfold m_X9_readNumber_17
    cases hh : m_X9_readNumber_106 lo hi E with
    | none =>
      refine loopF_none ?_
      by_cases q : dnd n T b < n
      · have tk := g1'.2.2.1 _ q
        have tb := h.1.2 _ q
        rcases scn_stop (T := T) isDi (n - b) b with ee | ee
        · have : dnd n T b = b + (n - b) := ee
          omega
        · have ee' : ¬ isDi (T (dnd n T b)) := ee
          by_cases q2 : 48 ≤ T (dnd n T b)
          · simp (disch := omega) only [t3, t1, gd_t, if_t, tn, tk, if_f, hh]
            rfl
          · simp (disch := omega) only [t3, t1, gd_t, if_t, tn, tk, if_f, hh]
            rfl
      · simp (disch := omega) only [t3, t1, gd_t, if_f, hh]
        rfl
    | some r =>
      refine loopF_inr ?_
      by_cases q : dnd n T b < n
      · have tk := g1'.2.2.1 _ q
        have tb := h.1.2 _ q
        rcases scn_stop (T := T) isDi (n - b) b with ee | ee
        · have : dnd n T b = b + (n - b) := ee
          omega
        · have ee' : ¬ isDi (T (dnd n T b)) := ee
          by_cases q2 : 48 ≤ T (dnd n T b)
          · simp (disch := omega) only [t3, t1, gd_t, if_t, tn, tk, if_f, hh, done_some]
          · simp (disch := omega) only [t3, t1, gd_t, if_t, tn, tk, if_f, hh, done_some]
      · simp (disch := omega) only [t3, t1, gd_t, if_f, hh, done_some]
  by_cases ok : numOK T b (dnd n T b) lo hi
  · refine ⟨E, g2.mono (by simp), g1', g3, g4', fun _ => ⟨?_, f8⟩, fun hn => absurd ok hn⟩
    obtain ⟨o1, o2, o3, o4⟩ := ok
    have em : numR T b (dnd n T b) = numV T b (dnd n T b - b) := by unfold numR; rw [show min (dnd n T b - b) 5 = dnd n T b - b by omega]
    rw [red]
    rw [em] at g4' vb
    simp (disch := omega) only [m_X9_readNumber_106, t3, g3, g4', gd_t, if_t, m_X9_readNumber_146, if_f]
  · refine ⟨sF E 55 8 (b : Int), (g2.trans TKp.f).mono (by simp), g1'.to TKp.f (by simp) (by rw [sF1, if_neg (by omega)]; exact t3) db.2, by rw [sF1, if_neg (by omega)]; exact g3, by rw [sF1, if_neg (by omega)]; exact g4', fun hy => absurd hy ok, fun _ => ⟨?_, by rw [sF1, if_pos ⟨rfl, rfl⟩]⟩⟩
    have fl : m_X9_readNumber_146 0 E = some (0, sF E 55 8 (b : Int)) := by
      simp (disch := omega) only [m_X9_readNumber_146, gd_t, ↓reduceIte, m_X9_failAt, sq_eq, bnd_some, g3]
    rw [red]
    unfold numOK at ok
    by_cases o1 : b < dnd n T b
    · by_cases o2 : dnd n T b - b ≤ 5
      · have em : numR T b (dnd n T b) = numV T b (dnd n T b - b) := by unfold numR; rw [show min (dnd n T b - b) 5 = dnd n T b - b by omega]
        rw [em] at g4' vb
        by_cases o3 : lo ≤ numV T b (dnd n T b - b)
        · have o4 : ¬ numV T b (dnd n T b - b) ≤ hi := fun hh => ok ⟨o1, o2, o3, hh⟩
          simp (disch := omega) only [m_X9_readNumber_106, t3, g3, g4', gd_t, if_t, if_f o4, fl]
        · simp (disch := omega) only [m_X9_readNumber_106, t3, g3, g4', gd_t, if_t, if_f o3, fl]
      · simp (disch := omega) only [m_X9_readNumber_106, t3, g3, gd_t, if_t, if_f, fl]
    · simp (disch := omega) only [m_X9_readNumber_106, t3, g3, gd_t, if_f, fl]
/-- a sign comes next -/
def sgn (n : Nat) (T : Nat → Int) (p : Nat) (c : Int) : Prop := skp n T p < n ∧ T (skp n T p) = c
theorem X9_nextIs {D : DT} {n p : Nat} {T : Nat → Int} {c : Int} (hc : InR c) (h : CT D n T p) : ∃ D', TKp D D' [3] ∧ CT D' n T (skp n T p) ∧ (sgn n T p c → m_X9_nextIs c D = some (1, D')) ∧ (¬ sgn n T p c → m_X9_nextIs c D = some (0, D')) := by
  obtain ⟨D1, e1, e2, e3⟩ := X9_skipBlanks h
  have n400 := h.1.1
  obtain ⟨⟨b1, b2⟩, t1, t2, t3, t4⟩ := e2
  refine ⟨D1, e3, ⟨⟨b1, b2⟩, t1, t2, t3, t4⟩, fun hs => ?_, fun hs => ?_⟩
  · have tk := t2 _ hs.1
    have tb := b2 _ hs.1
    simp (disch := omega) only [m_X9_nextIs, e1, ob_some, t3, t1, gd_t, if_t hs.2, if_t, tn, tk]
    rw [if_pos (by have := hs.1; omega)]
  · by_cases q : skp n T p < n
    · have tk := t2 _ q
      have tb := b2 _ q
      have q2 : ¬ T (skp n T p) = c := fun hh => hs ⟨q, hh⟩
      simp (disch := omega) only [m_X9_nextIs, e1, ob_some, t3, t1, gd_t, if_t, if_f q2, tn, tk]
    · simp (disch := omega) only [m_X9_nextIs, e1, ob_some, t3, t1, gd_t, if_f]
theorem X9_readSign {D : DT} {n p : Nat} {T : Nat → Int} {c : Int} (hc : InR c) (h : CT D n T p) : ∃ D', TKp D D' [3, 8] ∧ (sgn n T p c → m_X9_readSign c D = some (1, D') ∧ CT D' n T (skp n T p + 1) ∧ D'.1 55 8 = D.1 55 8) ∧ (¬ sgn n T p c → m_X9_readSign c D = some (0, D') ∧ CT D' n T (skp n T p) ∧ D'.1 55 8 = (skp n T p : Int)) := by
  obtain ⟨D1, e1, e2, e3, e4⟩ := X9_nextIs hc h
  have t3 := e2.2.2.2.1
  rcases Classical.em (sgn n T p c) with hs | hs
  · have e5 := e3 hs
    refine ⟨sF D1 55 3 ((skp n T p : Int) + 1), (e1.trans TKp.f).mono (by simp), fun _ => ⟨?_, e2.to TKp.f (by simp) (by rw [sF1, if_pos ⟨rfl, rfl⟩]; rfl) (by have := hs.1; omega), ?_⟩, fun hn => absurd hs hn⟩
    · simp (disch := omega) only [m_X9_readSign, e5, bnd_some, gd_t, if_f, t3, sq_eq]
    · rw [sF1, if_neg (by omega), e1.1 55 8 (by simp)]
  · have e5 := e4 hs
    refine ⟨sF D1 55 8 (skp n T p : Int), (e1.trans TKp.f).mono (by simp), fun hy => absurd hy hs, fun _ => ⟨?_, e2.to TKp.f (by simp) (by rw [sF1, if_neg (by omega)]; exact t3) e2.2.2.2.2, by rw [sF1, if_pos ⟨rfl, rfl⟩]⟩⟩
    simp (disch := omega) only [m_X9_readSign, e5, bnd_some, gd_t, ↓reduceIte, m_X9_failAt, t3, sq_eq, true_or, gd_T]
theorem X9_readKeyword {D : DT} {n p : Nat} {T : Nat → Int} (i : Nat) (hi : 0 < (strB i).length) (h : CT D n T p) : ∃ D', TKp D D' [3, 4, 5, 8] ∧ CT D' n T (wnd n T (skp n T p)) ∧ (isW T (skp n T p) (wnd n T (skp n T p)) (strB i) → m_X9_readKeyword i D = some (1, D') ∧ D'.1 55 8 = D.1 55 8) ∧ (¬ isW T (skp n T p) (wnd n T (skp n T p)) (strB i) → m_X9_readKeyword i D = some (0, D') ∧ D'.1 55 8 = (skp n T p : Int)) := by
  have hb := skp_b (T := T) h.2.2.2.2
  have wb := wnd_b (T := T) hb.2
  obtain ⟨D1, e1, e2, e3, e4, e5⟩ := X9_readWord h
  by_cases q : wnd n T (skp n T p) = skp n T p
  · rw [if_pos q] at e5
    refine ⟨D1, e1, e2, fun w => ?_, fun _ => ⟨?_, e5.2⟩⟩
    · have := w.1
      omega
    · have e5' := e5.1
      simp (disch := omega) only [m_X9_readKeyword, e5', bnd_some, gd_t, ↓reduceIte]
  · rw [if_neg q] at e5
    have e5' := e5.1
    obtain ⟨w1, w2⟩ := X9_wordIs i e2 e3 e4 ⟨wb.1, wb.2⟩
    rcases Classical.em (isW T (skp n T p) (wnd n T (skp n T p)) (strB i)) with w | w
    · have w3 := w1 w
      refine ⟨D1, e1, e2, fun _ => ⟨?_, e5.2⟩, fun hn => absurd w hn⟩
      simp (disch := omega) only [m_X9_readKeyword, e5', bnd_some, gd_t, if_f, w3, ob_some]
    · have w3 := w2 w
      refine ⟨sF D1 55 8 (skp n T p : Int), (e1.trans TKp.f).mono (by simp), e2.to TKp.f (by simp) (by rw [sF1, if_neg (by omega)]; exact e2.2.2.2.1) wb.2, fun hy => absurd hy w, fun _ => ⟨?_, by rw [sF1, if_pos ⟨rfl, rfl⟩]⟩⟩
      simp (disch := omega) only [m_X9_readKeyword, e5', bnd_some, gd_t, if_f, w3, ob_some, ↓reduceIte, m_X9_failAt, e3, sq_eq]
