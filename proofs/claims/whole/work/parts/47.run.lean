/-! ===== step: run ===== -/
abbrev lp (ow se : Nat → Int) (y : Int) (c : Nat) : Prop := ow c = y ∧ se c = 0
abbrev begP (ow se : Nat → Int) (y : Int) (w r x : Nat) : Prop := lp ow se y (w * r + x) ∧ (x = 0 ∨ ¬ lp ow se y (w * r + x - 1))
def reM (ow se : Nat → Int) (y : Int) (w r : Nat) : Nat → Nat → Nat
  | 0, x => x
  | k + 1, x => if x + 1 < w ∧ lp ow se y (w * r + x + 1) then reM ow se y w r k (x + 1) else x
def edM (ow se : Nat → Int) (y : Int) (w r : Nat) (i sd : Int) : Nat → Int → Nat → Int
  | 0, _, _ => -1
  | k + 1, n, x => if begP ow se y w r x then (if n = i then (if sd = 0 then (x : Int) else (reM ow se y w r w x : Int)) else edM ow se y w r i sd k (n + 1) (x + 1)) else edM ow se y w r i sd k n (x + 1)
theorem rowlt {w h r x : Nat} (hr : r < h) (hx : x < w) : w * r + x < w * h := by
  have h1 : w * (r + 1) ≤ w * h := Nat.mul_le_mul_left w hr
  rw [Nat.mul_add] at h1
  omega
section RunEval
variable {D : DT} {hc w h z : Nat} {ow se : Nat → Int} {y : Int} {r x : Nat}
theorem reM_b (k : Nat) (hx : x < w) : x ≤ reM ow se y w r k x ∧ reM ow se y w r k x < w := by
  induction k generalizing x with
  | zero => exact ⟨Nat.le_refl _, hx⟩
  | succ k ih =>
    rw [reM]
    by_cases q : x + 1 < w ∧ lp ow se y (w * r + x + 1)
    · rw [if_pos q]
      have := ih (x := x + 1) q.1
      omega
    · rw [if_neg q]
      omega
theorem edM_b {i sd n : Int} (k : Nat) (hx : x + k = w) : -1 ≤ edM ow se y w r i sd k n x ∧ edM ow se y w r i sd k n x < (w : Int) + 1 := by
  induction k generalizing x n with
  | zero => rw [edM]; omega
  | succ k ih =>
    rw [edM]
    have b := reM_b (ow := ow) (se := se) (y := y) (r := r) (w := w) (x := x) w (by omega)
    have i1 := fun n => ih (x := x + 1) (n := n) (by omega)
    split
    · split
      · split
        · omega
        · omega
      · exact i1 _
    · exact i1 _
theorem X1_startsRun (C : CMap D hc w h ow se) (O : MapOK w h z ow se) (hz : z ≤ 8) (hy : InR y) (hr : r < h) (hx : x < w) : m_X1_startsRun hc y (r : Int) (x : Int) D = some (b2i (begP ow se y w r x)) := by
  have e := X1_isLandOf C O (rowlt hr hx) hy hz
  have hw := C.2.1.1
  have e1 : (r : Int) * (w : Int) + (x : Int) = ((w * r + x : Nat) : Int) := by rw [Int.natCast_add, Int.natCast_mul, Int.mul_comm]
  by_cases q : lp ow se y (w * r + x)
  · rw [b2i_t q] at e
    by_cases q0 : x = 0
    · have bb : begP ow se y w r x := ⟨q, Or.inl q0⟩
      rw [b2i_t bb]
      have q0' : (x : Int) = 0 := by omega
      simp (disch := omega) only [m_X1_startsRun, C.1.1, e1, e, ob_some, gd_t, if_f, if_t q0']
    · have e2 : ((w * r + x : Nat) : Int) - 1 = ((w * r + x - 1 : Nat) : Int) := by omega
      have e3 := X1_isLandOf C O (c := w * r + x - 1) (by have := rowlt hr hx; omega) hy hz
      have q0' : ¬ (x : Int) = 0 := by omega
      by_cases q1 : lp ow se y (w * r + x - 1)
      · rw [b2i_t q1] at e3
        rw [b2i_f (fun hh : begP ow se y w r x => hh.2.elim q0 (fun g => g q1))]
        simp (disch := omega) only [m_X1_startsRun, C.1.1, e1, e, ob_some, gd_t, if_f, if_f q0', e2, e3]
      · rw [b2i_f q1] at e3
        have bb : begP ow se y w r x := ⟨q, Or.inr q1⟩
        rw [b2i_t bb]
        simp (disch := omega) only [m_X1_startsRun, C.1.1, e1, e, ob_some, gd_t, if_f, if_f q0', e2, e3, ↓reduceIte]
  · rw [b2i_f q] at e
    rw [b2i_f (fun hh : begP ow se y w r x => q hh.1)]
    simp (disch := omega) only [m_X1_startsRun, C.1.1, e1, e, ob_some, gd_t, ↓reduceIte]
theorem wrmod (hx : x < w) : (w * r + x) % w = x := by
  rw [Nat.mul_add_mod, Nat.mod_eq_of_lt hx]
theorem X11_isRunBegin' (R : RMap D w h ow se) (O : MapOK w h z ow se) (hz : z ≤ 8) (hy : InR y) (hr : r < h) (hx : x < w) {c : Nat} (hcc : w * r + x = c) : m_X11_isRunBegin y (c : Int) D = some (b2i (begP ow se y w r x)) := by
  have lt : c < w * h := by rw [← hcc]; exact rowlt hr hx
  have e := X11_isLandOf R O lt hy hz
  have hw := R.2.1
  have n3 := wh384 hw.1 hw.2
  have md : (c : Int) % (w : Int) = (x : Int) := by rw [← hcc, cmod, wrmod hx]
  have f0 := R.1.1
  by_cases q : lp ow se y c
  · rw [b2i_t q] at e
    by_cases q0 : x = 0
    · have bb : begP ow se y w r x := ⟨by rw [hcc]; exact q, Or.inl q0⟩
      rw [b2i_t bb]
      have q0' : (x : Int) = 0 := by omega
      simp (disch := omega) only [m_X11_isRunBegin, e, ob_some, gd_t, if_f, t0, f0, md, if_t q0']
    · have e2 : (c : Int) - 1 = ((c - 1 : Nat) : Int) := by omega
      have e3 := X11_isLandOf R O (c := c - 1) (by omega) hy hz
      have q0' : ¬ (x : Int) = 0 := by omega
      by_cases q1 : lp ow se y (c - 1)
      · rw [b2i_t q1] at e3
        rw [b2i_f (fun hh : begP ow se y w r x => hh.2.elim q0 (fun g => g (by rw [hcc]; exact q1)))]
        simp (disch := omega) only [m_X11_isRunBegin, e, ob_some, gd_t, if_f, t0, f0, md, if_f q0', e2, e3]
      · rw [b2i_f q1] at e3
        have bb : begP ow se y w r x := ⟨by rw [hcc]; exact q, Or.inr (by rw [hcc]; exact q1)⟩
        rw [b2i_t bb]
        simp (disch := omega) only [m_X11_isRunBegin, e, ob_some, gd_t, if_f, t0, f0, md, if_f q0', e2, e3, ↓reduceIte]
  · rw [b2i_f q] at e
    rw [b2i_f (fun hh : begP ow se y w r x => q (by rw [← hcc]; exact hh.1))]
    simp (disch := omega) only [m_X11_isRunBegin, e, ob_some, gd_t, ↓reduceIte]
theorem X11_isRunBegin (R : RMap D w h ow se) (O : MapOK w h z ow se) (hz : z ≤ 8) (hy : InR y) (hr : r < h) (hx : x < w) : m_X11_isRunBegin y ((w * r + x : Nat) : Int) D = some (b2i (begP ow se y w r x)) := X11_isRunBegin' R O hz hy hr hx rfl
theorem X1_runsOf (C : CMap D hc w h ow se) (O : MapOK w h z ow se) (hz : z ≤ 8) (hy : InR y) (hr : r < h) : m_X1_runsOf hc y (r : Int) D = some (sumTo (fun x => b2i (begP ow se y w r x)) w) := by
  have hw := C.2.1
  refine loop_for (st := fun k => (sumTo (fun x => b2i (begP ow se y w r x)) k, (k : Int))) w (fun k hk => ?_) ?_
  · have e := X1_startsRun C O hz hy hr hk
    by_cases q : begP ow se y w r k
    · simp (disch := omega) only [C.1.1, ob_some, gd_t, if_t, e, b2i_t q, if_f, sumTo, Int.natCast_add]
      simp
    · simp (disch := omega) only [C.1.1, ob_some, gd_t, if_t, e, b2i_f q, ↓reduceIte, sumTo, Int.natCast_add]
      simp
  · simp (disch := omega) only [C.1.1, ob_some, gd_t, if_f, done_some]
theorem X11_runsIn (R : RMap D w h ow se) (O : MapOK w h z ow se) (hz : z ≤ 8) (hy : InR y) (hr : r < h) : m_X11_runsIn y (r : Int) D = some (sumTo (fun x => b2i (begP ow se y w r x)) w) := by
  have hw := R.2.1
  have f0 := R.1.1
  refine loop_for (st := fun k => (sumTo (fun x => b2i (begP ow se y w r x)) k, (k : Int))) w (fun k hk => ?_) ?_
  · have e := X11_isRunBegin R O hz hy hr hk
    have e1 : (w : Int) * (r : Int) + (k : Int) = ((w * r + k : Nat) : Int) := by rw [Int.natCast_add, Int.natCast_mul]
    have c1 : ((k + 1 : Nat) : Int) = (k : Int) + 1 := by omega
    by_cases q : begP ow se y w r k
    · simp (disch := omega) only [t0, f0, ob_some, gd_t, if_t, e1, e, b2i_t q, if_f, sumTo, c1]
    · simp (disch := omega) only [t0, f0, ob_some, gd_t, if_t, e1, e, b2i_f q, ↓reduceIte, sumTo, c1]
  · simp (disch := omega) only [t0, f0, ob_some, gd_t, if_f, done_some]
theorem X1_runEnd (C : CMap D hc w h ow se) (O : MapOK w h z ow se) (hz : z ≤ 8) (hy : InR y) (hr : r < h) (hx : x < w) (k : Nat) (hk : w ≤ x + k) : m_X1_runEnd hc y (r : Int) (x : Int) D = some (reM ow se y w r k x : Int) := by
  have hw := C.2.1
  induction k generalizing x with
  | zero => omega
  | succ k ih =>
    have e1 : (r : Int) * (w : Int) + (x : Int) + 1 = ((w * r + x + 1 : Nat) : Int) := by rw [Int.natCast_add, Int.natCast_add, Int.natCast_mul, Int.mul_comm]; rfl
    by_cases q0 : x + 1 < w
    · have e := X1_isLandOf C O (c := w * r + x + 1) (rowlt hr q0) hy hz
      by_cases q : lp ow se y (w * r + x + 1)
      · rw [b2i_t q] at e
        have i := ih (x := x + 1) q0 (by omega)
        rw [reM, if_pos ⟨q0, q⟩, ← i]
        unfold m_X1_runEnd m_X1_runEnd_3
        refine loopF_inl ?_
        simp (disch := omega) only [C.1.1, gd_t, if_t, e1, e, ob_some, if_f]
        rfl
      · rw [b2i_f q] at e
        rw [reM, if_neg (fun g => q g.2)]
        unfold m_X1_runEnd m_X1_runEnd_3
        refine loopF_inr ?_
        simp (disch := omega) only [C.1.1, gd_t, if_t, e1, e, ob_some, ↓reduceIte, done_some]
    · rw [reM, if_neg (fun g => q0 g.1)]
      unfold m_X1_runEnd m_X1_runEnd_3
      refine loopF_inr ?_
      simp (disch := omega) only [C.1.1, gd_t, if_f, done_some]
theorem X11_runEnd (R : RMap D w h ow se) (O : MapOK w h z ow se) (hz : z ≤ 8) (hy : InR y) (hr : r < h) (hx : x < w) (k : Nat) (hk : w ≤ x + k) : m_X11_runEnd y ((w * r + x : Nat) : Int) D = some ((w * r + reM ow se y w r k x : Nat) : Int) := by
  have hw := R.2.1
  have n3 := wh384 hw.1 hw.2
  have f0 := R.1.1
  induction k generalizing x with
  | zero => omega
  | succ k ih =>
    have lt := rowlt (h := h) hr hx
    have md : ((w * r + x : Nat) : Int) % (w : Int) = (x : Int) := by rw [cmod, wrmod hx]
    have e1 : ((w * r + x : Nat) : Int) + 1 = ((w * r + x + 1 : Nat) : Int) := rfl
    have lo : (0 : Int) ≤ ((w * r + x : Nat) : Int) ∧ ((w * r + x : Nat) : Int) ≤ (2147483647 : Int) ∧ (0 : Int) < (w : Int) ∧ (w : Int) ≤ (2147483647 : Int) := by
      generalize w * r + x = c at *
      omega
    by_cases q0 : x + 1 < w
    · have e := X11_isLandOf R O (c := w * r + x + 1) (rowlt hr q0) hy hz
      by_cases q : lp ow se y (w * r + x + 1)
      · rw [b2i_t q] at e
        have i := ih (x := x + 1) q0 (by omega)
        rw [reM, if_pos ⟨q0, q⟩, ← i]
        unfold m_X11_runEnd m_X11_runEnd_2
        refine loopF_inl ?_
        simp (disch := omega) only [t0, f0, gd_t lo, md, gd_t, if_t, e1, e, ob_some, if_f]
        rfl
      · rw [b2i_f q] at e
        rw [reM, if_neg (fun g => q g.2)]
        unfold m_X11_runEnd m_X11_runEnd_2
        refine loopF_inr ?_
        simp (disch := omega) only [t0, f0, gd_t lo, md, gd_t, if_t, e1, e, ob_some, ↓reduceIte, done_some]
    · rw [reM, if_neg (fun g => q0 g.1)]
      unfold m_X11_runEnd m_X11_runEnd_2
      refine loopF_inr ?_
      simp (disch := omega) only [t0, f0, gd_t lo, md, gd_t, if_f, done_some]
end RunEval
