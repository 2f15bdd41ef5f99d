/-! ===== the map, on both sides ===== -/
theorem cmod (a b : Nat) : (a : Int) % (b : Int) = ((a % b : Nat) : Int) := (Int.natCast_emod a b).symm
theorem cdiv (a b : Nat) : (a : Int) / (b : Int) = ((a / b : Nat) : Int) := (Int.natCast_ediv a b).symm
theorem t0 : Int.toNat 0 = 0 := rfl
theorem t1 : Int.toNat 1 = 1 := rfl
theorem t2 : Int.toNat 2 = 2 := rfl
theorem t3 : Int.toNat 3 = 3 := rfl
theorem t4 : Int.toNat 4 = 4 := rfl
def farM (w a b : Nat) : Int := (((a % w : Nat) : Int) - ((b % w : Nat) : Int)) * (((a % w : Nat) : Int) - ((b % w : Nat) : Int)) + (((a / w : Nat) : Int) - ((b / w : Nat) : Int)) * (((a / w : Nat) : Int) - ((b / w : Nat) : Int))
theorem farM_comm (w a b : Nat) : farM w a b = farM w b a := by
  unfold farM
  have e : ∀ x y : Int, (x - y) * (x - y) = (y - x) * (y - x) := fun x y => by
    have : x - y = -(y - x) := by omega
    rw [this, Int.neg_mul_neg]
  rw [e (((a % w : Nat) : Int)), e (((a / w : Nat) : Int))]
theorem sqb {x b : Int} (h1 : -b ≤ x) (h2 : x ≤ b) : 0 ≤ x * x ∧ x * x ≤ b * b := by
  have h3 : 0 ≤ (b - x) * (b + x) := Int.mul_nonneg (by omega) (by omega)
  have e : (b - x) * (b + x) = b * b - x * x := by
    rw [Int.sub_mul, Int.mul_add, Int.mul_add, Int.mul_comm x b]; omega
  refine ⟨?_, by omega⟩
  rcases Int.le_total 0 x with h | h
  · exact Int.mul_nonneg h h
  · have := Int.mul_nonneg (show 0 ≤ -x by omega) (show 0 ≤ -x by omega)
    rwa [Int.neg_mul_neg] at this
theorem wh384 {w h : Nat} (hw : w ≤ 24) (hh : h ≤ 16) : w * h ≤ 384 := Nat.le_trans (Nat.mul_le_mul hw hh) (by decide)
theorem divh {w h c : Nat} (hc : c < w * h) : c / w < h ∧ c % w < w := by
  have hw : 0 < w := by
    rcases Nat.eq_zero_or_pos w with e | e
    · subst e; simp at hc
    · exact e
  exact ⟨(Nat.div_lt_iff_lt_mul hw).mpr (by rw [Nat.mul_comm]; exact hc), Nat.mod_lt _ hw⟩
theorem farM_b {w h a b : Nat} (hw : w ≤ 24) (hh : h ≤ 16) (ha : a < w * h) (hb : b < w * h) : 0 ≤ farM w a b ∧ farM w a b ≤ 754 := by
  obtain ⟨a1, a2⟩ := divh ha
  obtain ⟨b1, b2⟩ := divh hb
  unfold farM
  generalize a / w = x1 at *
  generalize b / w = x2 at *
  generalize a % w = y1 at *
  generalize b % w = y2 at *
  have q1 := sqb (x := (y1 : Int) - (y2 : Int)) (b := 23) (by omega) (by omega)
  have q2 := sqb (x := (x1 : Int) - (x2 : Int)) (b := 15) (by omega) (by omega)
  omega
/-- a chart of the class: at hc -/
def CMap (D : DT) (hc w h : Nat) (ow se : Nat → Int) : Prop :=
  (D.1 hc 0 = (w : Int) ∧ D.1 hc 1 = (h : Int)) ∧ (w ≤ 24 ∧ h ≤ 16) ∧ ∀ c, c < w * h → D.2 (hc + 1) c = ow c ∧ D.2 (hc + 2) c = se c ∧ D.2 (hc + 3) c = ((c % w : Nat) : Int) ∧ D.2 (hc + 4) c = ((c / w : Nat) : Int)
/-- the reference's map -/
def RMap (D : DT) (w h : Nat) (ow se : Nat → Int) : Prop :=
  (D.2 76 0 = (w : Int) ∧ D.2 76 1 = (h : Int)) ∧ (w ≤ 24 ∧ h ≤ 16) ∧ ∀ c, c < w * h → D.2 78 c = ow c ∧ D.2 80 c = se c
/-- owners are zones or none; the sea is told by 0 and 1 -/
def MapOK (w h z : Nat) (ow se : Nat → Int) : Prop := ∀ c, c < w * h → (-1 ≤ ow c ∧ ow c < (z : Int)) ∧ (se c = 0 ∨ se c = 1)
section MapEval
variable {D : DT} {hc w h z : Nat} {ow se : Nat → Int}
theorem X1_cells (C : CMap D hc w h ow se) : m_X1_cells hc D = some ((w * h : Nat) : Int) := by
  obtain ⟨⟨h1, h2⟩, -⟩ := C
  simp only [m_X1_cells, h1, h2, Int.natCast_mul]
theorem X11_cells (R : RMap D w h ow se) : m_X11_cells D = some ((w * h : Nat) : Int) := by
  obtain ⟨⟨h1, h2⟩, -⟩ := R
  simp (disch := omega) only [m_X11_cells, gd_t, t0, t1, h1, h2, Int.natCast_mul]
theorem X1_far (C : CMap D hc w h ow se) {a b : Nat} (ha : a < w * h) (hb : b < w * h) : m_X1_far hc (a : Int) (b : Int) D = some (farM w a b) := by
  obtain ⟨-, ⟨w1, w2⟩, h3⟩ := C
  have hn := wh384 w1 w2
  obtain ⟨-, -, a1, a2⟩ := h3 a ha
  obtain ⟨-, -, b1, b2⟩ := h3 b hb
  simp (disch := omega) only [m_X1_far, gd_t, tn, a1, a2, b1, b2, farM]
theorem X11_far (R : RMap D w h ow se) {a b : Nat} (ha : a < w * h) (hb : b < w * h) : m_X11_far (a : Int) (b : Int) D = some (farM w a b) := by
  obtain ⟨⟨h1, h2⟩, ⟨w1, w2⟩, h3⟩ := R
  have hn := wh384 w1 w2
  have hw : 0 < w := by
    have := (divh ha).2; omega
  simp (disch := omega) only [m_X11_far, gd_t, t0, h1, cmod, cdiv, farM]
theorem X1_isLandOf (C : CMap D hc w h ow se) (O : MapOK w h z ow se) {c : Nat} (hcc : c < w * h) {y : Int} (hy : InR y) (hz : z ≤ 8) : m_X1_isLandOf hc (c : Int) y D = some (b2i (ow c = y ∧ se c = 0)) := by
  obtain ⟨-, ⟨w1, w2⟩, h3⟩ := C
  have hn := wh384 w1 w2
  obtain ⟨e1, e2, -, -⟩ := h3 c hcc
  obtain ⟨o1, o2⟩ := O c hcc
  by_cases q : ow c = y
  · by_cases p : se c = 0
    · simp (disch := omega) only [m_X1_isLandOf, gd_t, tn, e1, e2, if_t q, if_t p, b2i_t (And.intro q p)]
    · simp (disch := omega) only [m_X1_isLandOf, gd_t, tn, e1, e2, if_t q, if_f p, b2i_f (fun x => p (And.right x))]
  · simp (disch := omega) only [m_X1_isLandOf, gd_t, tn, e1, e2, if_f q, b2i_f (fun x => q (And.left x))]
theorem X11_isLandOf (R : RMap D w h ow se) (O : MapOK w h z ow se) {c : Nat} (hcc : c < w * h) {y : Int} (hy : InR y) (hz : z ≤ 8) : m_X11_isLandOf (c : Int) y D = some (b2i (ow c = y ∧ se c = 0)) := by
  obtain ⟨-, ⟨w1, w2⟩, h3⟩ := R
  have hn := wh384 w1 w2
  obtain ⟨e1, e2⟩ := h3 c hcc
  obtain ⟨o1, o2⟩ := O c hcc
  by_cases q : ow c = y
  · by_cases p : se c = 0
    · simp (disch := omega) only [m_X11_isLandOf, gd_t, tn, e1, e2, if_t q, if_t p, b2i_t (And.intro q p)]
    · simp (disch := omega) only [m_X11_isLandOf, gd_t, tn, e1, e2, if_t q, if_f p, b2i_f (fun x => p (And.right x))]
  · simp (disch := omega) only [m_X11_isLandOf, gd_t, tn, e1, e2, if_f q, b2i_f (fun x => q (And.left x))]
theorem X1_isLand (C : CMap D hc w h ow se) (O : MapOK w h z ow se) {c : Nat} (hcc : c < w * h) (hz : z ≤ 8) : m_X1_isLand hc (c : Int) D = some (b2i (ow c ≠ -1 ∧ se c = 0)) := by
  obtain ⟨-, ⟨w1, w2⟩, h3⟩ := C
  have hn := wh384 w1 w2
  obtain ⟨e1, e2, -, -⟩ := h3 c hcc
  obtain ⟨o1, o2⟩ := O c hcc
  by_cases q : ow c = -1
  · have nb : ¬ (ow c ≠ -1 ∧ se c = 0) := fun x => x.1 q
    simp (disch := omega) only [m_X1_isLand, gd_t, tn, e1, e2, if_t q, b2i_f nb]
  · by_cases p : se c = 0
    · simp (disch := omega) only [m_X1_isLand, gd_t, tn, e1, e2, if_f q, if_t p, b2i_t (And.intro q p)]
    · simp (disch := omega) only [m_X1_isLand, gd_t, tn, e1, e2, if_f q, if_f p, b2i_f (fun x => p (And.right x))]
theorem X11_isLand (R : RMap D w h ow se) (O : MapOK w h z ow se) {c : Nat} (hcc : c < w * h) (hz : z ≤ 8) : m_X11_isLand (c : Int) D = some (b2i (ow c ≠ -1 ∧ se c = 0)) := by
  obtain ⟨-, ⟨w1, w2⟩, h3⟩ := R
  have hn := wh384 w1 w2
  obtain ⟨e1, e2⟩ := h3 c hcc
  obtain ⟨o1, o2⟩ := O c hcc
  by_cases q : ow c = -1
  · have nb : ¬ (ow c ≠ -1 ∧ se c = 0) := fun x => x.1 q
    simp (disch := omega) only [m_X11_isLand, gd_t, tn, e1, e2, if_t q, b2i_f nb]
  · by_cases p : se c = 0
    · simp (disch := omega) only [m_X11_isLand, gd_t, tn, e1, e2, if_f q, if_t p, b2i_t (And.intro q p)]
    · simp (disch := omega) only [m_X11_isLand, gd_t, tn, e1, e2, if_f q, if_f p, b2i_f (fun x => p (And.right x))]
/-- the numbers of cells -/
theorem X1_cellsOf (C : CMap D hc w h ow se) (O : MapOK w h z ow se) (hz : z ≤ 8) {y : Int} (hy : InR y) : m_X1_cellsOf hc y D = some (sumTo (fun c => b2i (ow c = y)) (w * h)) := by
  have hn := wh384 C.2.1.1 C.2.1.2
  refine loop_for (st := fun k => (sumTo (fun c => b2i (ow c = y)) k, (k : Int))) (w * h) (fun k hk => ?_) ?_
  · obtain ⟨e1, -⟩ := C.2.2 k hk
    have o := O k hk
    by_cases q : ow k = y
    · simp (disch := omega) only [X1_cells C, ob_some, gd_t, if_t, tn, e1, if_t q, sumTo, b2i_t q, Int.natCast_add]
      simp
    · simp (disch := omega) only [X1_cells C, ob_some, gd_t, if_t, tn, e1, if_f q, sumTo, b2i_f q, Int.natCast_add]
      simp
  · simp (disch := omega) only [X1_cells C, ob_some, gd_t, if_f, done_some]
theorem X1_landOf (C : CMap D hc w h ow se) (O : MapOK w h z ow se) (hz : z ≤ 8) {y : Int} (hy : InR y) : m_X1_landOf hc y D = some (sumTo (fun c => b2i (ow c = y ∧ se c = 0)) (w * h)) := by
  have hn := wh384 C.2.1.1 C.2.1.2
  refine loop_for (st := fun k => (sumTo (fun c => b2i (ow c = y ∧ se c = 0)) k, (k : Int))) (w * h) (fun k hk => ?_) ?_
  · have e := X1_isLandOf C O hk hy hz
    by_cases q : ow k = y ∧ se k = 0
    · simp (disch := omega) only [X1_cells C, ob_some, gd_t, if_t, e, b2i_t q, if_f, sumTo, Int.natCast_add]
      simp
    · simp (disch := omega) only [X1_cells C, ob_some, gd_t, if_t, e, b2i_f q, ↓reduceIte, sumTo, Int.natCast_add]
      simp
  · simp (disch := omega) only [X1_cells C, ob_some, gd_t, if_f, done_some]
end MapEval
