/-! ===== the middle of the dots ===== -/
def wtM (M : MS) (l : Nat) (v : Int) (c : Nat) : Int := sumTo (fun g => if v = -1 ∨ (g : Int) = v then crwM M l c g else 0) 3
theorem wt_b {M : MS} (O : MOK M) (l : Nat) (v : Int) {c : Nat} (hc : c < nC M) : 0 ≤ wtM M l v c ∧ wtM M l v c ≤ togM M l c := by
  have h0 := crw_b O l c 0 hc
  have h1 := crw_b O l c 1 hc
  have h2 := crw_b O l c 2 hc
  unfold wtM togM
  simp only [sumTo]
  refine ⟨?_, ?_⟩
  · split <;> split <;> split <;> omega
  · split <;> split <;> split <;> omega
theorem X2_weight {D : DT} {k l : Nat} {M : MS} (O : MOK M) (K : CrowdAt D k M l) {c : Nat} (hc : c < nC M) {v : Int} (hv : v = -1 ∨ 0 ≤ v ∧ v < (mG M : Int)) : m_X2_weightOf k (c : Int) v D = some (wtM M l v c) := by
  have g3 := O.2.2.2.1
  by_cases q : v = -1
  · subst q
    rw [X2_weightOf_a O K hc]
    simp only [wtM, sumTo, true_or, ↓reduceIte, togM]
    congr 1
    omega
  · obtain ⟨g, hg⟩ := nat_of (v := v) (by omega)
    subst hg
    have hg3 : g < 3 := by omega
    rw [X2_weightOf_g O K hc hg3, ← sum_pick (fun g => crwM M l c g) hg3]
    congr 1
    refine sumTo_congr (fun k _ => ?_)
    by_cases q : k = g
    · rw [if_pos q, if_pos (Or.inr (by omega))]
    · rw [if_neg q, if_neg (fun h => by omega)]
/-! sums with weights -/
def wX (M : MS) (f : Nat → Int) (n : Nat) : Int := sumTo (fun o => f o * ((o % mW M : Nat) : Int)) n
def wY (M : MS) (f : Nat → Int) (n : Nat) : Int := sumTo (fun o => f o * ((o / mW M : Nat) : Int)) n
def wQ (M : MS) (f : Nat → Int) (n : Nat) : Int := sumTo (fun o => f o * (((o % mW M : Nat) : Int) * ((o % mW M : Nat) : Int) + ((o / mW M : Nat) : Int) * ((o / mW M : Nat) : Int))) n
def wF (M : MS) (f : Nat → Int) (c n : Nat) : Int := sumTo (fun o => f o * farM (mW M) c o) n
theorem pullW (M : MS) (f : Nat → Int) (c n : Nat) : sumTo f n * (((c % mW M : Nat) : Int) * ((c % mW M : Nat) : Int) + ((c / mW M : Nat) : Int) * ((c / mW M : Nat) : Int)) - 2 * ((c % mW M : Nat) : Int) * wX M f n - 2 * ((c / mW M : Nat) : Int) * wY M f n = wF M f c n - wQ M f n := by
  induction n with
  | zero => simp [wX, wY, wQ, wF, sumTo]
  | succ n ih =>
    have e2 : wX M f (n + 1) = wX M f n + f n * ((n % mW M : Nat) : Int) := rfl
    have e3 : wY M f (n + 1) = wY M f n + f n * ((n / mW M : Nat) : Int) := rfl
    have e4 : wQ M f (n + 1) = wQ M f n + f n * (((n % mW M : Nat) : Int) * ((n % mW M : Nat) : Int) + ((n / mW M : Nat) : Int) * ((n / mW M : Nat) : Int)) := rfl
    have e5 : wF M f c (n + 1) = wF M f c n + f n * farM (mW M) c n := rfl
    rw [e2, e3, e4, e5, sumTo]
    unfold farM
    generalize sumTo f n = a at *
    generalize wX M f n = b at *
    generalize wY M f n = d at *
    generalize wQ M f n = e at *
    generalize wF M f c n = g at *
    generalize ((c % mW M : Nat) : Int) = x at *
    generalize ((c / mW M : Nat) : Int) = y at *
    generalize ((n % mW M : Nat) : Int) = x' at *
    generalize ((n / mW M : Nat) : Int) = y' at *
    generalize f n = k at *
    grind
theorem mul_b {a b A B : Int} (h1 : 0 ≤ a) (h2 : a ≤ A) (h3 : 0 ≤ b) (h4 : b ≤ B) : 0 ≤ a * b ∧ a * b ≤ A * B := ⟨Int.mul_nonneg h1 h3, Int.mul_le_mul h2 h4 h3 (by omega)⟩
theorem wF_b {M : MS} (O : MOK M) (l : Nat) (v : Int) {c : Nat} (hc : c < nC M) {n : Nat} (hn : n ≤ nC M) : 0 ≤ wF M (wtM M l v) c n ∧ wF M (wtM M l v) c n ≤ 2399976 * 754 * 384 := by
  have n4 := nCb O
  have := sumTo_bounds (f := fun o => wtM M l v o * farM (mW M) c o) (n := n) (a := 0) (b := 2399976 * 754) (fun o ho => by
    have w := wt_b O l v (show o < nC M by omega)
    have t := tog_b O l o (show o < nC M by omega)
    have f := farM_b O.2.1.1 O.2.1.2 hc (show o < nC M by omega)
    exact mul_b w.1 (by omega) f.1 f.2)
  unfold wF
  omega
theorem wQ_b {M : MS} (O : MOK M) (l : Nat) (v : Int) : 0 ≤ wQ M (wtM M l v) (nC M) ∧ wQ M (wtM M l v) (nC M) ≤ 2399976 * 754 * 384 := by
  have n4 := nCb O
  have := sumTo_bounds (f := fun o => wtM M l v o * (((o % mW M : Nat) : Int) * ((o % mW M : Nat) : Int) + ((o / mW M : Nat) : Int) * ((o / mW M : Nat) : Int))) (n := nC M) (a := 0) (b := 2399976 * 754) (fun o ho => by
    have w := wt_b O l v ho
    have t := tog_b O l o ho
    have d1 := (divh ho).1
    have d2 := (divh ho).2
    have d3 := O.2.1
    have g40 : (0 : Int) ≤ ((o / mW M : Nat) : Int) := Int.natCast_nonneg _
    have g30 : (0 : Int) ≤ ((o % mW M : Nat) : Int) := Int.natCast_nonneg _
    have q1 := sqb (x := ((o % mW M : Nat) : Int)) (b := 23) (by omega) (by omega)
    have q2 := sqb (x := ((o / mW M : Nat) : Int)) (b := 15) (by omega) (by omega)
    exact mul_b w.1 (by omega) (by omega) (by omega))
  unfold wQ
  omega
theorem sum_z {f : Nat → Int} {n : Nat} (h : ∀ k, k < n → 0 ≤ f k) : sumTo f n = 0 ↔ ∀ k, k < n → f k = 0 := by
  induction n with
  | zero => exact ⟨fun _ k hk => by omega, fun _ => rfl⟩
  | succ n ih =>
    have i := ih (fun k hk => h k (by omega))
    have p : 0 ≤ sumTo f n := by
      have := sumTo_mono (f := f) (m := 0) (n := n) (by omega) (fun k hk => h k (by omega))
      exact this
    have q := h n (by omega)
    rw [sumTo]
    constructor
    · intro hh k hk
      by_cases e : k = n
      · subst e; omega
      · exact i.mp (by omega) k (by omega)
    · intro hh
      have := i.mpr (fun k hk => hh k (by omega))
      have := hh n (by omega)
      omega
/-- no dots, no weight -/
theorem wt_zero {M : MS} (O : MOK M) {l : Nat} (v : Int) : sumTo (wtM M l v) (nC M) = 0 ↔ sumTo (fun z => sumTo (fun g => if v = -1 ∨ (g : Int) = v then dotM M (mU M) g l z else 0) (mG M)) (mZ M) = 0 := by
  have z8 := O.2.2.1
  have g3 := O.2.2.2.1
  have ub := O.ufx
  have dn : ∀ z g, z < mZ M → g < mG M → 0 ≤ (if v = -1 ∨ (g : Int) = v then dotM M (mU M) g l z else 0) := fun z g hz hg => by
    have := dotM_b O (u := mU M) (by omega) (show g < 3 by omega) l (show z < 8 by omega)
    split <;> omega
  have sn : ∀ z, z < mZ M → 0 ≤ sumTo (fun g => if v = -1 ∨ (g : Int) = v then dotM M (mU M) g l z else 0) (mG M) := fun z hz => by
    have := sumTo_mono (f := fun g => if v = -1 ∨ (g : Int) = v then dotM M (mU M) g l z else 0) (m := 0) (n := mG M) (by omega) (fun g hg => dn z g hz hg)
    exact this
  rw [sum_z (fun c hc => (wt_b O l v hc).1), sum_z sn]
  have cn : ∀ c, c < nC M → ∀ g : Nat, g < 3 → 0 ≤ (if v = -1 ∨ (g : Int) = v then crwM M l c g else 0) := fun c hc g hg => by
    have := crw_b O l c g hc
    split <;> omega
  constructor
  · intro h z hz
    rw [sum_z (fun g hg => dn z g hz hg)]
    intro g hg
    have db := dotM_b O (u := mU M) (by omega) (show g < 3 by omega) l (show z < 8 by omega)
    by_cases q : v = -1 ∨ (g : Int) = v
    · rw [if_pos q]
      rcases Int.lt_or_le 0 (dotM M (mU M) g l z) with hd | hd
      · exfalso
        have ll : ((ordL M (z : Int)).length : Int) = ldM M z := ord_len M z
        have q0 : 0 < (ordL M (z : Int)).length := by
          rcases Nat.eq_zero_or_pos (ordL M (z : Int)).length with e | e
          · exfalso
            have e0 : ldM M z = 0 := by omega
            have : dotM M (mU M) g l z = 0 := by rw [dotM_in, dts, if_pos e0]
            omega
          · exact e
        have hf : fM (mG M) g (ordL M (z : Int)).length 0 < (ordL M (z : Int)).length := Nat.mod_lt _ q0
        have hm := ord_mem (List.getElem_mem hf)
        have hp := plc_get (M := M) (z := (z : Int)) (by omega) hf
        have hw := h _ hm.1
        unfold wtM at hw
        rw [sum_z (cn _ hm.1)] at hw
        have hwg := hw g (by omega)
        rw [if_pos q] at hwg
        unfold crwM at hwg
        rw [if_pos ⟨has_of hm.2, hg⟩, (isL_iff.mp hm.2).1, tn, hp] at hwg
        have hz2 := (sum_z (f := fun k => b2i ((((k * mG M + g : Nat) : Int) % lnd M (z : Int)) = ((fM (mG M) g (ordL M (z : Int)).length 0 : Nat) : Int))) (fun k _ => b2i_01.1)).mp hwg 0 (by omega)
        rw [b2i_t (by rw [← ord_len, cmod]; rfl)] at hz2
        omega
      · omega
    · rw [if_neg q]
  · intro h c hc
    unfold wtM
    rw [sum_z (cn c hc)]
    intro g hg
    by_cases q : v = -1 ∨ (g : Int) = v
    · rw [if_pos q]
      by_cases q2 : hasL M c = true ∧ g < mG M
      · obtain ⟨z, hz, ho, hl⟩ := own_of O hc q2.1
        have h1 := (sum_z (fun g hg => dn z g hz hg)).mp (h z hz) g q2.2
        rw [if_pos q] at h1
        unfold crwM
        rw [if_pos q2, ho, tn, h1]
        rfl
      · unfold crwM
        rw [if_neg q2]
    · rw [if_neg q]
def mdlM (M : MS) (l : Nat) (v : Int) : Int := if sumTo (wtM M l v) (nC M) = 0 then -1 else argB (fun _ => true) (fun c b => decide (wF M (wtM M l v) c (nC M) < wF M (wtM M l v) b (nC M))) (nC M)
theorem cls_middle {D : DT} {p l : Nat} {M : MS} (O : MOK M) (C : CMap D (p + 1) (mW M) (mH M) (mO M) (mS M)) (K : CrowdAt D (p + 22) M l) {v : Int} (hv : v = -1 ∨ 0 ≤ v ∧ v < (mG M : Int)) : ∃ D', m_X2_centralCell (p + 22) (p + 1) v D = some (mdlM M l v, D') ∧ D'.2 = D.2 ∧ ∀ a, a ≠ p + 26 → D'.1 a = D.1 a := by
  have n4 := nCb O
  have sl := spt_le M l
  have wm : ∀ x, x ∈ sptM M l → x < nC M := fun x h => (spt_mem.mp h).1
  have zz : ∀ c, c < nC M → ¬ dotP M l c = true → wtM M l v c = 0 := fun c hc h => by
    have h1 := wt_b O l v hc
    have h2 := tog_b O l c hc
    have : ¬ 0 < togM M l c := by simpa using h
    omega
  have tot : ∀ f : Nat → Int, sumS (fun c => wtM M l v c * f c) (sptM M l) = sumTo (fun c => wtM M l v c * f c) (nC M) := fun f => by
    unfold sptM
    rw [sumS_fr]
    refine sumTo_congr (fun c hc => ?_)
    by_cases q : dotP M l c = true
    · rw [if_pos q]
    · rw [if_neg q, zz c hc q, Int.zero_mul]
  have tot1 : sumS (wtM M l v) (sptM M l) = sumTo (wtM M l v) (nC M) := by
    unfold sptM
    rw [sumS_fr]
    refine sumTo_congr (fun c hc => ?_)
    by_cases q : dotP M l c = true
    · rw [if_pos q]
    · rw [if_neg q, zz c hc q]
  obtain ⟨k1, k2, k3, c5, c3⟩ := K
  unfold m_X2_centralCell m_X0_clear
  simp only [sq_eq, ob_some]
  unfold m_X2_centralCell_9
  obtain ⟨s', ⟨i1, i2, i3, i4, i5, i6⟩, e⟩ := loop_inv (f := fun s : Int × DT =>
    gd (InR s.1 ∧ InR (s.2.1 (p + 22) 5)) (if s.1 < (s.2.1 (p + 22) 5) then (
      gd ((0 : Int) ≤ s.1 ∧ s.1 < (384 : Int)) (
      gd ((0 : Int) ≤ s.1 ∧ s.1 < (384 : Int)) (
      (m_X2_weightOf (p + 22) (s.2.2 (p + 22 + 3) (Int.toNat s.1)) v s.2).bind (fun r36 =>
      (m_X0_add (p + 22 + 4) (p + 1) (s.2.2 (p + 22 + 3) (Int.toNat s.1)) r36 s.2).bind (fun D39 =>
      some (.inl ((s.1 + 1), D39))
      ))))
    ) else (
      done (
      (m_X0_isEmpty (p + 22 + 4) s.2).bind (fun r52 =>
      gd (InR r52) (if r52 = 0 then (
        m_X2_centralCell_65 (p + 22) (p + 1) s.2 (0, 1)
      ) else (
        some ((-1), s.2)
      ))
      )
      )
    ))) (fun i s => s.1 = (i : Int) ∧ s.2.2 = D.2 ∧ (∀ a, a ≠ p + 26 → s.2.1 a = D.1 a) ∧ s.2.1 (p + 22 + 4) 0 = sumS (wtM M l v) ((sptM M l).take i) ∧ s.2.1 (p + 22 + 4) 1 = sumS (fun c => wtM M l v c * ((c % mW M : Nat) : Int)) ((sptM M l).take i) ∧ s.2.1 (p + 22 + 4) 2 = sumS (fun c => wtM M l v c * ((c / mW M : Nat) : Int)) ((sptM M l).take i)) (sptM M l).length (s := (0, sF (sF (sF D (p + 22 + 4) 0 0) (p + 22 + 4) 1 0) (p + 22 + 4) 2 0)) ⟨rfl, rfl, fun a ha => by
      funext j
      rw [sF1, if_neg (by omega), sF1, if_neg (by omega), sF1, if_neg (by omega)], by
      rw [sF1, if_neg (by omega), sF1, if_neg (by omega), sF1, if_pos ⟨rfl, rfl⟩]; rfl, by
      rw [sF1, if_neg (by omega), sF1, if_pos ⟨rfl, rfl⟩]; rfl, by
      rw [sF1, if_pos ⟨rfl, rfl⟩]; rfl⟩ (fun i s hi ⟨a1, a2, a3, a4, a5, a6⟩ => by
      have e5 : s.2.1 (p + 22) 5 = ((sptM M l).length : Int) := by rw [a3 _ (by omega)]; exact c5
      have e1 : s.2.2 (p + 22 + 3) i = ((sptM M l)[i] : Int) := by rw [a2]; exact c3 i hi
      have hci := wm _ (List.getElem_mem hi)
      have C2 : CMap s.2 (p + 1) (mW M) (mH M) (mO M) (mS M) := C.cong (fun a ha => ⟨a3 a (by omega), by rw [a2]⟩)
      have K2 : CrowdAt s.2 (p + 22) M l := by
        unfold CrowdAt
        rw [a3 _ (show p + 22 ≠ p + 26 by omega), a2]
        exact ⟨k1, k2, k3, c5, c3⟩
      have ew := X2_weight O K2 hci hv
      have wb := wt_b O l v hci
      have tb := tog_b O l _ hci
      have ts : (sptM M l).take (i + 1) = (sptM M l).take i ++ [(sptM M l)[i]] := List.take_succ_eq_append_getElem hi
      rw [ts, sumS_snoc, sumS_snoc, sumS_snoc]
      generalize (sptM M l)[i] = c at *
      obtain ⟨-, -, m3, m4⟩ := C2.2.2 c hci
      have d1 := (divh hci).1
      have d2 := (divh hci).2
      have d3 := O.2.1
      have g40 : (0 : Int) ≤ ((c / mW M : Nat) : Int) := Int.natCast_nonneg _
      have g3 : InR ((c % mW M : Nat) : Int) := by omega
      have g4 : InR ((c / mW M : Nat) : Int) := by omega
      have gw : InR (wtM M l v c) := by omega
      have f1 : (p + 22 + 4 = p + 22 + 4 ∧ 1 = 0) = False := by simp
      have f2 : (p + 22 + 4 = p + 22 + 4 ∧ 2 = 0) = False := by simp
      have f3 : (p + 22 + 4 = p + 22 + 4 ∧ 2 = 1) = False := by simp
      have f4 : (True ∧ (1 : Nat) = 0) = False := by simp
      have f5 : (True ∧ (2 : Nat) = 0) = False := by simp
      have f6 : (True ∧ (2 : Nat) = 1) = False := by simp
      refine ⟨((i : Int) + 1, sF (sF (sF s.2 (p + 22 + 4) 0 (s.2.1 (p + 22 + 4) 0 + wtM M l v c)) (p + 22 + 4) 1 (s.2.1 (p + 22 + 4) 1 + wtM M l v c * ((c % mW M : Nat) : Int))) (p + 22 + 4) 2 (s.2.1 (p + 22 + 4) 2 + wtM M l v c * ((c / mW M : Nat) : Int))), ?_, rfl, a2, fun a ha => ?_, ?_, ?_, ?_⟩
      · simp (disch := omega) only [a1, e5, gd_t, if_t, tn, e1, ew, ob_some, m_X0_add, gd_t gw, gd_t g3, gd_t g4, sq_eq, sF1, sF2, f1, f2, f3, f4, f5, f6, ↓reduceIte, m3, m4]
      · funext j
        rw [sF1, if_neg (by omega), sF1, if_neg (by omega), sF1, if_neg (by omega), a3 a ha]
      · rw [sF1, if_neg (by omega), sF1, if_neg (by omega), sF1, if_pos ⟨rfl, rfl⟩, a4]
      · rw [sF1, if_neg (by omega), sF1, if_pos ⟨rfl, rfl⟩, a5]
      · rw [sF1, if_pos ⟨rfl, rfl⟩, a6])
  rw [List.take_length] at i4 i5 i6
  rw [tot1] at i4
  rw [tot] at i5 i6
  have e5 : s'.2.1 (p + 22) 5 = ((sptM M l).length : Int) := by rw [i3 _ (by omega)]; exact c5
  have e1n : s'.2.1 (p + 22) 1 = (nC M : Int) := by rw [i3 _ (by omega)]; exact k1
  have C2 : CMap s'.2 (p + 1) (mW M) (mH M) (mO M) (mS M) := C.cong (fun a ha => ⟨i3 a (by omega), by rw [i2]⟩)
  have nb := sumTo_bounds (f := wtM M l v) (n := nC M) (a := 0) (b := 2399976) (fun c hc => by
    have h1 := wt_b O l v hc
    have h2 := tog_b O l c hc
    omega)
  refine ⟨s'.2, ?_, i2, i3⟩
  rw [e]
  refine loopF_inr ?_
  unfold mdlM
  by_cases q : sumTo (wtM M l v) (nC M) = 0
  · rw [if_pos q]
    simp (disch := omega) only [i1, e5, gd_t, if_f, m_X0_isEmpty, i4, if_t q, ob_some, done_some]
  · rw [if_neg q]
    have n0 : 0 < nC M := by
      rcases Nat.eq_zero_or_pos (nC M) with h | h
      · rw [h] at q; exact absurd rfl q
      · exact h
    have qb := wQ_b O l v
    have ep : ∀ c : Nat, c < nC M → m_X0_pullFrom (p + 22 + 4) (p + 1) (c : Int) s'.2 = some (wF M (wtM M l v) c (nC M) - wQ M (wtM M l v) (nC M)) := fun c hcc => by
      obtain ⟨-, -, m3, m4⟩ := C2.2.2 c hcc
      have d1 := (divh hcc).1
      have d2 := (divh hcc).2
      have d3 := O.2.1
      have g40 : (0 : Int) ≤ ((c / mW M : Nat) : Int) := Int.natCast_nonneg _
      have g3 : InR ((c % mW M : Nat) : Int) := by omega
      have g4 : InR ((c / mW M : Nat) : Int) := by omega
      have := pullW M (wtM M l v) c (nC M)
      unfold wX wY at this
      simp (disch := omega) only [m_X0_pullFrom, gd_t, tn, m3, m4, gd_t g3, gd_t g4, i4, i5, i6, this]
    have second : m_X2_centralCell_65 (p + 22) (p + 1) s'.2 (0, 1) = some (argB (fun _ => true) (fun c b => decide (wF M (wtM M l v) c (nC M) < wF M (wtM M l v) b (nC M))) (nC M), s'.2) := by
      have key := loop_for (f := fun s : Int × Int =>
        gd (InR s.2 ∧ InR (s'.2.1 (p + 22) 1)) (if s.2 < (s'.2.1 (p + 22) 1) then (
          (m_X0_pullFrom (p + 22 + 4) (p + 1) s.2 s'.2).bind (fun r81 =>
          (m_X0_pullFrom (p + 22 + 4) (p + 1) s.1 s'.2).bind (fun r90 =>
          gd (InL r81 ∧ InL r90) (if r81 < r90 then (
            some (.inl (s.2, (s.2 + 1)))
          ) else (
            some (.inl (s.1, (s.2 + 1)))
          ))
          ))
        ) else (
          done (
          some (s.1, s'.2)
          )
        ))) (r := (argB (fun _ => true) (fun c b => decide (wF M (wtM M l v) c (nC M) < wF M (wtM M l v) b (nC M))) (nC M), s'.2)) (st := fun i => (argB (fun _ => true) (fun c b => decide (wF M (wtM M l v) c (nC M) < wF M (wtM M l v) b (nC M))) (i + 1), ((i + 1 : Nat) : Int))) (nC M - 1) (fun i hi => by
          have hc : i + 1 < nC M := by omega
          have ab := argB_cases (fun _ => true) (fun c b => decide (wF M (wtM M l v) c (nC M) < wF M (wtM M l v) b (nC M))) (i + 1)
          have as := argB_s (fun _ => true) (fun c b => decide (wF M (wtM M l v) c (nC M) < wF M (wtM M l v) b (nC M))) (i + 1)
          rw [as]
          generalize argB (fun _ => true) (fun c b => decide (wF M (wtM M l v) c (nC M) < wF M (wtM M l v) b (nC M))) (i + 1) = b at *
          have c1 : ((i + 1 + 1 : Nat) : Int) = ((i + 1 : Nat) : Int) + 1 := rfl
          rcases ab with ⟨h1, h2⟩ | ⟨b', h1, h2, h3⟩
          · have := h2 i (by omega)
            simp at this
          · subst h3
            have p1 := ep _ hc
            have p2 := ep b' (by omega)
            have w1 := wF_b O l v hc (Nat.le_refl _)
            have w2 := wF_b O l v (show b' < nC M by omega) (Nat.le_refl _)
            have ne3 : ((b' : Int) == -1) = false := by simp
            by_cases q2 : wF M (wtM M l v) (i + 1) (nC M) < wF M (wtM M l v) b' (nC M)
            · have q2' : wF M (wtM M l v) (i + 1) (nC M) - wQ M (wtM M l v) (nC M) < wF M (wtM M l v) b' (nC M) - wQ M (wtM M l v) (nC M) := by omega
              simp (disch := omega) only [e1n, gd_t, if_t, p1, p2, ob_some, if_t q2', c1, ne3, tn, decide_eq_true q2, Bool.or_true, Bool.and_true, ↓reduceIte]
            · have q2' : ¬ (wF M (wtM M l v) (i + 1) (nC M) - wQ M (wtM M l v) (nC M) < wF M (wtM M l v) b' (nC M) - wQ M (wtM M l v) (nC M)) := by omega
              simp (disch := omega) only [e1n, gd_t, if_t, p1, p2, ob_some, if_f q2', c1, ne3, tn, decide_eq_false q2, Bool.or_false, Bool.and_false, Bool.false_eq_true, ↓reduceIte]) (by
          have ec : nC M - 1 + 1 = nC M := by omega
          simp (disch := omega) only [ec, e1n, gd_t, if_f, done_some])
      exact key
    simp (disch := omega) only [i1, e5, gd_t, if_f, m_X0_isEmpty, i4, if_f q, ob_some, ↓reduceIte, second, done_some]
theorem ref_mdl_in {E : DT} {l : Nat} {M : MS} (R : RInv E M) (hK : RCrowd E M l) {v : Int} (hv : InR v) {c : Nat} (hc : c < nC M) {b g : Int} (hb : InR b) (hg : InL g) : m_X11_middle_67 v b g (c : Int) E (0, 0) = some (.inl (if b = -1 ∨ wF M (wtM M l v) c (nC M) < g then ((c : Int), wF M (wtM M l v) c (nC M), (c : Int) + 1) else (b, g, (c : Int) + 1))) := by
  have O := R.1
  have n4 := nCb O
  have sb := wF_b O l v hc (Nat.le_refl _)
  have ec : m_X11_cells E = some (nC M : Int) := X11_cells R.2.1.1
  refine loop_for (st := fun o => (wF M (wtM M l v) c o, (o : Int))) (nC M) (fun o ho => ?_) ?_
  · have ew : m_X11_crowdOf (o : Int) v E = some (wtM M l v o) := X11_crowdOf O hK ho hv
    have wb := wt_b O l v ho
    have tb := tog_b O l o ho
    have ef := X11_far R.2.1.1 hc ho
    have fb := farM_b O.2.1.1 O.2.1.2 hc ho
    have c1 : ((o + 1 : Nat) : Int) = (o : Int) + 1 := rfl
    have e5 : wF M (wtM M l v) c (o + 1) = wF M (wtM M l v) c o + wtM M l v o * farM (mW M) c o := rfl
    simp (disch := omega) only [ec, ob_some, gd_t, if_t, ew, ef, e5, c1]
  · by_cases q : b = -1
    · simp (disch := omega) only [ec, ob_some, gd_t, if_f, done_some, if_t q, q, true_or, ↓reduceIte]
    · by_cases q2 : g ≤ wF M (wtM M l v) c (nC M)
      · have nq : ¬ (b = -1 ∨ wF M (wtM M l v) c (nC M) < g) := by omega
        simp (disch := omega) only [ec, ob_some, gd_t, if_f, done_some, if_f q, if_t q2, if_f nq]
      · have nq : b = -1 ∨ wF M (wtM M l v) c (nC M) < g := by omega
        simp (disch := omega) only [ec, ob_some, gd_t, if_f, done_some, if_f q, if_f q2, if_t nq]
theorem ref_mdl {E : DT} {l : Nat} {M : MS} (R : RInv E M) (hK : RCrowd E M l) {v : Int} (hv : InR v) : m_X11_middle_52 v E (-1, 0, 0) = some (argB (fun _ => true) (fun c b => decide (wF M (wtM M l v) c (nC M) < wF M (wtM M l v) b (nC M))) (nC M), E) := by
  have O := R.1
  have n4 := nCb O
  have ec : m_X11_cells E = some (nC M : Int) := X11_cells R.2.1.1
  refine loop_for (st := fun c => (argB (fun _ => true) (fun c b => decide (wF M (wtM M l v) c (nC M) < wF M (wtM M l v) b (nC M))) c, (if argB (fun _ => true) (fun c b => decide (wF M (wtM M l v) c (nC M) < wF M (wtM M l v) b (nC M))) c = -1 then 0 else wF M (wtM M l v) (argB (fun _ => true) (fun c b => decide (wF M (wtM M l v) c (nC M) < wF M (wtM M l v) b (nC M))) c).toNat (nC M)), (c : Int))) (nC M) (fun c hc => ?_) ?_
  · have c1 : ((c + 1 : Nat) : Int) = (c : Int) + 1 := rfl
    have as := argB_s (fun _ => true) (fun c b => decide (wF M (wtM M l v) c (nC M) < wF M (wtM M l v) b (nC M))) c
    have sb := wF_b O l v hc (Nat.le_refl _)
    have ab := argB_cases (fun _ => true) (fun c b => decide (wF M (wtM M l v) c (nC M) < wF M (wtM M l v) b (nC M))) c
    rw [as]
    generalize argB (fun _ => true) (fun c b => decide (wF M (wtM M l v) c (nC M) < wF M (wtM M l v) b (nC M))) c = b at *
    have hne : ¬ ((c : Int) = -1) := by omega
    rcases ab with ⟨h, -⟩ | ⟨b', h1, h2, h3⟩
    · have ei := ref_mdl_in R hK hv hc (b := -1) (g := 0) (by omega) (by omega)
      rw [if_pos (Or.inl rfl)] at ei
      subst h
      simp (disch := omega) only [ec, ob_some, gd_t, if_t, ei, ↓reduceIte, c1, beq_self_eq_true, Bool.true_or, Bool.and_true, if_f hne, tn]
    · have sb2 := wF_b O l v (show b' < nC M by omega) (Nat.le_refl _)
      have ei := ref_mdl_in R hK hv hc (b := (b' : Int)) (g := wF M (wtM M l v) b' (nC M)) (by omega) (by omega)
      have hne2 : ¬ ((b' : Int) = -1) := by omega
      have hne3 : ((b' : Int) == -1) = false := by simp
      subst h3
      by_cases q2 : wF M (wtM M l v) c (nC M) < wF M (wtM M l v) b' (nC M)
      · rw [if_pos (Or.inr q2)] at ei
        simp (disch := omega) only [ec, ob_some, gd_t, if_t, if_f hne2, tn, ei, ↓reduceIte, c1, hne3, decide_eq_true q2, Bool.or_true, Bool.and_true, if_f hne]
      · rw [if_neg (by omega)] at ei
        simp (disch := omega) only [ec, ob_some, gd_t, if_t, if_f hne2, tn, ei, ↓reduceIte, c1, hne3, decide_eq_false q2, Bool.or_false, Bool.and_false, Bool.false_eq_true]
  · simp (disch := omega) only [ec, ob_some, gd_t, if_f, done_some]
theorem step_middle : StepOK m_L_c35 := fun xs Ls s hx hs ⟨M, hC, hR⟩ => by
  have x1 := hx (Int.toNat (s.1 + 1))
  have x2 := hx (Int.toNat (s.1 + 2))
  have O := hC.1
  have C := hC.2.1
  have n4 := nCb O
  have g3 := O.2.2.2.1
  have z8 := O.2.2.1
  have ub := O.ufx
  by_cases q1 : xs (Int.toNat (s.1 + 1)) = -1 ∨ 0 ≤ xs (Int.toNat (s.1 + 1)) ∧ xs (Int.toNat (s.1 + 1)) < (mG M : Int)
  · have a1 := cn_groupN_t O C x1 q1
    have ref0 : ∀ D, RInv D M → m_X11_middle (xs (Int.toNat (s.1 + 1))) (xs (Int.toNat (s.1 + 2))) D = m_X11_middle_18 (xs (Int.toNat (s.1 + 1))) (xs (Int.toNat (s.1 + 2))) (sF D 73 0 0) := fun D r => by
      by_cases q : xs (Int.toNat (s.1 + 1)) = -1
      · simp (disch := omega) only [m_X11_middle, sq_eq, gd_t, if_t q]
      · have y1 := rn_group_t (r.thr (x := 0)) x1 (by omega)
        simp (disch := omega) only [m_X11_middle, sq_eq, gd_t, if_f q, y1, bnd_some, ↓reduceIte]
    by_cases q2 : 0 ≤ xs (Int.toNat (s.1 + 2)) ∧ xs (Int.toNat (s.1 + 2)) < 5
    · have a2 := cn_level_t (D := s.2) x2 q2
      obtain ⟨l, hl⟩ := nat_of q2.1
      rw [hl] at a2 q2 x2 ref0
      have hl5 : l < 5 := by omega
      obtain ⟨D1, e1, e2, e3, e4⟩ := cls_crowd hC hl5
      obtain ⟨D2, f1, f2, f3⟩ := cls_middle (p := 1) O e2.2.1.1.1 e3 q1
      have mb : -1 ≤ mdlM M l (xs (Int.toNat (s.1 + 1))) ∧ mdlM M l (xs (Int.toNat (s.1 + 1))) < 384 := by
        unfold mdlM
        have := argB_b (fun _ => true) (fun c b => decide (wF M (wtM M l (xs (Int.toNat (s.1 + 1)))) c (nC M) < wF M (wtM M l (xs (Int.toNat (s.1 + 1)))) b (nC M))) (nC M)
        split <;> omega
      have kk : KpO D1 D2 27 27 := fun b hb => ⟨f3 b (by omega), by rw [f2]⟩
      have c2 : CInv D2 M := e2.back (fun b hb => kk b (by omega)) ⟨O, e2.plan.2.1.fr (fun b hb => kk b (by omega)), by rw [(kk 1 (by omega)).1]; exact e2.plan.2.2.1, by
        obtain ⟨t1, t2, t3⟩ := e2.plan.2.2.2
        refine ⟨?_, t2.fr (fun b hb => kk b (by omega)), t3.fr (fun b hb => kk b (by omega))⟩
        rw [(kk (1 + 9) (by omega)).1]
        rcases t1 with t | t
        · exact Or.inl t
        · exact Or.inr ⟨t.1, t.2.fr (fun b hb => kk b (by omega))⟩⟩
      refine comb_middle hx hs (M' := M) (sp := .inl (mdlM M l (xs (Int.toNat (s.1 + 1))))) (by show InR _; omega) ⟨D2, ?_, c2, e4.trans (kk.frC (by omega))⟩ hR (fun D r => ?_)
      · have f1' : m_X2_centralCell 23 2 (xs (Int.toNat (s.1 + 1))) D1 = some (mdlM M l (xs (Int.toNat (s.1 + 1))), D2) := f1
        simp (disch := omega) only [m_X10_middle, hl, a1, a2, bndN_inl, e1, ob_some, f1', bnd_some]
      · obtain ⟨E, g1, g2, g4, g5, -⟩ := X11_laysCrowds (r.thr (x := 0)) hl5
        have RE := (r.thr (x := 0)).ck g2
        have y2 := rn_level_t (D := sF D 73 0 0) x2 q2
        have ea := X11_allDots RE g5 hl5 x1
        have ez := wt_zero O (l := l) (xs (Int.toNat (s.1 + 1)))
        have ab := sumTo_bounds (f := fun z => sumTo (fun g => if xs (Int.toNat (s.1 + 1)) = -1 ∨ (g : Int) = xs (Int.toNat (s.1 + 1)) then dotM M (mU M) g l z else 0) (mG M)) (n := mZ M) (a := 0) (b := 799992 * 3) (fun z hz => by
          have := sumTo_bounds (f := fun g => if xs (Int.toNat (s.1 + 1)) = -1 ∨ (g : Int) = xs (Int.toNat (s.1 + 1)) then dotM M (mU M) g l z else 0) (n := mG M) (a := 0) (b := 799992) (fun g hg => by
            have := dotM_b O (u := mU M) (by omega) (show g < 3 by omega) l (show z < 8 by omega)
            split <;> omega)
          omega)
        refine ⟨mdlM M l (xs (Int.toNat (s.1 + 1))), E, ?_, RE, (FrR.f (by omega)).trans g2.frR, by rw [g2.1]; rfl, fun v h => by injection h⟩
        rw [hl, ref0 D r]
        unfold mdlM
        generalize sumTo (fun z => sumTo (fun g => if xs (Int.toNat (s.1 + 1)) = -1 ∨ (g : Int) = xs (Int.toNat (s.1 + 1)) then dotM M (mU M) g l z else 0) (mG M)) (mZ M) = A at *
        by_cases q : A = 0
        · rw [if_pos (ez.mpr q)]
          simp (disch := omega) only [m_X11_middle_18, y2, bnd_some, gd_t, ↓reduceIte, g1, ob_some, ea, if_t q]
        · rw [if_neg (fun h => q (ez.mp h))]
          have em := ref_mdl RE g4 x1
          simp (disch := omega) only [m_X11_middle_18, y2, bnd_some, gd_t, ↓reduceIte, g1, ob_some, ea, if_f q, em]
    · have a2 := cn_level_f (D := s.2) x2 q2
      refine comb_middle hx hs (sp := .inr 0) (by simp [spX]) (ClsX.same hC ?_) hR (RefX.same (c := 1) 0 rfl (fun v h => by cases h) (fun D r => ?_))
      · simp (disch := omega) only [m_X10_middle, a1, a2, bndN_inl, bndN_inr]
      · have y2 := rn_level_f (D := sF D 73 0 0) x2 q2
        rw [ref0 D r]
        simp (disch := omega) only [m_X11_middle_18, y2, bnd_some, gd_t, if_f, sFF]
  · have a1 := cn_groupN_f O C x1 q1
    have q3 : ¬ xs (Int.toNat (s.1 + 1)) = -1 := fun h => q1 (Or.inl h)
    refine comb_middle hx hs (sp := .inr 0) (by simp [spX]) (ClsX.same hC ?_) hR (RefX.same (c := 1) 0 rfl (fun v h => by cases h) (fun D r => ?_))
    · simp (disch := omega) only [m_X10_middle, a1, bndN_inr]
    · have y1 := rn_group_f (r.thr (x := 0)) x1 (by omega)
      simp (disch := omega) only [m_X11_middle, sq_eq, gd_t, if_f q3, y1, bnd_some, if_f, sFF]
