/-! ===== land that changes ===== -/
section LandCong
variable {M M' : MS}
theorem ordN_z (h1 : M'.1 = M.1) {z : Int} (h : isL M' z = isL M z) (k : Nat) : ordN M' z k = ordN M z k := by
  have hn : nC M' = nC M := by unfold nC mW mH; rw [h1]
  have hw : mW M' = mW M := by unfold mW; rw [h1]
  have hs : sumFar M' z = sumFar M z := by
    funext c
    unfold sumFar
    rw [h, hn, hw]
  have hm : midM M' z = midM M z := by
    unfold midM
    rw [h, hs, hn]
  induction k with
  | zero => rfl
  | succ k ih =>
    have hx : nxtM M' z (ordN M z k) = nxtM M z (ordN M z k) := by
      unfold nxtM
      rw [h, hw, hn]
    simp only [ordN]
    rw [ih, hm, hx]
theorem ordL_z (h1 : M'.1 = M.1) {z : Int} (h : isL M' z = isL M z) : ordL M' z = ordL M z := by
  have hn : nC M' = nC M := by unfold nC mW mH; rw [h1]
  unfold ordL
  rw [hn, ordN_z h1 h]
theorem lnd_z (h1 : M'.1 = M.1) {z : Int} (h : isL M' z = isL M z) : lnd M' z = lnd M z := by
  rw [← ord_len, ← ord_len, ordL_z h1 h]
theorem plc_z (h1 : M'.1 = M.1) {z : Nat} (h : isL M' (z : Int) = isL M (z : Int)) {c : Nat} (hc : isL M' (z : Int) c = true) : plcM M' c = plcM M c := by
  have hc2 : isL M (z : Int) c = true := by rw [← h]; exact hc
  unfold plcM
  rw [if_pos (has_of hc), if_pos (has_of hc2), (isL_iff.mp hc).1, (isL_iff.mp hc2).1, ordL_z h1 h]
/-- the ranks of zones that stay the same -/
theorem RanksRep.land {D D' : DT} {r : Nat} (K : RanksRep D r M) (h1 : M'.1 = M.1) (f1 : ∀ z, z < 8 → D'.2 (r + 4) z = 0 ∨ D'.2 (r + 4) z = 1) (f2 : D'.1 r 4 = 0) (f3 : ∀ z, z < mZ M → D'.2 (r + 4) z = 1 → D.2 (r + 4) z = 1 ∧ isL M' (z : Int) = isL M (z : Int)) (f4 : D'.2 (r + 1) = D.2 (r + 1)) : RanksRep D' r M' := by
  have hn : nC M' = nC M := by unfold nC mW mH; rw [h1]
  have hZ : mZ M' = mZ M := by unfold mZ; rw [h1]
  refine ⟨f1, Or.inl f2, fun z hz hf c hc hl => ?_, fun h => by omega⟩
  obtain ⟨g1, g2⟩ := f3 z (by omega) hf
  rw [f4, plc_z h1 g2 hl]
  exact K.2.2.1 z (by omega) g1 c (by omega) (by rw [← g2]; exact hl)
/-- nothing of the land changes -/
def LEq (M M' : MS) : Prop := M'.1 = M.1 ∧ (∀ z : Nat, isL M' (z : Int) = isL M (z : Int)) ∧ hasL M' = hasL M ∧ (∀ c, hasL M c = true → mO M' c = mO M c) ∧ mP M' = mP M ∧ mU M' = mU M ∧ mF M' = mF M
theorem LEq.d (E : LEq M M') : M'.1 = M.1 := E.1
theorem LEq.l (E : LEq M M') : ∀ z : Nat, isL M' (z : Int) = isL M (z : Int) := E.2.1
theorem LEq.h (E : LEq M M') : hasL M' = hasL M := E.2.2.1
theorem LEq.o (E : LEq M M') : ∀ c, hasL M c = true → mO M' c = mO M c := E.2.2.2.1
theorem LEq.p (E : LEq M M') : mP M' = mP M := E.2.2.2.2.1
theorem LEq.u (E : LEq M M') : mU M' = mU M := E.2.2.2.2.2.1
theorem LEq.f (E : LEq M M') : mF M' = mF M := E.2.2.2.2.2.2
theorem LEq.ld (E : LEq M M') : ldM M' = ldM M := by
  funext z
  exact lnd_z E.d (E.l z)
theorem LEq.dot (E : LEq M M') (u : Int) (g l : Nat) : dotM M' u g l = dotM M u g l := by
  induction l with
  | zero => simp only [dotM, E.ld, E.p]
  | succ l ih => simp only [dotM, E.ld, E.f, ih]
theorem LEq.inm (E : LEq M M') (u : Int) (g l : Nat) : inM M' u g l = inM M u g l := by
  cases l with
  | zero => simp only [inM, E.p]
  | succ l => exact E.dot u g l
theorem LEq.car (E : LEq M M') (g l z : Nat) : carM M' g l z = carM M g l z := by
  unfold carM
  rw [E.inm, E.ld, E.u]
  cases l with
  | zero => simp only [szM, E.u]
  | succ l => simp only [szM, E.f]
theorem has_nat (O : MOK M) {c : Nat} (hc : c < nC M) (h : hasL M c = true) : ∃ z : Nat, mO M c = (z : Int) ∧ isL M (z : Int) c = true := by
  obtain ⟨z, -, h1, h2⟩ := own_of O hc h
  exact ⟨z, h1, h2⟩
theorem LEq.plc (E : LEq M M') (O : MOK M) {c : Nat} (hc : c < nC M) : plcM M' c = plcM M c := by
  by_cases q : hasL M c = true
  · obtain ⟨z, h1, h2⟩ := has_nat O hc q
    exact plc_z E.d (E.l z) (by rw [E.l z]; exact h2)
  · rw [plc_none q, plc_none (by rw [E.h]; exact q)]
theorem LEq.nc (E : LEq M M') : nC M' = nC M := by unfold nC mW mH; rw [E.d]
theorem LEq.g (E : LEq M M') : mG M' = mG M := by unfold mG; rw [E.d]
theorem LEq.z (E : LEq M M') : mZ M' = mZ M := by unfold mZ; rw [E.d]
theorem LEq.crw (E : LEq M M') (O : MOK M) (l : Nat) {c : Nat} (hc : c < nC M) (g : Nat) : crwM M' l c g = crwM M l c g := by
  unfold crwM
  rw [E.h, E.g, E.plc O hc]
  by_cases q : hasL M c = true ∧ g < mG M
  · rw [if_pos q, if_pos q]
    obtain ⟨z, h1, h2⟩ := has_nat O hc q.1
    rw [E.o c q.1, h1, lnd_z E.d (E.l z), E.u, E.dot]
  · rw [if_neg q, if_neg q]
theorem LEq.tog (E : LEq M M') (O : MOK M) (l : Nat) {c : Nat} (hc : c < nC M) : togM M' l c = togM M l c := by
  unfold togM
  rw [E.crw O l hc, E.crw O l hc, E.crw O l hc]
theorem LEq.spt (E : LEq M M') (O : MOK M) (l : Nat) : sptM M' l = sptM M l := by
  unfold sptM
  rw [E.nc]
  refine List.filter_congr (fun c hc => ?_)
  rw [E.tog O l (by simpa using hc)]
theorem LEq.tally {D : DT} {t : Nat} (E : LEq M M') (T : TallyRep D t M) : TallyRep D t M' := by
  obtain ⟨t1, t2, t3, t4⟩ := T
  refine ⟨fun z hz => by rw [E.ld]; exact t1 z hz, by rw [E.z, E.g]; exact t2, fun l g z hl hg hz => ?_, fun l g hl hg => ?_⟩
  · rw [E.g] at hg
    rw [E.z] at hz
    rw [E.u, E.dot, E.car]
    exact t3 l g z hl hg hz
  · rw [E.g] at hg
    rw [E.z, E.car]
    exact t4 l g hl hg
theorem LEq.ranks {D : DT} {r : Nat} (E : LEq M M') (O : MOK M) (K : RanksRep D r M) : RanksRep D r M' := by
  obtain ⟨k1, k2, k3, k4⟩ := K
  have hf : fstM M' = fstM M := by
    funext z
    unfold fstM
    rw [E.ld]
  refine ⟨k1, k2, fun z hz hq c hc hl => ?_, fun hq => ?_⟩
  · rw [E.z] at hz
    rw [E.nc] at hc
    rw [E.plc O hc]
    exact k3 z hz hq c hc (by rw [← E.l z]; exact hl)
  · obtain ⟨r1, r2, r3⟩ := k4 hq
    refine ⟨fun c hc => ?_, fun z hz => ?_, fun z hz i hi => ?_⟩
    · rw [E.nc] at hc
      rw [E.plc O hc]
      exact r1 c hc
    · rw [E.z] at hz
      rw [hf]
      exact r2 z hz
    · rw [E.z] at hz
      have e := ordL_z E.d (E.l z)
      simp only [e] at hi ⊢
      rw [hf]
      exact r3 z hz i hi
theorem LEq.crowd {D : DT} {k : Nat} (E : LEq M M') (O : MOK M) (K : CrowdRep D k M) : CrowdRep D k M' := by
  rcases K with h | ⟨l, hl, h1, c1, c2, c3, c4, c5⟩
  · exact Or.inl h
  · refine Or.inr ⟨l, hl, h1, by rw [E.nc]; exact c1, fun c g hc hg => ?_, fun c hc => ?_, by rw [E.spt O]; exact c4, fun i hi => ?_⟩
    · rw [E.nc] at hc
      rw [E.crw O l hc]
      exact c2 c g hc hg
    · rw [E.nc] at hc
      rw [E.tog O l hc]
      exact c3 c hc
    · have e := E.spt O l
      simp only [e] at hi ⊢
      exact c5 i hi
end LandCong
/-! ===== step: flood ===== -/
abbrev setSea (M : MS) (c : Nat) (v : Int) : MS := (M.1, (M.2.1.1, updI M.2.1.2 c v), M.2.2)
theorem MOK.setSea {M : MS} (O : MOK M) {c : Nat} {v : Int} (h : v = 0 ∨ v = 1) : MOK (setSea M c v) := by
  obtain ⟨o1, o2, o3, o4, o5, o6⟩ := O
  refine ⟨o1, o2, o3, o4, fun x hx => ⟨(o5 x hx).1, ?_⟩, o6⟩
  show updI M.2.1.2 c v x = 0 ∨ updI M.2.1.2 c v x = 1
  by_cases q : x = c
  · simp only [updI, if_t q]; exact h
  · simp only [updI, if_f q]; exact (o5 x hx).2
theorem CBase.setSea {D : DT} {M : MS} (C : CBase D M) {c : Nat} (hc : c < 384) {v : Int} (h : v = 0 ∨ v = 1) : CBase (sA D 4 c v) (setSea M c v) := by
  obtain ⟨⟨⟨c1, c2, c3⟩, c4, c5, c6⟩, ⟨⟨r1, r2⟩, r3⟩, c7⟩ := C
  refine ⟨⟨⟨c1, c2, fun x hx => ?_⟩, c4, c5, c6⟩, ⟨⟨fun x hx => ?_, r2⟩, r3⟩, c7⟩
  · obtain ⟨d1, d2, d3, d4⟩ := c3 x hx
    refine ⟨d1, ?_, d3, d4⟩
    show (sA D 4 c v).2 4 x = updI M.2.1.2 c v x
    rw [sA2]
    by_cases q : x = c
    · rw [if_pos ⟨rfl, q⟩]; simp only [updI, if_t q]
    · rw [if_neg (fun hh => q hh.2)]; simp only [updI, if_f q]; exact d2
  · show (sA D 4 c v).2 4 x = 0 ∨ (sA D 4 c v).2 4 x = 1
    rw [sA2]
    by_cases q : x = c
    · rw [if_pos ⟨rfl, q⟩]; exact h
    · rw [if_neg (fun hh => q hh.2)]; exact r1 x hx
theorem sea_other {M : MS} {c : Nat} {v : Int} {z : Int} (h : mO M c ≠ z) : isL (setSea M c v) z = isL M z := by
  funext x
  unfold isL
  show (M.2.1.1 x == z && updI M.2.1.2 c v x == 0) = _
  by_cases q : x = c
  · subst q
    have : (M.2.1.1 x == z) = false := by simpa using h
    rw [this]
    rfl
  · simp only [updI, if_f q]
theorem sea_free {M : MS} {c : Nat} {v : Int} (h : mO M c = -1) : LEq M (setSea M c v) := by
  refine ⟨rfl, fun z => sea_other (by omega), ?_, fun _ _ => rfl, rfl, rfl, rfl⟩
  funext x
  unfold hasL
  show (M.2.1.1 x != -1 && updI M.2.1.2 c v x == 0) = _
  by_cases q : x = c
  · subst q
    have : (M.2.1.1 x != -1) = false := by simpa using h
    rw [this]
    rfl
  · simp only [updI, if_f q]
/-- what the class forgets with a zone's land -/
abbrev frgL (D : DT) (p z : Nat) : DT := sF (sF (sF (sA D (p + 14 + 4) z 0) (p + 14) 4 0) (p + 9) 0 0) (p + 22) 0 (-1)
theorem X5_landChanged (D : DT) {p z : Nat} (hz : z < 8) : m_X5_landChanged p (z : Int) D = some (frgL D p z) := by
  have ne : ¬ ((z : Int) = -1) := by omega
  simp (disch := omega) only [m_X5_landChanged, gd_t, if_f ne, m_X6_forget, true_or, and_true, tn, sq_eq, ob_some, m_X5_numbersChanged, m_X2_forget]
theorem X10_landChanged (D : DT) {z : Nat} (hz : z < 8) : m_X10_landChanged (z : Int) D = some (sF (frgL D 1 z) 70 5 (-1)) := by
  simp only [m_X10_landChanged, X5_landChanged D hz, ob_some, m_X4_forget, sq_eq]
theorem X10_landFree (D : DT) : m_X10_landChanged (-1) D = some (sF D 70 5 (-1)) := by
  simp (disch := omega) only [m_X10_landChanged, m_X5_landChanged, gd_t, ↓reduceIte, ob_some, m_X4_forget, sq_eq]
theorem frgL_frC (D : DT) (z : Nat) : FrC D (sF (frgL D 1 z) 70 5 (-1)) := ((((FrC.a (by omega)).trans (FrC.f (by omega))).trans (FrC.f (by omega))).trans (FrC.f (by omega))).trans (FrC.f (by omega))
theorem frgL1 (D : DT) {p z a k : Nat} (h : a ≠ p + 14 ∧ a ≠ p + 9 ∧ a ≠ p + 22) : (frgL D p z).1 a k = D.1 a k := by
  unfold frgL
  rw [sF1, if_neg (by omega), sF1, if_neg (by omega), sF1, if_neg (by omega), sA1]
theorem frgL2 (D : DT) {p z a : Nat} (h : a ≠ p + 14 + 4) : (frgL D p z).2 a = D.2 a := by
  unfold frgL
  rw [sF2, sF2, sF2]
  funext j
  rw [sA2, if_neg (fun hh => h hh.1)]
theorem CBase.fr {D D' : DT} {M : MS} (C : CBase D M) (h1 : ∀ a, a < 10 ∨ a = 55 ∨ a = 65 → D'.1 a = D.1 a) (h2 : ∀ a, a < 10 ∨ a = 58 ∨ a = 62 ∨ a = 64 ∨ a = 66 → D'.2 a = D.2 a) : CBase D' M := by
  unfold CBase ChartRep ChartRng CMap at *
  simp only [h1 0 (by omega), h1 1 (by omega), h1 2 (by omega), h1 55 (by omega), h1 65 (by omega), h2 (2 + 1) (by omega), h2 (2 + 2) (by omega), h2 (2 + 3) (by omega), h2 (2 + 4) (by omega), h2 (2 + 5) (by omega), h2 (2 + 6) (by omega), h2 (2 + 7) (by omega), h2 (56 + 2) (by omega), h2 (56 + 6) (by omega), h2 64 (by omega), h2 66 (by omega)]
  exact C
/-- the class has forgotten a zone's land -/
theorem CInv.forgets {D : DT} {M M' : MS} (O : MOK M') (C : CBase D M') (K : RanksRep D 15 M) (h1 : M'.1 = M.1) {z : Nat} (h2 : ∀ y : Nat, y ≠ z → isL M' (y : Int) = isL M (y : Int)) : CInv (sF (frgL D 1 z) 70 5 (-1)) M' := by
  refine ⟨O, C.fr (fun a ha => ?_) (fun a ha => ?_), ⟨Or.inl ?_, K.land h1 (fun y hy => ?_) ?_ (fun y hy hf => ?_) ?_, Or.inl ?_⟩, Or.inl ?_⟩
  · funext k
    rw [sF1, if_neg (by omega)]
    exact frgL1 D (by omega)
  · exact frgL2 (p := 1) (z := z) D (by omega)
  · rw [sF1, if_neg (by omega)]
    unfold frgL
    rw [sF1, if_neg (by omega), sF1, if_pos ⟨rfl, rfl⟩]
  · show (sA D (1 + 14 + 4) z 0).2 (1 + 14 + 4) y = 0 ∨ (sA D (1 + 14 + 4) z 0).2 (1 + 14 + 4) y = 1
    rw [sA2]
    by_cases q : y = z
    · rw [if_pos ⟨rfl, q⟩]; exact Or.inl rfl
    · rw [if_neg (fun h => q h.2)]; exact K.1 y hy
  · rw [sF1, if_neg (by omega)]
    unfold frgL
    rw [sF1, if_neg (by omega), sF1, if_neg (by omega), sF1, if_pos ⟨rfl, rfl⟩]
  · have hf2 : (sA D (1 + 14 + 4) z 0).2 (1 + 14 + 4) y = 1 := hf
    rw [sA2] at hf2
    by_cases q : y = z
    · rw [if_pos ⟨rfl, q⟩] at hf2; omega
    · rw [if_neg (fun h => q h.2)] at hf2
      exact ⟨hf2, h2 y q⟩
  · exact frgL2 (p := 1) (z := z) (a := 15 + 1) D (by omega)
  · rw [sF1, if_neg (by omega)]
    unfold frgL
    rw [sF1, if_pos ⟨rfl, rfl⟩]
  · rw [sF1, if_pos ⟨rfl, rfl⟩]
/-- the class has forgotten its paths -/
theorem CInv.frgP {D D0 : DT} {M M' : MS} (h : CInv D0 M) (E : LEq M M') (O : MOK M') (C : CBase D M') (f : ∀ a, 10 ≤ a ∧ a ≤ 27 → D.1 a = D0.1 a ∧ D.2 a = D0.2 a) : CInv (sF D 70 5 (-1)) M' := by
  have f1 : ∀ a, 10 ≤ a ∧ a ≤ 27 → (sF D 70 5 (-1)).1 a = D0.1 a ∧ (sF D 70 5 (-1)).2 a = D0.2 a := fun a ha => ⟨by
    funext k
    rw [sF1, if_neg (by omega), (f a ha).1], (f a ha).2⟩
  obtain ⟨h1, h2, ⟨h3, h4, h5⟩, h6⟩ := h
  refine ⟨O, C.fr (fun a ha => ?_) (fun a ha => rfl), ⟨?_, ?_, ?_⟩, Or.inl ?_⟩
  · funext k
    rw [sF1, if_neg (by omega)]
  · rw [(f1 (1 + 9) (by omega)).1]
    rcases h3 with h3 | h3
    · exact Or.inl h3
    · exact Or.inr ⟨h3.1, E.tally (h3.2.fr (fun b hb => f1 b (by omega)))⟩
  · exact E.ranks h1 (h4.fr (fun b hb => f1 b (by omega)))
  · exact E.crowd h1 (h5.fr (fun b hb => f1 b (by omega)))
  · rw [sF1, if_pos ⟨rfl, rfl⟩]
/-- the reference lays its orders -/
theorem RInv.lay {D E : DT} {M M' : MS} (R : RInv D M) (O : MOK M') (RM : RMap E (mW M') (mH M') (mO M') (mS M')) (h1 : M'.1 = M.1) (h2 : M'.2.2 = M.2.2) (hF : E.1 = D.1) (hA : ∀ b, b ∈ [74, 76, 82, 84, 85, 101] → E.2 b = D.2 b) (hO : OrdRep E M') : RInv E M' := by
  obtain ⟨c1, ⟨c2, c2', c2''⟩, c3, c4, c5, c6, c7, c8, c9⟩ := R
  obtain ⟨d, m, r⟩ := M
  obtain ⟨d', m', r'⟩ := M'
  simp only at h1 h2
  subst h1 h2
  refine ⟨O, ⟨RM, ?_, ?_⟩, ?_, ?_, ?_, ?_, ?_, ?_, hO⟩
  · rw [hA 76 (by simp)]; exact c2'
  · rw [hA 76 (by simp)]; exact c2''
  · rw [hA 82 (by simp)]; exact c3
  · rw [hA 84 (by simp)]; exact c4
  · rw [hF]; exact c5
  · rw [hF, hA 74 (by simp)]; exact c6
  · rw [hF, hA 101 (by simp)]; exact c7
  · rw [hA 85 (by simp)]; exact c8
theorem OKeep.frR {D E : DT} (k : OKeep D E) : FrR D E := fun a ha => ⟨by rw [k.1], k.2 a (by omega)⟩
theorem nz01 (x : Int) : nz x = 0 ∨ nz x = 1 := by
  unfold nz
  split
  · exact Or.inl rfl
  · exact Or.inr rfl
theorem ref_flood {D : DT} {M : MS} (R : RInv D M) {c : Nat} (hc : c < nC M) {v : Int} (hv : v = 0 ∨ v = 1) : ∃ E, m_X11_flood (c : Int) v D = some (if mS M c = v then 0 else 1, E) ∧ RInv E (setSea M c v) ∧ FrR D E ∧ E.1 73 0 = 0 := by
  have n4 := nCb R.1
  have R0 := R.thr (x := 0)
  have y1 := rn_cell_t R0 (v := (c : Int)) (by omega) (by omega)
  have RM : RMap (sA (sF D 73 0 0) 80 c v) (mW M) (mH M) (mO (setSea M c v)) (mS (setSea M c v)) := by
    obtain ⟨m1, m2, m3⟩ := R0.2.1.1
    refine ⟨m1, m2, fun x hx => ⟨(m3 x hx).1, ?_⟩⟩
    show (sA (sF D 73 0 0) 80 c v).2 80 x = updI M.2.1.2 c v x
    rw [sA2]
    by_cases q : x = c
    · rw [if_pos ⟨rfl, q⟩]; simp only [updI, if_t q]
    · rw [if_neg (fun hh => q hh.2)]; simp only [updI, if_f q]; exact (m3 x hx).2
  obtain ⟨E, e1, e2, e3⟩ := X11_laysOrders (M := setSea M c v) RM (R.1.setSea hv) R0.2.1.2.1
  have es : (sF D 73 0 0).2 80 c = mS M c := (R0.2.1.1.2.2 c hc).2
  have sb := (R.1.2.2.2.2.1 c hc).2
  refine ⟨E, ?_, R0.lay (R.1.setSea hv) (e2.map RM) rfl rfl e2.1 (fun b hb => ?_) e3, ((FrR.f (by omega)).trans (FrR.a (by omega))).trans e2.frR, by rw [e2.1]; rfl⟩
  · by_cases q : mS M c = v
    · simp (disch := omega) only [m_X11_flood, sq_eq, y1, bnd_some, gd_t, ↓reduceIte, tn, e1, ob_some, es, if_t q]
    · simp (disch := omega) only [m_X11_flood, sq_eq, y1, bnd_some, gd_t, ↓reduceIte, tn, e1, ob_some, es, if_f q]
  · simp only [List.mem_cons, List.not_mem_nil, or_false] at hb
    rw [e2.2 b (by omega)]
    funext j
    rw [sA2, if_neg (by omega)]
theorem step_flood : StepOK m_L_c9 := fun xs Ls s hx hs ⟨M, hC, hR⟩ => by
  have x1 := hx (Int.toNat (s.1 + 1))
  have hv := nz01 (xs (Int.toNat (s.1 + 2)))
  have O := hC.1
  have n4 := nCb O
  have z8 := O.2.2.1
  by_cases q1 : 0 ≤ xs (Int.toNat (s.1 + 1)) ∧ xs (Int.toNat (s.1 + 1)) < (nC M : Int)
  · have a1 := cn_cell_t hC.1 hC.2.1 x1 q1
    obtain ⟨c, hc⟩ := nat_of q1.1
    rw [hc] at a1 q1 x1
    have hcn : c < nC M := by omega
    have es : s.2.2 4 c = mS M c := (hC.2.1.1.1.2.2 c hcn).2.1
    have eo : s.2.2 3 c = mO M c := (hC.2.1.1.1.2.2 c hcn).1
    have sb := (O.2.2.2.2.1 c hcn).2
    have ob := (O.2.2.2.2.1 c hcn).1
    generalize hw : nz (xs (Int.toNat (s.1 + 2))) = w at hv
    by_cases q2 : mS M c = w
    · have em : setSea M c w = M := by
        obtain ⟨d, ⟨o, se⟩, r⟩ := M
        show (d, (o, updI se c w), r) = (d, (o, se), r)
        have : updI se c w = se := by
          funext x
          by_cases q : x = c
          · simp only [updI, if_t q, q]; exact q2.symm
          · simp only [updI, if_f q]
        rw [this]
      refine comb_flood hx hs (M' := M) (sp := .inl 0) (Or.inl rfl) (ClsX.same hC ?_) hR (fun D r => ?_)
      · simp (disch := omega) only [m_X10_flood, hc, hw, a1, bndN_inl, gd_t, tn, es, if_t q2]
      · obtain ⟨E, e1, e2, e3, e4⟩ := ref_flood r hcn hv
        rw [if_pos q2] at e1
        rw [em] at e2
        exact ⟨0, E, by rw [hc, hw]; exact e1, e2, e3, e4, fun v h => by injection h⟩
    · have ref : RefX (m_X11_flood (xs (Int.toNat (s.1 + 1))) (nz (xs (Int.toNat (s.1 + 2))))) (cdX cd_flood) M (.inl 1) (setSea M c w) := fun D r => by
        obtain ⟨E, e1, e2, e3, e4⟩ := ref_flood r hcn hv
        rw [if_neg q2] at e1
        exact ⟨1, E, by rw [hc, hw]; exact e1, e2, e3, e4, fun v h => by injection h⟩
      by_cases q3 : mO M c = -1
      · refine comb_flood hx hs (M' := setSea M c w) (sp := .inl 1) (Or.inr (Or.inl rfl)) ⟨sF (sA s.2 4 c w) 70 5 (-1), ?_, hC.frgP (sea_free q3) (O.setSea hv) (hC.2.1.setSea (by omega) hv) (fun a ha => ⟨rfl, by funext j; rw [sA2, if_neg (by omega)]⟩), (FrC.a (by omega)).trans (FrC.f (by omega))⟩ hR ref
        have eo2 : (sA s.2 4 c w).2 3 c = -1 := by rw [sA2, if_neg (by omega), eo, q3]
        simp (disch := omega) only [m_X10_flood, hc, hw, a1, bndN_inl, gd_t, tn, es, if_f q2, sq_eq, eo2, X10_landFree, ob_some]
      · obtain ⟨z, hz⟩ := nat_of (v := mO M c) (by omega)
        have zb : z < 8 := by omega
        refine comb_flood hx hs (M' := setSea M c w) (sp := .inl 1) (Or.inr (Or.inl rfl)) ⟨sF (frgL (sA s.2 4 c w) 1 z) 70 5 (-1), ?_, CInv.forgets (M := M) (O.setSea hv) (hC.2.1.setSea (by omega) hv) (hC.2.2.1.2.1.cong rfl rfl rfl (fun k hk => by funext j; rw [sA2, if_neg (by omega)])) rfl (fun y hy => sea_other (by omega)), (FrC.a (by omega)).trans (frgL_frC _ _)⟩ hR ref
        have eo2 : (sA s.2 4 c w).2 3 c = (z : Int) := by rw [sA2, if_neg (by omega), eo, hz]
        simp (disch := omega) only [m_X10_flood, hc, hw, a1, bndN_inl, gd_t, tn, es, if_f q2, sq_eq, eo2, X10_landChanged _ zb, ob_some]
  · have a1 := cn_cell_f hC.1 hC.2.1 x1 q1
    refine comb_flood hx hs (sp := .inr 0) (Or.inr (Or.inr ⟨by simp [spX], 0, rfl⟩)) (ClsX.same hC ?_) hR (RefX.same (c := 1) 0 rfl (fun v h => by cases h) (fun D r => ?_))
    · simp (disch := omega) only [m_X10_flood, a1, bndN_inr]
    · have y1 := rn_cell_f (r.thr (x := 0)) x1 q1
      simp (disch := omega) only [m_X11_flood, sq_eq, y1, bnd_some, gd_t, if_f, sFF]
