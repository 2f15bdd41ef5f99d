/-! ===== the layout behind the constructors ===== -/
def LFl : List (Nat ⊕ (Nat × Nat)) := [.inl 10, .inl 5, .inl 1, .inr (0, 384), .inr (2, 384), .inr (0, 384), .inr (0, 384), .inr (0, 24), .inr (1, 48), .inr (0, 8), .inl 8, .inr (0, 8), .inr (0, 120), .inr (0, 120), .inr (0, 15), .inl 6, .inr (0, 384), .inr (0, 384), .inr (0, 8), .inr (2, 8), .inr (0, 384), .inr (0, 384), .inl 0, .inl 2, .inr (0, 1152), .inr (0, 384), .inr (0, 384), .inl 0, .inl 5, .inl 1, .inr (0, 384), .inr (2, 384), .inr (0, 384), .inr (0, 384), .inr (0, 24), .inr (1, 48), .inr (0, 8), .inl 8, .inr (0, 8), .inr (0, 120), .inr (0, 120), .inr (0, 15), .inl 6, .inr (0, 384), .inr (0, 384), .inr (0, 8), .inr (2, 8), .inr (0, 384), .inr (0, 384), .inl 0, .inl 2, .inr (0, 1152), .inr (0, 384), .inr (0, 384), .inl 0, .inl 9, .inl 1, .inr (0, 384), .inr (2, 384), .inr (0, 384), .inr (0, 384), .inr (0, 24), .inr (1, 48), .inr (0, 8), .inr (1, 400), .inl 7, .inr (1, 1600), .inl 3, .inr (0, 384), .inr (0, 384), .inl 4, .inr (0, 768), .inr (0, 384), .inl 11, .inr (1, 400), .inr (0, 5), .inr (0, 4), .inr (0, 4), .inr (0, 384), .inr (0, 384), .inr (2, 384), .inr (2, 384), .inr (0, 24), .inr (0, 24), .inr (1, 48), .inr (1, 48), .inr (0, 384), .inr (0, 9), .inr (0, 384), .inr (0, 384), .inr (0, 120), .inr (0, 120), .inr (0, 15), .inr (0, 1152), .inr (0, 1152), .inr (0, 384), .inr (0, 384), .inr (0, 384), .inr (0, 24), .inr (0, 384), .inr (2, 384), .inr (1, 20000), .inr (3, 1)]
def LFm : List (List (Option Nat)) := [[some 1, some 28, some 55, none, some 65, some 67, some 70], [some 2, none, none, some 10, some 15, some 23], [none, none, none, none, some 3, some 4, some 5, some 6, some 7, some 8, some 9], [], [], [], [], [], [], [], [none, some 11, none, none, some 12, some 13, some 14], [], [], [], [], [some 16, some 17, some 18, some 19, none, some 20, some 21, none, some 22], [], [], [], [], [], [], [none, none, none], [none, none, some 24, some 25, some 26, none, some 27], [], [], [], [none, none, none], [some 29, none, none, some 37, some 42, some 50], [none, none, none, none, some 30, some 31, some 32, some 33, some 34, some 35, some 36], [], [], [], [], [], [], [], [none, some 38, none, none, some 39, some 40, some 41], [], [], [], [], [some 43, some 44, some 45, some 46, none, some 47, some 48, none, some 49], [], [], [], [], [], [], [none, none, none], [none, none, some 51, some 52, some 53, none, some 54], [], [], [], [none, none, none], [none, some 56, some 64, none, none, none, none, none, none, none], [none, none, none, none, some 57, some 58, some 59, some 60, some 61, some 62, some 63], [], [], [], [], [], [], [], [], [none, some 66], [], [none, some 68, some 69, none], [], [], [none, none, some 71, some 72, none, none, none, none], [], [], [none, some 74, none, some 75, some 76, some 77, some 78, some 79, some 80, some 81, some 82, some 83, some 84, some 85, none, none, none, none, none, none, none, none, some 86, some 87, some 88, some 89, some 90, some 91, some 92, some 93, some 94, some 95, some 96, some 97, some 98, some 99, none, some 100, none, some 101, none], [], [], [], [], [], [], [], [], [], [], [], [], [], [], [], [], [], [], [], [], [], [], [], [], [], [], [], [], []]
def LFa : Nat → Option (Nat ⊕ (Nat × Nat)) := fun a => LFl[a]?
def LFr : Nat → Nat → Option Nat := fun a k => ((LFm[a]?).getD [])[k]?.getD none
def LF (n : Nat) : LY := (LFa, LFr, n)
def WX0 (h : Nat) : Prop := h = 22 ∨ h = 27 ∨ h = 49 ∨ h = 54
def WX1 (h : Nat) : Prop := h = 2 ∨ h = 29 ∨ h = 56
def WX2 (h : Nat) : Prop := h = 23 ∨ h = 50
def WX5 (h : Nat) : Prop := h = 1 ∨ h = 28
def WX6 (h : Nat) : Prop := h = 15 ∨ h = 42
def WX8 (h : Nat) : Prop := h = 10 ∨ h = 37
theorem wc_X0 {h n : Nat} (w : WX0 h) : (LF n).1 h = some (.inl 0) := by rcases w with rfl | rfl | rfl | rfl <;> rfl
theorem wl_X0_22 : WX0 22 := Or.inl rfl
theorem wl_X0_27 : WX0 27 := Or.inr (Or.inl rfl)
theorem wl_X0_49 : WX0 49 := Or.inr (Or.inr (Or.inl rfl))
theorem wl_X0_54 : WX0 54 := Or.inr (Or.inr (Or.inr (rfl)))
theorem wc_X1 {h n : Nat} (w : WX1 h) : (LF n).1 h = some (.inl 1) := by rcases w with rfl | rfl | rfl <;> rfl
theorem wf_X1_4 {h n : Nat} (w : WX1 h) : (LF n).2.1 h 4 = some (h + 1) := by rcases w with rfl | rfl | rfl <;> rfl
theorem wa_X1_4 {h n : Nat} (w : WX1 h) : (LF n).1 (h + 1) = some (.inr (0, 384)) := by rcases w with rfl | rfl | rfl <;> rfl
theorem wf_X1_5 {h n : Nat} (w : WX1 h) : (LF n).2.1 h 5 = some (h + 2) := by rcases w with rfl | rfl | rfl <;> rfl
theorem wa_X1_5 {h n : Nat} (w : WX1 h) : (LF n).1 (h + 2) = some (.inr (2, 384)) := by rcases w with rfl | rfl | rfl <;> rfl
theorem wf_X1_6 {h n : Nat} (w : WX1 h) : (LF n).2.1 h 6 = some (h + 3) := by rcases w with rfl | rfl | rfl <;> rfl
theorem wa_X1_6 {h n : Nat} (w : WX1 h) : (LF n).1 (h + 3) = some (.inr (0, 384)) := by rcases w with rfl | rfl | rfl <;> rfl
theorem wf_X1_7 {h n : Nat} (w : WX1 h) : (LF n).2.1 h 7 = some (h + 4) := by rcases w with rfl | rfl | rfl <;> rfl
theorem wa_X1_7 {h n : Nat} (w : WX1 h) : (LF n).1 (h + 4) = some (.inr (0, 384)) := by rcases w with rfl | rfl | rfl <;> rfl
theorem wf_X1_8 {h n : Nat} (w : WX1 h) : (LF n).2.1 h 8 = some (h + 5) := by rcases w with rfl | rfl | rfl <;> rfl
theorem wa_X1_8 {h n : Nat} (w : WX1 h) : (LF n).1 (h + 5) = some (.inr (0, 24)) := by rcases w with rfl | rfl | rfl <;> rfl
theorem wf_X1_9 {h n : Nat} (w : WX1 h) : (LF n).2.1 h 9 = some (h + 6) := by rcases w with rfl | rfl | rfl <;> rfl
theorem wa_X1_9 {h n : Nat} (w : WX1 h) : (LF n).1 (h + 6) = some (.inr (1, 48)) := by rcases w with rfl | rfl | rfl <;> rfl
theorem wf_X1_10 {h n : Nat} (w : WX1 h) : (LF n).2.1 h 10 = some (h + 7) := by rcases w with rfl | rfl | rfl <;> rfl
theorem wa_X1_10 {h n : Nat} (w : WX1 h) : (LF n).1 (h + 7) = some (.inr (0, 8)) := by rcases w with rfl | rfl | rfl <;> rfl
theorem wl_X1_2 : WX1 2 := Or.inl rfl
theorem wl_X1_29 : WX1 29 := Or.inr (Or.inl rfl)
theorem wl_X1_56 : WX1 56 := Or.inr (Or.inr (rfl))
theorem wc_X2 {h n : Nat} (w : WX2 h) : (LF n).1 h = some (.inl 2) := by rcases w with rfl | rfl <;> rfl
theorem wf_X2_2 {h n : Nat} (w : WX2 h) : (LF n).2.1 h 2 = some (h + 1) := by rcases w with rfl | rfl <;> rfl
theorem wa_X2_2 {h n : Nat} (w : WX2 h) : (LF n).1 (h + 1) = some (.inr (0, 1152)) := by rcases w with rfl | rfl <;> rfl
theorem wf_X2_3 {h n : Nat} (w : WX2 h) : (LF n).2.1 h 3 = some (h + 2) := by rcases w with rfl | rfl <;> rfl
theorem wa_X2_3 {h n : Nat} (w : WX2 h) : (LF n).1 (h + 2) = some (.inr (0, 384)) := by rcases w with rfl | rfl <;> rfl
theorem wf_X2_4 {h n : Nat} (w : WX2 h) : (LF n).2.1 h 4 = some (h + 3) := by rcases w with rfl | rfl <;> rfl
theorem wa_X2_4 {h n : Nat} (w : WX2 h) : (LF n).1 (h + 3) = some (.inr (0, 384)) := by rcases w with rfl | rfl <;> rfl
theorem wf_X2_6 {h n : Nat} (w : WX2 h) : (LF n).2.1 h 6 = some (h + 4) := by rcases w with rfl | rfl <;> rfl
theorem wo_X2_6 {h : Nat} (w : WX2 h) : WX0 (h + 4) := by rcases w with rfl | rfl <;> (unfold WX0; omega)
theorem wl_X2_23 : WX2 23 := Or.inl rfl
theorem wl_X2_50 : WX2 50 := Or.inr (rfl)
theorem wc_X5 {h n : Nat} (w : WX5 h) : (LF n).1 h = some (.inl 5) := by rcases w with rfl | rfl <;> rfl
theorem wf_X5_0 {h n : Nat} (w : WX5 h) : (LF n).2.1 h 0 = some (h + 1) := by rcases w with rfl | rfl <;> rfl
theorem wo_X5_0 {h : Nat} (w : WX5 h) : WX1 (h + 1) := by rcases w with rfl | rfl <;> (unfold WX1; omega)
theorem wf_X5_3 {h n : Nat} (w : WX5 h) : (LF n).2.1 h 3 = some (h + 9) := by rcases w with rfl | rfl <;> rfl
theorem wo_X5_3 {h : Nat} (w : WX5 h) : WX8 (h + 9) := by rcases w with rfl | rfl <;> (unfold WX8; omega)
theorem wf_X5_4 {h n : Nat} (w : WX5 h) : (LF n).2.1 h 4 = some (h + 14) := by rcases w with rfl | rfl <;> rfl
theorem wo_X5_4 {h : Nat} (w : WX5 h) : WX6 (h + 14) := by rcases w with rfl | rfl <;> (unfold WX6; omega)
theorem wf_X5_5 {h n : Nat} (w : WX5 h) : (LF n).2.1 h 5 = some (h + 22) := by rcases w with rfl | rfl <;> rfl
theorem wo_X5_5 {h : Nat} (w : WX5 h) : WX2 (h + 22) := by rcases w with rfl | rfl <;> (unfold WX2; omega)
theorem wl_X5_1 : WX5 1 := Or.inl rfl
theorem wl_X5_28 : WX5 28 := Or.inr (rfl)
theorem wc_X6 {h n : Nat} (w : WX6 h) : (LF n).1 h = some (.inl 6) := by rcases w with rfl | rfl <;> rfl
theorem wf_X6_0 {h n : Nat} (w : WX6 h) : (LF n).2.1 h 0 = some (h + 1) := by rcases w with rfl | rfl <;> rfl
theorem wa_X6_0 {h n : Nat} (w : WX6 h) : (LF n).1 (h + 1) = some (.inr (0, 384)) := by rcases w with rfl | rfl <;> rfl
theorem wf_X6_1 {h n : Nat} (w : WX6 h) : (LF n).2.1 h 1 = some (h + 2) := by rcases w with rfl | rfl <;> rfl
theorem wa_X6_1 {h n : Nat} (w : WX6 h) : (LF n).1 (h + 2) = some (.inr (0, 384)) := by rcases w with rfl | rfl <;> rfl
theorem wf_X6_2 {h n : Nat} (w : WX6 h) : (LF n).2.1 h 2 = some (h + 3) := by rcases w with rfl | rfl <;> rfl
theorem wa_X6_2 {h n : Nat} (w : WX6 h) : (LF n).1 (h + 3) = some (.inr (0, 8)) := by rcases w with rfl | rfl <;> rfl
theorem wf_X6_3 {h n : Nat} (w : WX6 h) : (LF n).2.1 h 3 = some (h + 4) := by rcases w with rfl | rfl <;> rfl
theorem wa_X6_3 {h n : Nat} (w : WX6 h) : (LF n).1 (h + 4) = some (.inr (2, 8)) := by rcases w with rfl | rfl <;> rfl
theorem wf_X6_5 {h n : Nat} (w : WX6 h) : (LF n).2.1 h 5 = some (h + 5) := by rcases w with rfl | rfl <;> rfl
theorem wa_X6_5 {h n : Nat} (w : WX6 h) : (LF n).1 (h + 5) = some (.inr (0, 384)) := by rcases w with rfl | rfl <;> rfl
theorem wf_X6_6 {h n : Nat} (w : WX6 h) : (LF n).2.1 h 6 = some (h + 6) := by rcases w with rfl | rfl <;> rfl
theorem wa_X6_6 {h n : Nat} (w : WX6 h) : (LF n).1 (h + 6) = some (.inr (0, 384)) := by rcases w with rfl | rfl <;> rfl
theorem wf_X6_8 {h n : Nat} (w : WX6 h) : (LF n).2.1 h 8 = some (h + 7) := by rcases w with rfl | rfl <;> rfl
theorem wo_X6_8 {h : Nat} (w : WX6 h) : WX0 (h + 7) := by rcases w with rfl | rfl <;> (unfold WX0; omega)
theorem wl_X6_15 : WX6 15 := Or.inl rfl
theorem wl_X6_42 : WX6 42 := Or.inr (rfl)
theorem wc_X8 {h n : Nat} (w : WX8 h) : (LF n).1 h = some (.inl 8) := by rcases w with rfl | rfl <;> rfl
theorem wf_X8_1 {h n : Nat} (w : WX8 h) : (LF n).2.1 h 1 = some (h + 1) := by rcases w with rfl | rfl <;> rfl
theorem wa_X8_1 {h n : Nat} (w : WX8 h) : (LF n).1 (h + 1) = some (.inr (0, 8)) := by rcases w with rfl | rfl <;> rfl
theorem wf_X8_4 {h n : Nat} (w : WX8 h) : (LF n).2.1 h 4 = some (h + 2) := by rcases w with rfl | rfl <;> rfl
theorem wa_X8_4 {h n : Nat} (w : WX8 h) : (LF n).1 (h + 2) = some (.inr (0, 120)) := by rcases w with rfl | rfl <;> rfl
theorem wf_X8_5 {h n : Nat} (w : WX8 h) : (LF n).2.1 h 5 = some (h + 3) := by rcases w with rfl | rfl <;> rfl
theorem wa_X8_5 {h n : Nat} (w : WX8 h) : (LF n).1 (h + 3) = some (.inr (0, 120)) := by rcases w with rfl | rfl <;> rfl
theorem wf_X8_6 {h n : Nat} (w : WX8 h) : (LF n).2.1 h 6 = some (h + 4) := by rcases w with rfl | rfl <;> rfl
theorem wa_X8_6 {h n : Nat} (w : WX8 h) : (LF n).1 (h + 4) = some (.inr (0, 15)) := by rcases w with rfl | rfl <;> rfl
theorem wl_X8_10 : WX8 10 := Or.inl rfl
theorem wl_X8_37 : WX8 37 := Or.inr (rfl)
/-! ===== what methods answer, by their kinds ===== -/
def PIr (n : Nat) (D0 : DT) (K : Int → Prop) : PT := fun r ly D => ∃ v, r = .inl (some (vI v)) ∧ ly = LF n ∧ D = D0 ∧ K v
def PIw (n : Nat) (K : Int × DT → Prop) : PT := fun r ly D => ∃ v, r = .inl (some (vI v)) ∧ ly = LF n ∧ K (v, D)
def PJr (n : Nat) (D0 : DT) (K : Int → Prop) : PT := fun r ly D => ∃ v, r = .inl (some (vJ v)) ∧ ly = LF n ∧ D = D0 ∧ K v
def PVw (n : Nat) (K : DT → Prop) : PT := fun r ly D => r = .inl none ∧ ly = LF n ∧ K D
def PAw (g : GH) (a : Nat) (n : Nat) (K : DT → Prop) : PT := fun r ly D => r = .inl (some (vR g a)) ∧ ly = LF n ∧ K D
def PXw (n : Nat) (K : (Int ⊕ Nat) × DT → Prop) : PT := fun r ly D => (∃ v, r = .inl (some (vI v)) ∧ ly = LF n ∧ K (.inl v, D)) ∨ (∃ e n', r = .inr e ∧ ly = LF n' ∧ K (.inr e, D))
def PNr (n : Nat) (D0 : DT) (K : Unit ⊕ Nat → Prop) : PT := fun r ly D => D = D0 ∧ ((r = .inl none ∧ ly = LF n ∧ K (.inl ())) ∨ (∃ e n', r = .inr e ∧ ly = LF n' ∧ K (.inr e)))
/-- a function that writes, then the rest -/
def bnd {α β : Type} (X : Option (α × DT)) (f : α → DT → Option β) : Option β := X.bind (fun q => f q.1 q.2)
def bndX {β : Type} (X : Option ((Int ⊕ Nat) × DT)) (f : Int → DT → Option ((β ⊕ Nat) × DT)) : Option ((β ⊕ Nat) × DT) := X.bind (fun q => match q.1 with
  | .inl v => f v q.2
  | .inr e => some (.inr e, q.2))
def bndN {β : Type} (X : Option (Unit ⊕ Nat)) (D : DT) (f : Option ((β ⊕ Nat) × DT)) : Option ((β ⊕ Nat) × DT) := X.bind (fun q => match q with
  | .inl _ => f
  | .inr e => some (.inr e, D))
def bndM (X : Option (Unit ⊕ Nat)) (f : Option (Unit ⊕ Nat)) : Option (Unit ⊕ Nat) := X.bind (fun q => match q with
  | .inl _ => f
  | .inr e => some (.inr e))
def i2b (x : Int) : Int := (Int32.ofInt x).toInt8.toInt
def shr (a b : Int) : Int := (Int32.ofInt a >>> (Int32.ofInt b &&& 31)).toInt
def sq {α : Type} (D : DT) (f : DT → Option α) : Option α := f D
theorem kl_inl {σ α : Type} {P : σ → Prop} {K : α → Prop} {s : σ} (h : ok (some (Sum.inl s)) (KL P K)) : P s := show KL P K (Sum.inl s) from ok_some h
theorem kl_inr {σ α : Type} {P : σ → Prop} {K : α → Prop} {X : Option α} (h : ok (done X) (KL P K)) : ok X K := ok_done h
section QRules
variable {E : ENV} {pc : Nat} {L : List (Option Value)} {st : List Value} {ly : LY} {D : DT} {cu su : Nat} {β : Type} {K : β → Prop} {X Y : Option β}
theorem q_iald {a n : Nat} {i : Int} (hd : decode (eC E) pc = .ok (.iaload, 1)) {N : Int} (hs : ly.1 a = some (.inr (0, n))) (hN : (n : Int) = N) (h : ok (gd (0 ≤ i ∧ i < N) X) K) (k : ok X K → Px E (pc + 1) L (vI (D.2 a i.toNat) :: st) ly D cu su) : Px E pc L (vI i :: vR (eG E) a :: st) ly D cu su := by
  obtain ⟨h1, h⟩ := ok_gd h
  exact p_iald i.toNat hd hs (Int.toNat_of_nonneg h1.1).symm (by omega) (k h)
theorem q_iast {a n : Nat} {i x : Int} {f : DT → Option β} (hd : decode (eC E) pc = .ok (.iastore, 1)) {N : Int} (hs : ly.1 a = some (.inr (0, n))) (hN : (n : Int) = N) (h : ok (gd (0 ≤ i ∧ i < N) (sq (sA D a i.toNat x) f)) K) (k : ∀ D, ok (f D) K → Px E (pc + 1) L st ly D cu su) : Px E pc L (vI x :: vI i :: vR (eG E) a :: st) ly D cu su := by
  obtain ⟨h1, h⟩ := ok_gd h
  exact p_iast i.toNat hd hs (Int.toNat_of_nonneg h1.1).symm (by omega) (k _ h)
theorem q_bald {a n : Nat} {i : Int} (hd : decode (eC E) pc = .ok (.baload, 1)) {N : Int} (hs : ly.1 a = some (.inr (1, n))) (hN : (n : Int) = N) (h : ok (gd (0 ≤ i ∧ i < N) X) K) (k : ok X K → Px E (pc + 1) L (vI (D.2 a i.toNat) :: st) ly D cu su) : Px E pc L (vI i :: vR (eG E) a :: st) ly D cu su := by
  obtain ⟨h1, h⟩ := ok_gd h
  exact p_bald i.toNat hd hs (Int.toNat_of_nonneg h1.1).symm (by omega) (k h)
theorem q_bast {a n : Nat} {i x : Int} {f : DT → Option β} (hd : decode (eC E) pc = .ok (.bastore, 1)) {N : Int} (hs : ly.1 a = some (.inr (1, n))) (hN : (n : Int) = N) (h : ok (gd ((0 ≤ i ∧ i < N) ∧ (-128 ≤ x ∧ x ≤ 127)) (sq (sA D a i.toNat x) f)) K) (k : ∀ D, ok (f D) K → Px E (pc + 1) L st ly D cu su) : Px E pc L (vI x :: vI i :: vR (eG E) a :: st) ly D cu su := by
  obtain ⟨h1, h⟩ := ok_gd h
  exact p_bast i.toNat hd hs (Int.toNat_of_nonneg h1.1.1).symm (by omega) h1.2 (k _ h)
theorem q_zald {a n : Nat} {i : Int} (hd : decode (eC E) pc = .ok (.baload, 1)) {N : Int} (hs : ly.1 a = some (.inr (2, n))) (hN : (n : Int) = N) (h : ok (gd (0 ≤ i ∧ i < N) X) K) (k : ok X K → Px E (pc + 1) L (vI (D.2 a i.toNat) :: st) ly D cu su) : Px E pc L (vI i :: vR (eG E) a :: st) ly D cu su := by
  obtain ⟨h1, h⟩ := ok_gd h
  exact p_zald i.toNat hd hs (Int.toNat_of_nonneg h1.1).symm (by omega) (k h)
theorem q_zast {a n : Nat} {i x : Int} {f : DT → Option β} (hd : decode (eC E) pc = .ok (.bastore, 1)) {N : Int} (hs : ly.1 a = some (.inr (2, n))) (hN : (n : Int) = N) (h : ok (gd ((0 ≤ i ∧ i < N) ∧ (x = 0 ∨ x = 1)) (sq (sA D a i.toNat x) f)) K) (k : ∀ D, ok (f D) K → Px E (pc + 1) L st ly D cu su) : Px E pc L (vI x :: vI i :: vR (eG E) a :: st) ly D cu su := by
  obtain ⟨h1, h⟩ := ok_gd h
  exact p_zast i.toNat hd hs (Int.toNat_of_nonneg h1.1.1).symm (by omega) h1.2 (k _ h)
theorem q_lald {a n : Nat} {i : Int} (hd : decode (eC E) pc = .ok (.laload, 1)) {N : Int} (hs : ly.1 a = some (.inr (3, n))) (hN : (n : Int) = N) (h : ok (gd (0 ≤ i ∧ i < N) X) K) (k : ok X K → Px E (pc + 1) L (vJ (D.2 a i.toNat) :: st) ly D cu su) : Px E pc L (vI i :: vR (eG E) a :: st) ly D cu su := by
  obtain ⟨h1, h⟩ := ok_gd h
  exact p_lald i.toNat hd hs (Int.toNat_of_nonneg h1.1).symm (by omega) (k h)
theorem q_last {a n : Nat} {i x : Int} {f : DT → Option β} (hd : decode (eC E) pc = .ok (.lastore, 1)) {N : Int} (hs : ly.1 a = some (.inr (3, n))) (hN : (n : Int) = N) (h : ok (gd (0 ≤ i ∧ i < N) (sq (sA D a i.toNat x) f)) K) (k : ∀ D, ok (f D) K → Px E (pc + 1) L st ly D cu su) : Px E pc L (vJ x :: vI i :: vR (eG E) a :: st) ly D cu su := by
  obtain ⟨h1, h⟩ := ok_gd h
  exact p_last i.toNat hd hs (Int.toNat_of_nonneg h1.1).symm (by omega) (k _ h)
theorem q_puti {idx ci fk a : Nat} {x : Int} {f : DT → Option β} (hd : decode (eC E) pc = .ok (.putfield idx, 3)) (hf : FLw (eY E).cls idx ci fk) (ht : tyOf ci fk = .int) (hs : ly.1 a = some (.inl ci)) (h : ok (sq (sF D a fk x) f) K) (k : ∀ D, ok (f D) K → Px E (pc + 3) L st ly D cu su) : Px E pc L (vI x :: vR (eG E) a :: st) ly D cu su := p_puti hd hf ht hs (k _ h)
theorem q_putj {idx ci fk a : Nat} {x : Int} {f : DT → Option β} (hd : decode (eC E) pc = .ok (.putfield idx, 3)) (hf : FLw (eY E).cls idx ci fk) (ht : tyOf ci fk = .long) (hs : ly.1 a = some (.inl ci)) (h : ok (sq (sF D a fk x) f) K) (k : ∀ D, ok (f D) K → Px E (pc + 3) L st ly D cu su) : Px E pc L (vJ x :: vR (eG E) a :: st) ly D cu su := p_putj hd hf ht hs (k _ h)
theorem q_putz0 {idx ci fk a : Nat} {x : Int} {f : DT → Option β} (hd : decode (eC E) pc = .ok (.putfield idx, 3)) (hf : FLw (eY E).cls idx ci fk) (ht : tyOf ci fk = .boolean) (hx : x = 0 ∨ x = 1) (hs : ly.1 a = some (.inl ci)) (h : ok (sq (sF D a fk x) f) K) (k : ∀ D, ok (f D) K → Px E (pc + 3) L st ly D cu su) : Px E pc L (vI x :: vR (eG E) a :: st) ly D cu su := p_putz hd hf ht hx hs (k _ h)
theorem q_putz {idx ci fk a : Nat} {x : Int} {f : DT → Option β} (hd : decode (eC E) pc = .ok (.putfield idx, 3)) (hf : FLw (eY E).cls idx ci fk) (ht : tyOf ci fk = .boolean) (hs : ly.1 a = some (.inl ci)) (h : ok (gd (x = 0 ∨ x = 1) (sq (sF D a fk x) f)) K) (k : ∀ D, ok (f D) K → Px E (pc + 3) L st ly D cu su) : Px E pc L (vI x :: vR (eG E) a :: st) ly D cu su := by
  obtain ⟨h1, h⟩ := ok_gd h
  exact p_putz hd hf ht h1 hs (k _ h)
theorem q_idiv {a b : Int} (hd : decode (eC E) pc = .ok (.idiv, 1)) (h : ok (gd (0 ≤ a ∧ a ≤ 2147483647 ∧ 0 < b ∧ b ≤ 2147483647) X) K) (k : ok X K → Px E (pc + 1) L (vI (a / b) :: st) ly D cu su) : Px E pc L (vI b :: vI a :: st) ly D cu su := by
  obtain ⟨h1, h⟩ := ok_gd h
  exact p_idiv hd h1 (k h)
theorem q_irem {a b : Int} (hd : decode (eC E) pc = .ok (.irem, 1)) (h : ok (gd (0 ≤ a ∧ a ≤ 2147483647 ∧ 0 < b ∧ b ≤ 2147483647) X) K) (k : ok X K → Px E (pc + 1) L (vI (a % b) :: st) ly D cu su) : Px E pc L (vI b :: vI a :: st) ly D cu su := by
  obtain ⟨h1, h⟩ := ok_gd h
  exact p_irem hd h1 (k h)
theorem q_ldiv {a b : Int} (hd : decode (eC E) pc = .ok (.ldiv, 1)) (h : ok (gd (0 ≤ a ∧ a ≤ 9223372036854775807 ∧ 0 < b ∧ b ≤ 9223372036854775807) X) K) (k : ok X K → Px E (pc + 1) L (vJ (a / b) :: st) ly D cu su) : Px E pc L (vJ b :: vJ a :: st) ly D cu su := by
  obtain ⟨h1, h⟩ := ok_gd h
  exact p_ldiv hd h1 (k h)
theorem q_lrem {a b : Int} (hd : decode (eC E) pc = .ok (.lrem, 1)) (h : ok (gd (0 ≤ a ∧ a ≤ 9223372036854775807 ∧ 0 < b ∧ b ≤ 9223372036854775807) X) K) (k : ok X K → Px E (pc + 1) L (vJ (a % b) :: st) ly D cu su) : Px E pc L (vJ b :: vJ a :: st) ly D cu su := by
  obtain ⟨h1, h⟩ := ok_gd h
  exact p_lrem hd h1 (k h)
theorem q_i2l {a : Int} (hd : decode (eC E) pc = .ok (.i2l, 1)) (h : ok (gd (InR a) X) K) (k : ok X K → Px E (pc + 1) L (vJ a :: st) ly D cu su) : Px E pc L (vI a :: st) ly D cu su := by
  obtain ⟨h1, h⟩ := ok_gd h
  exact p_i2l hd h1 (k h)
theorem q_icmp_eq {a b : Int} {off : Int} {tgt : Nat} (hd : decode (eC E) pc = .ok (.if_icmp .eq off, 3)) (ht : (pc : Int) + off = (tgt : Int)) (h : ok (gd (InR a ∧ InR b) (if a = b then X else Y)) K) (kj : ok X K → Px E tgt L st ly D cu su) (kf : ok Y K → Px E (pc + 3) L st ly D cu su) : Px E pc L (vI b :: vI a :: st) ly D cu su := by
  obtain ⟨h1, h⟩ := ok_gd h
  exact p_icmp_eq hd ht h1.1 h1.2 (fun z => kj ((ok_ite h).1 z)) (fun z => kf ((ok_ite h).2 z))
theorem q_if_eq {a : Int} {off : Int} {tgt : Nat} (hd : decode (eC E) pc = .ok (.ifCond .eq off, 3)) (ht : (pc : Int) + off = (tgt : Int)) (h : ok (gd (InR a) (if a = 0 then X else Y)) K) (kj : ok X K → Px E tgt L st ly D cu su) (kf : ok Y K → Px E (pc + 3) L st ly D cu su) : Px E pc L (vI a :: st) ly D cu su := by
  obtain ⟨h1, h⟩ := ok_gd h
  exact p_if_eq hd ht h1 (fun z => kj ((ok_ite h).1 z)) (fun z => kf ((ok_ite h).2 z))
theorem q_icmp_ne {a b : Int} {off : Int} {tgt : Nat} (hd : decode (eC E) pc = .ok (.if_icmp .ne off, 3)) (ht : (pc : Int) + off = (tgt : Int)) (h : ok (gd (InR a ∧ InR b) (if a = b then X else Y)) K) (kj : ok Y K → Px E tgt L st ly D cu su) (kf : ok X K → Px E (pc + 3) L st ly D cu su) : Px E pc L (vI b :: vI a :: st) ly D cu su := by
  obtain ⟨h1, h⟩ := ok_gd h
  exact p_icmp_ne hd ht h1.1 h1.2 (fun z => kj ((ok_ite h).2 z)) (fun z => kf ((ok_ite h).1 (Decidable.not_not.mp z)))
theorem q_if_ne {a : Int} {off : Int} {tgt : Nat} (hd : decode (eC E) pc = .ok (.ifCond .ne off, 3)) (ht : (pc : Int) + off = (tgt : Int)) (h : ok (gd (InR a) (if a = 0 then X else Y)) K) (kj : ok Y K → Px E tgt L st ly D cu su) (kf : ok X K → Px E (pc + 3) L st ly D cu su) : Px E pc L (vI a :: st) ly D cu su := by
  obtain ⟨h1, h⟩ := ok_gd h
  exact p_if_ne hd ht h1 (fun z => kj ((ok_ite h).2 z)) (fun z => kf ((ok_ite h).1 (Decidable.not_not.mp z)))
theorem q_icmp_lt {a b : Int} {off : Int} {tgt : Nat} (hd : decode (eC E) pc = .ok (.if_icmp .lt off, 3)) (ht : (pc : Int) + off = (tgt : Int)) (h : ok (gd (InR a ∧ InR b) (if b ≤ a then X else Y)) K) (kj : ok Y K → Px E tgt L st ly D cu su) (kf : ok X K → Px E (pc + 3) L st ly D cu su) : Px E pc L (vI b :: vI a :: st) ly D cu su := by
  obtain ⟨h1, h⟩ := ok_gd h
  exact p_icmp_lt hd ht h1.1 h1.2 (fun z => kj ((ok_ite h).2 (by omega))) (fun z => kf ((ok_ite h).1 (by omega)))
theorem q_if_lt {a : Int} {off : Int} {tgt : Nat} (hd : decode (eC E) pc = .ok (.ifCond .lt off, 3)) (ht : (pc : Int) + off = (tgt : Int)) (h : ok (gd (InR a) (if 0 ≤ a then X else Y)) K) (kj : ok Y K → Px E tgt L st ly D cu su) (kf : ok X K → Px E (pc + 3) L st ly D cu su) : Px E pc L (vI a :: st) ly D cu su := by
  obtain ⟨h1, h⟩ := ok_gd h
  exact p_if_lt hd ht h1 (fun z => kj ((ok_ite h).2 (by omega))) (fun z => kf ((ok_ite h).1 (by omega)))
theorem q_icmp_ge {a b : Int} {off : Int} {tgt : Nat} (hd : decode (eC E) pc = .ok (.if_icmp .ge off, 3)) (ht : (pc : Int) + off = (tgt : Int)) (h : ok (gd (InR a ∧ InR b) (if a < b then X else Y)) K) (kj : ok Y K → Px E tgt L st ly D cu su) (kf : ok X K → Px E (pc + 3) L st ly D cu su) : Px E pc L (vI b :: vI a :: st) ly D cu su := by
  obtain ⟨h1, h⟩ := ok_gd h
  exact p_icmp_ge hd ht h1.1 h1.2 (fun z => kj ((ok_ite h).2 (by omega))) (fun z => kf ((ok_ite h).1 (by omega)))
theorem q_if_ge {a : Int} {off : Int} {tgt : Nat} (hd : decode (eC E) pc = .ok (.ifCond .ge off, 3)) (ht : (pc : Int) + off = (tgt : Int)) (h : ok (gd (InR a) (if a < 0 then X else Y)) K) (kj : ok Y K → Px E tgt L st ly D cu su) (kf : ok X K → Px E (pc + 3) L st ly D cu su) : Px E pc L (vI a :: st) ly D cu su := by
  obtain ⟨h1, h⟩ := ok_gd h
  exact p_if_ge hd ht h1 (fun z => kj ((ok_ite h).2 (by omega))) (fun z => kf ((ok_ite h).1 (by omega)))
theorem q_icmp_gt {a b : Int} {off : Int} {tgt : Nat} (hd : decode (eC E) pc = .ok (.if_icmp .gt off, 3)) (ht : (pc : Int) + off = (tgt : Int)) (h : ok (gd (InR a ∧ InR b) (if a ≤ b then X else Y)) K) (kj : ok Y K → Px E tgt L st ly D cu su) (kf : ok X K → Px E (pc + 3) L st ly D cu su) : Px E pc L (vI b :: vI a :: st) ly D cu su := by
  obtain ⟨h1, h⟩ := ok_gd h
  exact p_icmp_gt hd ht h1.1 h1.2 (fun z => kj ((ok_ite h).2 (by omega))) (fun z => kf ((ok_ite h).1 (by omega)))
theorem q_if_gt {a : Int} {off : Int} {tgt : Nat} (hd : decode (eC E) pc = .ok (.ifCond .gt off, 3)) (ht : (pc : Int) + off = (tgt : Int)) (h : ok (gd (InR a) (if a ≤ 0 then X else Y)) K) (kj : ok Y K → Px E tgt L st ly D cu su) (kf : ok X K → Px E (pc + 3) L st ly D cu su) : Px E pc L (vI a :: st) ly D cu su := by
  obtain ⟨h1, h⟩ := ok_gd h
  exact p_if_gt hd ht h1 (fun z => kj ((ok_ite h).2 (by omega))) (fun z => kf ((ok_ite h).1 (by omega)))
theorem q_icmp_le {a b : Int} {off : Int} {tgt : Nat} (hd : decode (eC E) pc = .ok (.if_icmp .le off, 3)) (ht : (pc : Int) + off = (tgt : Int)) (h : ok (gd (InR a ∧ InR b) (if b < a then X else Y)) K) (kj : ok Y K → Px E tgt L st ly D cu su) (kf : ok X K → Px E (pc + 3) L st ly D cu su) : Px E pc L (vI b :: vI a :: st) ly D cu su := by
  obtain ⟨h1, h⟩ := ok_gd h
  exact p_icmp_le hd ht h1.1 h1.2 (fun z => kj ((ok_ite h).2 (by omega))) (fun z => kf ((ok_ite h).1 (by omega)))
theorem q_if_le {a : Int} {off : Int} {tgt : Nat} (hd : decode (eC E) pc = .ok (.ifCond .le off, 3)) (ht : (pc : Int) + off = (tgt : Int)) (h : ok (gd (InR a) (if 0 < a then X else Y)) K) (kj : ok Y K → Px E tgt L st ly D cu su) (kf : ok X K → Px E (pc + 3) L st ly D cu su) : Px E pc L (vI a :: st) ly D cu su := by
  obtain ⟨h1, h⟩ := ok_gd h
  exact p_if_le hd ht h1 (fun z => kj ((ok_ite h).2 (by omega))) (fun z => kf ((ok_ite h).1 (by omega)))
theorem q_lcmp_eq {a b : Int} {off : Int} {tgt : Nat} (hd0 : decode (eC E) pc = .ok (.lcmp, 1)) (hd : decode (eC E) (pc + 1) = .ok (.ifCond .eq off, 3)) (ht : ((pc + 1 : Nat) : Int) + off = (tgt : Int)) (h : ok (gd (InL a ∧ InL b) (if a = b then X else Y)) K) (kj : ok X K → Px E tgt L st ly D cu su) (kf : ok Y K → Px E (pc + 4) L st ly D cu su) : Px E pc L (vJ b :: vJ a :: st) ly D cu su := by
  obtain ⟨h1, h⟩ := ok_gd h
  have hc : cmpI a b = 0 ↔ a = b := by unfold cmpI; split <;> (try split) <;> omega
  have hr : InR (cmpI a b) := by unfold cmpI; split <;> (try split) <;> omega
  refine p_lcmp hd0 h1.1 h1.2 (p_if_eq hd ht hr (fun z => kj ?_) (fun z => kf ?_))
  · exact (ok_ite h).1 (hc.mp z)
  · exact (ok_ite h).2 (fun q => z (hc.mpr q))
theorem q_lcmp_ne {a b : Int} {off : Int} {tgt : Nat} (hd0 : decode (eC E) pc = .ok (.lcmp, 1)) (hd : decode (eC E) (pc + 1) = .ok (.ifCond .ne off, 3)) (ht : ((pc + 1 : Nat) : Int) + off = (tgt : Int)) (h : ok (gd (InL a ∧ InL b) (if a = b then X else Y)) K) (kj : ok Y K → Px E tgt L st ly D cu su) (kf : ok X K → Px E (pc + 4) L st ly D cu su) : Px E pc L (vJ b :: vJ a :: st) ly D cu su := by
  obtain ⟨h1, h⟩ := ok_gd h
  have hc : cmpI a b = 0 ↔ a = b := by unfold cmpI; split <;> (try split) <;> omega
  have hr : InR (cmpI a b) := by unfold cmpI; split <;> (try split) <;> omega
  refine p_lcmp hd0 h1.1 h1.2 (p_if_ne hd ht hr (fun z => kj ?_) (fun z => kf ?_))
  · exact (ok_ite h).2 (fun q => z (hc.mpr q))
  · exact (ok_ite h).1 (hc.mp (Decidable.not_not.mp z))
theorem q_lcmp_lt {a b : Int} {off : Int} {tgt : Nat} (hd0 : decode (eC E) pc = .ok (.lcmp, 1)) (hd : decode (eC E) (pc + 1) = .ok (.ifCond .lt off, 3)) (ht : ((pc + 1 : Nat) : Int) + off = (tgt : Int)) (h : ok (gd (InL a ∧ InL b) (if b ≤ a then X else Y)) K) (kj : ok Y K → Px E tgt L st ly D cu su) (kf : ok X K → Px E (pc + 4) L st ly D cu su) : Px E pc L (vJ b :: vJ a :: st) ly D cu su := by
  obtain ⟨h1, h⟩ := ok_gd h
  have hc : cmpI a b < 0 ↔ a < b := by unfold cmpI; split <;> (try split) <;> omega
  have hr : InR (cmpI a b) := by unfold cmpI; split <;> (try split) <;> omega
  refine p_lcmp hd0 h1.1 h1.2 (p_if_lt hd ht hr (fun z => kj ?_) (fun z => kf ?_))
  · exact (ok_ite h).2 (by have := hc.mp z; omega)
  · exact (ok_ite h).1 (by have : ¬ _ := fun q => z (hc.mpr q); omega)
theorem q_lcmp_ge {a b : Int} {off : Int} {tgt : Nat} (hd0 : decode (eC E) pc = .ok (.lcmp, 1)) (hd : decode (eC E) (pc + 1) = .ok (.ifCond .ge off, 3)) (ht : ((pc + 1 : Nat) : Int) + off = (tgt : Int)) (h : ok (gd (InL a ∧ InL b) (if a < b then X else Y)) K) (kj : ok Y K → Px E tgt L st ly D cu su) (kf : ok X K → Px E (pc + 4) L st ly D cu su) : Px E pc L (vJ b :: vJ a :: st) ly D cu su := by
  obtain ⟨h1, h⟩ := ok_gd h
  have hc : 0 ≤ cmpI a b ↔ b ≤ a := by unfold cmpI; split <;> (try split) <;> omega
  have hr : InR (cmpI a b) := by unfold cmpI; split <;> (try split) <;> omega
  refine p_lcmp hd0 h1.1 h1.2 (p_if_ge hd ht hr (fun z => kj ?_) (fun z => kf ?_))
  · exact (ok_ite h).2 (by have := hc.mp z; omega)
  · exact (ok_ite h).1 (by have : ¬ _ := fun q => z (hc.mpr q); omega)
theorem q_lcmp_gt {a b : Int} {off : Int} {tgt : Nat} (hd0 : decode (eC E) pc = .ok (.lcmp, 1)) (hd : decode (eC E) (pc + 1) = .ok (.ifCond .gt off, 3)) (ht : ((pc + 1 : Nat) : Int) + off = (tgt : Int)) (h : ok (gd (InL a ∧ InL b) (if a ≤ b then X else Y)) K) (kj : ok Y K → Px E tgt L st ly D cu su) (kf : ok X K → Px E (pc + 4) L st ly D cu su) : Px E pc L (vJ b :: vJ a :: st) ly D cu su := by
  obtain ⟨h1, h⟩ := ok_gd h
  have hc : 0 < cmpI a b ↔ b < a := by unfold cmpI; split <;> (try split) <;> omega
  have hr : InR (cmpI a b) := by unfold cmpI; split <;> (try split) <;> omega
  refine p_lcmp hd0 h1.1 h1.2 (p_if_gt hd ht hr (fun z => kj ?_) (fun z => kf ?_))
  · exact (ok_ite h).2 (by have := hc.mp z; omega)
  · exact (ok_ite h).1 (by have : ¬ _ := fun q => z (hc.mpr q); omega)
theorem q_lcmp_le {a b : Int} {off : Int} {tgt : Nat} (hd0 : decode (eC E) pc = .ok (.lcmp, 1)) (hd : decode (eC E) (pc + 1) = .ok (.ifCond .le off, 3)) (ht : ((pc + 1 : Nat) : Int) + off = (tgt : Int)) (h : ok (gd (InL a ∧ InL b) (if b < a then X else Y)) K) (kj : ok Y K → Px E tgt L st ly D cu su) (kf : ok X K → Px E (pc + 4) L st ly D cu su) : Px E pc L (vJ b :: vJ a :: st) ly D cu su := by
  obtain ⟨h1, h⟩ := ok_gd h
  have hc : cmpI a b ≤ 0 ↔ a ≤ b := by unfold cmpI; split <;> (try split) <;> omega
  have hr : InR (cmpI a b) := by unfold cmpI; split <;> (try split) <;> omega
  refine p_lcmp hd0 h1.1 h1.2 (p_if_le hd ht hr (fun z => kj ?_) (fun z => kf ?_))
  · exact (ok_ite h).2 (by have := hc.mp z; omega)
  · exact (ok_ite h).1 (by have : ¬ _ := fun q => z (hc.mpr q); omega)
theorem cV_Ir {y : MethodName} {cc : ByteArray} {nL n9 idx d' a ci n : Nat} {ret : Option FieldType} {r : vw_C} (av : List Value) (st : List Value) {X : Option Int} {f : Int → Option β} (hdc : decode (eC E) pc = .ok (.invokevirtual idx, 3)) (yv : YV y cc nL ret n9) (hlink : Cond.methodLink (eY E).cls idx y ∈ TB) (hr : vwCl[ci]? = some r) (hC : r.1 = y.cls) (hd : d' + 1 ≤ (eD E).1) (hn : av.length = n9) (hst : (st.map fun v => v.category).sum ≤ 8) (hcu : cu ≤ (eD E).2.1) (hsu : su ≤ (eD E).2.2) (hs : (LF n).1 a = some (.inl ci)) (h : ok (X.bind f) K) (hM : ∀ K', ok X K' → Sat (eL E) (eG E) y cc nL ret d' 0 0 (vR (eG E) a :: av) (LF n) D (PIr n D K')) (kk : ∀ v, ok (f v) K → Px E (pc + 3) L (vI v :: st) (LF n) D cu su) : Px E pc L (av.reverse ++ vR (eG E) a :: st) (LF n) D cu su :=
  p_callV hdc yv hlink hr hC hd hn hst hcu hsu hs  (hM _ (ok_bind h)) (fun v ly' D' hp => by obtain ⟨v', e1, rfl, rfl, hk⟩ := hp; cases e1; exact kk v' hk) (fun e ly' D' hp => by obtain ⟨v', e1, _⟩ := hp; cases e1)
theorem cV_Jr {y : MethodName} {cc : ByteArray} {nL n9 idx d' a ci n : Nat} {ret : Option FieldType} {r : vw_C} (av : List Value) (st : List Value) {X : Option Int} {f : Int → Option β} (hdc : decode (eC E) pc = .ok (.invokevirtual idx, 3)) (yv : YV y cc nL ret n9) (hlink : Cond.methodLink (eY E).cls idx y ∈ TB) (hr : vwCl[ci]? = some r) (hC : r.1 = y.cls) (hd : d' + 1 ≤ (eD E).1) (hn : av.length = n9) (hst : (st.map fun v => v.category).sum ≤ 8) (hcu : cu ≤ (eD E).2.1) (hsu : su ≤ (eD E).2.2) (hs : (LF n).1 a = some (.inl ci)) (h : ok (X.bind f) K) (hM : ∀ K', ok X K' → Sat (eL E) (eG E) y cc nL ret d' 0 0 (vR (eG E) a :: av) (LF n) D (PJr n D K')) (kk : ∀ v, ok (f v) K → Px E (pc + 3) L (vJ v :: st) (LF n) D cu su) : Px E pc L (av.reverse ++ vR (eG E) a :: st) (LF n) D cu su :=
  p_callV hdc yv hlink hr hC hd hn hst hcu hsu hs  (hM _ (ok_bind h)) (fun v ly' D' hp => by obtain ⟨v', e1, rfl, rfl, hk⟩ := hp; cases e1; exact kk v' hk) (fun e ly' D' hp => by obtain ⟨v', e1, _⟩ := hp; cases e1)
theorem cV_Iw {y : MethodName} {cc : ByteArray} {nL n9 idx d' a ci n : Nat} {ret : Option FieldType} {r : vw_C} (av : List Value) (st : List Value) {X : Option (Int × DT)} {f : Int → DT → Option β} (hdc : decode (eC E) pc = .ok (.invokevirtual idx, 3)) (yv : YV y cc nL ret n9) (hlink : Cond.methodLink (eY E).cls idx y ∈ TB) (hr : vwCl[ci]? = some r) (hC : r.1 = y.cls) (hd : d' + 1 ≤ (eD E).1) (hn : av.length = n9) (hst : (st.map fun v => v.category).sum ≤ 8) (hcu : cu ≤ (eD E).2.1) (hsu : su ≤ (eD E).2.2) (hs : (LF n).1 a = some (.inl ci)) (h : ok (bnd X f) K) (hM : ∀ K', ok X K' → Sat (eL E) (eG E) y cc nL ret d' 0 0 (vR (eG E) a :: av) (LF n) D (PIw n K')) (kk : ∀ v D, ok (f v D) K → Px E (pc + 3) L (vI v :: st) (LF n) D cu su) : Px E pc L (av.reverse ++ vR (eG E) a :: st) (LF n) D cu su :=
  p_callV hdc yv hlink hr hC hd hn hst hcu hsu hs  (hM _ (ok_bind h)) (fun v ly' D' hp => by obtain ⟨v', e1, rfl, hk⟩ := hp; cases e1; exact kk v' D' hk) (fun e ly' D' hp => by obtain ⟨v', e1, _⟩ := hp; cases e1)
theorem cV_Vw {y : MethodName} {cc : ByteArray} {nL n9 idx d' a ci n : Nat} {ret : Option FieldType} {r : vw_C} (av : List Value) (st : List Value) {X : Option DT} {f : DT → Option β} (hdc : decode (eC E) pc = .ok (.invokevirtual idx, 3)) (yv : YV y cc nL ret n9) (hlink : Cond.methodLink (eY E).cls idx y ∈ TB) (hr : vwCl[ci]? = some r) (hC : r.1 = y.cls) (hd : d' + 1 ≤ (eD E).1) (hn : av.length = n9) (hst : (st.map fun v => v.category).sum ≤ 8) (hcu : cu ≤ (eD E).2.1) (hsu : su ≤ (eD E).2.2) (hs : (LF n).1 a = some (.inl ci)) (h : ok (X.bind f) K) (hM : ∀ K', ok X K' → Sat (eL E) (eG E) y cc nL ret d' 0 0 (vR (eG E) a :: av) (LF n) D (PVw n K')) (kk : ∀ D, ok (f D) K → Px E (pc + 3) L st (LF n) D cu su) : Px E pc L (av.reverse ++ vR (eG E) a :: st) (LF n) D cu su :=
  p_callV hdc yv hlink hr hC hd hn hst hcu hsu hs  (hM _ (ok_bind h)) (fun v ly' D' hp => by obtain ⟨e1, rfl, hk⟩ := hp; cases e1; exact kk D' hk) (fun e ly' D' hp => by obtain ⟨e1, _⟩ := hp; cases e1)
theorem cV_Aw {y : MethodName} {cc : ByteArray} {nL n9 idx d' a ci n : Nat} {ret : Option FieldType} {r : vw_C} (av : List Value) (st : List Value) {q : Nat} {X : Option DT} {f : DT → Option β} (hdc : decode (eC E) pc = .ok (.invokevirtual idx, 3)) (yv : YV y cc nL ret n9) (hlink : Cond.methodLink (eY E).cls idx y ∈ TB) (hr : vwCl[ci]? = some r) (hC : r.1 = y.cls) (hd : d' + 1 ≤ (eD E).1) (hn : av.length = n9) (hst : (st.map fun v => v.category).sum ≤ 8) (hcu : cu ≤ (eD E).2.1) (hsu : su ≤ (eD E).2.2) (hs : (LF n).1 a = some (.inl ci)) (h : ok (X.bind f) K) (hM : ∀ K', ok X K' → Sat (eL E) (eG E) y cc nL ret d' 0 0 (vR (eG E) a :: av) (LF n) D (PAw (eG E) q n K')) (kk : ∀ D, ok (f D) K → Px E (pc + 3) L (vR (eG E) q :: st) (LF n) D cu su) : Px E pc L (av.reverse ++ vR (eG E) a :: st) (LF n) D cu su :=
  p_callV hdc yv hlink hr hC hd hn hst hcu hsu hs  (hM _ (ok_bind h)) (fun v ly' D' hp => by obtain ⟨e1, rfl, hk⟩ := hp; cases e1; exact kk D' hk) (fun e ly' D' hp => by obtain ⟨e1, _⟩ := hp; cases e1)
theorem cV_Xw {y : MethodName} {cc : ByteArray} {nL n9 idx d' mc' ms' a ci n : Nat} {ret : Option FieldType} {r : vw_C} (av : List Value) (st : List Value) {γ : Type} {K : (γ ⊕ Nat) × DT → Prop} {X : Option ((Int ⊕ Nat) × DT)} {f : Int → DT → Option ((γ ⊕ Nat) × DT)} (hdc : decode (eC E) pc = .ok (.invokevirtual idx, 3)) (yv : YV y cc nL ret n9) (hlink : Cond.methodLink (eY E).cls idx y ∈ TB) (hr : vwCl[ci]? = some r) (hC : r.1 = y.cls) (hd : d' + 1 ≤ (eD E).1) (hn : av.length = n9) (hst : (st.map fun v => v.category).sum ≤ 8) (hcu : cu + mc' ≤ (eD E).2.1) (hsu : su + ms' ≤ (eD E).2.2) (hs : (LF n).1 a = some (.inl ci)) (h : ok (bndX X f) K) (hM : ∀ K', ok X K' → Sat (eL E) (eG E) y cc nL ret d' mc' ms' (vR (eG E) a :: av) (LF n) D (PXw n K')) (kx : ∀ e n D, K (.inr e, D) → PX E pc L st (LF n) D (cu + mc') (su + ms') (exn e)) (kk : ∀ v D, ok (f v D) K → Px E (pc + 3) L (vI v :: st) (LF n) D (cu + mc') (su + ms')) : Px E pc L (av.reverse ++ vR (eG E) a :: st) (LF n) D cu su :=
  p_callV hdc yv hlink hr hC hd hn hst hcu hsu hs  (hM _ (ok_bind h)) (fun v ly' D' hp => by
    rcases hp with ⟨v', e1, rfl, hk⟩ | ⟨e, n', e1, _⟩
    · cases e1; exact kk v' D' hk
    · cases e1) (fun e ly' D' hp => by
    rcases hp with ⟨v', e1, _⟩ | ⟨e', n', e1, rfl, hk⟩
    · cases e1
    · cases e1; exact kx _ n' D' (ok_some hk))
theorem cV_Nr {y : MethodName} {cc : ByteArray} {nL n9 idx d' mc' ms' a ci n : Nat} {ret : Option FieldType} {r : vw_C} (av : List Value) (st : List Value) {γ : Type} {K : (γ ⊕ Nat) × DT → Prop} {X : Option (Unit ⊕ Nat)} {f : Option ((γ ⊕ Nat) × DT)} (hdc : decode (eC E) pc = .ok (.invokevirtual idx, 3)) (yv : YV y cc nL ret n9) (hlink : Cond.methodLink (eY E).cls idx y ∈ TB) (hr : vwCl[ci]? = some r) (hC : r.1 = y.cls) (hd : d' + 1 ≤ (eD E).1) (hn : av.length = n9) (hst : (st.map fun v => v.category).sum ≤ 8) (hcu : cu + mc' ≤ (eD E).2.1) (hsu : su + ms' ≤ (eD E).2.2) (hs : (LF n).1 a = some (.inl ci)) (h : ok (bndN X D f) K) (hM : ∀ K', ok X K' → Sat (eL E) (eG E) y cc nL ret d' mc' ms' (vR (eG E) a :: av) (LF n) D (PNr n D K')) (kx : ∀ e n, K (.inr e, D) → PX E pc L st (LF n) D (cu + mc') (su + ms') (exn e)) (kk : ok f K → Px E (pc + 3) L st (LF n) D (cu + mc') (su + ms')) : Px E pc L (av.reverse ++ vR (eG E) a :: st) (LF n) D cu su :=
  p_callV hdc yv hlink hr hC hd hn hst hcu hsu hs  (hM _ (ok_bind h)) (fun v ly' D' hp => by
    obtain ⟨rfl, hp⟩ := hp
    rcases hp with ⟨e1, rfl, hk⟩ | ⟨e, n', e1, _⟩
    · cases e1; exact kk hk
    · cases e1) (fun e ly' D' hp => by
    obtain ⟨rfl, hp⟩ := hp
    rcases hp with ⟨e1, _⟩ | ⟨e', n', e1, rfl, hk⟩
    · cases e1
    · cases e1; exact kx _ n' (ok_some hk))
theorem cV_Mr {y : MethodName} {cc : ByteArray} {nL n9 idx d' mc' ms' a ci n : Nat} {ret : Option FieldType} {r : vw_C} (av : List Value) (st : List Value) {K : Unit ⊕ Nat → Prop} {X f : Option (Unit ⊕ Nat)} (hdc : decode (eC E) pc = .ok (.invokevirtual idx, 3)) (yv : YV y cc nL ret n9) (hlink : Cond.methodLink (eY E).cls idx y ∈ TB) (hr : vwCl[ci]? = some r) (hC : r.1 = y.cls) (hd : d' + 1 ≤ (eD E).1) (hn : av.length = n9) (hst : (st.map fun v => v.category).sum ≤ 8) (hcu : cu + mc' ≤ (eD E).2.1) (hsu : su + ms' ≤ (eD E).2.2) (hs : (LF n).1 a = some (.inl ci)) (h : ok (bndM X f) K) (hM : ∀ K', ok X K' → Sat (eL E) (eG E) y cc nL ret d' mc' ms' (vR (eG E) a :: av) (LF n) D (PNr n D K')) (kx : ∀ e n, K (.inr e) → PX E pc L st (LF n) D (cu + mc') (su + ms') (exn e)) (kk : ok f K → Px E (pc + 3) L st (LF n) D (cu + mc') (su + ms')) : Px E pc L (av.reverse ++ vR (eG E) a :: st) (LF n) D cu su :=
  p_callV hdc yv hlink hr hC hd hn hst hcu hsu hs  (hM _ (ok_bind h)) (fun v ly' D' hp => by
    obtain ⟨rfl, hp⟩ := hp
    rcases hp with ⟨e1, rfl, hk⟩ | ⟨e, n', e1, _⟩
    · cases e1; exact kk hk
    · cases e1) (fun e ly' D' hp => by
    obtain ⟨rfl, hp⟩ := hp
    rcases hp with ⟨e1, _⟩ | ⟨e', n', e1, rfl, hk⟩
    · cases e1
    · cases e1; exact kx _ n' (ok_some hk))
theorem cS_Ir {y : MethodName} {cc : ByteArray} {nL n9 idx d'  n : Nat} {ret : Option FieldType} (av : List Value) (st : List Value) {X : Option Int} {f : Int → Option β} (hdc : decode (eC E) pc = .ok (.invokestatic idx, 3)) (yv : YS y cc nL ret n9) (hlink : Cond.methodLink (eY E).cls idx y ∈ TB) (hd : d' + 1 ≤ (eD E).1) (hn : av.length = n9) (hst : (st.map fun v => v.category).sum ≤ 8) (hcu : cu ≤ (eD E).2.1) (hsu : su ≤ (eD E).2.2) (h : ok (X.bind f) K) (hM : ∀ K', ok X K' → Sat (eL E) (eG E) y cc nL ret d' 0 0 av (LF n) D (PIr n D K')) (kk : ∀ v, ok (f v) K → Px E (pc + 3) L (vI v :: st) (LF n) D cu su) : Px E pc L (av.reverse ++ st) (LF n) D cu su :=
  p_callS hdc yv hlink hd hn hst hcu hsu  (hM _ (ok_bind h)) (fun v ly' D' hp => by obtain ⟨v', e1, rfl, rfl, hk⟩ := hp; cases e1; exact kk v' hk) (fun e ly' D' hp => by obtain ⟨v', e1, _⟩ := hp; cases e1)
theorem cS_Jr {y : MethodName} {cc : ByteArray} {nL n9 idx d'  n : Nat} {ret : Option FieldType} (av : List Value) (st : List Value) {X : Option Int} {f : Int → Option β} (hdc : decode (eC E) pc = .ok (.invokestatic idx, 3)) (yv : YS y cc nL ret n9) (hlink : Cond.methodLink (eY E).cls idx y ∈ TB) (hd : d' + 1 ≤ (eD E).1) (hn : av.length = n9) (hst : (st.map fun v => v.category).sum ≤ 8) (hcu : cu ≤ (eD E).2.1) (hsu : su ≤ (eD E).2.2) (h : ok (X.bind f) K) (hM : ∀ K', ok X K' → Sat (eL E) (eG E) y cc nL ret d' 0 0 av (LF n) D (PJr n D K')) (kk : ∀ v, ok (f v) K → Px E (pc + 3) L (vJ v :: st) (LF n) D cu su) : Px E pc L (av.reverse ++ st) (LF n) D cu su :=
  p_callS hdc yv hlink hd hn hst hcu hsu  (hM _ (ok_bind h)) (fun v ly' D' hp => by obtain ⟨v', e1, rfl, rfl, hk⟩ := hp; cases e1; exact kk v' hk) (fun e ly' D' hp => by obtain ⟨v', e1, _⟩ := hp; cases e1)
theorem cS_Iw {y : MethodName} {cc : ByteArray} {nL n9 idx d'  n : Nat} {ret : Option FieldType} (av : List Value) (st : List Value) {X : Option (Int × DT)} {f : Int → DT → Option β} (hdc : decode (eC E) pc = .ok (.invokestatic idx, 3)) (yv : YS y cc nL ret n9) (hlink : Cond.methodLink (eY E).cls idx y ∈ TB) (hd : d' + 1 ≤ (eD E).1) (hn : av.length = n9) (hst : (st.map fun v => v.category).sum ≤ 8) (hcu : cu ≤ (eD E).2.1) (hsu : su ≤ (eD E).2.2) (h : ok (bnd X f) K) (hM : ∀ K', ok X K' → Sat (eL E) (eG E) y cc nL ret d' 0 0 av (LF n) D (PIw n K')) (kk : ∀ v D, ok (f v D) K → Px E (pc + 3) L (vI v :: st) (LF n) D cu su) : Px E pc L (av.reverse ++ st) (LF n) D cu su :=
  p_callS hdc yv hlink hd hn hst hcu hsu  (hM _ (ok_bind h)) (fun v ly' D' hp => by obtain ⟨v', e1, rfl, hk⟩ := hp; cases e1; exact kk v' D' hk) (fun e ly' D' hp => by obtain ⟨v', e1, _⟩ := hp; cases e1)
theorem cS_Vw {y : MethodName} {cc : ByteArray} {nL n9 idx d'  n : Nat} {ret : Option FieldType} (av : List Value) (st : List Value) {X : Option DT} {f : DT → Option β} (hdc : decode (eC E) pc = .ok (.invokestatic idx, 3)) (yv : YS y cc nL ret n9) (hlink : Cond.methodLink (eY E).cls idx y ∈ TB) (hd : d' + 1 ≤ (eD E).1) (hn : av.length = n9) (hst : (st.map fun v => v.category).sum ≤ 8) (hcu : cu ≤ (eD E).2.1) (hsu : su ≤ (eD E).2.2) (h : ok (X.bind f) K) (hM : ∀ K', ok X K' → Sat (eL E) (eG E) y cc nL ret d' 0 0 av (LF n) D (PVw n K')) (kk : ∀ D, ok (f D) K → Px E (pc + 3) L st (LF n) D cu su) : Px E pc L (av.reverse ++ st) (LF n) D cu su :=
  p_callS hdc yv hlink hd hn hst hcu hsu  (hM _ (ok_bind h)) (fun v ly' D' hp => by obtain ⟨e1, rfl, hk⟩ := hp; cases e1; exact kk D' hk) (fun e ly' D' hp => by obtain ⟨e1, _⟩ := hp; cases e1)
theorem cS_Aw {y : MethodName} {cc : ByteArray} {nL n9 idx d'  n : Nat} {ret : Option FieldType} (av : List Value) (st : List Value) {q : Nat} {X : Option DT} {f : DT → Option β} (hdc : decode (eC E) pc = .ok (.invokestatic idx, 3)) (yv : YS y cc nL ret n9) (hlink : Cond.methodLink (eY E).cls idx y ∈ TB) (hd : d' + 1 ≤ (eD E).1) (hn : av.length = n9) (hst : (st.map fun v => v.category).sum ≤ 8) (hcu : cu ≤ (eD E).2.1) (hsu : su ≤ (eD E).2.2) (h : ok (X.bind f) K) (hM : ∀ K', ok X K' → Sat (eL E) (eG E) y cc nL ret d' 0 0 av (LF n) D (PAw (eG E) q n K')) (kk : ∀ D, ok (f D) K → Px E (pc + 3) L (vR (eG E) q :: st) (LF n) D cu su) : Px E pc L (av.reverse ++ st) (LF n) D cu su :=
  p_callS hdc yv hlink hd hn hst hcu hsu  (hM _ (ok_bind h)) (fun v ly' D' hp => by obtain ⟨e1, rfl, hk⟩ := hp; cases e1; exact kk D' hk) (fun e ly' D' hp => by obtain ⟨e1, _⟩ := hp; cases e1)
theorem cS_Xw {y : MethodName} {cc : ByteArray} {nL n9 idx d' mc' ms' n : Nat} {ret : Option FieldType} (av : List Value) (st : List Value) {γ : Type} {K : (γ ⊕ Nat) × DT → Prop} {X : Option ((Int ⊕ Nat) × DT)} {f : Int → DT → Option ((γ ⊕ Nat) × DT)} (hdc : decode (eC E) pc = .ok (.invokestatic idx, 3)) (yv : YS y cc nL ret n9) (hlink : Cond.methodLink (eY E).cls idx y ∈ TB) (hd : d' + 1 ≤ (eD E).1) (hn : av.length = n9) (hst : (st.map fun v => v.category).sum ≤ 8) (hcu : cu + mc' ≤ (eD E).2.1) (hsu : su + ms' ≤ (eD E).2.2) (h : ok (bndX X f) K) (hM : ∀ K', ok X K' → Sat (eL E) (eG E) y cc nL ret d' mc' ms' av (LF n) D (PXw n K')) (kx : ∀ e n D, K (.inr e, D) → PX E pc L st (LF n) D (cu + mc') (su + ms') (exn e)) (kk : ∀ v D, ok (f v D) K → Px E (pc + 3) L (vI v :: st) (LF n) D (cu + mc') (su + ms')) : Px E pc L (av.reverse ++ st) (LF n) D cu su :=
  p_callS hdc yv hlink hd hn hst hcu hsu  (hM _ (ok_bind h)) (fun v ly' D' hp => by
    rcases hp with ⟨v', e1, rfl, hk⟩ | ⟨e, n', e1, _⟩
    · cases e1; exact kk v' D' hk
    · cases e1) (fun e ly' D' hp => by
    rcases hp with ⟨v', e1, _⟩ | ⟨e', n', e1, rfl, hk⟩
    · cases e1
    · cases e1; exact kx _ n' D' (ok_some hk))
theorem cS_Nr {y : MethodName} {cc : ByteArray} {nL n9 idx d' mc' ms' n : Nat} {ret : Option FieldType} (av : List Value) (st : List Value) {γ : Type} {K : (γ ⊕ Nat) × DT → Prop} {X : Option (Unit ⊕ Nat)} {f : Option ((γ ⊕ Nat) × DT)} (hdc : decode (eC E) pc = .ok (.invokestatic idx, 3)) (yv : YS y cc nL ret n9) (hlink : Cond.methodLink (eY E).cls idx y ∈ TB) (hd : d' + 1 ≤ (eD E).1) (hn : av.length = n9) (hst : (st.map fun v => v.category).sum ≤ 8) (hcu : cu + mc' ≤ (eD E).2.1) (hsu : su + ms' ≤ (eD E).2.2) (h : ok (bndN X D f) K) (hM : ∀ K', ok X K' → Sat (eL E) (eG E) y cc nL ret d' mc' ms' av (LF n) D (PNr n D K')) (kx : ∀ e n, K (.inr e, D) → PX E pc L st (LF n) D (cu + mc') (su + ms') (exn e)) (kk : ok f K → Px E (pc + 3) L st (LF n) D (cu + mc') (su + ms')) : Px E pc L (av.reverse ++ st) (LF n) D cu su :=
  p_callS hdc yv hlink hd hn hst hcu hsu  (hM _ (ok_bind h)) (fun v ly' D' hp => by
    obtain ⟨rfl, hp⟩ := hp
    rcases hp with ⟨e1, rfl, hk⟩ | ⟨e, n', e1, _⟩
    · cases e1; exact kk hk
    · cases e1) (fun e ly' D' hp => by
    obtain ⟨rfl, hp⟩ := hp
    rcases hp with ⟨e1, _⟩ | ⟨e', n', e1, rfl, hk⟩
    · cases e1
    · cases e1; exact kx _ n' (ok_some hk))
theorem cS_Mr {y : MethodName} {cc : ByteArray} {nL n9 idx d' mc' ms' n : Nat} {ret : Option FieldType} (av : List Value) (st : List Value) {K : Unit ⊕ Nat → Prop} {X f : Option (Unit ⊕ Nat)} (hdc : decode (eC E) pc = .ok (.invokestatic idx, 3)) (yv : YS y cc nL ret n9) (hlink : Cond.methodLink (eY E).cls idx y ∈ TB) (hd : d' + 1 ≤ (eD E).1) (hn : av.length = n9) (hst : (st.map fun v => v.category).sum ≤ 8) (hcu : cu + mc' ≤ (eD E).2.1) (hsu : su + ms' ≤ (eD E).2.2) (h : ok (bndM X f) K) (hM : ∀ K', ok X K' → Sat (eL E) (eG E) y cc nL ret d' mc' ms' av (LF n) D (PNr n D K')) (kx : ∀ e n, K (.inr e) → PX E pc L st (LF n) D (cu + mc') (su + ms') (exn e)) (kk : ok f K → Px E (pc + 3) L st (LF n) D (cu + mc') (su + ms')) : Px E pc L (av.reverse ++ st) (LF n) D cu su :=
  p_callS hdc yv hlink hd hn hst hcu hsu  (hM _ (ok_bind h)) (fun v ly' D' hp => by
    obtain ⟨rfl, hp⟩ := hp
    rcases hp with ⟨e1, rfl, hk⟩ | ⟨e, n', e1, _⟩
    · cases e1; exact kk hk
    · cases e1) (fun e ly' D' hp => by
    obtain ⟨rfl, hp⟩ := hp
    rcases hp with ⟨e1, _⟩ | ⟨e', n', e1, rfl, hk⟩
    · cases e1
    · cases e1; exact kx _ n' (ok_some hk))
end QRules
