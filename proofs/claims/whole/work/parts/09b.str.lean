/-! ===== String constants: where they are, what they hold ===== -/
def strOs : List String := ["DotSpreader$Tape", "DotSpreader$Tape", "DotSpreader$Tape", "DotSpreader$Tape", "DotSpreader$Tape", "DotSpreader$Tape", "DotSpreader$Script", "DotSpreader$Script", "DotSpreader$Script", "DotSpreader$Script", "DotSpreader$Script", "DotSpreader$Script", "DotSpreader$Script", "DotSpreaderModel", "DotSpreaderModel", "DotSpreaderModel", "DotSpreaderModel", "DotSpreaderModel", "DotSpreaderModel", "DotSpreaderModel", "DotSpreaderModel", "DotSpreaderModel", "DotSpreader", "DotSpreader", "DotSpreader", "DotSpreader", "DotSpreader", "DotSpreader", "DotSpreader", "DotSpreader", "DotSpreader", "DotSpreader", "DotSpreader", "DotSpreader", "DotSpreader", "DotSpreader", "DotSpreader", "DotSpreader", "DotSpreader"]
def strKs : List Nat := [61, 82, 90, 134, 95, 108, 36, 53, 58, 60, 62, 68, 70, 160, 161, 163, 165, 166, 168, 364, 369, 371, 64, 354, 104, 356, 133, 358, 146, 162, 167, 360, 215, 362, 364, 366, 368, 370, 310]
def strTs : List String := ["size", "groups", "zone", "people", "row", "sea", "row ", " ", ": ", ", ", "", "-", ";", "size", "groups", "zone", "people", "row", "sea", "row ", ": ", ", ", "the text is wrong", "no such cell", "no such what of a cell", "no such zone", "no such what of a zone", "no such group", "no such number of people", "no such unit", "no such factor", "no such level", "no such dot", "no such row", "both are one zone", "no such run", "no such measure", "not 0 to 999", "no such row or column"]
def strBs : List (List Int) := [[115, 105, 122, 101], [103, 114, 111, 117, 112, 115], [122, 111, 110, 101], [112, 101, 111, 112, 108, 101], [114, 111, 119], [115, 101, 97], [114, 111, 119, 32], [32], [58, 32], [44, 32], [], [45], [59], [115, 105, 122, 101], [103, 114, 111, 117, 112, 115], [122, 111, 110, 101], [112, 101, 111, 112, 108, 101], [114, 111, 119], [115, 101, 97], [114, 111, 119, 32], [58, 32], [44, 32], [116, 104, 101, 32, 116, 101, 120, 116, 32, 105, 115, 32, 119, 114, 111, 110, 103], [110, 111, 32, 115, 117, 99, 104, 32, 99, 101, 108, 108], [110, 111, 32, 115, 117, 99, 104, 32, 119, 104, 97, 116, 32, 111, 102, 32, 97, 32, 99, 101, 108, 108], [110, 111, 32, 115, 117, 99, 104, 32, 122, 111, 110, 101], [110, 111, 32, 115, 117, 99, 104, 32, 119, 104, 97, 116, 32, 111, 102, 32, 97, 32, 122, 111, 110, 101], [110, 111, 32, 115, 117, 99, 104, 32, 103, 114, 111, 117, 112], [110, 111, 32, 115, 117, 99, 104, 32, 110, 117, 109, 98, 101, 114, 32, 111, 102, 32, 112, 101, 111, 112, 108, 101], [110, 111, 32, 115, 117, 99, 104, 32, 117, 110, 105, 116], [110, 111, 32, 115, 117, 99, 104, 32, 102, 97, 99, 116, 111, 114], [110, 111, 32, 115, 117, 99, 104, 32, 108, 101, 118, 101, 108], [110, 111, 32, 115, 117, 99, 104, 32, 100, 111, 116], [110, 111, 32, 115, 117, 99, 104, 32, 114, 111, 119], [98, 111, 116, 104, 32, 97, 114, 101, 32, 111, 110, 101, 32, 122, 111, 110, 101], [110, 111, 32, 115, 117, 99, 104, 32, 114, 117, 110], [110, 111, 32, 115, 117, 99, 104, 32, 109, 101, 97, 115, 117, 114, 101], [110, 111, 116, 32, 48, 32, 116, 111, 32, 57, 57, 57], [110, 111, 32, 115, 117, 99, 104, 32, 114, 111, 119, 32, 111, 114, 32, 99, 111, 108, 117, 109, 110]]
def strB (i : Nat) : List Int := strBs.getD i []
def strL (i : Nat) : Int := ((strB i).length : Int)
def strC (i k : Nat) : Int := (strB i).getD k 0
abbrev strT (i : Nat) : Term := Term.string (strOs.getD i "") (strKs.getD i 0)
abbrev strV (i : Nat) : Term := Term.field (strT i) "java/lang/String" "value" "[B"
abbrev prC : Cond := Jvm.Cond.and given_1 narrow_1
set_option maxRecDepth 100000 in
theorem st_ref : ∀ i, i < 39 → Cond.stringRef (strOs.getD i "") (strKs.getD i 0) (strTs.getD i "") ∈ lw_tbl := by decide +kernel
set_option maxRecDepth 100000 in
theorem st_ex : ∀ i, i < 39 → Cond.exactly (strT i) "java/lang/String" ∈ flatC prC := by decide +kernel
set_option maxRecDepth 100000 in
theorem st_co : ∀ i, i < 22 → Cond.eq (.field (strT i) "java/lang/String" "coder" "B") (.int 0) ∈ flatC prC := by decide +kernel
set_option maxRecDepth 100000 in
theorem st_ar : ∀ i, i < 22 → Cond.arrayOf (strV i) .byte ∈ flatC prC := by decide +kernel
set_option maxRecDepth 100000 in
theorem st_le : ∀ i, i < 22 → Cond.eq (.length (strV i)) (.int (Int32.ofNat (strB i).length)) ∈ flatC prC := by decide +kernel
set_option maxRecDepth 100000 in
theorem st_el_0 : ∀ j, j < 4 → Cond.eq (.elem (strV 0) (.int (Int32.ofNat j))) (.int (Int32.ofInt (strC 0 j))) ∈ flatC prC := by decide +kernel
set_option maxRecDepth 100000 in
theorem st_el_1 : ∀ j, j < 6 → Cond.eq (.elem (strV 1) (.int (Int32.ofNat j))) (.int (Int32.ofInt (strC 1 j))) ∈ flatC prC := by decide +kernel
set_option maxRecDepth 100000 in
theorem st_el_2 : ∀ j, j < 4 → Cond.eq (.elem (strV 2) (.int (Int32.ofNat j))) (.int (Int32.ofInt (strC 2 j))) ∈ flatC prC := by decide +kernel
set_option maxRecDepth 100000 in
theorem st_el_3 : ∀ j, j < 6 → Cond.eq (.elem (strV 3) (.int (Int32.ofNat j))) (.int (Int32.ofInt (strC 3 j))) ∈ flatC prC := by decide +kernel
set_option maxRecDepth 100000 in
theorem st_el_4 : ∀ j, j < 3 → Cond.eq (.elem (strV 4) (.int (Int32.ofNat j))) (.int (Int32.ofInt (strC 4 j))) ∈ flatC prC := by decide +kernel
set_option maxRecDepth 100000 in
theorem st_el_5 : ∀ j, j < 3 → Cond.eq (.elem (strV 5) (.int (Int32.ofNat j))) (.int (Int32.ofInt (strC 5 j))) ∈ flatC prC := by decide +kernel
set_option maxRecDepth 100000 in
theorem st_el_6 : ∀ j, j < 4 → Cond.eq (.elem (strV 6) (.int (Int32.ofNat j))) (.int (Int32.ofInt (strC 6 j))) ∈ flatC prC := by decide +kernel
set_option maxRecDepth 100000 in
theorem st_el_7 : ∀ j, j < 1 → Cond.eq (.elem (strV 7) (.int (Int32.ofNat j))) (.int (Int32.ofInt (strC 7 j))) ∈ flatC prC := by decide +kernel
set_option maxRecDepth 100000 in
theorem st_el_8 : ∀ j, j < 2 → Cond.eq (.elem (strV 8) (.int (Int32.ofNat j))) (.int (Int32.ofInt (strC 8 j))) ∈ flatC prC := by decide +kernel
set_option maxRecDepth 100000 in
theorem st_el_9 : ∀ j, j < 2 → Cond.eq (.elem (strV 9) (.int (Int32.ofNat j))) (.int (Int32.ofInt (strC 9 j))) ∈ flatC prC := by decide +kernel
set_option maxRecDepth 100000 in
theorem st_el_10 : ∀ j, j < 0 → Cond.eq (.elem (strV 10) (.int (Int32.ofNat j))) (.int (Int32.ofInt (strC 10 j))) ∈ flatC prC := by decide +kernel
set_option maxRecDepth 100000 in
theorem st_el_11 : ∀ j, j < 1 → Cond.eq (.elem (strV 11) (.int (Int32.ofNat j))) (.int (Int32.ofInt (strC 11 j))) ∈ flatC prC := by decide +kernel
set_option maxRecDepth 100000 in
theorem st_el_12 : ∀ j, j < 1 → Cond.eq (.elem (strV 12) (.int (Int32.ofNat j))) (.int (Int32.ofInt (strC 12 j))) ∈ flatC prC := by decide +kernel
set_option maxRecDepth 100000 in
theorem st_el_13 : ∀ j, j < 4 → Cond.eq (.elem (strV 13) (.int (Int32.ofNat j))) (.int (Int32.ofInt (strC 13 j))) ∈ flatC prC := by decide +kernel
set_option maxRecDepth 100000 in
theorem st_el_14 : ∀ j, j < 6 → Cond.eq (.elem (strV 14) (.int (Int32.ofNat j))) (.int (Int32.ofInt (strC 14 j))) ∈ flatC prC := by decide +kernel
set_option maxRecDepth 100000 in
theorem st_el_15 : ∀ j, j < 4 → Cond.eq (.elem (strV 15) (.int (Int32.ofNat j))) (.int (Int32.ofInt (strC 15 j))) ∈ flatC prC := by decide +kernel
set_option maxRecDepth 100000 in
theorem st_el_16 : ∀ j, j < 6 → Cond.eq (.elem (strV 16) (.int (Int32.ofNat j))) (.int (Int32.ofInt (strC 16 j))) ∈ flatC prC := by decide +kernel
set_option maxRecDepth 100000 in
theorem st_el_17 : ∀ j, j < 3 → Cond.eq (.elem (strV 17) (.int (Int32.ofNat j))) (.int (Int32.ofInt (strC 17 j))) ∈ flatC prC := by decide +kernel
set_option maxRecDepth 100000 in
theorem st_el_18 : ∀ j, j < 3 → Cond.eq (.elem (strV 18) (.int (Int32.ofNat j))) (.int (Int32.ofInt (strC 18 j))) ∈ flatC prC := by decide +kernel
set_option maxRecDepth 100000 in
theorem st_el_19 : ∀ j, j < 4 → Cond.eq (.elem (strV 19) (.int (Int32.ofNat j))) (.int (Int32.ofInt (strC 19 j))) ∈ flatC prC := by decide +kernel
set_option maxRecDepth 100000 in
theorem st_el_20 : ∀ j, j < 2 → Cond.eq (.elem (strV 20) (.int (Int32.ofNat j))) (.int (Int32.ofInt (strC 20 j))) ∈ flatC prC := by decide +kernel
set_option maxRecDepth 100000 in
theorem st_el_21 : ∀ j, j < 2 → Cond.eq (.elem (strV 21) (.int (Int32.ofNat j))) (.int (Int32.ofInt (strC 21 j))) ∈ flatC prC := by decide +kernel
theorem st_el : ∀ i, i < 22 → ∀ j, j < (strB i).length → Cond.eq (.elem (strV i) (.int (Int32.ofNat j))) (.int (Int32.ofInt (strC i j))) ∈ flatC prC := fun i hi => match i, hi with
  | 0, _ => st_el_0
  | 1, _ => st_el_1
  | 2, _ => st_el_2
  | 3, _ => st_el_3
  | 4, _ => st_el_4
  | 5, _ => st_el_5
  | 6, _ => st_el_6
  | 7, _ => st_el_7
  | 8, _ => st_el_8
  | 9, _ => st_el_9
  | 10, _ => st_el_10
  | 11, _ => st_el_11
  | 12, _ => st_el_12
  | 13, _ => st_el_13
  | 14, _ => st_el_14
  | 15, _ => st_el_15
  | 16, _ => st_el_16
  | 17, _ => st_el_17
  | 18, _ => st_el_18
  | 19, _ => st_el_19
  | 20, _ => st_el_20
  | 21, _ => st_el_21
  | n + 22, h => absurd h (by omega)
theorem st_len : ∀ i, i < 22 → (strB i).length < 100 := by decide +kernel
noncomputable def adK (g : GH) (i : Nat) : Nat := match (strT i).eval #[Value.ref g.2.2.2.2.1] g.1 none [] g.1 with
  | some (.ref a) => a
  | _ => 0
noncomputable def adV (g : GH) (i : Nat) : Nat := match (strV i).eval #[Value.ref g.2.2.2.2.1] g.1 none [] g.1 with
  | some (.ref a) => a
  | _ => 0
noncomputable abbrev vS (g : GH) (i : Nat) : Value := .ref (adK g i)
def StrAt (g : GH) (i : Nat) (U : State) (H : Heap) : Prop := va_O "java/lang/String" (adK g i) (Af g) U H ∧ va_OF "java/lang/String" "coder" "B" (.int 0) (adK g i) (Af g) U H ∧ va_OF "java/lang/String" "value" "[B" (.ref (adV g i)) (adK g i) (Af g) U H ∧ va_T .byte (adV g i) (strB i).length (fun j => .int (Int32.ofInt (strC i j))) (Af g) U H
theorem str_rf0 {l : Launch} {g : GH} (hG : G0 l g) {i : Nat} (hi : i < 39) : vk_R (strOs.getD i "") (strKs.getD i 0) (strTs.getD i "") (adK g i) g.1 := by
  have hs := flat_of_before _ hG.2.2.2.2
  obtain ⟨a, c, cA, kA, q1, q2, q3, q4, q5, q6, -⟩ := Cond.exactly_spec (args := #[Value.ref g.2.2.2.2.1]) (first := g.1) (o := none) (s := g.1) (idx := []) (t := strT i) (cls := "java/lang/String") (hs _ (st_ex i hi))
  have e1 : adK g i = a := by unfold adK; rw [q1]
  rw [e1]
  exact vk_R.of (hG.2.1 _ (st_ref i hi)) q1
theorem str_at0 {l : Launch} {g : GH} (hG : G0 l g) {i : Nat} (hM : i < 22) : StrAt g i g.1 g.1.heap := by
  have hi : i < 39 := by omega
  have hA : ∀ a : Nat, a < g.1.heap.size → ¬ Af g a := fun a h => Nat.not_le.mpr h
  have hs := flat_of_before _ hG.2.2.2.2
  obtain ⟨a, c, cA, kA, q1, q2, q3, q4, q5, q6, -⟩ := Cond.exactly_spec (args := #[Value.ref g.2.2.2.2.1]) (first := g.1) (o := none) (s := g.1) (idx := []) (t := strT i) (cls := "java/lang/String") (hs _ (st_ex i hi))
  obtain ⟨t, ht, hT⟩ := va_Tof (f := fun j => .int (Int32.ofInt (strC i j))) (A := Af g) (by have := st_len i hM; omega) (hs _ (st_ar i hM)) (va_eqt (hs _ (st_le i hM))) (fun j hj => va_eqt (hs _ (st_el i hM j hj))) hA
  have e1 : adK g i = a := by unfold adK; rw [q1]
  have e2 : adV g i = t := by unfold adV; rw [ht]
  unfold StrAt
  rw [e1, e2]
  exact ⟨⟨cA, q3, q5, by rw [q6]; exact q2, hA a (Array.getElem?_eq_some_iff.mp q3).1⟩, vk_OFof q1 (va_eqt (hs _ (st_co i hM))) hA, vk_OFof q1 ht hA, hT⟩
theorem str_rf {E : ENV} {p : Program} {R : Room} {s : State} {m : MethodId} {meth : Method} {c : Code} (C : Cx E p R s m meth c) {i : Nat} (hi : i < 39) : vk_R (strOs.getD i "") (strKs.getD i 0) (strTs.getD i "") (adK (eG E) i) s := vk_R.warm C.2.2.2.2.1 (str_rf0 C.2.2.2.1 hi)
theorem str_at {E : ENV} {p : Program} {R : Room} {s : State} {m : MethodId} {meth : Method} {c : Code} (C : Cx E p R s m meth c) {i : Nat} (hi : i < 22) : StrAt (eG E) i s s.heap := by
  obtain ⟨h2, h3, h4, h5⟩ := str_at0 C.2.2.2.1 hi
  have hq : ∀ a : Nat, a < (eG E).1.heap.size → ¬ Af (eG E) a → s.heap[a]? = (eG E).1.heap[a]? := fun a h _ => C.2.2.2.2.2.2 a h
  have al := C.2.2.2.2.1.alike
  exact ⟨(va_O.moved al h2).kept hq, (va_OF.moved al h3).kept hq, (va_OF.moved al h4).kept hq, (va_T.moved al h5).kept hq⟩
section Strs
variable {E : ENV} {pc : Nat} {L : List (Option Value)} {st : List Value} {ly : LY} {D : DT} {cu su : Nat}
theorem p_ldcS {i idx : Nat} {g : GH} {l : Launch} (hG : G0 l g) (hd : decode (eC E) pc = .ok (.ldc idx, 2)) (hi : i < 39) (hO : strOs.getD i "" = (eY E).cls) (hk : strKs.getD i 0 = idx) (k : Px E (pc + 2) L (vS (eG E) i :: st) ly D cu su) : Px E pc L st ly D cu su := by
  intro p e R s m args below meth c H locs ls C Rp S LL
  have h := str_rf C hi
  rw [hO, hk] at h
  exact va_ldcS C.1.1 C.1.2.1 C.1.2.2.2.1 h hd (k p e R s m args below meth c H locs ls C Rp S LL)
theorem p_getSv {i idx : Nat} (hi : i < 22) (hd : decode (eC E) pc = .ok (.getfield idx, 3)) (hl : Cond.fieldLink (eY E).cls idx "java/lang/String" "value" "[B" ∈ TB) (k : Px E (pc + 3) L (.ref (adV (eG E) i) :: st) ly D cu su) : Px E pc L (vS (eG E) i :: st) ly D cu su := by
  intro p e R s m args below meth c H locs ls C Rp S LL
  exact vk_getf C.1.1 C.1.2.1 (str_at C hi).2.2.1 S C.1.2.2.2.1 (C.w hl args) (fun _ h => h) hd (k p e R s m args below meth c H locs ls C Rp S LL)
theorem p_getSc {i idx : Nat} (hi : i < 22) (hd : decode (eC E) pc = .ok (.getfield idx, 3)) (hl : Cond.fieldLink (eY E).cls idx "java/lang/String" "coder" "B" ∈ TB) (k : Px E (pc + 3) L (vI 0 :: st) ly D cu su) : Px E pc L (vS (eG E) i :: st) ly D cu su := by
  intro p e R s m args below meth c H locs ls C Rp S LL
  exact vk_getf C.1.1 C.1.2.1 (str_at C hi).2.1 S C.1.2.2.2.1 (C.w hl args) (fun _ h => h) hd (k p e R s m args below meth c H locs ls C Rp S LL)
theorem p_alenS {i : Nat} (hi : i < 22) (hd : decode (eC E) pc = .ok (.arraylength, 1)) (k : Px E (pc + 1) L (vI (strL i) :: st) ly D cu su) : Px E pc L (.ref (adV (eG E) i) :: st) ly D cu su := by
  intro p e R s m args below meth c H locs ls C Rp S LL
  exact va_tlen C.1.1 C.1.2.1 (str_at C hi).2.2.2 S (v := Int32.ofInt (strL i)) (by unfold strL; exact Int32.ofInt_eq_ofNat.symm) hd (k p e R s m args below meth c H locs ls C Rp S LL)
theorem p_baldS {i j : Nat} (hi : i < 22) (hj : j < (strB i).length) (hd : decode (eC E) pc = .ok (.baload, 1)) (k : Px E (pc + 1) L (vI (strC i j) :: st) ly D cu su) : Px E pc L (vI (j : Int) :: .ref (adV (eG E) i) :: st) ly D cu su := by
  intro p e R s m args below meth c H locs ls C Rp S LL
  have hl := st_len i hi
  exact va_tb C.1.1 C.1.2.1 (str_at C hi).2.2.2 S (i32_in hj (by omega)) (by rw [i32_nat (by omega)]) hd (k p e R s m args below meth c H locs ls C Rp S LL)
set_option maxRecDepth 100000 in
theorem zc_at {p : Program} {R : Room} {s : State} {m : MethodId} {meth : Method} {c : Code} (C : Cx E p R s m meth c) : va_Z "java/lang/String" "COMPACT_STRINGS" "Z" (.int 1) (Af (eG E)) s s.heap := by
  have hA : ∀ a : Nat, a < (eG E).1.heap.size → ¬ Af (eG E) a := fun a h => Nat.not_le.mpr h
  have hs := flat_of_before _ C.2.2.2.1.2.2.2.2
  have h0 : va_Z "java/lang/String" "COMPACT_STRINGS" "Z" (.int 1) (Af (eG E)) (eG E).1 (eG E).1.heap := va_Zof (C.2.2.2.1.2.1 (.laysStatic "java/lang/String" "COMPACT_STRINGS" "Z") (by decide +kernel)) (C.2.2.2.1.2.1 (.initialized "java/lang/String") (by decide +kernel)) (va_eqt (hs (Cond.eq (.static "java/lang/String" "COMPACT_STRINGS" "Z") (.int 1)) (by decide +kernel))) hA
  exact (va_Z.moved C.2.2.2.2.1.alike h0).kept (fun a h _ => C.2.2.2.2.2.2 a h)
theorem p_getsC {idx : Nat} (hd : decode (eC E) pc = .ok (.getstatic idx, 3)) (hl : Cond.fieldLink (eY E).cls idx "java/lang/String" "COMPACT_STRINGS" "Z" ∈ TB) (k : Px E (pc + 3) L (vI 1 :: st) ly D cu su) : Px E pc L st ly D cu su := by
  intro p e R s m args below meth c H locs ls C Rp S LL
  exact va_gets C.1.1 C.1.2.1 (zc_at C) S C.1.2.2.2.1 (C.w hl args) (fun _ h => h) hd (k p e R s m args below meth c H locs ls C Rp S LL)
set_option maxRecDepth 100000 in
theorem zf_at {p : Program} {R : Room} {s : State} {m : MethodId} {meth : Method} {c : Code} (C : Cx E p R s m meth c) : va_Zq "jdk/internal/util/Preconditions" "SIOOBE_FORMATTER" "Ljava/util/function/BiFunction;" (Af (eG E)) s s.heap := by
  have hA : ∀ a : Nat, a < (eG E).1.heap.size → ¬ Af (eG E) a := fun a h => Nat.not_le.mpr h
  have hs := flat_of_before _ C.2.2.2.1.2.2.2.2
  have h0 := vx_Zqof (A := Af (eG E)) (C.2.2.2.1.2.1 (.laysStatic "jdk/internal/util/Preconditions" "SIOOBE_FORMATTER" "Ljava/util/function/BiFunction;") (by decide +kernel)) (C.2.2.2.1.2.1 (.initialized "jdk/internal/util/Preconditions") (by decide +kernel)) (hs (Cond.isRef (.static "jdk/internal/util/Preconditions" "SIOOBE_FORMATTER" "Ljava/util/function/BiFunction;")) (by decide +kernel)) hA
  exact ((vx_Zq.moved C.2.2.2.2.1.alike h0).kept (fun a h _ => C.2.2.2.2.2.2 a h)).1
theorem p_getsF {idx : Nat} (hd : decode (eC E) pc = .ok (.getstatic idx, 3)) (hl : Cond.fieldLink (eY E).cls idx "jdk/internal/util/Preconditions" "SIOOBE_FORMATTER" "Ljava/util/function/BiFunction;" ∈ TB) (k : ∀ v : Value, v.category = 1 → Px E (pc + 3) L (v :: st) ly D cu su) : Px E pc L st ly D cu su := by
  intro p e R s m args below meth c H locs ls C Rp S LL
  rcases zf_at C with h | ⟨t, h⟩
  · exact va_gets C.1.1 C.1.2.1 h S C.1.2.2.2.1 (C.w hl args) (fun _ h => h) hd (k _ rfl p e R s m args below meth c H locs ls C Rp S LL)
  · exact va_gets C.1.1 C.1.2.1 h S C.1.2.2.2.1 (C.w hl args) (fun _ h => h) hd (k _ rfl p e R s m args below meth c H locs ls C Rp S LL)
theorem p_callVs {y : MethodName} {cc : ByteArray} {nL n idx d' i : Nat} {ret : Option FieldType} {P' : PT} (av : List Value) (st : List Value) (hi : i < 22) (hdc : decode (eC E) pc = .ok (.invokevirtual idx, 3)) (yv : YV y cc nL ret n) (hlink : Cond.methodLink (eY E).cls idx y ∈ TB) (hC : y.cls = "java/lang/String") (hd : d' + 1 ≤ (eD E).1) (hn : av.length = n) (hst : (st.map fun v => v.category).sum ≤ 8) (hcu : cu ≤ (eD E).2.1) (hsu : su ≤ (eD E).2.2)
    (hM : Sat (eL E) (eG E) y cc nL ret d' 0 0 (vS (eG E) i :: av) ly D P')
    (kv : ∀ v ly' D', P' (.inl v) ly' D' → Px E (pc + 3) L (v.toList ++ st) ly' D' cu su)
    (kx : ∀ e ly' D', P' (.inr e) ly' D' → PX E pc L st ly' D' cu su (exn e)) : Px E pc L (av.reverse ++ vS (eG E) i :: st) ly D cu su := by
  intro p e R s m args below meth c H locs ls C Rp S LL
  obtain ⟨yw, hin, hsel⟩ := yv
  have pS := pre_S (av := vS (eG E) i :: av) C Rp S
  refine q_run (vx_runV (As := av) (rest := st) (Ts := TB) (C := y.cls) ⟨C.1.1, C.1.2.1, C.1.2.2.1, C.1.2.2.2.1, fun w hw => C.w hw args⟩ hM ⟨callB_mk C yw hlink hd, C.w hin args, C.w hsel args⟩ ⟨pS.1, ?_, pS.2⟩ rfl hn LL.1 rfl ?_ hdc ⟨Nat.le_trans hcu C.2.1.2.2.1, Nat.le_trans hsu C.2.1.2.2.2⟩) C S LL kv kx
  · obtain ⟨cell, h1, h2, h3, -⟩ := (str_at C hi).1.kept S.2.1
    exact ⟨cell, h1, h2, by rw [hC]; exact h3⟩
  · show 2 * 0 + _ ≤ 8
    omega
end Strs
theorem p_treturn {l : Launch} {g : GH} {y : MethodName} {cc : ByteArray} {nL : Nat} {hh : List (Nat × Nat × Nat × Nat)} {d mc ms : Nat} {P : PT} {pc : Nat} {L : List (Option Value)} {ly : LY} {D : DT} {cu su : Nat} {ty : FieldType} {v : Int} (hd : decode cc pc = .ok (.ireturn, 1)) (hcu : cu ≤ mc) (hsu : su ≤ ms) (hn : narrow ty (vI v) = vI v) (hp : P (.inl (some (vI v))) ly D) : Px (mkE l g y cc nL (some ty) hh d mc ms P) pc L [vI v] ly D cu su := by
  intro p e R s m args below meth c H locs ls C Rp S LL
  exact W.widen hcu hsu (vx_ret (W.zret C.1.1 C.1.2.1 C.1.2.2.2.2.1 hn (fun t ht hW => ⟨⟨_, ly, D, rfl, hp, by rw [ht]; exact Rp⟩, S.F ht⟩) S.2.2 hd (hlocks := C.1.2.2.2.2.2.1)))
set_option maxRecDepth 100000 in
theorem fSv : Cond.fieldLink RJ0 9 "java/lang/String" "value" "[B" ∈ TB := TBm (i := 2176) rfl rfl
set_option maxRecDepth 100000 in
theorem fSc : Cond.fieldLink RJ0 15 "java/lang/String" "coder" "B" ∈ TB := TBm (i := 2177) rfl rfl
set_option maxRecDepth 100000 in
theorem fSk : Cond.fieldLink RJ0 38 "java/lang/String" "COMPACT_STRINGS" "Z" ∈ TB := TBm (i := 668) rfl rfl
set_option maxRecDepth 100000 in
theorem fSf : Cond.fieldLink RJ0 1053 "jdk/internal/util/Preconditions" "SIOOBE_FORMATTER" "Ljava/util/function/BiFunction;" ∈ TB := TBm (i := 684) rfl rfl
set_option maxRecDepth 100000 in
theorem s_coder {l : Launch} {g : GH} (hG : G0 l g) {n i : Nat} (hi : i < 22) {D : DT} {K : Int → Prop} (hK : K 0) : Sat l g yJ0_coder_7d493 cJ0_coder_7d493 1 (some .byte) 0 0 0 [vS g i] (LF n) D (PIr n D K) := by
  refine Sat.of hG (by decide) (Nat.le_of_ble_eq_true rfl) (by simp [Value.category]) ?_
  refine p_getsC dJ0_coder_7d493_0 fSk ?_
  refine p_if_eq (tgt := 13) dJ0_coder_7d493_3 (by decide) (by omega) (fun z => absurd z (by omega)) (fun _ => ?_)
  refine p_aload_n dJ0_coder_7d493_6 rfl ?_
  refine p_getSc hi dJ0_coder_7d493_7 fSc ?_
  refine p_goto (tgt := 14) dJ0_coder_7d493_10 (by decide) ?_
  exact p_treturn dJ0_coder_7d493_14 (Nat.le_refl _) (Nat.le_refl _) rfl ⟨_, rfl, rfl, rfl, hK⟩
set_option maxRecDepth 100000 in
theorem s_isLatin1 {l : Launch} {g : GH} (hG : G0 l g) {n i : Nat} (hi : i < 22) {D : DT} {K : Int → Prop} (hK : K 1) : Sat l g yJ0_isLatin1_aae02 cJ0_isLatin1_aae02 1 (some .boolean) 0 0 0 [vS g i] (LF n) D (PIr n D K) := by
  refine Sat.of hG (by decide) (Nat.le_of_ble_eq_true rfl) (by simp [Value.category]) ?_
  refine p_getsC dJ0_isLatin1_aae02_0 fSk ?_
  refine p_if_eq (tgt := 17) dJ0_isLatin1_aae02_3 (by decide) (by omega) (fun z => absurd z (by omega)) (fun _ => ?_)
  refine p_aload_n dJ0_isLatin1_aae02_6 rfl ?_
  refine p_getSc hi dJ0_isLatin1_aae02_7 fSc ?_
  refine p_if_ne (tgt := 17) dJ0_isLatin1_aae02_10 (by decide) (by omega) (fun z => absurd rfl z) (fun _ => ?_)
  refine p_iconst dJ0_isLatin1_aae02_13 ?_
  refine p_goto (tgt := 18) dJ0_isLatin1_aae02_14 (by decide) ?_
  exact p_zreturn dJ0_isLatin1_aae02_18 (Nat.le_refl _) (Nat.le_refl _) (Or.inr rfl) ⟨_, rfl, rfl, rfl, hK⟩
theorem shr0_all : ∀ i, i < 22 → (Int32.ofInt (strL i) >>> (Int32.ofInt 0 &&& 31)).toInt = strL i := by decide +kernel
set_option maxRecDepth 100000 in
theorem s_slen {l : Launch} {g : GH} (hG : G0 l g) {n i : Nat} (hi : i < 22) {D : DT} {K : Int → Prop} (hK : K (strL i)) : Sat l g yJ0_length_8abf5 cJ0_length_8abf5 1 (some .int) 1 0 0 [vS g i] (LF n) D (PIr n D K) := by
  refine Sat.of hG (by decide) (Nat.le_of_ble_eq_true rfl) (by simp [Value.category]) ?_
  refine p_aload_n dJ0_length_8abf5_0 rfl ?_
  refine p_getSv hi dJ0_length_8abf5_1 fSv ?_
  refine p_alenS hi dJ0_length_8abf5_4 ?_
  refine p_aload_n dJ0_length_8abf5_5 rfl ?_
  refine p_callVs (i := i) [] [vI (strL i)] hi dJ0_length_8abf5_6 yv_J0_coder_7d493 ml_J0_335 rfl (Nat.le_of_ble_eq_true rfl) rfl (Nat.le_of_ble_eq_true rfl) (Nat.le_refl _) (Nat.le_refl _) (s_coder (K := fun v => v = 0) hG hi rfl) (fun v ly' D' hp => ?_) (fun e ly' D' hp => by obtain ⟨v', e1, _⟩ := hp; cases e1)
  obtain ⟨v', e1, rfl, rfl, rfl⟩ := hp
  cases e1
  refine p_ishr dJ0_length_8abf5_9 ?_
  rw [shr0_all i hi]
  exact p_ireturn dJ0_length_8abf5_10 (Nat.le_refl _) (Nat.le_refl _) ⟨_, rfl, rfl, rfl, hK⟩
set_option maxRecDepth 100000 in
theorem s_chkP {l : Launch} {g : GH} (hG : G0 l g) {n : Nat} {a b : Int} {w : Value} (hw : w.category = 1) (h : 0 ≤ a ∧ a < b ∧ b ≤ 2147483647) {D : DT} {K : Int → Prop} (hK : K a) : Sat l g yJ3_checkIndex_8e157 cJ3_checkIndex_8e157 3 (some .int) 0 0 0 [vI a, vI b, w] (LF n) D (PIr n D K) := by
  refine Sat.of hG (by decide) (Nat.le_of_ble_eq_true rfl) (by simp [Value.category]; exact hw) ?_
  refine p_iload_n dJ3_checkIndex_8e157_0 rfl ?_
  refine p_if_lt (tgt := 9) dJ3_checkIndex_8e157_1 (by decide) (by omega) (fun z => absurd z (by omega)) (fun _ => ?_)
  refine p_iload_n dJ3_checkIndex_8e157_4 rfl ?_
  refine p_iload_n dJ3_checkIndex_8e157_5 rfl ?_
  refine p_icmp_lt (tgt := 16) dJ3_checkIndex_8e157_6 (by decide) (by omega) (by omega) (fun _ => ?_) (fun z => absurd h.2.1 z)
  refine p_iload_n dJ3_checkIndex_8e157_16 rfl ?_
  exact p_ireturn dJ3_checkIndex_8e157_17 (Nat.le_refl _) (Nat.le_refl _) ⟨_, rfl, rfl, rfl, hK⟩
set_option maxRecDepth 100000 in
theorem s_chk {l : Launch} {g : GH} (hG : G0 l g) {n : Nat} {a b : Int} (h : 0 ≤ a ∧ a < b ∧ b ≤ 2147483647) {D : DT} : Sat l g yJ0_checkIndex_df160 cJ0_checkIndex_df160 2 none 1 0 0 [vI a, vI b] (LF n) D (fun r ly D' => r = .inl none ∧ ly = LF n ∧ D' = D) := by
  refine Sat.of hG (by decide) (Nat.le_of_ble_eq_true rfl) (by simp [Value.category]) ?_
  refine p_iload_n dJ0_checkIndex_df160_0 rfl ?_
  refine p_iload_n dJ0_checkIndex_df160_1 rfl ?_
  refine p_getsF dJ0_checkIndex_df160_2 fSf (fun w hw => ?_)
  refine cS_Ir (X := some a) (f := fun _ => some D) (K := fun D' => D' = D) [vI a, vI b, w] [] dJ0_checkIndex_df160_5 ys_J3_checkIndex_8e157 ml_J0_1059 (Nat.le_of_ble_eq_true rfl) rfl (Nat.le_of_ble_eq_true rfl) (Nat.le_refl _) (Nat.le_refl _) ⟨D, rfl, rfl⟩ (fun K' h' => s_chkP hG hw h (ok_some h')) (fun v _ => ?_)
  refine p_pop dJ0_checkIndex_df160_8 rfl ?_
  exact p_return dJ0_checkIndex_df160_9 (Nat.le_refl _) (Nat.le_refl _) ⟨rfl, rfl, rfl⟩
theorem chr_all : ∀ i, i < 22 → ∀ j, j < (strB i).length → ((Int32.ofInt (Int32.ofInt (strC i j) &&& Int32.ofInt 255).toInt).toUInt32 % 65536).toInt32.toInt = strC i j ∧ narrow .char (vI (strC i j)) = vI (strC i j) := by decide +kernel
set_option maxRecDepth 100000 in
theorem s_char1 {l : Launch} {g : GH} (hG : G0 l g) {n i j : Nat} (hi : i < 22) (hj : j < (strB i).length) {D : DT} {K : Int → Prop} (hK : K (strC i j)) : Sat l g yJ1_charAt_3b067 cJ1_charAt_3b067 2 (some .char) 2 0 0 [.ref (adV g i), vI (j : Int)] (LF n) D (PIr n D K) := by
  have hl := st_len i hi
  refine Sat.of hG (by decide) (Nat.le_of_ble_eq_true rfl) (by simp [Value.category]) ?_
  refine p_iload_n dJ1_charAt_3b067_0 rfl ?_
  refine p_aload_n dJ1_charAt_3b067_1 rfl ?_
  refine p_alenS hi dJ1_charAt_3b067_2 ?_
  refine p_callS (av := [vI (j : Int), vI (strL i)]) (st := []) dJ1_charAt_3b067_3 ys_J0_checkIndex_df160 ml_J1_9 (Nat.le_of_ble_eq_true rfl) rfl (Nat.le_of_ble_eq_true rfl) (Nat.le_refl _) (Nat.le_refl _) (s_chk hG ⟨by omega, by unfold strL; omega, by unfold strL; omega⟩) (fun v ly' D' hp => ?_) (fun e ly' D' hp => by obtain ⟨e1, _⟩ := hp; cases e1)
  obtain ⟨e1, rfl, rfl⟩ := hp
  cases e1
  refine p_aload_n dJ1_charAt_3b067_6 rfl ?_
  refine p_iload_n dJ1_charAt_3b067_7 rfl ?_
  refine p_baldS hi hj dJ1_charAt_3b067_8 ?_
  refine p_sipush dJ1_charAt_3b067_9 (by decide) ?_
  refine p_iand dJ1_charAt_3b067_12 ?_
  refine p_i2c dJ1_charAt_3b067_13 ?_
  rw [(chr_all i hi j hj).1]
  exact p_treturn dJ1_charAt_3b067_14 (Nat.le_refl _) (Nat.le_refl _) (chr_all i hi j hj).2 ⟨_, rfl, rfl, rfl, hK⟩
