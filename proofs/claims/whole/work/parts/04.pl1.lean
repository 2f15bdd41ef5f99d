/-! ===== A plainer machine: ints are Int32.ofInt of integers, the heap is a layout (classes, lengths, references) and data (numbers) ===== -/
abbrev vI (a : Int) : Value := .int (Int32.ofInt a)
abbrev vJ (a : Int) : Value := .long (Int64.ofInt a)
abbrev InR (a : Int) : Prop := -2147483648 ≤ a ∧ a ≤ 2147483647
abbrev InL (a : Int) : Prop := -9223372036854775808 ≤ a ∧ a ≤ 9223372036854775807
theorem i32_to {a : Int} (h : InR a) : (Int32.ofInt a).toInt = a := Int32.toInt_ofInt_of_le (by omega) (by omega)
theorem i64_to {a : Int} (h : InL a) : (Int64.ofInt a).toInt = a := Int64.toInt_ofInt_of_le (by omega) (by omega)
theorem i32_lt {a b : Int} (ha : InR a) (hb : InR b) : Int32.ofInt a < Int32.ofInt b ↔ a < b := by rw [Int32.lt_iff_toInt_lt, i32_to ha, i32_to hb]
theorem i32_le {a b : Int} (ha : InR a) (hb : InR b) : Int32.ofInt a ≤ Int32.ofInt b ↔ a ≤ b := by rw [Int32.le_iff_toInt_le, i32_to ha, i32_to hb]
theorem i32_eq {a b : Int} (ha : InR a) (hb : InR b) : Int32.ofInt a = Int32.ofInt b ↔ a = b := by rw [← Int32.toInt_inj, i32_to ha, i32_to hb]
theorem i64_lt {a b : Int} (ha : InL a) (hb : InL b) : Int64.ofInt a < Int64.ofInt b ↔ a < b := by rw [Int64.lt_iff_toInt_lt, i64_to ha, i64_to hb]
theorem i64_eq {a b : Int} (ha : InL a) (hb : InL b) : Int64.ofInt a = Int64.ofInt b ↔ a = b := by rw [← Int64.toInt_inj, i64_to ha, i64_to hb]
theorem i32_0 : (0 : Int32) = Int32.ofInt 0 := rfl
theorem r0 : InR 0 := by omega
theorem i32_nat {j : Nat} (h : j < 2147483648) : (Int32.ofInt (j : Int)).toNatClampNeg = j := by
  rw [Int32.ofInt_eq_ofNat]
  exact Int32.toNatClampNeg_ofNat_of_lt (by omega)
theorem i32_in {j n : Nat} (h : j < n) (hn : n ≤ 2147483647) : vp_in (Int32.ofInt (j : Int)) n := by
  unfold vp_in
  rw [i32_nat (by omega), i32_0, i32_lt (by omega) r0]
  omega
theorem i32_l {a : Int} (h : InR a) : (Int32.ofInt a).toInt64 = Int64.ofInt a := by
  rw [← Int64.ofInt_toInt (Int32.ofInt a).toInt64, Int32.toInt_toInt64, i32_to h]
theorem i32_div {a b : Int} (h : 0 ≤ a) (ha : a ≤ 2147483647) (hb : 0 < b) (hb2 : b ≤ 2147483647) : Int32.ofInt a / Int32.ofInt b = Int32.ofInt (a / b) := by
  have h1 : a / b ≤ a := Int.ediv_le_self b h
  have h2 : 0 ≤ a / b := Int.ediv_nonneg h (by omega)
  apply Int32.toInt_inj.mp
  rw [Int32.toInt_div, i32_to (by omega), i32_to (by omega), i32_to (by omega), Int.tdiv_eq_ediv_of_nonneg h]
  exact Int.bmod_eq_of_le (by omega) (by omega)
theorem i64_div {a b : Int} (h : 0 ≤ a) (ha : a ≤ 9223372036854775807) (hb : 0 < b) (hb2 : b ≤ 9223372036854775807) : Int64.ofInt a / Int64.ofInt b = Int64.ofInt (a / b) := by
  have h1 : a / b ≤ a := Int.ediv_le_self b h
  have h2 : 0 ≤ a / b := Int.ediv_nonneg h (by omega)
  apply Int64.toInt_inj.mp
  rw [Int64.toInt_div, i64_to (by omega), i64_to (by omega), i64_to (by omega), Int.tdiv_eq_ediv_of_nonneg h]
  exact Int.bmod_eq_of_le (by omega) (by omega)
theorem i32_rem {a b : Int} (h : 0 ≤ a) (ha : a ≤ 2147483647) (hb : 0 < b) (hb2 : b ≤ 2147483647) : Int32.ofInt a - Int32.ofInt a / Int32.ofInt b * Int32.ofInt b = Int32.ofInt (a % b) := by
  rw [i32_div h ha hb hb2, ← Int32.ofInt_mul, ← Int32.ofInt_sub]
  congr 1
  have := Int.emod_def a b
  rw [this, Int.mul_comm]
theorem i64_rem {a b : Int} (h : 0 ≤ a) (ha : a ≤ 9223372036854775807) (hb : 0 < b) (hb2 : b ≤ 9223372036854775807) : Int64.ofInt a - Int64.ofInt a / Int64.ofInt b * Int64.ofInt b = Int64.ofInt (a % b) := by
  rw [i64_div h ha hb hb2, ← Int64.ofInt_mul, ← Int64.ofInt_sub]
  congr 1
  have := Int.emod_def a b
  rw [this, Int.mul_comm]
/-! the locals -/
def LR (ls : Array Slot) (nL : Nat) (L : List (Option Value)) : Prop := ls.size = nL ∧ lv_wf ls ∧ ∀ (i : Nat) (v : Value), L[i]? = some (some v) → ls[i]? = some (.val v)
def toP (L : List (Option Value)) : List (Nat × Value) := (List.range L.length).filterMap (fun i => (L[i]?.getD none).map (fun v => (i, v)))
theorem toP_mem {L : List (Option Value)} {q : Nat × Value} (h : q ∈ toP L) : L[q.1]? = some (some q.2) := by
  obtain ⟨i, hi, hq⟩ := List.mem_filterMap.mp h
  have hl := List.mem_range.mp hi
  rw [List.getElem?_eq_getElem hl] at hq
  cases hx : L[i] with
  | none => rw [hx] at hq; cases hq
  | some v =>
    rw [hx] at hq
    cases hq
    rw [List.getElem?_eq_getElem hl, hx]
theorem mem_toP {L : List (Option Value)} {i : Nat} {v : Value} (h : L[i]? = some (some v)) : (i, v) ∈ toP L := by
  refine List.mem_filterMap.mpr ⟨i, List.mem_range.mpr (List.getElem?_eq_some_iff.mp h).1, ?_⟩
  rw [h]; rfl
theorem LR.has {ls : Array Slot} {nL : Nat} {L : List (Option Value)} (h : LR ls nL L) : lv_has ls nL (toP L) := ⟨h.1, h.2.1, fun q hq => h.2.2 q.1 q.2 (toP_mem hq)⟩
def okS (L : List (Option Value)) : Nat → Bool
  | 0 => true
  | k + 1 => match L[k]? with
    | some (some w) => !(w.category == 2)
    | _ => true
theorem LR.store1 {ls : Array Slot} {nL i : Nat} {v : Value} {L : List (Option Value)} (hok : okS L i = true) (h : lv_has ls nL ((i, v) :: (toP L).filter (fun q => !(q.1 == i) && !(q.1 + 1 == i && q.2.category == 2)))) : LR ls nL (L.set i (some v)) := by
  refine ⟨h.1, h.2.1, fun j w hj => ?_⟩
  rw [List.getElem?_set] at hj
  by_cases e : i = j
  · rw [if_pos e] at hj
    split at hj
    · cases hj
      have := h.2.2 (i, v) List.mem_cons_self
      rw [← e]; exact this
    · cases hj
  · rw [if_neg e] at hj
    refine h.2.2 (j, w) (List.mem_cons_of_mem _ (List.mem_filter.mpr ⟨mem_toP hj, ?_⟩))
    simp only [Bool.and_eq_true, Bool.not_eq_true', beq_eq_false_iff_ne, Bool.and_eq_false_iff]
    refine ⟨fun z => e z.symm, ?_⟩
    by_cases e2 : j + 1 = i
    · right
      subst e2
      simp only [okS, hj] at hok
      simpa using hok
    · exact Or.inl e2
theorem LR.store2 {ls : Array Slot} {nL i : Nat} {v : Value} {L : List (Option Value)} (hok : okS L i = true) (h : lv_has ls nL ((i, v) :: (toP L).filter (fun q => !(q.1 == i) && (!(q.1 == i + 1) && !(q.1 + 1 == i && q.2.category == 2))))) : LR ls nL ((L.set i (some v)).set (i + 1) none) := by
  refine ⟨h.1, h.2.1, fun j w hj => ?_⟩
  rw [List.getElem?_set] at hj
  by_cases e1 : i + 1 = j
  · rw [if_pos e1] at hj
    split at hj <;> cases hj
  · rw [if_neg e1, List.getElem?_set] at hj
    by_cases e : i = j
    · rw [if_pos e] at hj
      split at hj
      · cases hj
        have := h.2.2 (i, v) List.mem_cons_self
        rw [← e]; exact this
      · cases hj
    · rw [if_neg e] at hj
      refine h.2.2 (j, w) (List.mem_cons_of_mem _ (List.mem_filter.mpr ⟨mem_toP hj, ?_⟩))
      simp only [Bool.and_eq_true, Bool.not_eq_true', beq_eq_false_iff_ne, Bool.and_eq_false_iff]
      refine ⟨fun z => e z.symm, fun z => e1 z.symm, ?_⟩
      by_cases e2 : j + 1 = i
      · right
        subst e2
        simp only [okS, hj] at hok
        simpa using hok
      · exact Or.inl e2
/-- fewer locals known -/
def leL : List (Option Value) → List (Option Value) → Prop := fun L' L => ∀ (i : Nat) (v : Value), L'[i]? = some (some v) → L[i]? = some (some v)
theorem LR.weak {ls : Array Slot} {nL : Nat} {L L' : List (Option Value)} (h : LR ls nL L) (hl : leL L' L) : LR ls nL L' := ⟨h.1, h.2.1, fun i v q => h.2.2 i v (hl i v q)⟩
theorem leL.nil {L : List (Option Value)} : leL [] L := fun i v h => by simp at h
theorem leL.same {L' L : List (Option Value)} {x : Option Value} (h : leL L' L) : leL (x :: L') (x :: L) := fun i v q => by
  cases i with
  | zero => exact q
  | succ i => exact h i v q
theorem leL.drop {L' L : List (Option Value)} {x : Option Value} (h : leL L' L) : leL (none :: L') (x :: L) := fun i v q => by
  cases i with
  | zero => cases q
  | succ i => exact h i v q
def argL (av : List Value) (n : Nat) : List (Option Value) := av.map some ++ List.replicate (n - av.length) none
theorem LR.entry {av : List Value} {n : Nat} (hn : av.length ≤ n) (hc : ∀ v ∈ av, v.category = 1) : LR ((av.map Slot.val ++ List.replicate (n - av.length) Slot.unset).toArray) n (argL av n) := by
  have key : ∀ (i : Nat) (x : Slot), (av.map Slot.val ++ List.replicate (n - av.length) Slot.unset).toArray[i]? = some x → (∃ v, x = .val v ∧ v ∈ av) ∨ x = .unset := by
    intro i x hx
    rw [List.getElem?_toArray] at hx
    have := List.mem_of_getElem? hx
    rcases List.mem_append.mp this with h | h
    · obtain ⟨v, hv, rfl⟩ := List.mem_map.mp h
      exact Or.inl ⟨v, rfl, hv⟩
    · exact Or.inr (List.eq_of_mem_replicate h)
  refine ⟨by simp; omega, ⟨fun i v h hv => ?_, fun i h => ?_⟩, fun i v h => ?_⟩
  · rcases key i _ h with ⟨w, e, hw⟩ | e
    · cases e
      rw [hc v hw] at hv; cases hv
    · cases e
  · rcases key i _ h with ⟨w, e, hw⟩ | e
    · cases e
    · cases e
  · rw [List.getElem?_toArray]
    unfold argL at h
    by_cases hi : i < av.length
    · rw [List.getElem?_append_left (by simpa using hi)] at h ⊢
      rw [List.getElem?_map] at h ⊢
      rw [List.getElem?_eq_getElem hi] at h ⊢
      cases h; rfl
    · rw [List.getElem?_append_right (by simpa using hi)] at h
      have := List.mem_of_getElem? h
      have := List.eq_of_mem_replicate this
      cases this
/-! the heap -/
abbrev LY : Type := (Nat → Option (Nat ⊕ (Nat × Nat))) × (Nat → Nat → Option Nat) × Nat
abbrev DT : Type := (Nat → Nat → Int) × (Nat → Nat → Int)
abbrev GH : Type := State × (Nat → ClassId) × (Nat → Nat → Nat) × (Nat → ClassId) × Nat × Nat × (Nat → Int32)
def aty : Nat → FieldType
  | 0 => .int
  | 1 => .byte
  | 2 => .boolean
  | _ => .long
def tyOf (c : Nat) : Nat → FieldType := match c with
  | 0 => tyX0
  | 1 => tyX1
  | 2 => tyX2
  | 3 => tyX3
  | 4 => tyX4
  | 5 => tyX5
  | 6 => tyX6
  | 7 => tyX7
  | 8 => tyX8
  | 9 => tyX9
  | 10 => tyX10
  | _ => tyX11
abbrev vR (g : GH) (a : Nat) : Value := .ref (g.1.heap.size + a)
def fval (B : Nat) (ty : FieldType) (i : Int) (r : Option Nat) : Value := match ty with
  | .long => vJ i
  | .object _ => va_rf (r.map (B + ·))
  | .array _ => va_rf (r.map (B + ·))
  | _ => vI i
def acell (ca : ClassId) (ty n : Nat) (f : Nat → Int) : Cell := match ty with
  | 0 => arrV ca n (fun j => vI (f j))
  | 1 => arrV ca n (fun j => vI (f j))
  | 2 => arrV ca n (fun j => vI (f j))
  | _ => arrV ca n (fun j => vJ (f j))
def sF (D : DT) (a k : Nat) (v : Int) : DT := (fun a' k' => if a' = a ∧ k' = k then v else D.1 a' k', D.2)
def sA (D : DT) (a k : Nat) (v : Int) : DT := (D.1, fun a' k' => if a' = a ∧ k' = k then v else D.2 a' k')
def Af (g : GH) : Nat → Prop := fun q => g.1.heap.size ≤ q
def Rep (g : GH) (ly : LY) (D : DT) (H : Heap) : Prop :=
  (∀ a ci, ly.1 a = some (.inl ci) → ∃ r, vwCl[ci]? = some r ∧ t_OB (g.1.heap.size + a) (g.2.1 ci) r.2.2 (g.2.2.1 ci) H (fun k => fval g.1.heap.size (tyOf ci k) (D.1 a k) (ly.2.1 a k))) ∧
  (∀ a ty n, ly.1 a = some (.inr (ty, n)) → n ≤ 2147483647 ∧ H[g.1.heap.size + a]? = some (acell (g.2.2.2.1 ty) ty n (D.2 a))) ∧ H.size = g.1.heap.size + ly.2.2
def Old (g : GH) (H : Heap) : Prop := g.1.heap.size ≤ H.size ∧ ∀ q, q < g.1.heap.size → H[q]? = g.1.heap[q]?
def TB : List Cond := lw_tbl.filter goodWord
theorem TBm {i : Nat} {w : Cond} (h : lw_tbl[i]? = some w) (hg : goodWord w = true) : w ∈ TB := List.mem_filter.mpr ⟨List.mem_of_getElem? h, hg⟩
def tysL (g : GH) : List (ClassId × FieldType) := [(g.2.2.2.1 0, .int), (g.2.2.2.1 1, .byte), (g.2.2.2.1 2, .boolean), (g.2.2.2.1 3, .long)]
/-- what holds of the start of the law -/
def G0 (l : Launch) (g : GH) : Prop :=
  l.stackTraces = false ∧ (∀ w ∈ lw_tbl, w.before #[Value.ref g.2.2.2.2.1] g.1 = true) ∧ va_K (g.2.1, g.2.2.1) vwCl (tysL g) g.1 ∧ va_X g.2.2.2.2.1 g.2.2.2.2.2.1 g.2.2.2.2.2.2 g.1 g.1.heap ∧ (Jvm.Cond.and given_1 narrow_1).before #[Value.ref g.2.2.2.2.1] g.1 = true
theorem word_of {l : Launch} {g : GH} (h : G0 l g) {s : State} (hW : g.1.WarmedH s.vm) {w : Cond} (hw : w ∈ TB) (args : Array Value) : w.before args s = true := by
  obtain ⟨h1, h2⟩ := List.mem_filter.mp hw
  exact word_at hW (good_of_word h2) (h.2.1 w h1)
/-! a frame: launch, ghosts, method, code, locals, return type, handlers, (depth, cells, slots), end -/
abbrev ENV : Type := Launch × GH × MethodName × ByteArray × Nat × Option FieldType × Option (List (Nat × Nat × Nat × Nat)) × (Nat × Nat × Nat) × (List Frame → Array Value → State → State → Prop)
abbrev eL (E : ENV) := E.1
abbrev eG (E : ENV) := E.2.1
abbrev eY (E : ENV) := E.2.2.1
abbrev eC (E : ENV) := E.2.2.2.1
abbrev eN (E : ENV) := E.2.2.2.2.1
abbrev eR (E : ENV) := E.2.2.2.2.2.1
abbrev eT (E : ENV) := E.2.2.2.2.2.2.1
abbrev eD (E : ENV) := E.2.2.2.2.2.2.2.1
abbrev eZ (E : ENV) := E.2.2.2.2.2.2.2.2
def Cx (E : ENV) (p : Program) (R : Room) (s : State) (m : MethodId) (meth : Method) (c : Code) : Prop :=
  (p.tables.exec = Jvm.exec ∧ c.code = eC E ∧ c.maxLocals = eN E ∧ s.vm.findClass (eY E).cls = some m.cls ∧ meth.sig.returnType = eR E ∧ meth.locks = false ∧ ((eY E).name = "<init>" → meth.name = "<init>")) ∧
  ((eD E).1 ≤ R.frames ∧ 64 * (eD E).1 ≤ R.locals ∧ (eD E).2.1 ≤ R.cells ∧ (eD E).2.2 ≤ R.slots) ∧
  (∀ hh, eT E = some hh → c.exceptionTable.toList = tableOf hh) ∧ G0 (eL E) (eG E) ∧ (eG E).1.WarmedH s.vm ∧ Old (eG E) s.heap
def Px (E : ENV) (pc : Nat) (L : List (Option Value)) (st : List Value) (ly : LY) (D : DT) (cu su : Nat) : Prop :=
  ∀ p e R s m args below meth c H locs ls, Cx E p R s m meth c → Rep (eG E) ly D H → va_S (Af (eG E)) s.heap H locs → LR ls (eN E) L →
    W p (eL E) e R s m args below meth c H locs cu su (eZ E below args s) (F0 m pc ls st)
/-- with an exception of the class En thrown over the frame -/
def PX (E : ENV) (pc : Nat) (L : List (Option Value)) (st : List Value) (ly : LY) (D : DT) (cu su : Nat) (En : String) : Prop :=
  ∀ p e R s m args below meth c H locs ls q ce, Cx E p R s m meth c → Rep (eG E) ly D H → va_S (Af (eG E)) s.heap H locs → LR ls (eN E) L →
    H[q]? = some ce → ce.vm = .none → s.vm.findClass En = some ce.cls → vx_W p (eL E) e R s m args below meth c H locs cu su (eZ E below args s) (F0 m pc ls st) q
theorem Cx.old {E : ENV} {p : Program} {R : Room} {s : State} {m : MethodId} {meth : Method} {c : Code} {H : Heap} {locs : List Loc} (C : Cx E p R s m meth c) (S : va_S (Af (eG E)) s.heap H locs) : Old (eG E) H := by
  obtain ⟨-, -, -, -, -, h1, h2⟩ := C
  refine ⟨Nat.le_trans h1 S.1, fun q hq => ?_⟩
  rw [S.2.1 q (Nat.lt_of_lt_of_le hq h1) (fun z => absurd hq (Nat.not_lt.mpr z))]
  exact h2 q hq
theorem Cx.w {E : ENV} {p : Program} {R : Room} {s : State} {m : MethodId} {meth : Method} {c : Code} (C : Cx E p R s m meth c) {w : Cond} (hw : w ∈ TB) (args : Array Value) : w.before args s = true := word_of C.2.2.2.1 C.2.2.2.2.1 hw args
theorem Cx.K {E : ENV} {p : Program} {R : Room} {s : State} {m : MethodId} {meth : Method} {c : Code} (C : Cx E p R s m meth c) : va_K ((eG E).2.1, (eG E).2.2.1) vwCl (tysL (eG E)) s := va_K.moved C.2.2.2.2.1.alike C.2.2.2.1.2.2.1
