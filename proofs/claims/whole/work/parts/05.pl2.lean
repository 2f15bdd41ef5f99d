/-! ===== the rules of the plain machine ===== -/
def cmpI (a b : Int) : Int := if b < a then 1 else if a = b then 0 else -1
theorem cmpI_eq {a b : Int} (ha : InL a) (hb : InL b) : lg_cmp (Int64.ofInt a) (Int64.ofInt b) = Int32.ofInt (cmpI a b) := by
  have h1 := i64_lt hb ha
  have h2 := i64_eq ha hb
  by_cases c1 : b < a
  · simp [lg_cmp, cmpI, h1, c1]
  · by_cases c2 : a = b
    · have : ¬ Int64.ofInt b < Int64.ofInt a := fun z => c1 (h1.mp z)
      simp [lg_cmp, cmpI, c1, c2]
    · have e1 : ¬ Int64.ofInt a > Int64.ofInt b := fun z => c1 (h1.mp z)
      have e2 : ¬ Int64.ofInt a = Int64.ofInt b := fun z => c2 (h2.mp z)
      rw [lg_cmp, if_neg e1, if_neg e2, cmpI, if_neg c1, if_neg c2]; rfl
theorem nar_b {x : Int} (h : -128 ≤ x ∧ x ≤ 127) : narrow .byte (vI x) = vI x := by
  have e : (Int32.ofInt x).toInt8.toInt32 = Int32.ofInt x := by
    apply Int32.toInt_inj.mp
    rw [Int8.toInt_toInt32, Int32.toInt_toInt8, i32_to (by omega)]
    exact Int.bmod_eq_of_le (by omega) (by omega)
  show narrow .byte (.int (Int32.ofInt x)) = .int (Int32.ofInt x)
  rw [← e]; exact pk_nb _
theorem fit_b {x : Int} (h : -128 ≤ x ∧ x ≤ 127) : fits .byte (vI x) = true := by
  have e : (Int32.ofInt x).toInt8.toInt32 = Int32.ofInt x := by
    apply Int32.toInt_inj.mp
    rw [Int8.toInt_toInt32, Int32.toInt_toInt8, i32_to (by omega)]
    exact Int.bmod_eq_of_le (by omega) (by omega)
  show fits .byte (.int (Int32.ofInt x)) = true
  rw [← e]; exact pk_fb _
theorem nar_z {x : Int} (h : x = 0 ∨ x = 1) : narrow .boolean (vI x) = vI x := by
  rcases h with rfl | rfl <;> rfl
theorem fit_z {x : Int} (h : x = 0 ∨ x = 1) : fits .boolean (vI x) = true := by
  rcases h with rfl | rfl <;> decide
def CK (ci : Nat) (C : String) (T : u_T) (N : Nat) : Prop := vwCl[ci]? = some (C, T, N) ∧ (∀ w ∈ u_ws C T N, w ∈ TB) ∧ (∀ k, k < N → parseFieldDescriptor (T k).2.2.1 = some (tyOf ci k)) ∧ (∀ a, a < N → ∀ b, b < N → a ≠ b → (T a).2.1 ≠ (T b).2.1)
def FLk (own : String) (idx ci k : Nat) : Prop := ∃ C T N, CK ci C T N ∧ k < N ∧ Cond.fieldLink own idx (T k).1 (T k).2.1 (T k).2.2.1 ∈ TB
def FLw (own : String) (idx ci k : Nat) : Prop := ∃ C T N, CK ci C T N ∧ k < N ∧ Cond.fieldLink own idx (T k).1 (T k).2.1 (T k).2.2.1 ∈ TB ∧ (T k).2.2.2 = false
def FLf (own : String) (idx ci k : Nat) : Prop := ∃ C T N, CK ci C T N ∧ k < N ∧ Cond.fieldLink own idx (T k).1 (T k).2.1 (T k).2.2.1 ∈ TB ∧ (T k).2.2.2 = true ∧ (T k).1 = own
def sR (ly : LY) (a k : Nat) (q : Nat) : LY := (ly.1, fun a' k' => if a' = a ∧ k' = k then some q else ly.2.1 a' k', ly.2.2)
def sN (ly : LY) (x : Nat ⊕ (Nat × Nat)) : LY := (fun a => if a = ly.2.2 then some x else ly.1 a, fun a k => if a = ly.2.2 then none else ly.2.1 a k, ly.2.2 + 1)
def sZ (D : DT) (a : Nat) : DT := (fun a' k' => if a' = a then 0 else D.1 a' k', fun a' k' => if a' = a then 0 else D.2 a' k')
section PRules
variable {E : ENV} {pc : Nat} {L : List (Option Value)} {st : List Value} {ly : LY} {D : DT} {cu su : Nat}
theorem p_iconst {n : Int} (hd : decode (eC E) pc = .ok (.iconst n, 1)) (k : Px E (pc + 1) L (vI n :: st) ly D cu su) : Px E pc L st ly D cu su := by
  intro p e R s m args below meth c H locs ls C Rp S LL
  exact lv_iconst C.1.1 C.1.2.1 hd rfl (k p e R s m args below meth c H locs ls C Rp S LL)
theorem p_bipush {n : Int} (hd : decode (eC E) pc = .ok (.bipush n, 2)) (hn : (Int8.ofInt n).toInt32 = Int32.ofInt n) (k : Px E (pc + 2) L (vI n :: st) ly D cu su) : Px E pc L st ly D cu su := by
  intro p e R s m args below meth c H locs ls C Rp S LL
  exact lv_bipush C.1.1 C.1.2.1 hd hn (k p e R s m args below meth c H locs ls C Rp S LL)
theorem p_sipush {n : Int} (hd : decode (eC E) pc = .ok (.sipush n, 3)) (hn : (Int16.ofInt n).toInt32 = Int32.ofInt n) (k : Px E (pc + 3) L (vI n :: st) ly D cu su) : Px E pc L st ly D cu su := by
  intro p e R s m args below meth c H locs ls C Rp S LL
  exact lv_sipush C.1.1 C.1.2.1 hd hn (k p e R s m args below meth c H locs ls C Rp S LL)
theorem p_lconst {n : Fin 2} (v : Int) (hd : decode (eC E) pc = .ok (.lconst n, 1)) (hn : Int64.ofNat (n : Nat) = Int64.ofInt v) (k : Px E (pc + 1) L (vJ v :: st) ly D cu su) : Px E pc L st ly D cu su := by
  intro p e R s m args below meth c H locs ls C Rp S LL
  exact lv_lconst C.1.1 C.1.2.1 hd hn (k p e R s m args below meth c H locs ls C Rp S LL)
theorem p_ldc {idx : Nat} {v : Int} (hd : decode (eC E) pc = .ok (.ldc idx, 2)) (hw : Cond.constant (eY E).cls idx (Int32.ofInt v) ∈ TB) (k : Px E (pc + 2) L (vI v :: st) ly D cu su) : Px E pc L st ly D cu su := by
  intro p e R s m args below meth c H locs ls C Rp S LL
  exact lv_ldc C.1.1 C.1.2.1 C.1.2.2.2.1 (C.w hw args) hd (k p e R s m args below meth c H locs ls C Rp S LL)
theorem p_ldcw {idx : Nat} {v : Int} (hd : decode (eC E) pc = .ok (.ldc_w idx, 3)) (hw : Cond.constant (eY E).cls idx (Int32.ofInt v) ∈ TB) (k : Px E (pc + 3) L (vI v :: st) ly D cu su) : Px E pc L st ly D cu su := by
  intro p e R s m args below meth c H locs ls C Rp S LL
  exact lv_ldcw C.1.1 C.1.2.1 C.1.2.2.2.1 (C.w hw args) hd (k p e R s m args below meth c H locs ls C Rp S LL)
theorem p_ldc2 {idx : Nat} {v : Int} (hd : decode (eC E) pc = .ok (.ldc2_w idx, 3)) (hw : Cond.constantLong (eY E).cls idx (Int64.ofInt v) ∈ TB) (k : Px E (pc + 3) L (vJ v :: st) ly D cu su) : Px E pc L st ly D cu su := by
  intro p e R s m args below meth c H locs ls C Rp S LL
  exact lv_ldc2 C.1.1 C.1.2.1 C.1.2.2.2.1 (C.w hw args) hd (k p e R s m args below meth c H locs ls C Rp S LL)
theorem p_iload {i : Nat} {v : Int} (hd : decode (eC E) pc = .ok (.iload i, 2)) (hl : L[i]? = some (some (vI v))) (k : Px E (pc + 2) L (vI v :: st) ly D cu su) : Px E pc L st ly D cu su := by
  intro p e R s m args below meth c H locs ls C Rp S LL
  exact lv_iload C.1.1 C.1.2.1 hd (LL.2.2 _ _ hl) (k p e R s m args below meth c H locs ls C Rp S LL)
theorem p_iload_n {i : Fin 4} {v : Int} (hd : decode (eC E) pc = .ok (.iload_n i, 1)) (hl : L[(i : Nat)]? = some (some (vI v))) (k : Px E (pc + 1) L (vI v :: st) ly D cu su) : Px E pc L st ly D cu su := by
  intro p e R s m args below meth c H locs ls C Rp S LL
  exact lv_iload_n C.1.1 C.1.2.1 hd rfl (LL.2.2 _ _ hl) (k p e R s m args below meth c H locs ls C Rp S LL)
theorem p_istore {i : Nat} {v : Int} (hd : decode (eC E) pc = .ok (.istore i, 2)) (hn : i < eN E) (hok : okS L i = true) (k : Px E (pc + 2) (L.set i (some (vI v))) st ly D cu su) : Px E pc L (vI v :: st) ly D cu su := by
  intro p e R s m args below meth c H locs ls C Rp S LL
  exact lv_istore C.1.1 C.1.2.1 hd LL.has hn rfl (fun ls hl => k p e R s m args below meth c H locs ls C Rp S (LR.store1 hok hl))
theorem p_istore_n {i : Fin 4} {v : Int} (hd : decode (eC E) pc = .ok (.istore_n i, 1)) (hn : (i : Nat) < eN E) (hok : okS L (i : Nat) = true) (k : Px E (pc + 1) (L.set (i : Nat) (some (vI v))) st ly D cu su) : Px E pc L (vI v :: st) ly D cu su := by
  intro p e R s m args below meth c H locs ls C Rp S LL
  exact lv_istore_n C.1.1 C.1.2.1 hd rfl LL.has hn rfl (fun ls hl => k p e R s m args below meth c H locs ls C Rp S (LR.store1 hok hl))
theorem p_lload {i : Nat} {v : Int} (hd : decode (eC E) pc = .ok (.lload i, 2)) (hl : L[i]? = some (some (vJ v))) (k : Px E (pc + 2) L (vJ v :: st) ly D cu su) : Px E pc L st ly D cu su := by
  intro p e R s m args below meth c H locs ls C Rp S LL
  exact lv_lload C.1.1 C.1.2.1 hd (LL.2.2 _ _ hl) (k p e R s m args below meth c H locs ls C Rp S LL)
theorem p_lload_n {i : Fin 4} {v : Int} (hd : decode (eC E) pc = .ok (.lload_n i, 1)) (hl : L[(i : Nat)]? = some (some (vJ v))) (k : Px E (pc + 1) L (vJ v :: st) ly D cu su) : Px E pc L st ly D cu su := by
  intro p e R s m args below meth c H locs ls C Rp S LL
  exact lv_lload_n C.1.1 C.1.2.1 hd rfl (LL.2.2 _ _ hl) (k p e R s m args below meth c H locs ls C Rp S LL)
theorem p_lstore {i : Nat} {v : Int} (hd : decode (eC E) pc = .ok (.lstore i, 2)) (hn : i + 1 < eN E) (hok : okS L i = true) (k : Px E (pc + 2) ((L.set i (some (vJ v))).set (i + 1) none) st ly D cu su) : Px E pc L (vJ v :: st) ly D cu su := by
  intro p e R s m args below meth c H locs ls C Rp S LL
  exact lv_lstore C.1.1 C.1.2.1 hd LL.has hn rfl (fun ls hl => k p e R s m args below meth c H locs ls C Rp S (LR.store2 hok hl))
theorem p_lstore_n {i : Fin 4} {v : Int} (hd : decode (eC E) pc = .ok (.lstore_n i, 1)) (hn : (i : Nat) + 1 < eN E) (hok : okS L (i : Nat) = true) (k : Px E (pc + 1) ((L.set (i : Nat) (some (vJ v))).set ((i : Nat) + 1) none) st ly D cu su) : Px E pc L (vJ v :: st) ly D cu su := by
  intro p e R s m args below meth c H locs ls C Rp S LL
  exact lv_lstore_n C.1.1 C.1.2.1 hd rfl LL.has hn rfl (fun ls hl => k p e R s m args below meth c H locs ls C Rp S (LR.store2 hok hl))
theorem p_aload {i : Nat} {v : Nat} (hd : decode (eC E) pc = .ok (.aload i, 2)) (hl : L[i]? = some (some (.ref v))) (k : Px E (pc + 2) L (.ref v :: st) ly D cu su) : Px E pc L st ly D cu su := by
  intro p e R s m args below meth c H locs ls C Rp S LL
  exact lv_aload C.1.1 C.1.2.1 hd (LL.2.2 _ _ hl) (k p e R s m args below meth c H locs ls C Rp S LL)
theorem p_aload_n {i : Fin 4} {v : Nat} (hd : decode (eC E) pc = .ok (.aload_n i, 1)) (hl : L[(i : Nat)]? = some (some (.ref v))) (k : Px E (pc + 1) L (.ref v :: st) ly D cu su) : Px E pc L st ly D cu su := by
  intro p e R s m args below meth c H locs ls C Rp S LL
  exact lv_aload_n C.1.1 C.1.2.1 hd rfl (LL.2.2 _ _ hl) (k p e R s m args below meth c H locs ls C Rp S LL)
theorem p_astore {i : Nat} {v : Nat} (hd : decode (eC E) pc = .ok (.astore i, 2)) (hn : i < eN E) (hok : okS L i = true) (k : Px E (pc + 2) (L.set i (some (.ref v))) st ly D cu su) : Px E pc L (.ref v :: st) ly D cu su := by
  intro p e R s m args below meth c H locs ls C Rp S LL
  exact lv_astore C.1.1 C.1.2.1 hd LL.has hn rfl (fun ls hl => k p e R s m args below meth c H locs ls C Rp S (LR.store1 hok hl))
theorem p_astore_n {i : Fin 4} {v : Nat} (hd : decode (eC E) pc = .ok (.astore_n i, 1)) (hn : (i : Nat) < eN E) (hok : okS L (i : Nat) = true) (k : Px E (pc + 1) (L.set (i : Nat) (some (.ref v))) st ly D cu su) : Px E pc L (.ref v :: st) ly D cu su := by
  intro p e R s m args below meth c H locs ls C Rp S LL
  exact lv_astore_n C.1.1 C.1.2.1 hd rfl LL.has hn rfl (fun ls hl => k p e R s m args below meth c H locs ls C Rp S (LR.store1 hok hl))
theorem p_iinc {i : Nat} {n v : Int} (hd : decode (eC E) pc = .ok (.iinc i n, 3)) (hl : L[i]? = some (some (vI v))) (hn : i < eN E) (hok : okS L i = true) (k : Px E (pc + 3) (L.set i (some (vI (v + n)))) st ly D cu su) : Px E pc L st ly D cu su := by
  intro p e R s m args below meth c H locs ls C Rp S LL
  have h2 : lv_has ls (eN E) ((i, vI v) :: toP L) := ⟨LL.has.1, LL.has.2.1, fun q hq => by
    rcases List.mem_cons.mp hq with rfl | hq
    · exact LL.2.2 _ _ hl
    · exact LL.has.2.2 q hq⟩
  refine lv_iinc (v := Int32.ofInt (v + n)) C.1.1 C.1.2.1 hd h2 (k := 0) rfl (Int32.ofInt_add v n).symm hn rfl (fun ls hl => k p e R s m args below meth c H locs ls C Rp S (LR.store1 hok ⟨hl.1, hl.2.1, fun q hq => hl.2.2 q ?_⟩))
  rcases List.mem_cons.mp hq with rfl | hq
  · exact List.mem_cons_self
  · exact List.mem_cons_of_mem _ (List.mem_filter.mpr ⟨List.mem_cons_of_mem _ (List.mem_filter.mp hq).1, (List.mem_filter.mp hq).2⟩)
theorem p_weak {L' : List (Option Value)} (h : leL L' L) (k : Px E pc L' st ly D cu su) : Px E pc L st ly D cu su := by
  intro p e R s m args below meth c H locs ls C Rp S LL
  exact k p e R s m args below meth c H locs ls C Rp S (LL.weak h)
theorem p_iadd {a b : Int} (hd : decode (eC E) pc = .ok (.iadd, 1)) (k : Px E (pc + 1) L (vI (a + b) :: st) ly D cu su) : Px E pc L (vI b :: vI a :: st) ly D cu su := by
  intro p e R s m args below meth c H locs ls C Rp S LL
  have k1 := (k p e R s m args below meth c H locs ls C Rp S LL)
  have e1 : vI (a + b) = .int (Int32.ofInt a + Int32.ofInt b) := congrArg _ (Int32.ofInt_add a b)
  rw [e1] at k1
  exact lv_iadd C.1.1 C.1.2.1 hd k1
theorem p_isub {a b : Int} (hd : decode (eC E) pc = .ok (.isub, 1)) (k : Px E (pc + 1) L (vI (a - b) :: st) ly D cu su) : Px E pc L (vI b :: vI a :: st) ly D cu su := by
  intro p e R s m args below meth c H locs ls C Rp S LL
  have k1 := (k p e R s m args below meth c H locs ls C Rp S LL)
  have e1 : vI (a - b) = .int (Int32.ofInt a - Int32.ofInt b) := congrArg _ (Int32.ofInt_sub a b)
  rw [e1] at k1
  exact lv_isub C.1.1 C.1.2.1 hd k1
theorem p_imul {a b : Int} (hd : decode (eC E) pc = .ok (.imul, 1)) (k : Px E (pc + 1) L (vI (a * b) :: st) ly D cu su) : Px E pc L (vI b :: vI a :: st) ly D cu su := by
  intro p e R s m args below meth c H locs ls C Rp S LL
  have k1 := (k p e R s m args below meth c H locs ls C Rp S LL)
  have e1 : vI (a * b) = .int (Int32.ofInt a * Int32.ofInt b) := congrArg _ (Int32.ofInt_mul a b)
  rw [e1] at k1
  exact lv_imul C.1.1 C.1.2.1 hd k1
theorem p_idiv {a b : Int} (hd : decode (eC E) pc = .ok (.idiv, 1)) (h : 0 ≤ a ∧ a ≤ 2147483647 ∧ 0 < b ∧ b ≤ 2147483647) (k : Px E (pc + 1) L (vI (a / b) :: st) ly D cu su) : Px E pc L (vI b :: vI a :: st) ly D cu su := by
  intro p e R s m args below meth c H locs ls C Rp S LL
  have k1 := (k p e R s m args below meth c H locs ls C Rp S LL)
  have e1 : vI (a / b) = .int (Int32.ofInt a / Int32.ofInt b) := congrArg _ (i32_div h.1 h.2.1 h.2.2.1 h.2.2.2).symm
  rw [e1] at k1
  have h0 : ¬ Int32.ofInt b = 0 := fun z => by
    have z2 : Int32.ofInt b = Int32.ofInt 0 := z
    rw [i32_eq (by omega) (by omega)] at z2
    omega
  exact lv_idiv C.1.1 C.1.2.1 hd h0 k1
theorem p_irem {a b : Int} (hd : decode (eC E) pc = .ok (.irem, 1)) (h : 0 ≤ a ∧ a ≤ 2147483647 ∧ 0 < b ∧ b ≤ 2147483647) (k : Px E (pc + 1) L (vI (a % b) :: st) ly D cu su) : Px E pc L (vI b :: vI a :: st) ly D cu su := by
  intro p e R s m args below meth c H locs ls C Rp S LL
  have k1 := (k p e R s m args below meth c H locs ls C Rp S LL)
  have e1 : vI (a % b) = .int (Int32.ofInt a - Int32.ofInt a / Int32.ofInt b * Int32.ofInt b) := congrArg _ (i32_rem h.1 h.2.1 h.2.2.1 h.2.2.2).symm
  rw [e1] at k1
  have h0 : ¬ Int32.ofInt b = 0 := fun z => by
    have z2 : Int32.ofInt b = Int32.ofInt 0 := z
    rw [i32_eq (by omega) (by omega)] at z2
    omega
  exact lv_irem C.1.1 C.1.2.1 hd h0 k1
theorem p_ladd {a b : Int} (hd : decode (eC E) pc = .ok (.ladd, 1)) (k : Px E (pc + 1) L (vJ (a + b) :: st) ly D cu su) : Px E pc L (vJ b :: vJ a :: st) ly D cu su := by
  intro p e R s m args below meth c H locs ls C Rp S LL
  have k1 := (k p e R s m args below meth c H locs ls C Rp S LL)
  have e1 : vJ (a + b) = .long (Int64.ofInt a + Int64.ofInt b) := congrArg _ (Int64.ofInt_add a b)
  rw [e1] at k1
  exact lv_ladd C.1.1 C.1.2.1 hd k1
theorem p_lsub {a b : Int} (hd : decode (eC E) pc = .ok (.lsub, 1)) (k : Px E (pc + 1) L (vJ (a - b) :: st) ly D cu su) : Px E pc L (vJ b :: vJ a :: st) ly D cu su := by
  intro p e R s m args below meth c H locs ls C Rp S LL
  have k1 := (k p e R s m args below meth c H locs ls C Rp S LL)
  have e1 : vJ (a - b) = .long (Int64.ofInt a - Int64.ofInt b) := congrArg _ (Int64.ofInt_sub a b)
  rw [e1] at k1
  exact lv_lsub C.1.1 C.1.2.1 hd k1
theorem p_lmul {a b : Int} (hd : decode (eC E) pc = .ok (.lmul, 1)) (k : Px E (pc + 1) L (vJ (a * b) :: st) ly D cu su) : Px E pc L (vJ b :: vJ a :: st) ly D cu su := by
  intro p e R s m args below meth c H locs ls C Rp S LL
  have k1 := (k p e R s m args below meth c H locs ls C Rp S LL)
  have e1 : vJ (a * b) = .long (Int64.ofInt a * Int64.ofInt b) := congrArg _ (Int64.ofInt_mul a b)
  rw [e1] at k1
  exact lv_lmul C.1.1 C.1.2.1 hd k1
theorem p_ldiv {a b : Int} (hd : decode (eC E) pc = .ok (.ldiv, 1)) (h : 0 ≤ a ∧ a ≤ 9223372036854775807 ∧ 0 < b ∧ b ≤ 9223372036854775807) (k : Px E (pc + 1) L (vJ (a / b) :: st) ly D cu su) : Px E pc L (vJ b :: vJ a :: st) ly D cu su := by
  intro p e R s m args below meth c H locs ls C Rp S LL
  have k1 := (k p e R s m args below meth c H locs ls C Rp S LL)
  have e1 : vJ (a / b) = .long (Int64.ofInt a / Int64.ofInt b) := congrArg _ (i64_div h.1 h.2.1 h.2.2.1 h.2.2.2).symm
  rw [e1] at k1
  have h0 : ¬ Int64.ofInt b = 0 := fun z => by
    have z2 : Int64.ofInt b = Int64.ofInt 0 := z
    rw [i64_eq (by omega) (by omega)] at z2
    omega
  exact lv_ldiv C.1.1 C.1.2.1 hd h0 k1
theorem p_lrem {a b : Int} (hd : decode (eC E) pc = .ok (.lrem, 1)) (h : 0 ≤ a ∧ a ≤ 9223372036854775807 ∧ 0 < b ∧ b ≤ 9223372036854775807) (k : Px E (pc + 1) L (vJ (a % b) :: st) ly D cu su) : Px E pc L (vJ b :: vJ a :: st) ly D cu su := by
  intro p e R s m args below meth c H locs ls C Rp S LL
  have k1 := (k p e R s m args below meth c H locs ls C Rp S LL)
  have e1 : vJ (a % b) = .long (Int64.ofInt a - Int64.ofInt a / Int64.ofInt b * Int64.ofInt b) := congrArg _ (i64_rem h.1 h.2.1 h.2.2.1 h.2.2.2).symm
  rw [e1] at k1
  have h0 : ¬ Int64.ofInt b = 0 := fun z => by
    have z2 : Int64.ofInt b = Int64.ofInt 0 := z
    rw [i64_eq (by omega) (by omega)] at z2
    omega
  exact lv_lrem C.1.1 C.1.2.1 hd h0 k1
theorem p_ishr {a b : Int} (hd : decode (eC E) pc = .ok (.ishr, 1)) (k : Px E (pc + 1) L (vI (Int32.ofInt a >>> (Int32.ofInt b &&& 31)).toInt :: st) ly D cu su) : Px E pc L (vI b :: vI a :: st) ly D cu su := by
  intro p e R s m args below meth c H locs ls C Rp S LL
  have k1 := (k p e R s m args below meth c H locs ls C Rp S LL)
  have e1 : vI (Int32.ofInt a >>> (Int32.ofInt b &&& 31)).toInt = .int (Int32.ofInt a >>> (Int32.ofInt b &&& 31)) := congrArg Value.int (Int32.ofInt_toInt _)
  rw [e1] at k1
  exact lv_ishr C.1.1 C.1.2.1 hd k1
theorem p_iand {a b : Int} (hd : decode (eC E) pc = .ok (.iand, 1)) (k : Px E (pc + 1) L (vI (Int32.ofInt a &&& Int32.ofInt b).toInt :: st) ly D cu su) : Px E pc L (vI b :: vI a :: st) ly D cu su := by
  intro p e R s m args below meth c H locs ls C Rp S LL
  have k1 := (k p e R s m args below meth c H locs ls C Rp S LL)
  have e1 : vI (Int32.ofInt a &&& Int32.ofInt b).toInt = .int (Int32.ofInt a &&& Int32.ofInt b) := congrArg Value.int (Int32.ofInt_toInt _)
  rw [e1] at k1
  exact lv_iand C.1.1 C.1.2.1 hd k1
theorem p_i2b {a : Int} (hd : decode (eC E) pc = .ok (.i2b, 1)) (k : Px E (pc + 1) L (vI (Int32.ofInt a).toInt8.toInt :: st) ly D cu su) : Px E pc L (vI a :: st) ly D cu su := by
  intro p e R s m args below meth c H locs ls C Rp S LL
  have k1 := (k p e R s m args below meth c H locs ls C Rp S LL)
  have e1 : vI (Int32.ofInt a).toInt8.toInt = .int (Int32.ofInt a).toInt8.toInt32 := rfl
  rw [e1] at k1
  exact lv_i2b C.1.1 C.1.2.1 hd rfl k1
theorem p_i2c {a : Int} (hd : decode (eC E) pc = .ok (.i2c, 1)) (k : Px E (pc + 1) L (vI ((Int32.ofInt a).toUInt32 % 65536).toInt32.toInt :: st) ly D cu su) : Px E pc L (vI a :: st) ly D cu su := by
  intro p e R s m args below meth c H locs ls C Rp S LL
  have k1 := (k p e R s m args below meth c H locs ls C Rp S LL)
  have e1 : vI ((Int32.ofInt a).toUInt32 % 65536).toInt32.toInt = .int ((Int32.ofInt a).toUInt32 % 65536).toInt32 := congrArg Value.int (Int32.ofInt_toInt _)
  rw [e1] at k1
  exact lv_i2c C.1.1 C.1.2.1 hd rfl k1
theorem p_i2l {a : Int} (hd : decode (eC E) pc = .ok (.i2l, 1)) (h : InR a) (k : Px E (pc + 1) L (vJ a :: st) ly D cu su) : Px E pc L (vI a :: st) ly D cu su := by
  intro p e R s m args below meth c H locs ls C Rp S LL
  exact lv_i2l C.1.1 C.1.2.1 hd (i32_l h) (k p e R s m args below meth c H locs ls C Rp S LL)
theorem p_l2i {a : Int} (hd : decode (eC E) pc = .ok (.l2i, 1)) (k : Px E (pc + 1) L (vI a :: st) ly D cu su) : Px E pc L (vJ a :: st) ly D cu su := by
  intro p e R s m args below meth c H locs ls C Rp S LL
  exact lv_l2i C.1.1 C.1.2.1 hd Int64.toInt32_ofInt (k p e R s m args below meth c H locs ls C Rp S LL)
theorem p_lcmp {a b : Int} (hd : decode (eC E) pc = .ok (.lcmp, 1)) (ha : InL a) (hb : InL b) (k : Px E (pc + 1) L (vI (cmpI a b) :: st) ly D cu su) : Px E pc L (vJ b :: vJ a :: st) ly D cu su := by
  intro p e R s m args below meth c H locs ls C Rp S LL
  have k1 := (k p e R s m args below meth c H locs ls C Rp S LL)
  have e1 : vI (cmpI a b) = .int (lg_cmp (Int64.ofInt a) (Int64.ofInt b)) := congrArg _ (cmpI_eq ha hb).symm
  rw [e1] at k1
  exact W.lcmp C.1.1 C.1.2.1 hd k1
theorem p_dup {v : Value} (hd : decode (eC E) pc = .ok (.dup, 1)) (hv : v.category = 1) (k : Px E (pc + 1) L (v :: v :: st) ly D cu su) : Px E pc L (v :: st) ly D cu su := by
  intro p e R s m args below meth c H locs ls C Rp S LL
  exact lv_dup C.1.1 C.1.2.1 hd hv (k p e R s m args below meth c H locs ls C Rp S LL)
theorem p_pop {v : Value} (hd : decode (eC E) pc = .ok (.pop, 1)) (hv : v.category = 1) (k : Px E (pc + 1) L st ly D cu su) : Px E pc L (v :: st) ly D cu su := by
  intro p e R s m args below meth c H locs ls C Rp S LL
  exact lv_pop C.1.1 C.1.2.1 hd hv (k p e R s m args below meth c H locs ls C Rp S LL)
theorem p_dup2 {v w : Value} (hd : decode (eC E) pc = .ok (.dup2, 1)) (hv : v.category = 1) (hw : w.category = 1) (k : Px E (pc + 1) L (v :: w :: v :: w :: st) ly D cu su) : Px E pc L (v :: w :: st) ly D cu su := by
  intro p e R s m args below meth c H locs ls C Rp S LL
  exact lv_dup2_11 C.1.1 C.1.2.1 hd hv hw (k p e R s m args below meth c H locs ls C Rp S LL)
theorem p_dup_x1 {v w : Value} (hd : decode (eC E) pc = .ok (.dup_x1, 1)) (hv : v.category = 1) (hw : w.category = 1) (k : Px E (pc + 1) L (v :: w :: v :: st) ly D cu su) : Px E pc L (v :: w :: st) ly D cu su := by
  intro p e R s m args below meth c H locs ls C Rp S LL
  exact lv_dup_x1 C.1.1 C.1.2.1 hd hv hw (k p e R s m args below meth c H locs ls C Rp S LL)
theorem p_icmp_eq {a b : Int} {off : Int} {tgt : Nat} (hd : decode (eC E) pc = .ok (.if_icmp .eq off, 3)) (ht : (pc : Int) + off = (tgt : Int)) (ha : InR a) (hb : InR b) (k1 : a = b → Px E tgt L st ly D cu su) (k2 : ¬ (a = b) → Px E (pc + 3) L st ly D cu su) : Px E pc L (vI b :: vI a :: st) ly D cu su := by
  intro p e R s m args below meth c H locs ls C Rp S LL
  have q := i32_eq ha hb
  exact lv_icmp_eq C.1.1 C.1.2.1 hd ht (fun h => k1 (q.mp h) p e R s m args below meth c H locs ls C Rp S LL) (fun h => k2 (fun z => h (q.mpr z)) p e R s m args below meth c H locs ls C Rp S LL)
theorem p_if_eq {a : Int} {off : Int} {tgt : Nat} (hd : decode (eC E) pc = .ok (.ifCond .eq off, 3)) (ht : (pc : Int) + off = (tgt : Int)) (ha : InR a) (k1 : a = 0 → Px E tgt L st ly D cu su) (k2 : ¬ (a = 0) → Px E (pc + 3) L st ly D cu su) : Px E pc L (vI a :: st) ly D cu su := by
  intro p e R s m args below meth c H locs ls C Rp S LL
  have q := i32_eq ha r0
  exact lv_if_eq C.1.1 C.1.2.1 hd ht (fun h => k1 (q.mp h) p e R s m args below meth c H locs ls C Rp S LL) (fun h => k2 (fun z => h (q.mpr z)) p e R s m args below meth c H locs ls C Rp S LL)
theorem p_icmp_ne {a b : Int} {off : Int} {tgt : Nat} (hd : decode (eC E) pc = .ok (.if_icmp .ne off, 3)) (ht : (pc : Int) + off = (tgt : Int)) (ha : InR a) (hb : InR b) (k1 : ¬ a = b → Px E tgt L st ly D cu su) (k2 : ¬ (¬ a = b) → Px E (pc + 3) L st ly D cu su) : Px E pc L (vI b :: vI a :: st) ly D cu su := by
  intro p e R s m args below meth c H locs ls C Rp S LL
  have q := not_congr (i32_eq ha hb)
  exact lv_icmp_ne C.1.1 C.1.2.1 hd ht (fun h => k1 (q.mp h) p e R s m args below meth c H locs ls C Rp S LL) (fun h => k2 (fun z => z ((i32_eq ha hb).mp h)) p e R s m args below meth c H locs ls C Rp S LL)
theorem p_if_ne {a : Int} {off : Int} {tgt : Nat} (hd : decode (eC E) pc = .ok (.ifCond .ne off, 3)) (ht : (pc : Int) + off = (tgt : Int)) (ha : InR a) (k1 : ¬ a = 0 → Px E tgt L st ly D cu su) (k2 : ¬ (¬ a = 0) → Px E (pc + 3) L st ly D cu su) : Px E pc L (vI a :: st) ly D cu su := by
  intro p e R s m args below meth c H locs ls C Rp S LL
  have q := not_congr (i32_eq ha r0)
  exact lv_if_ne C.1.1 C.1.2.1 hd ht (fun h => k1 (q.mp h) p e R s m args below meth c H locs ls C Rp S LL) (fun h => k2 (fun z => z ((i32_eq ha r0).mp h)) p e R s m args below meth c H locs ls C Rp S LL)
theorem p_icmp_lt {a b : Int} {off : Int} {tgt : Nat} (hd : decode (eC E) pc = .ok (.if_icmp .lt off, 3)) (ht : (pc : Int) + off = (tgt : Int)) (ha : InR a) (hb : InR b) (k1 : a < b → Px E tgt L st ly D cu su) (k2 : ¬ (a < b) → Px E (pc + 3) L st ly D cu su) : Px E pc L (vI b :: vI a :: st) ly D cu su := by
  intro p e R s m args below meth c H locs ls C Rp S LL
  have q := i32_lt ha hb
  exact lv_icmp_lt C.1.1 C.1.2.1 hd ht (fun h => k1 (q.mp h) p e R s m args below meth c H locs ls C Rp S LL) (fun h => k2 (fun z => h (q.mpr z)) p e R s m args below meth c H locs ls C Rp S LL)
theorem p_if_lt {a : Int} {off : Int} {tgt : Nat} (hd : decode (eC E) pc = .ok (.ifCond .lt off, 3)) (ht : (pc : Int) + off = (tgt : Int)) (ha : InR a) (k1 : a < 0 → Px E tgt L st ly D cu su) (k2 : ¬ (a < 0) → Px E (pc + 3) L st ly D cu su) : Px E pc L (vI a :: st) ly D cu su := by
  intro p e R s m args below meth c H locs ls C Rp S LL
  have q := i32_lt ha r0
  exact lv_if_lt C.1.1 C.1.2.1 hd ht (fun h => k1 (q.mp h) p e R s m args below meth c H locs ls C Rp S LL) (fun h => k2 (fun z => h (q.mpr z)) p e R s m args below meth c H locs ls C Rp S LL)
theorem p_icmp_ge {a b : Int} {off : Int} {tgt : Nat} (hd : decode (eC E) pc = .ok (.if_icmp .ge off, 3)) (ht : (pc : Int) + off = (tgt : Int)) (ha : InR a) (hb : InR b) (k1 : b ≤ a → Px E tgt L st ly D cu su) (k2 : ¬ (b ≤ a) → Px E (pc + 3) L st ly D cu su) : Px E pc L (vI b :: vI a :: st) ly D cu su := by
  intro p e R s m args below meth c H locs ls C Rp S LL
  have q := i32_le hb ha
  exact lv_icmp_ge C.1.1 C.1.2.1 hd ht (fun h => k1 (q.mp h) p e R s m args below meth c H locs ls C Rp S LL) (fun h => k2 (fun z => h (q.mpr z)) p e R s m args below meth c H locs ls C Rp S LL)
theorem p_if_ge {a : Int} {off : Int} {tgt : Nat} (hd : decode (eC E) pc = .ok (.ifCond .ge off, 3)) (ht : (pc : Int) + off = (tgt : Int)) (ha : InR a) (k1 : 0 ≤ a → Px E tgt L st ly D cu su) (k2 : ¬ (0 ≤ a) → Px E (pc + 3) L st ly D cu su) : Px E pc L (vI a :: st) ly D cu su := by
  intro p e R s m args below meth c H locs ls C Rp S LL
  have q := i32_le r0 ha
  exact lv_if_ge C.1.1 C.1.2.1 hd ht (fun h => k1 (q.mp h) p e R s m args below meth c H locs ls C Rp S LL) (fun h => k2 (fun z => h (q.mpr z)) p e R s m args below meth c H locs ls C Rp S LL)
theorem p_icmp_gt {a b : Int} {off : Int} {tgt : Nat} (hd : decode (eC E) pc = .ok (.if_icmp .gt off, 3)) (ht : (pc : Int) + off = (tgt : Int)) (ha : InR a) (hb : InR b) (k1 : b < a → Px E tgt L st ly D cu su) (k2 : ¬ (b < a) → Px E (pc + 3) L st ly D cu su) : Px E pc L (vI b :: vI a :: st) ly D cu su := by
  intro p e R s m args below meth c H locs ls C Rp S LL
  have q := i32_lt hb ha
  exact lv_icmp_gt C.1.1 C.1.2.1 hd ht (fun h => k1 (q.mp h) p e R s m args below meth c H locs ls C Rp S LL) (fun h => k2 (fun z => h (q.mpr z)) p e R s m args below meth c H locs ls C Rp S LL)
theorem p_if_gt {a : Int} {off : Int} {tgt : Nat} (hd : decode (eC E) pc = .ok (.ifCond .gt off, 3)) (ht : (pc : Int) + off = (tgt : Int)) (ha : InR a) (k1 : 0 < a → Px E tgt L st ly D cu su) (k2 : ¬ (0 < a) → Px E (pc + 3) L st ly D cu su) : Px E pc L (vI a :: st) ly D cu su := by
  intro p e R s m args below meth c H locs ls C Rp S LL
  have q := i32_lt r0 ha
  exact lv_if_gt C.1.1 C.1.2.1 hd ht (fun h => k1 (q.mp h) p e R s m args below meth c H locs ls C Rp S LL) (fun h => k2 (fun z => h (q.mpr z)) p e R s m args below meth c H locs ls C Rp S LL)
theorem p_icmp_le {a b : Int} {off : Int} {tgt : Nat} (hd : decode (eC E) pc = .ok (.if_icmp .le off, 3)) (ht : (pc : Int) + off = (tgt : Int)) (ha : InR a) (hb : InR b) (k1 : a ≤ b → Px E tgt L st ly D cu su) (k2 : ¬ (a ≤ b) → Px E (pc + 3) L st ly D cu su) : Px E pc L (vI b :: vI a :: st) ly D cu su := by
  intro p e R s m args below meth c H locs ls C Rp S LL
  have q := i32_le ha hb
  exact lv_icmp_le C.1.1 C.1.2.1 hd ht (fun h => k1 (q.mp h) p e R s m args below meth c H locs ls C Rp S LL) (fun h => k2 (fun z => h (q.mpr z)) p e R s m args below meth c H locs ls C Rp S LL)
theorem p_if_le {a : Int} {off : Int} {tgt : Nat} (hd : decode (eC E) pc = .ok (.ifCond .le off, 3)) (ht : (pc : Int) + off = (tgt : Int)) (ha : InR a) (k1 : a ≤ 0 → Px E tgt L st ly D cu su) (k2 : ¬ (a ≤ 0) → Px E (pc + 3) L st ly D cu su) : Px E pc L (vI a :: st) ly D cu su := by
  intro p e R s m args below meth c H locs ls C Rp S LL
  have q := i32_le ha r0
  exact lv_if_le C.1.1 C.1.2.1 hd ht (fun h => k1 (q.mp h) p e R s m args below meth c H locs ls C Rp S LL) (fun h => k2 (fun z => h (q.mpr z)) p e R s m args below meth c H locs ls C Rp S LL)
theorem p_goto {off : Int} {tgt : Nat} (hd : decode (eC E) pc = .ok (.goto off, 3)) (ht : (pc : Int) + off = (tgt : Int)) (k : Px E tgt L st ly D cu su) : Px E pc L st ly D cu su := by
  intro p e R s m args below meth c H locs ls C Rp S LL
  exact lv_goto C.1.1 C.1.2.1 hd ht (k p e R s m args below meth c H locs ls C Rp S LL)
theorem p_tableIn {dflt lo hi : Int} {offs : Array Int} {len : Nat} {a off : Int} {tgt : Nat} (hd : decode (eC E) pc = .ok (.tableswitch dflt lo hi offs, len)) (ha : InR a) (h1 : ¬ a < lo) (h2 : ¬ hi < a) (ho : offs[(a - lo).toNat]? = some off) (ht : (pc : Int) + off = (tgt : Int)) (k : Px E tgt L st ly D cu su) : Px E pc L (vI a :: st) ly D cu su := by
  intro p e R s m args below meth c H locs ls C Rp S LL
  exact lv_tableIn C.1.1 C.1.2.1 hd (by rw [i32_to ha]; exact h1) (by rw [i32_to ha]; exact h2) (by rw [i32_to ha]; exact ho) ht (k p e R s m args below meth c H locs ls C Rp S LL)
theorem p_tableOut {dflt lo hi : Int} {offs : Array Int} {len : Nat} {a : Int} {tgt : Nat} (hd : decode (eC E) pc = .ok (.tableswitch dflt lo hi offs, len)) (ha : InR a) (h : a < lo ∨ hi < a) (ht : (pc : Int) + dflt = (tgt : Int)) (k : Px E tgt L st ly D cu su) : Px E pc L (vI a :: st) ly D cu su := by
  intro p e R s m args below meth c H locs ls C Rp S LL
  exact lv_tableOut C.1.1 C.1.2.1 hd (by rw [i32_to ha]; exact h) ht (k p e R s m args below meth c H locs ls C Rp S LL)
theorem p_lookup {dflt : Int} {ps : Array (Int × Int)} {len : Nat} {a off : Int} {tgt : Nat} (hd : decode (eC E) pc = .ok (.lookupswitch dflt ps, len)) (ha : InR a) (hp : (ps.toList.zip (ps.toList.drop 1)).all (fun (a, next) => a.1 < next.1) = true) (ho : Op.lookupswitch.offset ps.toList dflt a = off) (ht : (pc : Int) + off = (tgt : Int)) (k : Px E tgt L st ly D cu su) : Px E pc L (vI a :: st) ly D cu su := by
  intro p e R s m args below meth c H locs ls C Rp S LL
  exact lv_lookup C.1.1 C.1.2.1 hd hp (by rw [i32_to ha]; exact ho) ht (k p e R s m args below meth c H locs ls C Rp S LL)
theorem p_geti {idx ci fk a : Nat} (hd : decode (eC E) pc = .ok (.getfield idx, 3)) (hf : FLk (eY E).cls idx ci fk) (hv : ∀ B i r, fval B (tyOf ci fk) i r = vI i) (hs : ly.1 a = some (.inl ci)) (k : Px E (pc + 3) L (vI (D.1 a fk) :: st) ly D cu su) : Px E pc L (vR (eG E) a :: st) ly D cu su := by
  intro p e R s m args below meth c H locs ls C Rp S LL
  obtain ⟨C1, T, N, ⟨hc, hin, hty, hnm⟩, hk, hw⟩ := hf
  obtain ⟨r, h1, cell, q1, q2, q3, q4⟩ := Rp.1 a ci hs
  have hr : r = (C1, T, N) := Option.some.inj (h1.symm.trans hc)
  subst hr
  obtain ⟨hS, hfc, kC, hkC, hkind⟩ := C.K.1 ci _ hc
  obtain ⟨cf, kf, fi, f, hi, hsl⟩ := hS fk hk
  have hts : ∀ w ∈ TB, w.before args s = true := fun w hw => C.w hw args
  refine W.getf C.1.1 C.1.2.1 C.1.2.2.2.1 (C.w hw args) hi (u_facts hfc hkC (u_lays hts hin hk) hi).1 q1 (by rw [q3]; exact fun h => by cases h) (v := vI (D.1 a fk)) ?_ rfl rfl hd (k p e R s m args below meth c H locs ls C Rp S LL)
  rw [hsl, q4 fk hk]; exact congrArg some (hv _ _ _)
theorem p_getj {idx ci fk a : Nat} (hd : decode (eC E) pc = .ok (.getfield idx, 3)) (hf : FLk (eY E).cls idx ci fk) (hv : ∀ B i r, fval B (tyOf ci fk) i r = vJ i) (hs : ly.1 a = some (.inl ci)) (k : Px E (pc + 3) L (vJ (D.1 a fk) :: st) ly D cu su) : Px E pc L (vR (eG E) a :: st) ly D cu su := by
  intro p e R s m args below meth c H locs ls C Rp S LL
  obtain ⟨C1, T, N, ⟨hc, hin, hty, hnm⟩, hk, hw⟩ := hf
  obtain ⟨r, h1, cell, q1, q2, q3, q4⟩ := Rp.1 a ci hs
  have hr : r = (C1, T, N) := Option.some.inj (h1.symm.trans hc)
  subst hr
  obtain ⟨hS, hfc, kC, hkC, hkind⟩ := C.K.1 ci _ hc
  obtain ⟨cf, kf, fi, f, hi, hsl⟩ := hS fk hk
  have hts : ∀ w ∈ TB, w.before args s = true := fun w hw => C.w hw args
  refine W.getf C.1.1 C.1.2.1 C.1.2.2.2.1 (C.w hw args) hi (u_facts hfc hkC (u_lays hts hin hk) hi).1 q1 (by rw [q3]; exact fun h => by cases h) (v := vJ (D.1 a fk)) ?_ rfl rfl hd (k p e R s m args below meth c H locs ls C Rp S LL)
  rw [hsl, q4 fk hk]; exact congrArg some (hv _ _ _)
theorem p_getr {idx ci fk a q : Nat} (hd : decode (eC E) pc = .ok (.getfield idx, 3)) (hf : FLk (eY E).cls idx ci fk) (hv : ∀ B i r, fval B (tyOf ci fk) i r = va_rf (r.map (B + ·))) (hs : ly.1 a = some (.inl ci)) (hq : ly.2.1 a fk = some q) (k : Px E (pc + 3) L (vR (eG E) q :: st) ly D cu su) : Px E pc L (vR (eG E) a :: st) ly D cu su := by
  intro p e R s m args below meth c H locs ls C Rp S LL
  obtain ⟨C1, T, N, ⟨hc, hin, hty, hnm⟩, hk, hw⟩ := hf
  obtain ⟨r, h1, cell, q1, q2, q3, q4⟩ := Rp.1 a ci hs
  have hr : r = (C1, T, N) := Option.some.inj (h1.symm.trans hc)
  subst hr
  obtain ⟨hS, hfc, kC, hkC, hkind⟩ := C.K.1 ci _ hc
  obtain ⟨cf, kf, fi, f, hi, hsl⟩ := hS fk hk
  have hts : ∀ w ∈ TB, w.before args s = true := fun w hw => C.w hw args
  refine W.getf C.1.1 C.1.2.1 C.1.2.2.2.1 (C.w hw args) hi (u_facts hfc hkC (u_lays hts hin hk) hi).1 q1 (by rw [q3]; exact fun h => by cases h) (v := vR (eG E) q) ?_ rfl rfl hd (k p e R s m args below meth c H locs ls C Rp S LL)
  rw [hsl, q4 fk hk]; exact congrArg some ((hv _ _ _).trans (by rw [hq]; rfl))
theorem rep_put {g : GH} {ly : LY} {D : DT} {H H1 : Heap} {a ci fk : Nat} {C1 : String} {T : u_T} {N : Nat} {cell : Cell} {x : Int} (Rp : Rep g ly D H) (hs : ly.1 a = some (.inl ci)) (hc : vwCl[ci]? = some (C1, T, N)) (q1 : H[g.1.heap.size + a]? = some cell) (q2 : cell.cls = g.2.1 ci) (q3 : cell.vm = .none)
    (h : ∀ j, j < N → (cell.setSlot (g.2.2.1 ci fk) (fval g.1.heap.size (tyOf ci fk) x (ly.2.1 a fk))).slots[g.2.2.1 ci j]? = some (updV (fun k => fval g.1.heap.size (tyOf ci k) (D.1 a k) (ly.2.1 a k)) fk (fval g.1.heap.size (tyOf ci fk) x (ly.2.1 a fk)) j))
    (e1 : H1[g.1.heap.size + a]? = some (cell.setSlot (g.2.2.1 ci fk) (fval g.1.heap.size (tyOf ci fk) x (ly.2.1 a fk)))) (e2 : H1.size = H.size) (e3 : ∀ q, q ≠ g.1.heap.size + a → H1[q]? = H[q]?) : Rep g ly (sF D a fk x) H1 := by
  refine ⟨fun a' ci' h' => ?_, fun a' ty n h' => ?_, by rw [e2]; exact Rp.2.2⟩
  · obtain ⟨r, h1, ob⟩ := Rp.1 a' ci' h'
    refine ⟨r, h1, ?_⟩
    by_cases ea : a' = a
    · subst ea
      rw [hs] at h'
      cases h'
      have hr : r = (C1, T, N) := Option.some.inj (h1.symm.trans hc)
      subst hr
      refine ⟨_, e1, q2, q3, fun j hj => ?_⟩
      rw [h j hj]
      by_cases ej : j = fk
      · subst ej
        simp [updV, sF]
      · simp [updV, sF, ej]
    · refine (ob.kept (e3 _ (fun z => ea (Nat.add_left_cancel z)))).to fun j _ => ?_
      simp [sF, ea]
  · obtain ⟨hn, hh⟩ := Rp.2.1 a' ty n h'
    refine ⟨hn, ?_⟩
    have ea : a' ≠ a := fun z => by rw [z, hs] at h'; cases h'
    rw [e3 _ (fun z => ea (Nat.add_left_cancel z))]; exact hh
theorem rep_putr {g : GH} {ly : LY} {D : DT} {H H1 : Heap} {a ci fk q : Nat} {C1 : String} {T : u_T} {N : Nat} {cell : Cell} (Rp : Rep g ly D H) (hs : ly.1 a = some (.inl ci)) (hc : vwCl[ci]? = some (C1, T, N)) (hv : ∀ B i r, fval B (tyOf ci fk) i r = va_rf (r.map (B + ·))) (q1 : H[g.1.heap.size + a]? = some cell) (q2 : cell.cls = g.2.1 ci) (q3 : cell.vm = .none)
    (h : ∀ j, j < N → (cell.setSlot (g.2.2.1 ci fk) (vR g q)).slots[g.2.2.1 ci j]? = some (updV (fun k => fval g.1.heap.size (tyOf ci k) (D.1 a k) (ly.2.1 a k)) fk (vR g q) j))
    (e1 : H1[g.1.heap.size + a]? = some (cell.setSlot (g.2.2.1 ci fk) (vR g q))) (e2 : H1.size = H.size) (e3 : ∀ q, q ≠ g.1.heap.size + a → H1[q]? = H[q]?) : Rep g (sR ly a fk q) D H1 := by
  refine ⟨fun a' ci' h' => ?_, fun a' ty n h' => ?_, by rw [e2]; exact Rp.2.2⟩
  · obtain ⟨r, h1, ob⟩ := Rp.1 a' ci' h'
    refine ⟨r, h1, ?_⟩
    by_cases ea : a' = a
    · subst ea
      have h'' : ly.1 a' = some (.inl ci') := h'
      rw [hs] at h''
      cases h''
      have hr : r = (C1, T, N) := Option.some.inj (h1.symm.trans hc)
      subst hr
      refine ⟨_, e1, q2, q3, fun j hj => ?_⟩
      rw [h j hj]
      by_cases ej : j = fk
      · subst ej
        simp [updV, sR, hv]; rfl
      · simp [updV, sR, ej]
    · refine (ob.kept (e3 _ (fun z => ea (Nat.add_left_cancel z)))).to fun j _ => ?_
      simp [sR, ea]
  · obtain ⟨hn, hh⟩ := Rp.2.1 a' ty n h'
    refine ⟨hn, ?_⟩
    have ea : a' ≠ a := fun z => by have h'' : ly.1 a' = some (.inr (ty, n)) := h'; rw [z, hs] at h''; cases h''
    rw [e3 _ (fun z => ea (Nat.add_left_cancel z))]; exact hh
theorem p_puti {idx ci fk a : Nat} {x : Int} (hd : decode (eC E) pc = .ok (.putfield idx, 3)) (hf : FLw (eY E).cls idx ci fk) (ht : tyOf ci fk = .int) (hs : ly.1 a = some (.inl ci)) (k : Px E (pc + 3) L st ly (sF D a fk x) cu su) : Px E pc L (vI x :: vR (eG E) a :: st) ly D cu su := by
  intro p e R s m args below meth c H locs ls C Rp S LL
  obtain ⟨C1, T, N, ⟨hc, hin, hty, hnm⟩, hk, hw, hfin⟩ := hf
  obtain ⟨r, h1, cell, q1, q2, q3, q4⟩ := Rp.1 a ci hs
  have hr : r = (C1, T, N) := Option.some.inj (h1.symm.trans hc)
  subst hr
  have hts : ∀ w ∈ TB, w.before args s = true := fun w hw => C.w hw args
  have hap := va_apart (own := C1) hts hin (tyOf ci) hty hnm C.K hc
  obtain ⟨hS, hfc, kC, hkC, hkind⟩ := C.K.1 ci _ hc
  obtain ⟨cf, kf, fi, f, hi, hsl⟩ := hS fk hk
  have hlay := hts _ (hin _ (u_in_lay hk))
  unfold u_lay at hlay
  rw [if_neg (by rw [hfin]; decide)] at hlay
  have hst := (u_facts hfc hkC (u_lays hts hin hk) hi).1
  have hv : ∀ B i r, fval B (tyOf ci fk) i r = vI i := fun B i r => by rw [ht]; rfl
  have h6 := u_store (v := vI x) hfc hkC hkind hlay hi (hty fk hk) (by rw [ht]; exact rfl) (by rw [ht]; exact rfl)
  refine W.putK C.1.1 C.1.2.1 (f := f) ⟨C.1.2.2.2.1, C.w hw args, ⟨_, _, _, hi⟩, hst⟩ (by rw [q2]; exact h6) q1 q3 (by rw [hsl]; exact k2_hasslot (q4 fk hk)) rfl rfl hd fun H' e1 e2 e3 => ?_
  rw [hsl] at e1 ⊢
  have t1 := t_set q4 hap hk (vI x)
  rw [← hv (eG E).1.heap.size x (ly.2.1 a fk)] at e1 t1
  exact k p e R s m args below meth c H' _ ls C (rep_put Rp hs hc q1 q2 q3 t1 e1 e2 e3) (S.put e2 e3 (Nat.le_add_right _ _)) LL
theorem p_putz {idx ci fk a : Nat} {x : Int} (hd : decode (eC E) pc = .ok (.putfield idx, 3)) (hf : FLw (eY E).cls idx ci fk) (ht : tyOf ci fk = .boolean) (hx : x = 0 ∨ x = 1) (hs : ly.1 a = some (.inl ci)) (k : Px E (pc + 3) L st ly (sF D a fk x) cu su) : Px E pc L (vI x :: vR (eG E) a :: st) ly D cu su := by
  intro p e R s m args below meth c H locs ls C Rp S LL
  obtain ⟨C1, T, N, ⟨hc, hin, hty, hnm⟩, hk, hw, hfin⟩ := hf
  obtain ⟨r, h1, cell, q1, q2, q3, q4⟩ := Rp.1 a ci hs
  have hr : r = (C1, T, N) := Option.some.inj (h1.symm.trans hc)
  subst hr
  have hts : ∀ w ∈ TB, w.before args s = true := fun w hw => C.w hw args
  have hap := va_apart (own := C1) hts hin (tyOf ci) hty hnm C.K hc
  obtain ⟨hS, hfc, kC, hkC, hkind⟩ := C.K.1 ci _ hc
  obtain ⟨cf, kf, fi, f, hi, hsl⟩ := hS fk hk
  have hlay := hts _ (hin _ (u_in_lay hk))
  unfold u_lay at hlay
  rw [if_neg (by rw [hfin]; decide)] at hlay
  have hst := (u_facts hfc hkC (u_lays hts hin hk) hi).1
  have hv : ∀ B i r, fval B (tyOf ci fk) i r = vI i := fun B i r => by rw [ht]; rfl
  have h6 := u_store (v := vI x) hfc hkC hkind hlay hi (hty fk hk) (by rw [ht]; exact nar_z hx) (by rw [ht]; exact fit_z hx)
  refine W.putK C.1.1 C.1.2.1 (f := f) ⟨C.1.2.2.2.1, C.w hw args, ⟨_, _, _, hi⟩, hst⟩ (by rw [q2]; exact h6) q1 q3 (by rw [hsl]; exact k2_hasslot (q4 fk hk)) rfl rfl hd fun H' e1 e2 e3 => ?_
  rw [hsl] at e1 ⊢
  have t1 := t_set q4 hap hk (vI x)
  rw [← hv (eG E).1.heap.size x (ly.2.1 a fk)] at e1 t1
  exact k p e R s m args below meth c H' _ ls C (rep_put Rp hs hc q1 q2 q3 t1 e1 e2 e3) (S.put e2 e3 (Nat.le_add_right _ _)) LL
theorem p_putj {idx ci fk a : Nat} {x : Int} (hd : decode (eC E) pc = .ok (.putfield idx, 3)) (hf : FLw (eY E).cls idx ci fk) (ht : tyOf ci fk = .long) (hs : ly.1 a = some (.inl ci)) (k : Px E (pc + 3) L st ly (sF D a fk x) cu su) : Px E pc L (vJ x :: vR (eG E) a :: st) ly D cu su := by
  intro p e R s m args below meth c H locs ls C Rp S LL
  obtain ⟨C1, T, N, ⟨hc, hin, hty, hnm⟩, hk, hw, hfin⟩ := hf
  obtain ⟨r, h1, cell, q1, q2, q3, q4⟩ := Rp.1 a ci hs
  have hr : r = (C1, T, N) := Option.some.inj (h1.symm.trans hc)
  subst hr
  have hts : ∀ w ∈ TB, w.before args s = true := fun w hw => C.w hw args
  have hap := va_apart (own := C1) hts hin (tyOf ci) hty hnm C.K hc
  obtain ⟨hS, hfc, kC, hkC, hkind⟩ := C.K.1 ci _ hc
  obtain ⟨cf, kf, fi, f, hi, hsl⟩ := hS fk hk
  have hlay := hts _ (hin _ (u_in_lay hk))
  unfold u_lay at hlay
  rw [if_neg (by rw [hfin]; decide)] at hlay
  have hst := (u_facts hfc hkC (u_lays hts hin hk) hi).1
  have hv : ∀ B i r, fval B (tyOf ci fk) i r = vJ i := fun B i r => by rw [ht]; rfl
  have h6 := u_store (v := vJ x) hfc hkC hkind hlay hi (hty fk hk) (by rw [ht]; exact rfl) (by rw [ht]; exact rfl)
  refine W.putK C.1.1 C.1.2.1 (f := f) ⟨C.1.2.2.2.1, C.w hw args, ⟨_, _, _, hi⟩, hst⟩ (by rw [q2]; exact h6) q1 q3 (by rw [hsl]; exact k2_hasslot (q4 fk hk)) rfl rfl hd fun H' e1 e2 e3 => ?_
  rw [hsl] at e1 ⊢
  have t1 := t_set q4 hap hk (vJ x)
  rw [← hv (eG E).1.heap.size x (ly.2.1 a fk)] at e1 t1
  exact k p e R s m args below meth c H' _ ls C (rep_put Rp hs hc q1 q2 q3 t1 e1 e2 e3) (S.put e2 e3 (Nat.le_add_right _ _)) LL
theorem p_putr {idx ci fk a q : Nat} (hd : decode (eC E) pc = .ok (.putfield idx, 3)) (hf : FLf (eY E).cls idx ci fk) (hi0 : (eY E).name = "<init>") (hv : ∀ B i r, fval B (tyOf ci fk) i r = va_rf (r.map (B + ·))) (hn : narrow (tyOf ci fk) (vR (eG E) q) = vR (eG E) q) (hft : fits (tyOf ci fk) (vR (eG E) q) = true) (hs : ly.1 a = some (.inl ci)) (k : Px E (pc + 3) L st (sR ly a fk q) D cu su) : Px E pc L (vR (eG E) q :: vR (eG E) a :: st) ly D cu su := by
  intro p e R s m args below meth c H locs ls C Rp S LL
  obtain ⟨C1, T, N, ⟨hc, hin, hty, hnm⟩, hk, hw, hfin⟩ := hf
  obtain ⟨r, h1, cell, q1, q2, q3, q4⟩ := Rp.1 a ci hs
  have hr : r = (C1, T, N) := Option.some.inj (h1.symm.trans hc)
  subst hr
  have hts : ∀ w ∈ TB, w.before args s = true := fun w hw => C.w hw args
  have hap := va_apart (own := C1) hts hin (tyOf ci) hty hnm C.K hc
  obtain ⟨hS, hfc, kC, hkC, hkind⟩ := C.K.1 ci _ hc
  obtain ⟨cf, kf, fi, f, hi, hsl⟩ := hS fk hk
  have hlay := hts _ (hin _ (u_in_lay hk))
  unfold u_lay at hlay
  rw [if_pos hfin.1] at hlay
  have hst := (u_facts hfc hkC (u_lays hts hin hk) hi).1
  have hcf : m.cls = cf := by
    obtain ⟨_, _, c', _, _, _, -, -, hf', -, -, -, hown2, -⟩ := Cond.laysFinal_spec hlay
    have e1 : c' = cf := by have := hi.symm.trans hf'; simp at this; exact this.1.symm
    rw [hfin.2] at hown2
    rw [← e1]; exact Option.some.inj (C.1.2.2.2.1.symm.trans hown2)
  have h6 := u_fits (v := vR (eG E) q) hfc hkC hkind (Or.inr hlay) hi (hty fk hk) hn hft
  refine W.putFinK C.1.1 C.1.2.1 C.1.2.2.2.1 (C.w hw args) hi hst hcf (C.1.2.2.2.2.2.2 hi0) (by rw [q2]; exact h6) q1 q3 (by rw [hsl]; exact k2_hasslot (q4 fk hk)) rfl rfl hd fun H' e1 e2 e3 => ?_
  rw [hsl] at e1 ⊢
  exact k p e R s m args below meth c H' _ ls C (rep_putr Rp hs hc hv q1 q2 q3 (t_set q4 hap hk (vR (eG E) q)) e1 e2 e3) (S.put e2 e3 (Nat.le_add_right _ _)) LL
theorem p_iald {a n : Nat} {i : Int} (j : Nat) (hd : decode (eC E) pc = .ok (.iaload, 1)) (hs : ly.1 a = some (.inr (0, n))) (hj : i = (j : Int)) (hn : j < n) (k : Px E (pc + 1) L (vI (D.2 a j) :: st) ly D cu su) : Px E pc L (vI i :: vR (eG E) a :: st) ly D cu su := by
  intro p e R s m args below meth c H locs ls C Rp S LL
  subst hj
  obtain ⟨h31, hh⟩ := Rp.2.1 a 0 n hs
  refine W.iald (v := vI (D.2 a j)) C.1.1 C.1.2.1 hh ((C.K.2 0 _ rfl).1 n (fun j => vI (D.2 a j))) (fun q => by cases q) (by show ¬ (_ ∨ (arrV _ _ _).slots.size ≤ _); rw [arrV_size]; exact i32_in hn h31) ?_ rfl rfl hd (k p e R s m args below meth c H locs ls C Rp S LL)
  show (arrV _ _ _).slots[_]? = _
  rw [i32_nat (by omega), arrV_read _ _ hn]
theorem p_bald {a n : Nat} {i : Int} (j : Nat) (hd : decode (eC E) pc = .ok (.baload, 1)) (hs : ly.1 a = some (.inr (1, n))) (hj : i = (j : Int)) (hn : j < n) (k : Px E (pc + 1) L (vI (D.2 a j) :: st) ly D cu su) : Px E pc L (vI i :: vR (eG E) a :: st) ly D cu su := by
  intro p e R s m args below meth c H locs ls C Rp S LL
  subst hj
  obtain ⟨h31, hh⟩ := Rp.2.1 a 1 n hs
  refine W.bald (v := vI (D.2 a j)) C.1.1 C.1.2.1 hh ((C.K.2 1 _ rfl).1 n (fun j => vI (D.2 a j))) (fun q => by cases q) (by show ¬ (_ ∨ (arrV _ _ _).slots.size ≤ _); rw [arrV_size]; exact i32_in hn h31) ?_ rfl rfl hd (k p e R s m args below meth c H locs ls C Rp S LL)
  show (arrV _ _ _).slots[_]? = _
  rw [i32_nat (by omega), arrV_read _ _ hn]
theorem p_zald {a n : Nat} {i : Int} (j : Nat) (hd : decode (eC E) pc = .ok (.baload, 1)) (hs : ly.1 a = some (.inr (2, n))) (hj : i = (j : Int)) (hn : j < n) (k : Px E (pc + 1) L (vI (D.2 a j) :: st) ly D cu su) : Px E pc L (vI i :: vR (eG E) a :: st) ly D cu su := by
  intro p e R s m args below meth c H locs ls C Rp S LL
  subst hj
  obtain ⟨h31, hh⟩ := Rp.2.1 a 2 n hs
  refine W.zald (v := vI (D.2 a j)) C.1.1 C.1.2.1 hh ((C.K.2 2 _ rfl).1 n (fun j => vI (D.2 a j))) (fun q => by cases q) (by show ¬ (_ ∨ (arrV _ _ _).slots.size ≤ _); rw [arrV_size]; exact i32_in hn h31) ?_ rfl rfl hd (k p e R s m args below meth c H locs ls C Rp S LL)
  show (arrV _ _ _).slots[_]? = _
  rw [i32_nat (by omega), arrV_read _ _ hn]
theorem p_lald {a n : Nat} {i : Int} (j : Nat) (hd : decode (eC E) pc = .ok (.laload, 1)) (hs : ly.1 a = some (.inr (3, n))) (hj : i = (j : Int)) (hn : j < n) (k : Px E (pc + 1) L (vJ (D.2 a j) :: st) ly D cu su) : Px E pc L (vI i :: vR (eG E) a :: st) ly D cu su := by
  intro p e R s m args below meth c H locs ls C Rp S LL
  subst hj
  obtain ⟨h31, hh⟩ := Rp.2.1 a 3 n hs
  refine W.lald (v := vJ (D.2 a j)) C.1.1 C.1.2.1 hh ((C.K.2 3 _ rfl).1 n (fun j => vJ (D.2 a j))) (fun q => by cases q) (by show ¬ (_ ∨ (arrV _ _ _).slots.size ≤ _); rw [arrV_size]; exact i32_in hn h31) ?_ rfl rfl hd (k p e R s m args below meth c H locs ls C Rp S LL)
  show (arrV _ _ _).slots[_]? = _
  rw [i32_nat (by omega), arrV_read _ _ hn]
theorem rep_ast {g : GH} {ly : LY} {D : DT} {H H1 : Heap} {a ty n j : Nat} {x : Int} (Rp : Rep g ly D H) (hs : ly.1 a = some (.inr (ty, n))) (e1 : H1[g.1.heap.size + a]? = some (acell (g.2.2.2.1 ty) ty n ((sA D a j x).2 a))) (e2 : H1.size = H.size) (e3 : ∀ q, q ≠ g.1.heap.size + a → H1[q]? = H[q]?) : Rep g ly (sA D a j x) H1 := by
  refine ⟨fun a' ci' h' => ?_, fun a' ty' n' h' => ?_, by rw [e2]; exact Rp.2.2⟩
  · obtain ⟨r, h1, ob⟩ := Rp.1 a' ci' h'
    have ea : a' ≠ a := fun z => by rw [z, hs] at h'; cases h'
    exact ⟨r, h1, ob.kept (e3 _ (fun z => ea (Nat.add_left_cancel z)))⟩
  · obtain ⟨hn, hh⟩ := Rp.2.1 a' ty' n' h'
    refine ⟨hn, ?_⟩
    by_cases ea : a' = a
    · subst ea
      rw [hs] at h'
      cases h'
      exact e1
    · rw [e3 _ (fun z => ea (Nat.add_left_cancel z)), hh]
      congr 2
      funext q
      simp [sA, ea]
theorem p_iast {a n : Nat} {i x : Int} (j : Nat) (hd : decode (eC E) pc = .ok (.iastore, 1)) (hs : ly.1 a = some (.inr (0, n))) (hj : i = (j : Int)) (hn : j < n) (k : Px E (pc + 1) L st ly (sA D a j x) cu su) : Px E pc L (vI x :: vI i :: vR (eG E) a :: st) ly D cu su := by
  intro p e R s m args below meth c H locs ls C Rp S LL
  subst hj
  obtain ⟨h31, hh⟩ := Rp.2.1 a 0 n hs
  refine W.iast C.1.1 C.1.2.1 hh ((C.K.2 0 _ rfl).1 n (fun j => vI (D.2 a j))) (fun q => by cases q) (by show ¬ (_ ∨ (arrV _ _ _).slots.size ≤ _); rw [arrV_size]; exact i32_in hn h31) rfl rfl hd fun H1 e9 z oq => ?_
  refine k p e R s m args below meth c H1 _ ls C (rep_ast Rp hs ?_ z oq) (S.put z oq (Nat.le_add_right _ _)) LL
  rw [e9]
  simp only [acell]
  rw [arrV_store, i32_nat (by omega)]
  congr 2
  funext q
  by_cases hq : q = j
  · subst hq
    simp [updV, sA]
  · simp [updV, sA, hq]
theorem p_bast {a n : Nat} {i x : Int} (j : Nat) (hd : decode (eC E) pc = .ok (.bastore, 1)) (hs : ly.1 a = some (.inr (1, n))) (hj : i = (j : Int)) (hn : j < n) (hx : -128 ≤ x ∧ x ≤ 127) (k : Px E (pc + 1) L st ly (sA D a j x) cu su) : Px E pc L (vI x :: vI i :: vR (eG E) a :: st) ly D cu su := by
  intro p e R s m args below meth c H locs ls C Rp S LL
  subst hj
  obtain ⟨h31, hh⟩ := Rp.2.1 a 1 n hs
  refine W.bast C.1.1 C.1.2.1 hh ((C.K.2 1 _ rfl).1 n (fun j => vI (D.2 a j))) (fun q => by cases q) (by show ¬ (_ ∨ (arrV _ _ _).slots.size ≤ _); rw [arrV_size]; exact i32_in hn h31) rfl rfl hd fun H1 e9 z oq => ?_
  rw [show narrow .byte (.int (Int32.ofInt x)) = vI x from nar_b hx] at e9
  refine k p e R s m args below meth c H1 _ ls C (rep_ast Rp hs ?_ z oq) (S.put z oq (Nat.le_add_right _ _)) LL
  rw [e9]
  simp only [acell]
  rw [arrV_store, i32_nat (by omega)]
  congr 2
  funext q
  by_cases hq : q = j
  · subst hq
    simp [updV, sA]
  · simp [updV, sA, hq]
theorem p_zast {a n : Nat} {i x : Int} (j : Nat) (hd : decode (eC E) pc = .ok (.bastore, 1)) (hs : ly.1 a = some (.inr (2, n))) (hj : i = (j : Int)) (hn : j < n) (hx : x = 0 ∨ x = 1) (k : Px E (pc + 1) L st ly (sA D a j x) cu su) : Px E pc L (vI x :: vI i :: vR (eG E) a :: st) ly D cu su := by
  intro p e R s m args below meth c H locs ls C Rp S LL
  subst hj
  obtain ⟨h31, hh⟩ := Rp.2.1 a 2 n hs
  refine W.zast C.1.1 C.1.2.1 hh ((C.K.2 2 _ rfl).1 n (fun j => vI (D.2 a j))) (fun q => by cases q) (by show ¬ (_ ∨ (arrV _ _ _).slots.size ≤ _); rw [arrV_size]; exact i32_in hn h31) rfl rfl hd fun H1 e9 z oq => ?_
  rw [show narrow .boolean (.int (Int32.ofInt x)) = vI x from nar_z hx] at e9
  refine k p e R s m args below meth c H1 _ ls C (rep_ast Rp hs ?_ z oq) (S.put z oq (Nat.le_add_right _ _)) LL
  rw [e9]
  simp only [acell]
  rw [arrV_store, i32_nat (by omega)]
  congr 2
  funext q
  by_cases hq : q = j
  · subst hq
    simp [updV, sA]
  · simp [updV, sA, hq]
theorem p_last {a n : Nat} {i x : Int} (j : Nat) (hd : decode (eC E) pc = .ok (.lastore, 1)) (hs : ly.1 a = some (.inr (3, n))) (hj : i = (j : Int)) (hn : j < n) (k : Px E (pc + 1) L st ly (sA D a j x) cu su) : Px E pc L (vJ x :: vI i :: vR (eG E) a :: st) ly D cu su := by
  intro p e R s m args below meth c H locs ls C Rp S LL
  subst hj
  obtain ⟨h31, hh⟩ := Rp.2.1 a 3 n hs
  refine W.last C.1.1 C.1.2.1 hh ((C.K.2 3 _ rfl).1 n (fun j => vJ (D.2 a j))) (fun q => by cases q) (by show ¬ (_ ∨ (arrV _ _ _).slots.size ≤ _); rw [arrV_size]; exact i32_in hn h31) rfl rfl hd fun H1 e9 z oq => ?_
  refine k p e R s m args below meth c H1 _ ls C (rep_ast Rp hs ?_ z oq) (S.put z oq (Nat.le_add_right _ _)) LL
  rw [e9]
  simp only [acell]
  rw [arrV_store, i32_nat (by omega)]
  congr 2
  funext q
  by_cases hq : q = j
  · subst hq
    simp [updV, sA]
  · simp [updV, sA, hq]
theorem p_alen {a n ty : Nat} (hd : decode (eC E) pc = .ok (.arraylength, 1)) (hs : ly.1 a = some (.inr (ty, n))) (ht : ty = 0 ∨ ty = 1 ∨ ty = 2) (k : Px E (pc + 1) L (vI (n : Int) :: st) ly D cu su) : Px E pc L (vR (eG E) a :: st) ly D cu su := by
  intro p e R s m args below meth c H locs ls C Rp S LL
  obtain ⟨h31, hh⟩ := Rp.2.1 a ty n hs
  have k1 := (k p e R s m args below meth c H locs ls C Rp S LL)
  have e1 : vI (n : Int) = .int (Int32.ofNat n) := congrArg _ Int32.ofInt_eq_ofNat
  rw [e1] at k1
  rcases ht with rfl | rfl | rfl
  · exact W.alen (n := Int32.ofNat n) C.1.1 C.1.2.1 hh ((C.K.2 0 _ rfl).1 n (fun j => vI (D.2 a j))) (by show (arrV _ _ _).slots.size.toInt32 = _; rw [arrV_size] <;> rfl) rfl rfl hd k1
  · exact W.alen (n := Int32.ofNat n) C.1.1 C.1.2.1 hh ((C.K.2 1 _ rfl).1 n (fun j => vI (D.2 a j))) (by show (arrV _ _ _).slots.size.toInt32 = _; rw [arrV_size] <;> rfl) rfl rfl hd k1
  · exact W.alen (n := Int32.ofNat n) C.1.1 C.1.2.1 hh ((C.K.2 2 _ rfl).1 n (fun j => vI (D.2 a j))) (by show (arrV _ _ _).slots.size.toInt32 = _; rw [arrV_size] <;> rfl) rfl rfl hd k1
end PRules
