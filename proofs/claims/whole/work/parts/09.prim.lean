/-! ===== arraycopy, fill, switches, constants ===== -/
def sCopy (D : DT) (a0 sp a dp n : Nat) : DT := (D.1, fun a' k => if a' = a ∧ dp ≤ k ∧ k < dp + n then D.2 a0 (sp + (k - dp)) else D.2 a' k)
def sFill (D : DT) (a n : Nat) (v : Int) : DT := (D.1, fun a' k => if a' = a ∧ k < n then v else D.2 a' k)
theorem lk2 {d o0 o1 a : Int} (h0 : ¬ a = 0) (h1 : ¬ a = 1) : Op.lookupswitch.offset [(0, o0), (1, o1)] d a = d := by
  simp [Op.lookupswitch.offset, h0, h1, Ne.symm h0, Ne.symm h1]
theorem rep_cells {g : GH} {ly : LY} {D D1 : DT} {H H1 : Heap} {a ty n : Nat} (Rp : Rep g ly D H) (hs : ly.1 a = some (.inr (ty, n))) (e1 : H1[g.1.heap.size + a]? = some (acell (g.2.2.2.1 ty) ty n (D1.2 a))) (e2 : H1.size = H.size) (e3 : ∀ q, q ≠ g.1.heap.size + a → H1[q]? = H[q]?) (f1 : D1.1 = D.1) (f2 : ∀ a', a' ≠ a → D1.2 a' = D.2 a') : Rep g ly D1 H1 := by
  refine ⟨fun a' ci' h' => ?_, fun a' ty' n' h' => ?_, by rw [e2]; exact Rp.2.2⟩
  · obtain ⟨r, h1, ob⟩ := Rp.1 a' ci' h'
    have ea : a' ≠ a := fun z => by rw [z, hs] at h'; cases h'
    rw [f1]
    exact ⟨r, h1, ob.kept (e3 _ (fun z => ea (Nat.add_left_cancel z)))⟩
  · obtain ⟨hn, hh⟩ := Rp.2.1 a' ty' n' h'
    refine ⟨hn, ?_⟩
    by_cases ea : a' = a
    · subst ea
      rw [hs] at h'
      cases h'
      exact e1
    · rw [e3 _ (fun z => ea (Nat.add_left_cancel z)), hh, f2 a' ea]
section Prims
variable {E : ENV} {pc : Nat} {L : List (Option Value)} {ly : LY} {D : DT} {cu su : Nat} {β : Type} {K : β → Prop} {X : Option β}
theorem clamp_i {z : Int} (h0 : 0 ≤ z) (h1 : z ≤ 2147483647) : (Int32.ofInt z).toNatClampNeg = z.toNat := by
  obtain ⟨j, rfl⟩ : ∃ j : Nat, z = (j : Int) := ⟨z.toNat, by omega⟩
  rw [i32_nat (by omega)]; omega
theorem nneg_i {z : Int} (h0 : 0 ≤ z) (h1 : z ≤ 2147483647) : ¬ Int32.ofInt z < 0 := by
  rw [i32_0, i32_lt (by omega) r0]; omega
/-- the machine's part of a copy between two rows of one primitive type -/
theorem copy_core {f : DT → Option β} {a0 a n0 n1 idx ty : Nat} {ft : FieldType} {sp dp n : Int} (st : List Value) (hdc : decode (eC E) pc = .ok (.invokestatic idx, 3)) (hs0 : ly.1 a0 = some (.inr (ty, n0))) (hs1 : ly.1 a = some (.inr (ty, n1))) (hlink : Cond.methodLink (eY E).cls idx arraycopyName ∈ TB)
    (hw : Cond.native arraycopyName ∈ TB ∧ Cond.static arraycopyName ∈ TB ∧ Cond.initialized "java/lang/System" ∈ TB)
    (hd : 1 ≤ (eD E).1) (hst : (st.map fun v => v.category).sum ≤ 8) (hty : (tysL (eG E))[ty]? = some ((eG E).2.2.2.1 ty, ft)) (hrk : refKind ft = false) (hac : ∀ (cA : ClassId) (n : Nat) (f : Nat → Int), acell cA ty n f = arrV cA n (fun j => .int (Int32.ofInt (f j))))
    (hg : a0 ≠ a ∧ (0 ≤ sp ∧ sp + n ≤ (n0 : Int)) ∧ (0 ≤ dp ∧ dp + n ≤ (n1 : Int)) ∧ 0 ≤ n) (hfit : ∀ i, i < n.toNat → fits ft (vI (D.2 a0 (sp.toNat + i))) = true)
    (k : Px E (pc + 3) L st ly (sCopy D a0 sp.toNat a dp.toNat n.toNat) cu su) : Px E pc L (vI n :: vI dp :: vR (eG E) a :: vI sp :: vR (eG E) a0 :: st) ly D cu su := by
  intro p e R s m args below meth c H locs ls C Rp S LL
  obtain ⟨m0, hc0⟩ := Rp.2.1 a0 ty n0 hs0
  obtain ⟨m1, hc1⟩ := Rp.2.1 a ty n1 hs1
  rw [hac] at hc0 hc1
  obtain ⟨hne, ⟨g1, g2⟩, ⟨g3, g4⟩, g5⟩ := hg
  have cs := clamp_i (z := sp) g1 (by omega)
  have cd := clamp_i (z := dp) g3 (by omega)
  have cn := clamp_i (z := n) g5 (by omega)
  have ns := nneg_i (z := sp) g1 (by omega)
  have nd := nneg_i (z := dp) g3 (by omega)
  have nn := nneg_i (z := n) g5 (by omega)
  intro T hT X
  obtain ⟨-, k0, hk0, cm0, hkk0⟩ := (C.K.2 ty _ hty).1 n0 (fun j => .int (Int32.ofInt (D.2 a0 j)))
  obtain ⟨-, k1, hk1, cm1, hkk1⟩ := (C.K.2 ty _ hty).1 n1 (fun j => .int (Int32.ofInt (D.2 a j)))
  obtain ⟨vm', X', step⟩ := X.arraycopy C.1.1 C.1.2.2.2.1 (C.w hlink args) (C.w hw.1 args) (C.w hw.2.1 args) (C.w hw.2.2 args) (src := (eG E).1.heap.size + a0) (dst := (eG E).1.heap.size + a) (cs := arrV ((eG E).2.2.2.1 ty) n0 (fun j => .int (Int32.ofInt (D.2 a0 j)))) (cd := arrV ((eG E).2.2.2.1 ty) n1 (fun j => .int (Int32.ofInt (D.2 a j)))) (srcPos := Int32.ofInt sp) (destPos := Int32.ofInt dp) (n := Int32.ofInt n) (by rw [hT]; exact hc0) (by rw [hT]; exact hc1)
    (fun _ h => by cases h) (fun _ h => by cases h) (fun h => by cases h) (fun h => by cases h) hk0 hk1 hkk0 hkk1 (by simp [hrk]) ns nd nn
    (by rw [i32_to (by omega), i32_to (by omega), arrV_size]; omega)
    (by rw [i32_to (by omega), i32_to (by omega), arrV_size]; omega)
    (fun vm₁ _ i hi => by
      rw [cn] at hi
      have e : (arrV ((eG E).2.2.2.1 ty) n0 (fun j => .int (Int32.ofInt (D.2 a0 j)))).slots.getD ((Int32.ofInt sp).toNatClampNeg + i) .null = .int (Int32.ofInt (D.2 a0 (sp.toNat + i))) := by
        rw [Array.getD_eq_getD_getElem?, cs, arrV_read _ _ (by omega)]
        rfl
      refine ⟨?_, ?_⟩
      · rw [e]
        exact hfit i hi
      · rw [e]
        exact trivial)
    (g := F0 m pc ls (vI n :: vI dp :: vR (eG E) a :: vI sp :: vR (eG E) a0 :: st)) rfl (by rw [C.1.2.2.1]; exact LL.1) (rest := st) rfl (by rw [C.1.2.1]; exact hdc) (Nat.le_trans hd C.2.1.1)
    (by
      have r2 := C.2.1.2.1
      have : nativeFrameWords "java/lang/System" "arraycopy" 5 + 11 ≤ 50 := by decide +kernel
      show 2 * 0 + _ + _ ≤ _
      omega)
  have e1 : copied (arrV ((eG E).2.2.2.1 ty) n0 (fun j => .int (Int32.ofInt (D.2 a0 j)))) (arrV ((eG E).2.2.2.1 ty) n1 (fun j => .int (Int32.ofInt (D.2 a j)))) (Int32.ofInt sp) (Int32.ofInt dp) (Int32.ofInt n) = arrV ((eG E).2.2.2.1 ty) n1 (fun j => .int (Int32.ofInt ((sCopy D a0 sp.toNat a dp.toNat n.toNat).2 a j))) := by
    have q := va_copied (fun z => Value.int z) ((eG E).2.2.2.1 ty) ((eG E).2.2.2.1 ty) (n0 := n0) (n1 := n1) (sp := (Int32.ofInt sp).toNatClampNeg) (dp := (Int32.ofInt dp).toNatClampNeg) (n := (Int32.ofInt n).toNatClampNeg) (fun j => Int32.ofInt (D.2 a0 j)) (fun j => Int32.ofInt (D.2 a j)) (by omega)
    refine Eq.trans q ?_
    congr 1
    funext j
    rw [cs, cd, cn]
    simp only [va_cpy, sCopy, true_and]
    split <;> rfl
  rw [e1] at X' step
  have hl : (eG E).1.heap.size + a < H.size := (Array.getElem?_eq_some_iff.mp hc1).1
  obtain ⟨C9, hC9⟩ : ∃ z, z = arrV ((eG E).2.2.2.1 ty) n1 (fun j => Value.int (Int32.ofInt ((sCopy D a0 sp.toNat a dp.toNat n.toNat).2 a j))) := ⟨_, rfl⟩
  rw [← hC9] at X' step
  have hheap : ((T.setVm vm').setCell ((eG E).1.heap.size + a) C9).heap = H.setIfInBounds ((eG E).1.heap.size + a) C9 := by rw [← hT]; rfl
  have oq : ∀ q : Nat, q ≠ (eG E).1.heap.size + a → (H.setIfInBounds ((eG E).1.heap.size + a) C9)[q]? = H[q]? := fun q hq => by simp [Array.getElem?_setIfInBounds, Ne.symm hq]
  obtain ⟨t, a1, b1⟩ := k p e R s m args below meth c (H.setIfInBounds ((eG E).1.heap.size + a) C9) _ ls C (rep_cells Rp hs1 (by rw [hac, ← hC9]; simp [Array.getElem?_setIfInBounds, hl]) (by simp) oq rfl (fun a' h => by funext k; simp [sCopy, h]))
    ⟨by simp; exact S.1, fun q g1 g2 => by
      rw [oq q (fun e => g2 (by rw [e]; exact Nat.le_add_right _ _))]
      exact S.2.1 q g1 g2, fun q hq => by
      rcases List.mem_append.mp hq with h | h
      · exact S.2.2 q h
      · obtain ⟨z, -, hz⟩ := List.mem_map.mp h
        rw [← hz]
        exact Nat.le_add_right _ _⟩ LL _ hheap X'
  exact ⟨t, step t a1, b1⟩
theorem q_copyi {f : DT → Option β} {a0 a n0 n1 idx : Nat} {sp dp n N0 N1 : Int} (st : List Value) (hdc : decode (eC E) pc = .ok (.invokestatic idx, 3)) (hs0 : ly.1 a0 = some (.inr (0, n0))) (hs1 : ly.1 a = some (.inr (0, n1))) (hlink : Cond.methodLink (eY E).cls idx arraycopyName ∈ TB) (hw : Cond.native arraycopyName ∈ TB ∧ Cond.static arraycopyName ∈ TB ∧ Cond.initialized "java/lang/System" ∈ TB) (hd : 1 ≤ (eD E).1) (hst : (st.map fun v => v.category).sum ≤ 8) (hN0 : (n0 : Int) = N0) (hN1 : (n1 : Int) = N1)
    (h : ok (gd (a0 ≠ a ∧ (0 ≤ sp ∧ sp + n ≤ N0) ∧ (0 ≤ dp ∧ dp + n ≤ N1) ∧ 0 ≤ n) (sq (sCopy D a0 sp.toNat a dp.toNat n.toNat) f)) K) (k : ∀ D, ok (f D) K → Px E (pc + 3) L st ly D cu su) : Px E pc L (vI n :: vI dp :: vR (eG E) a :: vI sp :: vR (eG E) a0 :: st) ly D cu su := by
  subst hN0; subst hN1
  obtain ⟨hg, h⟩ := ok_gd h
  exact copy_core (f := f) st hdc hs0 hs1 hlink hw hd hst rfl rfl (fun _ _ _ => rfl) hg (fun _ _ => rfl) (k _ h)
theorem q_copyb {f : DT → Option β} {a0 a n0 n1 idx : Nat} {sp dp n N0 N1 : Int} (st : List Value) (hdc : decode (eC E) pc = .ok (.invokestatic idx, 3)) (hs0 : ly.1 a0 = some (.inr (1, n0))) (hs1 : ly.1 a = some (.inr (1, n1))) (hlink : Cond.methodLink (eY E).cls idx arraycopyName ∈ TB) (hw : Cond.native arraycopyName ∈ TB ∧ Cond.static arraycopyName ∈ TB ∧ Cond.initialized "java/lang/System" ∈ TB) (hd : 1 ≤ (eD E).1) (hst : (st.map fun v => v.category).sum ≤ 8) (hN0 : (n0 : Int) = N0) (hN1 : (n1 : Int) = N1)
    (h : ok (gd ((a0 ≠ a ∧ (0 ≤ sp ∧ sp + n ≤ N0) ∧ (0 ≤ dp ∧ dp + n ≤ N1) ∧ 0 ≤ n) ∧ ∀ i, i < n.toNat → -128 ≤ D.2 a0 (sp.toNat + i) ∧ D.2 a0 (sp.toNat + i) ≤ 127) (sq (sCopy D a0 sp.toNat a dp.toNat n.toNat) f)) K) (k : ∀ D, ok (f D) K → Px E (pc + 3) L st ly D cu su) : Px E pc L (vI n :: vI dp :: vR (eG E) a :: vI sp :: vR (eG E) a0 :: st) ly D cu su := by
  subst hN0; subst hN1
  obtain ⟨hg, h⟩ := ok_gd h
  exact copy_core (f := f) st hdc hs0 hs1 hlink hw hd hst rfl rfl (fun _ _ _ => rfl) hg.1 (fun i hi => fit_b (hg.2 i hi)) (k _ h)
end Prims
abbrev E_fill (l : Launch) (g : GH) (P : PT) : ENV := mkE l g yJ7_fill_53178 cJ7_fill_53178 4 none [] 0 0 0 P
set_option maxRecDepth 100000 in
theorem x_fill {l : Launch} {g : GH} {n a N : Nat} {v : Int} {K : DT → Prop} {D : DT} (hs : (LF n).1 a = some (.inr (0, N))) (hN : N ≤ 2147483647) (hK : K (sFill D a N v)) : ∀ (k i : Nat), i ≤ N → N ≤ i + k → Px (E_fill l g (PVw n K)) 5 [some (vR g a), some (vI v), some (vI (i : Int)), some (vI (N : Int))] [] (LF n) (sFill D a i v) 0 0 := by
  intro k
  induction k with
  | zero =>
    intro i h1 h2
    refine p_iload_n dJ7_fill_53178_5 rfl ?_
    refine p_iload_n dJ7_fill_53178_6 rfl ?_
    refine p_icmp_ge (tgt := 20) dJ7_fill_53178_7 (by decide) (by omega) (by omega) (fun _ => ?_) (fun z => absurd z (by omega))
    have e : i = N := by omega
    subst e
    exact p_return dJ7_fill_53178_20 (Nat.le_refl _) (Nat.le_refl _) ⟨rfl, rfl, hK⟩
  | succ k ih =>
    intro i h1 h2
    refine p_iload_n dJ7_fill_53178_5 rfl ?_
    refine p_iload_n dJ7_fill_53178_6 rfl ?_
    refine p_icmp_ge (tgt := 20) dJ7_fill_53178_7 (by decide) (by omega) (by omega) (fun _ => ?_) (fun z => ?_)
    · have e : i = N := by omega
      subst e
      exact p_return dJ7_fill_53178_20 (Nat.le_refl _) (Nat.le_refl _) ⟨rfl, rfl, hK⟩
    · refine p_aload_n dJ7_fill_53178_10 rfl ?_
      refine p_iload_n dJ7_fill_53178_11 rfl ?_
      refine p_iload_n dJ7_fill_53178_12 rfl ?_
      refine p_iast (n := N) i dJ7_fill_53178_13 hs rfl (by omega) ?_
      refine p_iinc dJ7_fill_53178_14 rfl (Nat.le_of_ble_eq_true rfl) rfl ?_
      refine p_goto (tgt := 5) dJ7_fill_53178_17 (by decide) ?_
      have e : sA (sFill D a i v) a i v = sFill D a (i + 1) v := by
        unfold sA sFill
        congr 1
        funext a' k'
        by_cases ea : a' = a
        · by_cases ek : k' = i
          · simp [ea, ek]
          · have : (k' < i) = (k' < i + 1) := propext (by omega)
            simp [ea, ek, this]
        · simp [ea]
      rw [e]
      exact ih (i + 1) (by omega) (by omega)
set_option maxRecDepth 100000 in
theorem s_fill {l : Launch} {g : GH} (hG : G0 l g) {n a N : Nat} {v : Int} {K : DT → Prop} {D : DT} (hs : (LF n).1 a = some (.inr (0, N))) (hN : N ≤ 2147483647) (hK : K (sFill D a N v)) : Sat l g yJ7_fill_53178 cJ7_fill_53178 4 none 0 0 0 [vR g a, vI v] (LF n) D (PVw n K) := by
  refine Sat.of hG (by decide) (Nat.le_of_ble_eq_true rfl) (by simp [Value.category]) ?_
  refine p_iconst dJ7_fill_53178_0 ?_
  refine p_istore_n dJ7_fill_53178_1 (Nat.le_of_ble_eq_true rfl) rfl ?_
  refine p_aload_n dJ7_fill_53178_2 rfl ?_
  refine p_alen dJ7_fill_53178_3 hs (Or.inl rfl) ?_
  refine p_istore_n dJ7_fill_53178_4 (Nat.le_of_ble_eq_true rfl) rfl ?_
  have h := x_fill (l := l) (g := g) hs hN hK N 0 (Nat.zero_le _) (by omega)
  have e : sFill D a 0 v = D := by
    unfold sFill
    have : (fun a' k => if a' = a ∧ k < 0 then v else D.2 a' k) = D.2 := by funext a' k; simp
    rw [this]
  rw [e] at h
  exact h
theorem q_fill {E : ENV} {pc : Nat} {L : List (Option Value)} {D : DT} {cu su n : Nat} {β : Type} {K : β → Prop} {f : DT → Option β} {a N idx : Nat} {v : Int} (st : List Value) (hG : G0 (eL E) (eG E)) (hdc : decode (eC E) pc = .ok (.invokestatic idx, 3)) (hs : (LF n).1 a = some (.inr (0, N))) (hlink : Cond.methodLink (eY E).cls idx yJ7_fill_53178 ∈ TB) (hd : 1 ≤ (eD E).1) (hst : (st.map fun v => v.category).sum ≤ 8) (hN : N ≤ 2147483647) (hcu : cu ≤ (eD E).2.1) (hsu : su ≤ (eD E).2.2)
    (h : ok (sq (sFill D a N v) f) K) (k : ∀ D, ok (f D) K → Px E (pc + 3) L st (LF n) D cu su) : Px E pc L (vI v :: vR (eG E) a :: st) (LF n) D cu su :=
  cS_Vw (X := some (sFill D a N v)) (f := f) [vR (eG E) a, vI v] st hdc ys_J7_fill_53178 hlink hd rfl hst hcu hsu h (fun K' h' => s_fill hG hs hN (ok_some h')) (fun D h => k D h)
