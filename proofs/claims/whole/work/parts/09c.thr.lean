set_option maxRecDepth 100000 in
theorem s_char0 {l : Launch} {g : GH} (hG : G0 l g) {n i j : Nat} (hi : i < 22) (hj : j < (strB i).length) {D : DT} {K : Int → Prop} (hK : K (strC i j)) : Sat l g yJ0_charAt_5068e cJ0_charAt_5068e 2 (some .char) 3 0 0 [vS g i, vI (j : Int)] (LF n) D (PIr n D K) := by
  refine Sat.of hG (by decide) (Nat.le_of_ble_eq_true rfl) (by simp [Value.category]) ?_
  refine p_aload_n dJ0_charAt_5068e_0 rfl ?_
  refine p_callVs (i := i) [] [] hi dJ0_charAt_5068e_1 yv_J0_isLatin1_aae02 ml_J0_492 rfl (Nat.le_of_ble_eq_true rfl) rfl (Nat.le_of_ble_eq_true rfl) (Nat.le_refl _) (Nat.le_refl _) (s_isLatin1 (K := fun v => v = 1) hG hi rfl) (fun v ly' D' hp => ?_) (fun e ly' D' hp => by obtain ⟨v', e1, _⟩ := hp; cases e1)
  obtain ⟨v', e1, rfl, rfl, rfl⟩ := hp
  cases e1
  refine p_if_eq (tgt := 16) dJ0_charAt_5068e_4 (by decide) (by omega) (fun z => absurd z (by omega)) (fun _ => ?_)
  refine p_aload_n dJ0_charAt_5068e_7 rfl ?_
  refine p_getSv hi dJ0_charAt_5068e_8 fSv ?_
  refine p_iload_n dJ0_charAt_5068e_11 rfl ?_
  refine cS_Ir (X := some (strC i j)) (f := fun v => some v) (K := fun v => v = strC i j) [.ref (adV g i), vI (j : Int)] [] dJ0_charAt_5068e_12 ys_J1_charAt_3b067 ml_J0_495 (Nat.le_of_ble_eq_true rfl) rfl (Nat.le_of_ble_eq_true rfl) (Nat.le_refl _) (Nat.le_refl _) ⟨_, rfl, rfl⟩ (fun K' h' => s_char1 hG hi hj (ok_some h')) (fun v h => ?_)
  have e2 : v = strC i j := ok_some (K := fun v => v = strC i j) h
  subst e2
  exact p_treturn dJ0_charAt_5068e_15 (Nat.le_refl _) (Nat.le_refl _) (chr_all i hi j hj).2 ⟨_, rfl, rfl, rfl, hK⟩
section Strs2
variable {E : ENV} {pc : Nat} {L : List (Option Value)} {n : Nat} {D : DT} {cu su : Nat} {β : Type} {K : β → Prop} {X : Option β}
theorem q_slen {i idx : Nat} (st : List Value) (hG : G0 (eL E) (eG E)) (hdc : decode (eC E) pc = .ok (.invokevirtual idx, 3)) (hi : i < 22) (hlink : Cond.methodLink (eY E).cls idx yJ0_length_8abf5 ∈ TB) (hd : 2 ≤ (eD E).1) (hst : (st.map fun v => v.category).sum ≤ 8) (hcu : cu ≤ (eD E).2.1) (hsu : su ≤ (eD E).2.2)
    (k : Px E (pc + 3) L (vI (strL i) :: st) (LF n) D cu su) : Px E pc L (vS (eG E) i :: st) (LF n) D cu su :=
  p_callVs (i := i) [] st hi hdc yv_J0_length_8abf5 hlink rfl hd rfl hst hcu hsu (s_slen (K := fun v => v = strL i) hG hi rfl) (fun v ly' D' hp => by
    obtain ⟨v', e1, rfl, rfl, rfl⟩ := hp
    cases e1
    exact k) (fun e ly' D' hp => by obtain ⟨v', e1, _⟩ := hp; cases e1)
theorem q_schar {i idx : Nat} {x : Int} (st : List Value) (hG : G0 (eL E) (eG E)) (hdc : decode (eC E) pc = .ok (.invokevirtual idx, 3)) (hi : i < 22) (hlink : Cond.methodLink (eY E).cls idx yJ0_charAt_5068e ∈ TB) (hd : 4 ≤ (eD E).1) (hst : (st.map fun v => v.category).sum ≤ 8) (hcu : cu ≤ (eD E).2.1) (hsu : su ≤ (eD E).2.2) (h : ok (gd ((0 : Int) ≤ x ∧ x < strL i) X) K)
    (k : ok X K → Px E (pc + 3) L (vI (strC i (Int.toNat x)) :: st) (LF n) D cu su) : Px E pc L (vI x :: vS (eG E) i :: st) (LF n) D cu su := by
  obtain ⟨h1, h9⟩ := ok_gd h
  obtain ⟨j, rfl⟩ : ∃ j : Nat, x = (j : Int) := ⟨x.toNat, by omega⟩
  have hj : j < (strB i).length := by have := h1.2; unfold strL at this; omega
  exact p_callVs (i := i) [vI (j : Int)] st hi hdc yv_J0_charAt_5068e hlink rfl hd rfl hst hcu hsu (s_char0 (K := fun v => v = strC i j) hG hi hj rfl) (fun v ly' D' hp => by
    obtain ⟨v', e1, rfl, rfl, rfl⟩ := hp
    cases e1
    exact k h9) (fun e ly' D' hp => by obtain ⟨v', e1, _⟩ := hp; cases e1)
end Strs2
/-! ===== throws ===== -/
abbrev exNs : List String := ["java/lang/RuntimeException", "java/lang/Exception"]
def oddW (e : Nat) : List Cond := [.castable (exn e) (exn e), .declares ⟨"java/lang/RuntimeException", "<init>", "(Ljava/lang/String;)V"⟩, .declares ⟨"java/lang/Exception", "<init>", "(Ljava/lang/String;)V"⟩, .declares ⟨"java/lang/Throwable", "<init>", "(Ljava/lang/String;)V"⟩]
theorem odd_at {l : Launch} {g : GH} (hG : G0 l g) {s : State} (hW : g.1.WarmedH s.vm) {e : Nat} (h : ∀ w ∈ oddW e, w ∈ lw_tbl) {w : Cond} (hw : w ∈ oddW e) (args : Array Value) : w.before args s = true := by
  have h0 := hG.2.1 w (h w hw)
  simp only [oddW, List.mem_cons, List.not_mem_nil, or_false] at hw
  rcases hw with rfl | rfl | rfl | rfl
  · exact va_Nw.use rfl (va_Nw.warmC hW (va_Nw.of rfl h0))
  · exact va_Nw.use rfl (va_Nw.warmD hW (va_Nw.of rfl h0))
  · exact va_Nw.use rfl (va_Nw.warmD hW (va_Nw.of rfl h0))
  · exact va_Nw.use rfl (va_Nw.warmD hW (va_Nw.of rfl h0))
theorem odd_ot {e : Nat} {w : Cond} (hw : w ∈ oddW e) : vx_ot w = true := by
  simp only [oddW, List.mem_cons, List.not_mem_nil, or_false] at hw
  rcases hw with rfl | rfl | rfl | rfl <;> rfl
def TW (own : String) (e ik ic : Nat) : Prop := Bundle.fit (exn e) = true ∧ Cond.classLink own ik (exn e) ∈ TB ∧ Cond.initialized (exn e) ∈ TB ∧ (∀ w ∈ vx_atS own ic (exn e) exNs, w ∈ TB ∨ w ∈ oddW e) ∧ ∀ w ∈ oddW e, w ∈ lw_tbl
set_option maxRecDepth 100000 in
theorem zu_at {E : ENV} {p : Program} {R : Room} {s : State} {m : MethodId} {meth : Method} {c : Code} (C : Cx E p R s m meth c) : vx_Zq Bundle.tN "UNASSIGNED_STACK" Bundle.steD (Af (eG E)) s s.heap ∧ vx_Zq Bundle.tN "SUPPRESSED_SENTINEL" Bundle.listD (Af (eG E)) s s.heap := by
  have hA : ∀ a : Nat, a < (eG E).1.heap.size → ¬ Af (eG E) a := fun a h => Nat.not_le.mpr h
  have hs := flat_of_before _ C.2.2.2.1.2.2.2.2
  have h1 := vx_Zqof (A := Af (eG E)) (C.2.2.2.1.2.1 (.laysStatic Bundle.tN "UNASSIGNED_STACK" Bundle.steD) (by decide +kernel)) (C.2.2.2.1.2.1 (.initialized Bundle.tN) (by decide +kernel)) (hs (Cond.isRef (.static Bundle.tN "UNASSIGNED_STACK" Bundle.steD)) (by decide +kernel)) hA
  have h2 := vx_Zqof (A := Af (eG E)) (C.2.2.2.1.2.1 (.laysStatic Bundle.tN "SUPPRESSED_SENTINEL" Bundle.listD) (by decide +kernel)) (C.2.2.2.1.2.1 (.initialized Bundle.tN) (by decide +kernel)) (hs (Cond.isRef (.static Bundle.tN "SUPPRESSED_SENTINEL" Bundle.listD)) (by decide +kernel)) hA
  exact ⟨(vx_Zq.moved C.2.2.2.2.1.alike h1).kept (fun a h _ => C.2.2.2.2.2.2 a h), (vx_Zq.moved C.2.2.2.2.1.alike h2).kept (fun a h _ => C.2.2.2.2.2.2 a h)⟩
theorem rep_more {g : GH} {D : DT} {H H1 : Heap} {n : Nat} (Rp : Rep g (LF n) D H) (h1 : H.size ≤ H1.size) (h2 : ∀ q : Nat, q < H.size → H1[q]? = H[q]?) : ∃ n', Rep g (LF n') D H1 := by
  refine ⟨H1.size - g.1.heap.size, fun a ci h => ?_, fun a ty k h => ?_, ?_⟩
  · obtain ⟨r, e, cell, q1, q2⟩ := Rp.1 a ci h
    exact ⟨r, e, cell, by rw [h2 _ (Array.getElem?_eq_some_iff.mp q1).1]; exact q1, q2⟩
  · obtain ⟨e, q1⟩ := Rp.2.1 a ty k h
    exact ⟨e, by rw [h2 _ (Array.getElem?_eq_some_iff.mp q1).1]; exact q1⟩
  · have : H.size = g.1.heap.size + n := Rp.2.2
    show H1.size = g.1.heap.size + (H1.size - g.1.heap.size)
    omega
section Throws
variable {l : Launch} {g : GH} {y : MethodName} {cc : ByteArray} {nL : Nat} {ret : Option FieldType} {d mc ms : Nat} {P : PT} {pc : Nat} {L : List (Option Value)} {st : List Value} {n : Nat} {D : DT} {cu su : Nat}
theorem p_throwS {e i ik is ic : Nat} (hG : G0 l g) (tw : TW y.cls e ik ic) (hi : i < 39) (hO : strOs.getD i "" = y.cls) (hk : strKs.getD i 0 = is) (d0 : decode cc pc = .ok (.new ik, 3)) (d3 : decode cc (pc + 3) = .ok (.dup, 1)) (d4 : decode cc (pc + 4) = .ok (.ldc is, 2)) (d6 : decode cc (pc + 6) = .ok (.invokespecial ic, 3)) (d9 : decode cc (pc + 9) = .ok (.athrow, 1)) (hd : 8 ≤ d) (hcu : cu + 1 ≤ mc) (hsu : su + 6 ≤ ms) (hst : (st.map fun v => v.category).sum ≤ 8) (hp : ∀ n', P (.inr e) (LF n') D) :
    Px (mkE l g y cc nL ret [] d mc ms P) pc L st (LF n) D cu su := by
  intro p e9 R s m args below meth c H locs ls C Rp S LL
  obtain ⟨t1, t2, t3, t4, t5⟩ := tw
  have hz := zu_at C
  have hr := str_rf C hi
  rw [hO, hk] at hr
  have r1 : d ≤ R.frames := C.2.1.1
  have r2 : 64 * d ≤ R.locals := C.2.1.2.1
  have r3 : mc ≤ R.cells := C.2.1.2.2.1
  have r4 : ms ≤ R.slots := C.2.1.2.2.2
  refine vx_throwS C.1.1 C.1.2.1 hG.1 (A := Af g) (names := exNs) C.1.2.2.2.1 t1 (by decide +kernel) (C.w t2 args) (C.w t3 args) hr (fun w hw => (t4 w hw).elim (fun h => C.w h args) (fun h => odd_at hG C.2.2.2.2.1 t5 h args)) (fun w hw => ?_) hz.1 hz.2 S (LL.1.trans C.1.2.2.1.symm) d0 d3 d4 d6 d9 (fun x hx => by rw [C.2.2.1 _ rfl] at hx; cases hx) ?_ ?_ (by omega) (by omega) C.1.2.2.2.2.2.1 (fun t hal h1 h2 => ?_) S.2.2 hcu hsu
  · have : w ∈ TB ∨ w ∈ oddW e := by
      rcases List.mem_cons.mp hw with rfl | hw
      · exact Or.inl t2
      · rcases List.mem_cons.mp hw with rfl | hw
        · exact Or.inl t3
        · exact t4 w hw
    rcases this with h | h
    · unfold vx_ot
      rw [(List.mem_filter.mp h).2]
      simp
    · exact odd_ot h
  · show 2 + 3 < R.frames
    omega
  · show (st.map fun v => v.category).sum + (13 * (2 + 1) + 43) ≤ R.locals
    omega
  · obtain ⟨n', hR⟩ := rep_more Rp h1 h2
    exact ⟨⟨e, LF n', D, rfl, hp n', hR⟩, Nat.le_trans S.1 h1, fun q hq hA => by rw [h2 q (Nat.lt_of_lt_of_le hq S.1)]; exact S.2.1 q hq hA⟩
theorem p_throwW {e i ik is ic : Nat} (hG : G0 l g) (tw : TW y.cls e ik ic) (hi : i < 39) (hO : strOs.getD i "" = y.cls) (hk : strKs.getD i 0 = is) (d0 : decode cc pc = .ok (.new ik, 3)) (d3 : decode cc (pc + 3) = .ok (.dup, 1)) (d4 : decode cc (pc + 4) = .ok (.ldc_w is, 3)) (d6 : decode cc (pc + 7) = .ok (.invokespecial ic, 3)) (d9 : decode cc (pc + 10) = .ok (.athrow, 1)) (hd : 8 ≤ d) (hcu : cu + 1 ≤ mc) (hsu : su + 6 ≤ ms) (hst : (st.map fun v => v.category).sum ≤ 8) (hp : ∀ n', P (.inr e) (LF n') D) :
    Px (mkE l g y cc nL ret [] d mc ms P) pc L st (LF n) D cu su := by
  intro p e9 R s m args below meth c H locs ls C Rp S LL
  obtain ⟨t1, t2, t3, t4, t5⟩ := tw
  have hz := zu_at C
  have hr := str_rf C hi
  rw [hO, hk] at hr
  have r1 : d ≤ R.frames := C.2.1.1
  have r2 : 64 * d ≤ R.locals := C.2.1.2.1
  have r3 : mc ≤ R.cells := C.2.1.2.2.1
  have r4 : ms ≤ R.slots := C.2.1.2.2.2
  refine vx_throwSW C.1.1 C.1.2.1 hG.1 (A := Af g) (names := exNs) C.1.2.2.2.1 t1 (by decide +kernel) (C.w t2 args) (C.w t3 args) hr (fun w hw => (t4 w hw).elim (fun h => C.w h args) (fun h => odd_at hG C.2.2.2.2.1 t5 h args)) (fun w hw => ?_) hz.1 hz.2 S (LL.1.trans C.1.2.2.1.symm) d0 d3 d4 d6 d9 (fun x hx => by rw [C.2.2.1 _ rfl] at hx; cases hx) ?_ ?_ (by omega) (by omega) C.1.2.2.2.2.2.1 (fun t hal h1 h2 => ?_) S.2.2 hcu hsu
  · have : w ∈ TB ∨ w ∈ oddW e := by
      rcases List.mem_cons.mp hw with rfl | hw
      · exact Or.inl t2
      · rcases List.mem_cons.mp hw with rfl | hw
        · exact Or.inl t3
        · exact t4 w hw
    rcases this with h | h
    · unfold vx_ot
      rw [(List.mem_filter.mp h).2]
      simp
    · exact odd_ot h
  · show 2 + 3 < R.frames
    omega
  · show (st.map fun v => v.category).sum + (13 * (2 + 1) + 43) ≤ R.locals
    omega
  · obtain ⟨n', hR⟩ := rep_more Rp h1 h2
    exact ⟨⟨e, LF n', D, rfl, hp n', hR⟩, Nat.le_trans S.1 h1, fun q hq hA => by rw [h2 q (Nat.lt_of_lt_of_le hq S.1)]; exact S.2.1 q hq hA⟩
end Throws
set_option maxRecDepth 100000 in
theorem tw_0 : TW RX10 0 308 312 := ⟨by decide +kernel, TBm (i := 896) rfl rfl, TBm (i := 151) rfl rfl, by decide +kernel, by decide +kernel⟩
set_option maxRecDepth 100000 in
theorem tw_2 : TW RX10 2 62 66 := ⟨by decide +kernel, TBm (i := 786) rfl rfl, TBm (i := 150) rfl rfl, by decide +kernel, by decide +kernel⟩
