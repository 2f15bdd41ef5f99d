theorem q_max {E : ENV} {pc : Nat} {L : List (Option Value)} {ly : LY} {D : DT} {cu su : Nat} {β : Type} {K : β → Prop} {X : Option β} {idx : Nat} {a b : Int} (st : List Value) (hdc : decode (eC E) pc = .ok (.invokestatic idx, 3)) (hlink : Cond.methodLink (eY E).cls idx yJ9_max_7cf53 ∈ TB) (hd : 1 ≤ (eD E).1) (hst : (st.map fun v => v.category).sum ≤ 8) (hcu : cu ≤ (eD E).2.1) (hsu : su ≤ (eD E).2.2) (h : ok (gd (InR a ∧ InR b) X) K) (k : ok X K → Px E (pc + 3) L (vI (max a b) :: st) ly D cu su) : Px E pc L (vI b :: vI a :: st) ly D cu su := by
  intro p e R s m args below meth c H locs ls C Rp S LL
  obtain ⟨h1, h⟩ := ok_gd h
  have r1 := C.2.1.1
  have r2 := C.2.1.2.1
  refine va_mmax C.1.1 C.1.2.1 (C.1.2.2.1.trans LL.1.symm) C.1.2.2.2.1 (C.w hlink args) (C.w ys_J9_max_7cf53.2 args) (C.w ys_J9_max_7cf53.1.2.1 args) (C.w (w := Cond.code Lib.Math.max.name Lib.Math.max.code 2 (some .int)) (by rw [show Lib.Math.max.code = cJ9_max_7cf53 by decide +kernel]; exact ys_J9_max_7cf53.1.1) args) (by omega) (by omega) (Nat.le_trans hcu C.2.1.2.2.1) (Nat.le_trans hsu C.2.1.2.2.2) hdc ?_
  have k1 := k h p e R s m args below meth c H locs ls C Rp S LL
  have q := i32_lt h1.1 h1.2
  have e1 : vI (max a b) = .int (if Int32.ofInt a < Int32.ofInt b then Int32.ofInt b else Int32.ofInt a) := by
    by_cases z : a < b
    · rw [if_pos (q.mpr z), show max a b = b by omega]
    · rw [if_neg (fun w => z (q.mp w)), show max a b = a by omega]
  rw [e1] at k1
  exact k1
theorem q_min {E : ENV} {pc : Nat} {L : List (Option Value)} {ly : LY} {D : DT} {cu su : Nat} {β : Type} {K : β → Prop} {X : Option β} {idx : Nat} {a b : Int} (st : List Value) (hdc : decode (eC E) pc = .ok (.invokestatic idx, 3)) (hlink : Cond.methodLink (eY E).cls idx yJ9_min_7cf53 ∈ TB) (hd : 1 ≤ (eD E).1) (hst : (st.map fun v => v.category).sum ≤ 8) (hcu : cu ≤ (eD E).2.1) (hsu : su ≤ (eD E).2.2) (h : ok (gd (InR a ∧ InR b) X) K) (k : ok X K → Px E (pc + 3) L (vI (min a b) :: st) ly D cu su) : Px E pc L (vI b :: vI a :: st) ly D cu su := by
  intro p e R s m args below meth c H locs ls C Rp S LL
  obtain ⟨h1, h⟩ := ok_gd h
  have r1 := C.2.1.1
  have r2 := C.2.1.2.1
  refine va_mmin C.1.1 C.1.2.1 (C.1.2.2.1.trans LL.1.symm) C.1.2.2.2.1 (C.w hlink args) (C.w ys_J9_min_7cf53.2 args) (C.w ys_J9_min_7cf53.1.2.1 args) (C.w (w := Cond.code Lib.Math.min.name Lib.Math.min.code 2 (some .int)) (by rw [show Lib.Math.min.code = cJ9_min_7cf53 by decide +kernel]; exact ys_J9_min_7cf53.1.1) args) (by omega) (by omega) (Nat.le_trans hcu C.2.1.2.2.1) (Nat.le_trans hsu C.2.1.2.2.2) hdc ?_
  have k1 := k h p e R s m args below meth c H locs ls C Rp S LL
  have q := i32_lt h1.2 h1.1
  have e1 : vI (min a b) = .int (if Int32.ofInt b < Int32.ofInt a then Int32.ofInt b else Int32.ofInt a) := by
    by_cases z : b < a
    · rw [if_pos (q.mpr z), show min a b = b by omega]
    · rw [if_neg (fun w => z (q.mp w)), show min a b = a by omega]
  rw [e1] at k1
  exact k1
theorem p_ldcSW {E : ENV} {pc : Nat} {L : List (Option Value)} {st : List Value} {ly : LY} {D : DT} {cu su : Nat} {i idx : Nat} {g : GH} {l : Launch} (hG : G0 l g) (hd : decode (eC E) pc = .ok (.ldc_w idx, 3)) (hi : i < 39) (hO : strOs.getD i "" = (eY E).cls) (hk : strKs.getD i 0 = idx) (k : Px E (pc + 3) L (vS (eG E) i :: st) ly D cu su) : Px E pc L st ly D cu su := by
  intro p e R s m args below meth c H locs ls C Rp S LL
  have h := str_rf C hi
  rw [hO, hk] at h
  intro T hT X
  obtain ⟨t, a1, b1⟩ := k p e R s m args below meth c H locs ls C Rp S LL T hT X
  exact ⟨t, X.ldcStringW C.1.1 C.1.2.2.2.1 h.1 h.2 (g := F0 m pc ls st) rfl (by rw [C.1.2.1]; exact hd) t a1, b1⟩
/-! ===== an exception whose constructor links its super's elsewhere (NoSuchElementException: 13) ===== -/
def nsX : String := "java/util/NoSuchElementException"
abbrev nsCode : ByteArray := prog_30_method_4_code
def nsAtoms (own : String) (ic : Nat) : List Cond :=
  Bundle.throwableAtoms ++ Bundle.throwableSAtoms ++ Bundle.passSAtoms nsX "java/lang/RuntimeException" 13 nsCode ++ Bundle.chainSAtoms "java/lang/RuntimeException" ["java/lang/Exception"] ++
  [.methodLink own ic (Bundle.initS nsX), .instantiable nsX 6, .castable nsX nsX, .selects nsX Bundle.tFill0 Bundle.tFill0, .selects nsX Bundle.tFill Bundle.tFill,
   .lays nsX Bundle.tN "cause" "Ljava/lang/Throwable;", .lays nsX Bundle.tN "stackTrace" Bundle.steD, .lays nsX Bundle.tN "suppressedExceptions" Bundle.listD, .lays nsX Bundle.tN "detailMessage" "Ljava/lang/String;",
   .isRef (.static Bundle.tN "UNASSIGNED_STACK" Bundle.steD), .isRef (.static Bundle.tN "SUPPRESSED_SENTINEL" Bundle.listD),
   .fieldLink Bundle.tN 198 Bundle.tN "backtrace" "Ljava/lang/Object;", .lays Bundle.tN Bundle.tN "backtrace" "Ljava/lang/Object;", .lays nsX Bundle.tN "backtrace" "Ljava/lang/Object;"]
set_option maxHeartbeats 4000000 in
theorem ns_ctor {p : Program} {l : Launch} {e : Env} {R : Room} {s : State} {m₀ : MethodId} {args : Array Value} {below : List Frame} {meth : Method} {c : Code} {W : State} {locs : List Loc} {cells slots : Nat}
    (X : Stand p l e R s m₀ args below meth c W locs cells slots) (hexec : p.tables.exec = Jvm.exec) (htr : e.platform.stackTraces = false) {own : String} {ic : Nat}
    (hown : s.vm.findClass own = some m₀.cls) (h : ∀ a ∈ nsAtoms own ic, a.before args s = true)
    (hlocs : ∀ x ∈ locs, ∀ cell, s.heap[x.base]? = some cell → cell.vm.isStatics = false)
    {a : Addr} {cX : ClassId} {kX : Class} (hfoundX : s.vm.findClass nsX = some cX) (hkX : s.vm.classes[cX]? = some kX) (hcell : W.heap[a]? = some (freshCell cX kX)) (hnew : s.heap.size ≤ a)
    {msg : Value} (hmsg : msg.isRef = true)
    {g : JFrame} (hg : g.method = m₀) (hsize : g.locals.size = c.maxLocals) (hlocked : g.locked = none) (hentered : g.entered = []) {rest : List Value} (hstack : g.stack = msg :: .ref a :: .ref a :: rest)
    (hd6 : decode c.code g.pc = .ok (.invokespecial ic, 3)) (hd9 : decode c.code (g.pc + 3) = .ok (.athrow, 1)) (hout : ∀ x ∈ c.exceptionTable.toList, covers x (g.pc + 3) = false)
    (hRframes : 5 < R.frames) (hRlocals : 2 * g.monitorRoom + ((Value.ref a :: rest).map fun v => v.category).sum + 81 ≤ R.locals) (hlocks : meth.locks = false) :
    ∃ U : State, Steps p.tables e below (W.setTop g) U ∧ U.status = .running ∧ Ended U below (.threw a) ∧ s.WarmedH U.vm ∧ s.sameButNew ({ U with vm := s.vm } : State) locs cells slots ∧
      ∃ ce, U.heap[a]? = some ce ∧ ce.vm = .none ∧ s.vm.findClass nsX = some ce.cls := by
  have howns : e.platform.frameOwnsMonitors = true := by rw [X.admits.platform]
  have hfin : e.platform.finalization = false := by rw [X.admits.platform]
  have hpl : e.platform.magicAccessors = ({} : Platform).magicAccessors := by rw [X.admits.platform]
  have a' : ∀ x, x ∈ nsAtoms own ic → x.holds args s none s [] = true := fun x hx => h x hx
  obtain ⟨T, Z0, L, -, Y⟩ := ThrowableC.of_atoms (args := args) howns hfin hpl (fun x hx => h x (by simp [nsAtoms, hx]))
  obtain ⟨Z, M, LZ, LM, hnZ⟩ := Init0T.ofS_atoms (args := args) hpl L Y (fun x hx => h x (by simp [nsAtoms, hx]))
  obtain ⟨P1, L1, hP1m, hs1⟩ := PassC.ofS_atoms (args := args) (s := s) hpl (X := nsX) (Y := "java/lang/RuntimeException") (by decide) (by decide) (index := 13) (bytes := nsCode) (by decide +kernel) (by decide +kernel) (by decide +kernel) (by decide +kernel) (fun x hx => h x (by simp only [nsAtoms, List.mem_append]; exact Or.inl (Or.inl (Or.inr hx))))
  obtain ⟨P2, Ps, hlen, L2, hL, hP2m, hlink1, hlink⟩ := Bundle.chainS (args := args) hpl hnZ ["java/lang/Exception"] "java/lang/RuntimeException" (by decide) (by decide) (fun x hx => h x (by simp only [nsAtoms, List.mem_append]; exact Or.inl (Or.inr hx)))
  have hlink0 : P1.sup = P2.m := Option.some.inj (hs1.symm.trans hP2m)
  have hfound : s.vm.findClass nsX = some P1.m.cls := findClass_of_methodNamed hP1m
  cases Option.some.inj (hfoundX.symm.trans hfound)
  obtain ⟨c1, kX', hc1, hk, hord, -, -, hn6⟩ := Cond.instantiable_spec (a' (.instantiable nsX 6) (by simp [nsAtoms]))
  cases Option.some.inj (hc1.symm.trans hfound)
  cases Option.some.inj (hkX.symm.trans hk)
  have hsel0 : selectMethod e.platform s.vm P1.m.cls T.fill0 = .method T.fill0 := by
    obtain ⟨c2, r2, m2, q1, q2, q3, q4, -⟩ := Cond.selects_spec (a' (.selects nsX Bundle.tFill0 Bundle.tFill0) (by simp [nsAtoms]))
    cases Option.some.inj (q1.symm.trans hfound)
    cases Option.some.inj (q2.symm.trans (State.methodFound?_of_named Y.fill0 (by decide)))
    cases Option.some.inj (q3.symm.trans Y.fill0)
    rw [Launch.admits_selectMethod X.admits]; exact q4
  have hselF : selectMethod e.platform s.vm P1.m.cls T.fill = .method T.fill := by
    obtain ⟨c2, r2, m2, q1, q2, q3, q4, -⟩ := Cond.selects_spec (a' (.selects nsX Bundle.tFill Bundle.tFill) (by simp [nsAtoms]))
    cases Option.some.inj (q1.symm.trans hfound)
    cases Option.some.inj (q2.symm.trans (State.methodFound?_of_named Y.fill (by decide)))
    cases Option.some.inj (q3.symm.trans Y.fill)
    rw [Launch.admits_selectMethod X.admits]; exact q4
  obtain ⟨cellS0, hcS0, hiss⟩ := Y.statics
  obtain ⟨u0, hu0⟩ := Cond.staticRefV Y.unassigned L.unassignedStatic L.statics hcS0 hiss (a' (.isRef (.static Bundle.tN "UNASSIGNED_STACK" Bundle.steD)) (by simp [nsAtoms]))
  obtain ⟨sen, hsen⟩ := Cond.staticRefV Y.sentinel L.sentinelStatic L.statics hcS0 hiss (a' (.isRef (.static Bundle.tN "SUPPRESSED_SENTINEL" Bundle.listD)) (by simp [nsAtoms]))
  obtain ⟨ci198, i198, fB, hk198, hg198, ha198, hsB, -, hnB, htB, hffB⟩ := Cond.ownField (t := .object "java/lang/Object") Y.found L.cls (by decide +kernel) (a' (.fieldLink Bundle.tN 198 Bundle.tN "backtrace" "Ljava/lang/Object;") (by simp [nsAtoms])) (a' (.lays Bundle.tN Bundle.tN "backtrace" "Ljava/lang/Object;") (by simp [nsAtoms])) e.platform hpl
  obtain ⟨cellS, hcS', heS, -, hkeep⟩ := X.same.2.2.2.2.2 T.aS cellS0 hcS0
  have hcellS : W.heap[T.aS]? = some cellS := hcS'
  have hout' : ∀ i, (⟨T.aS, i⟩ : Loc) ∉ locs := fun i hmem => by
    have := hlocs _ hmem cellS0 hcS0
    rw [hiss] at this; cases this
  have hknownS : cellS.vm ≠ .unknown := by
    rw [heS]; intro hu
    rw [show cellS0.vm = .unknown from hu] at hiss
    cases hiss
  have hneS : T.aS ≠ a := Nat.ne_of_lt (Nat.lt_of_lt_of_le (Array.getElem?_eq_some_iff.mp hcS0).1 hnew)
  obtain ⟨iM, hffM⟩ := Y.msg
  obtain ⟨tyC, dC, hdC, hdnC⟩ := Cond.laysAt hfound hk Y.cause (a' (.lays nsX Bundle.tN "cause" "Ljava/lang/Throwable;") (by simp [nsAtoms]))
  obtain ⟨tyS, dS, hdS, hdnS⟩ := Cond.laysAt hfound hk Y.stack (a' (.lays nsX Bundle.tN "stackTrace" Bundle.steD) (by simp [nsAtoms]))
  obtain ⟨tyP, dP, hdP, hdnP⟩ := Cond.laysAt hfound hk Y.supp (a' (.lays nsX Bundle.tN "suppressedExceptions" Bundle.listD) (by simp [nsAtoms]))
  obtain ⟨tyM, dM, hdM, hdnM⟩ := Cond.laysAt hfound hk hffM (a' (.lays nsX Bundle.tN "detailMessage" "Ljava/lang/String;") (by simp [nsAtoms]))
  obtain ⟨tyB, dB, hdB, hdnB⟩ := Cond.laysAt hfound hk hffB (a' (.lays nsX Bundle.tN "backtrace" "Ljava/lang/Object;") (by simp [nsAtoms]))
  have bC := Cond.laysApart hdB hdC hdnB hdnC (by rw [hnB, Y.causeName]; decide)
  have bS := Cond.laysApart hdB hdS hdnB hdnS (by rw [hnB, Y.stackName]; decide)
  have bP := Cond.laysApart hdB hdP hdnB hdnP (by rw [hnB, Y.suppName]; decide)
  have hskip : SkipFacts T e.platform s (fun u => u) u0 ((preparedCellV T.toThrowableT (freshCell P1.m.cls kX) a u0 sen).withEntry W.cur) :=
    ⟨{ ci198 := ci198, i198 := i198, fBack := fB }, ⟨hk198, hg198, ha198, hsB⟩, by
      have := fresh_default (c := P1.m.cls) tyB
      rw [htB] at this
      simpa [preparedCellV, Cell.setSlot, Cell.withEntry, Array.getElem?_setIfInBounds, bC, bS, bP, bC.symm, bS.symm, bP.symm, defaultValue] using this, fun _ _ => rfl⟩
  obtain ⟨tm, methC, cdC, kC, vm₁, hnC, -, -, -, -, -, -, -, hW₁, st1⟩ := Steps.initColdS (tb := p.tables) (e := e) (below := below) (s := s) (U := W) X.here hexec X.warmed hpl hown (t := Bundle.initS nsX) rfl rfl (by decide)
    (a' (.methodLink own ic (Bundle.initS nsX)) (by simp [nsAtoms])) (h (.instanceMethod (Bundle.initS nsX)) (by simp [nsAtoms, Bundle.passSAtoms])) (bytes := nsCode) (maxL := 2) (h (.code (Bundle.initS nsX) nsCode 2 none) (by simp [nsAtoms, Bundle.passSAtoms]))
    (f := g) hg (a := a) (msg := msg) (rest := .ref a :: rest) hstack hd6
  cases Option.some.inj (hnC.symm.trans hP1m)
  have X₁ := X.noted hW₁
  obtain ⟨vm₂, X₂, st2⟩ := X₁.ctorMessageOffV hexec (g := { g with stack := .ref a :: rest }) hg hsize T L Z LZ M LM (P1 :: P2 :: Ps)
    (fun P hP => by
      rcases List.mem_cons.mp hP with rfl | hP
      · exact L1
      · rcases List.mem_cons.mp hP with rfl | hP
        · exact L2
        · exact hL P hP) ⟨hlink0, hlink1, hlink⟩ (u0 := u0) (sen := sen) (self := a) hmsg (cell := freshCell P1.m.cls kX) (cellS := cellS)
    hcell (fun _ => by simp) (by simp) rfl rfl hsel0 hselF hcellS hneS hknownS (by rw [hkeep _ (hout' _)]; exact hu0) (by rw [hkeep _ (hout' _)]; exact hsen)
    (Takes.of_laid hk hord tyC (by rw [Y.causeType]; rfl)) (Takes.of_laid hk hord tyS (by rw [Y.stackType]; exact fits_refV_array _ u0)) (Takes.of_laid hk hord tyP (by rw [Y.suppType]; exact fits_refV_object _ sen))
    (Takes.of_laid hk hord tyM (by rw [Y.msgType]; exact fits_refV_object _ ⟨msg, hmsg⟩)) Y.objLocals hskip htr [] hd6
    (by simp only [List.length_cons, hlen, List.length_nil]; omega) (by simp only [List.length_cons, hlen, List.length_nil]; exact hRlocals)
  obtain ⟨hwalk, hrun, hended, hWU, hsame⟩ := X₂.athrowLeaves hexec (g := { g with stack := .ref a :: rest, pc := g.pc + 3 }) hg hlocked hentered hout (a := a) (rest := rest) rfl hd9
  have hlt : a < ((W.setVm vm₁).setVm vm₂).heap.size := (Array.getElem?_eq_some_iff.mp hcell).1
  have hU := heapAt_setCell_self (s := (W.setVm vm₁).setVm vm₂) (plainBareV T.toThrowableT (freshCell P1.m.cls kX) a u0 sen msg) hlt
  refine ⟨_, st1 _ (fun acts => ?_), hrun, hended, hWU, hsame.weaken (fun y hy hlt' => ?_) (Nat.le_refl _) (Nat.le_refl _), _, hU, rfl, hfound⟩
  · rw [doInvoke_state]
    exact st2 _ hwalk
  · rcases List.mem_append.mp hy with h1 | h1
    · exact h1
    · exfalso
      have hb : y.base = a := by
        simp only [List.mem_cons, List.not_mem_nil, or_false] at h1
        rcases h1 with rfl | rfl | rfl | rfl | rfl <;> rfl
      rw [hb] at hlt'
      exact Nat.not_lt.mpr hnew hlt'
def nsOdd : List Cond := [.isRef (.static Bundle.tN "UNASSIGNED_STACK" Bundle.steD), .isRef (.static Bundle.tN "SUPPRESSED_SENTINEL" Bundle.listD), .laysStatic Bundle.tN "UNASSIGNED_STACK" Bundle.steD, .laysStatic Bundle.tN "SUPPRESSED_SENTINEL" Bundle.listD]
set_option maxRecDepth 100000 in
theorem ns_words : (∀ w ∈ nsAtoms RX10 106, w ∈ TB ∨ w ∈ oddW 1 ∨ w ∈ nsOdd) ∧ (∀ w ∈ oddW 1, w ∈ lw_tbl) := by decide +kernel
set_option maxRecDepth 100000 in
theorem ns_w2 : Cond.classLink RX10 102 nsX ∈ TB ∧ Cond.initialized nsX ∈ TB ∧ Cond.instantiable nsX 6 ∈ TB := by decide +kernel
section ThrowN
variable {l : Launch} {g : GH} {y : MethodName} {cc : ByteArray} {nL : Nat} {ret : Option FieldType} {d mc ms : Nat} {P : PT} {pc : Nat} {L : List (Option Value)} {st : List Value} {n : Nat} {D : DT} {cu su : Nat}
theorem p_throwNS {i is : Nat} (hG : G0 l g) (hy : y.cls = RX10) (hi : i < 39) (hO : strOs.getD i "" = y.cls) (hk : strKs.getD i 0 = is) (d0 : decode cc pc = .ok (.new 102, 3)) (d3 : decode cc (pc + 3) = .ok (.dup, 1)) (d4 : decode cc (pc + 4) = .ok (.ldc is, 2)) (d6 : decode cc (pc + 6) = .ok (.invokespecial 106, 3)) (d9 : decode cc (pc + 9) = .ok (.athrow, 1)) (hd : 8 ≤ d) (hcu : cu + 1 ≤ mc) (hsu : su + 6 ≤ ms) (hst : (st.map fun v => v.category).sum ≤ 8) (hp : ∀ n', P (.inr 1) (LF n') D) :
    Px (mkE l g y cc nL ret [] d mc ms P) pc L st (LF n) D cu su := by
  intro p e R s m args below meth c H locs ls C Rp S LL
  have hz := zu_at C
  have hstr := str_rf C hi
  rw [hO, hk, hy] at hstr
  have r1 : d ≤ R.frames := C.2.1.1
  have r2 : 64 * d ≤ R.locals := C.2.1.2.1
  have r3 : mc ≤ R.cells := C.2.1.2.2.1
  have r4 : ms ≤ R.slots := C.2.1.2.2.2
  have hown : s.vm.findClass RX10 = some m.cls := by rw [← hy]; exact C.1.2.2.2.1
  have hexec := C.1.1
  have hb := C.1.2.1
  have hlocks := C.1.2.2.2.2.2.1
  have hsize : ls.size = c.maxLocals := LL.1.trans C.1.2.2.1.symm
  have hout : ∀ x ∈ c.exceptionTable.toList, covers x (pc + 9) = false := fun x hx => by rw [C.2.2.1 _ rfl] at hx; cases hx
  intro T hT X
  have htr : e.platform.stackTraces = false := (show e.platform.stackTraces = l.stackTraces by rw [X.admits.platform]; rfl).trans hG.1
  have Y := vx_rebase X (R' := { frames := R.frames, locals := R.locals, cells := 1, slots := 6 }) (Nat.le_refl _) (Nat.le_refl _) (by show cu + 1 ≤ R.cells; omega) (by show su + 6 ≤ R.slots; omega)
  obtain ⟨s', hA⟩ : ∃ z, z = (T.setVm s.vm).setFrames (.invoking m args :: below) := ⟨_, rfl⟩
  rw [← hA] at Y
  have hvm : s'.vm = s.vm := by rw [hA]; rfl
  have hhp : s'.heap = H := by rw [hA]; exact hT
  have hW0 : s.WarmedH s'.vm := by rw [hvm]; exact State.WarmedH.refl s
  have hWg : g.1.WarmedH s'.vm := State.WarmedH.trans C.2.2.2.2.1 hW0
  have hU' : vx_Zq Bundle.tN "UNASSIGNED_STACK" Bundle.steD (Af g) s' s'.heap := by rw [hhp]; exact vx_Zq.moved hW0.alike (hz.1.kept S.2.1)
  have hN' : vx_Zq Bundle.tN "SUPPRESSED_SENTINEL" Bundle.listD (Af g) s' s'.heap := by rw [hhp]; exact vx_Zq.moved hW0.alike (hz.2.kept S.2.1)
  have h : ∀ w ∈ nsAtoms RX10 106, w.before args s' = true := by
    intro w hw
    rcases ns_words.1 w hw with q | q | q
    · exact word_of hG hWg q args
    · exact odd_at hG hWg ns_words.2 q args
    · simp only [nsOdd, List.mem_cons, List.not_mem_nil, or_false] at q
      rcases q with rfl | rfl | rfl | rfl
      · exact vx_isRefq hU'.1
      · exact vx_isRefq hN'.1
      · exact hU'.2.word
      · exact hN'.2.word
  have hown' : s'.vm.findClass RX10 = some m.cls := by rw [hvm]; exact hown
  obtain ⟨vm₁, cX, kX, hfX, hkX, -, -, X₁, st1⟩ := Y.newCold hexec (own := RX10) (C := nsX) (index := 102) (n := 6) hown' (word_of hG hWg ns_w2.1 args) (word_of hG hWg ns_w2.2.2 args) (word_of hG hWg ns_w2.2.1 args)
    (g := F0 m pc ls st) rfl (by rw [hb]; exact d0) (Nat.le_refl _) (Nat.le_refl _)
  generalize hT1 : (T.setVm vm₁).pushCell { cls := cX, slots := kX.instanceTypes.map defaultValue, vm := .none } = T1 at X₁ st1
  have hcat : (Value.ref T.heap.size).category = 1 := rfl
  have hcellA : T1.heap[T.heap.size]? = some (freshCell cX kX) := by rw [← hT1]; exact State.heap_pushCell_size _ _
  have d3' : decode c.code (pc + 3) = .ok (.dup, 1) := by rw [hb]; exact d3
  have d4' : decode c.code (pc + 4) = .ok (.ldc is, 2) := by rw [hb]; exact d4
  have hstr' : vk_R RX10 is (strTs.getD i "") (adK g i) s' := vk_R.warm hW0 hstr
  obtain ⟨U, hsteps, hrun, hend, hW, hsame, ce, hce, hcv, hcl⟩ := ns_ctor X₁ hexec htr (own := RX10) (ic := 106) hown' h (fun x hx => nomatch hx) hfX hkX hcellA (by rw [hhp, hT]; exact Nat.le_refl _) (msg := .ref (adK g i)) rfl
    (g := { method := m, pc := pc + 6, locals := ls, stack := .ref (adK g i) :: .ref T.heap.size :: .ref T.heap.size :: st, locked := none }) rfl hsize rfl rfl (rest := st) rfl
    (by rw [hb]; exact d6) (by rw [hb]; exact d9) hout (by show 5 < R.frames; omega) (by show 2 * 0 + _ + 81 ≤ R.locals; simp only [List.map_cons, List.sum_cons, hcat]; omega) hlocks
  obtain ⟨f1, f2⟩ := vx_frame hsame
  rw [hhp] at f1 f2
  have hWs : s.WarmedH U.vm := State.WarmedH.trans hW0 hW
  rw [hvm] at hcl
  have hall : s.sameButNew ({ U with vm := s.vm } : State) locs mc ms := by
    subst hA
    obtain ⟨e1, e2⟩ := hsame
    rw [State.setFrames_setFrames] at e1
    have h2 : (T.setVm s.vm).sameButNew ({ U with vm := s.vm } : State) [] (0 + 1) (0 + 6) := ⟨e1, e2⟩
    have h3 := X.same.trans h2
    rw [List.append_nil] at h3
    exact h3.mono (by omega) (by omega)
  have f3 : ∀ q : Nat, q < H.size → U.heap[q]? = H[q]? := fun q hq => f2 q hq (fun z hz => nomatch hz)
  obtain ⟨n', hR⟩ := rep_more Rp f1 f3
  refine ⟨U, ?_, .threw T.heap.size, hrun, hend, Or.inr ⟨T.heap.size, rfl, nsX, ce, locs, ⟨⟨1, LF n', D, rfl, hp n', hR⟩, Nat.le_trans S.1 f1, fun q hq hA' => by rw [f3 q (Nat.lt_of_lt_of_le hq S.1)]; exact S.2.1 q hq hA'⟩, hce, hcv, hcl, hWs, hall, S.2.2⟩⟩
  refine st1 _ ?_
  show Steps p.tables e below (T1.setTop { method := m, pc := pc + 3, locals := ls, stack := .ref T.heap.size :: st, locked := none }) _
  jvm_step X₁.here [X₁.here.top, hexec, d3', Value.category]
  exact X₁.ldcString hexec (own := RX10) (text := strTs.getD i "") (index := is) (a := adK g i) hown' hstr'.1 hstr'.2
    (g := { method := m, pc := pc + 4, locals := ls, stack := .ref T.heap.size :: .ref T.heap.size :: st, locked := none }) rfl d4' _ hsteps
theorem p_throwNW {i is : Nat} (hG : G0 l g) (hy : y.cls = RX10) (hi : i < 39) (hO : strOs.getD i "" = y.cls) (hk : strKs.getD i 0 = is) (d0 : decode cc pc = .ok (.new 102, 3)) (d3 : decode cc (pc + 3) = .ok (.dup, 1)) (d4 : decode cc (pc + 4) = .ok (.ldc_w is, 3)) (d6 : decode cc (pc + 7) = .ok (.invokespecial 106, 3)) (d9 : decode cc (pc + 10) = .ok (.athrow, 1)) (hd : 8 ≤ d) (hcu : cu + 1 ≤ mc) (hsu : su + 6 ≤ ms) (hst : (st.map fun v => v.category).sum ≤ 8) (hp : ∀ n', P (.inr 1) (LF n') D) :
    Px (mkE l g y cc nL ret [] d mc ms P) pc L st (LF n) D cu su := by
  intro p e R s m args below meth c H locs ls C Rp S LL
  have hz := zu_at C
  have hstr := str_rf C hi
  rw [hO, hk, hy] at hstr
  have r1 : d ≤ R.frames := C.2.1.1
  have r2 : 64 * d ≤ R.locals := C.2.1.2.1
  have r3 : mc ≤ R.cells := C.2.1.2.2.1
  have r4 : ms ≤ R.slots := C.2.1.2.2.2
  have hown : s.vm.findClass RX10 = some m.cls := by rw [← hy]; exact C.1.2.2.2.1
  have hexec := C.1.1
  have hb := C.1.2.1
  have hlocks := C.1.2.2.2.2.2.1
  have hsize : ls.size = c.maxLocals := LL.1.trans C.1.2.2.1.symm
  have hout : ∀ x ∈ c.exceptionTable.toList, covers x (pc + 10) = false := fun x hx => by rw [C.2.2.1 _ rfl] at hx; cases hx
  intro T hT X
  have htr : e.platform.stackTraces = false := (show e.platform.stackTraces = l.stackTraces by rw [X.admits.platform]; rfl).trans hG.1
  have Y := vx_rebase X (R' := { frames := R.frames, locals := R.locals, cells := 1, slots := 6 }) (Nat.le_refl _) (Nat.le_refl _) (by show cu + 1 ≤ R.cells; omega) (by show su + 6 ≤ R.slots; omega)
  obtain ⟨s', hA⟩ : ∃ z, z = (T.setVm s.vm).setFrames (.invoking m args :: below) := ⟨_, rfl⟩
  rw [← hA] at Y
  have hvm : s'.vm = s.vm := by rw [hA]; rfl
  have hhp : s'.heap = H := by rw [hA]; exact hT
  have hW0 : s.WarmedH s'.vm := by rw [hvm]; exact State.WarmedH.refl s
  have hWg : g.1.WarmedH s'.vm := State.WarmedH.trans C.2.2.2.2.1 hW0
  have hU' : vx_Zq Bundle.tN "UNASSIGNED_STACK" Bundle.steD (Af g) s' s'.heap := by rw [hhp]; exact vx_Zq.moved hW0.alike (hz.1.kept S.2.1)
  have hN' : vx_Zq Bundle.tN "SUPPRESSED_SENTINEL" Bundle.listD (Af g) s' s'.heap := by rw [hhp]; exact vx_Zq.moved hW0.alike (hz.2.kept S.2.1)
  have h : ∀ w ∈ nsAtoms RX10 106, w.before args s' = true := by
    intro w hw
    rcases ns_words.1 w hw with q | q | q
    · exact word_of hG hWg q args
    · exact odd_at hG hWg ns_words.2 q args
    · simp only [nsOdd, List.mem_cons, List.not_mem_nil, or_false] at q
      rcases q with rfl | rfl | rfl | rfl
      · exact vx_isRefq hU'.1
      · exact vx_isRefq hN'.1
      · exact hU'.2.word
      · exact hN'.2.word
  have hown' : s'.vm.findClass RX10 = some m.cls := by rw [hvm]; exact hown
  obtain ⟨vm₁, cX, kX, hfX, hkX, -, -, X₁, st1⟩ := Y.newCold hexec (own := RX10) (C := nsX) (index := 102) (n := 6) hown' (word_of hG hWg ns_w2.1 args) (word_of hG hWg ns_w2.2.2 args) (word_of hG hWg ns_w2.2.1 args)
    (g := F0 m pc ls st) rfl (by rw [hb]; exact d0) (Nat.le_refl _) (Nat.le_refl _)
  generalize hT1 : (T.setVm vm₁).pushCell { cls := cX, slots := kX.instanceTypes.map defaultValue, vm := .none } = T1 at X₁ st1
  have hcat : (Value.ref T.heap.size).category = 1 := rfl
  have hcellA : T1.heap[T.heap.size]? = some (freshCell cX kX) := by rw [← hT1]; exact State.heap_pushCell_size _ _
  have d3' : decode c.code (pc + 3) = .ok (.dup, 1) := by rw [hb]; exact d3
  have d4' : decode c.code (pc + 4) = .ok (.ldc_w is, 3) := by rw [hb]; exact d4
  have hstr' : vk_R RX10 is (strTs.getD i "") (adK g i) s' := vk_R.warm hW0 hstr
  obtain ⟨U, hsteps, hrun, hend, hW, hsame, ce, hce, hcv, hcl⟩ := ns_ctor X₁ hexec htr (own := RX10) (ic := 106) hown' h (fun x hx => nomatch hx) hfX hkX hcellA (by rw [hhp, hT]; exact Nat.le_refl _) (msg := .ref (adK g i)) rfl
    (g := { method := m, pc := pc + 7, locals := ls, stack := .ref (adK g i) :: .ref T.heap.size :: .ref T.heap.size :: st, locked := none }) rfl hsize rfl rfl (rest := st) rfl
    (by rw [hb]; exact d6) (by rw [hb]; exact d9) hout (by show 5 < R.frames; omega) (by show 2 * 0 + _ + 81 ≤ R.locals; simp only [List.map_cons, List.sum_cons, hcat]; omega) hlocks
  obtain ⟨f1, f2⟩ := vx_frame hsame
  rw [hhp] at f1 f2
  have hWs : s.WarmedH U.vm := State.WarmedH.trans hW0 hW
  rw [hvm] at hcl
  have hall : s.sameButNew ({ U with vm := s.vm } : State) locs mc ms := by
    subst hA
    obtain ⟨e1, e2⟩ := hsame
    rw [State.setFrames_setFrames] at e1
    have h2 : (T.setVm s.vm).sameButNew ({ U with vm := s.vm } : State) [] (0 + 1) (0 + 6) := ⟨e1, e2⟩
    have h3 := X.same.trans h2
    rw [List.append_nil] at h3
    exact h3.mono (by omega) (by omega)
  have f3 : ∀ q : Nat, q < H.size → U.heap[q]? = H[q]? := fun q hq => f2 q hq (fun z hz => nomatch hz)
  obtain ⟨n', hR⟩ := rep_more Rp f1 f3
  refine ⟨U, ?_, .threw T.heap.size, hrun, hend, Or.inr ⟨T.heap.size, rfl, nsX, ce, locs, ⟨⟨1, LF n', D, rfl, hp n', hR⟩, Nat.le_trans S.1 f1, fun q hq hA' => by rw [f3 q (Nat.lt_of_lt_of_le hq S.1)]; exact S.2.1 q hq hA'⟩, hce, hcv, hcl, hWs, hall, S.2.2⟩⟩
  refine st1 _ ?_
  show Steps p.tables e below (T1.setTop { method := m, pc := pc + 3, locals := ls, stack := .ref T.heap.size :: st, locked := none }) _
  jvm_step X₁.here [X₁.here.top, hexec, d3', Value.category]
  exact X₁.ldcStringW hexec (own := RX10) (text := strTs.getD i "") (index := is) (a := adK g i) hown' hstr'.1 hstr'.2
    (g := { method := m, pc := pc + 4, locals := ls, stack := .ref T.heap.size :: .ref T.heap.size :: st, locked := none }) rfl d4' _ hsteps
end ThrowN
