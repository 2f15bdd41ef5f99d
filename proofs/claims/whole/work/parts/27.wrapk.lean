/-! ===== methods with handlers: the law's wrappers ===== -/
def PIe (K : Int × DT → Prop) : PT := fun r ly D => ∃ v n', r = .inl (some (vI v)) ∧ ly = LF n' ∧ K (v, D)
def bndH (X : Option ((Int ⊕ Nat) × DT)) (hd : Nat → DT → Option (Int × DT)) (f : Int → DT → Option (Int × DT)) : Option (Int × DT) := X.bind (fun q => match q.1 with
  | .inl v => f v q.2
  | .inr e => hd e q.2)
def SatW (l : Launch) (g : GH) (y : MethodName) (cc : ByteArray) (nL : Nat) (ret : Option FieldType) (hh : List (Nat × Nat × Nat × Nat)) (d mc ms : Nat) (av : List Value) (ly : LY) (D : DT) (P : PT) : Prop :=
  vx_Met l y (Cond.codeWith y cc nL ret hh :: TB) { frames := d, cells := mc, slots := ms, locals := 64 * d } (PcP g av ly D) (QcP g P) (XcP g P) mc ms (Af g)
theorem SatW.of {l : Launch} {g : GH} {y : MethodName} {cc : ByteArray} {nL : Nat} {ret : Option FieldType} {hh : List (Nat × Nat × Nat × Nat)} {d mc ms : Nat} {av : List Value} {ly : LY} {D : DT} {P : PT} (hG : G0 l g) (hy : plainName y.cls = true) (hn : av.length ≤ nL) (hc : ∀ v ∈ av, v.category = 1)
    (h : Px (mkE l g y cc nL ret hh d mc ms P) 0 (argL av nL) [] ly D 0 0) : SatW l g y cc nL ret hh d mc ms av ly D P := by
  refine vx_ofWH (cc := cc) (maxL := nL) (ret := ret) (hh := hh) hy rfl ?_
  intro p e s m args below meth c s₁ B hml hv
  obtain ⟨rfl, hW, hO, hR⟩ := hv
  rw [lg_entry_eq, sl_cat1 hc, List.length_map]
  have hE : c.exceptionTable.toList = tableOf hh := vx_table (x := y) B (atoms_spec (ws := Cond.codeWith y cc nL ret hh :: TB) B.pre _ List.mem_cons_self)
  have C : Cx (mkE l g y cc nL ret hh d mc ms P) p { frames := d, cells := mc, slots := ms, locals := 64 * d } s m meth c :=
    ⟨⟨B.exec, B.bytes, hml, findClass_of_methodNamed B.named, B.returns, B.notSynchronized, fun h => (name_of_methodNamed B.named B.method).1.trans h⟩, ⟨Nat.le_refl _, Nat.le_refl _, Nat.le_refl _, Nat.le_refl _⟩, fun hh e => by cases e; exact hE, hG, hW, hO⟩
  exact h p e _ s m _ below meth c s.heap [] _ C hR va_S.rf (LR.entry hn hc)
/-- caught by the handler x; those ahead are of other classes -/
theorem px_catch {E : ENV} {pc : Nat} {L : List (Option Value)} {st : List Value} {ly : LY} {D : DT} {cu su e : Nat} (pre : List (Nat × Nat × Nat × Nat)) (x : Nat × Nat × Nat × Nat) (suf : List (Nat × Nat × Nat × Nat)) (hT : eT E = some (pre ++ x :: suf))
    (hpre : ∀ z ∈ pre, z.2.2.2 ≠ 0 ∧ ∃ e', Cond.classLink (eY E).cls z.2.2.2 (exn e') ∈ TB ∧ Cond.not (.castable (exn e) (exn e')) ∈ flatC prC) (hcov : covers ⟨x.1, x.2.1, x.2.2.1, x.2.2.2⟩ pc = true) (h0 : x.2.2.2 ≠ 0) (hlink : Cond.classLink (eY E).cls x.2.2.2 (exn e) ∈ TB) (hcast : Cond.castable (exn e) (exn e) ∈ lw_tbl)
    (k : ∀ q, Px E x.2.2.1 L [.ref q] ly D cu su) : PX E pc L st ly D cu su (exn e) := by
  intro p e' R s m args below meth c H locs ls q ce C Rp S LL hce hcv hcl
  have hG := C.2.2.2.1
  have hW := C.2.2.2.2.1
  have ht := C.2.2.1 _ hT
  refine vx_catch (own := (eY E).cls) (name := exn e) C.1.2.2.2.1 (tableOf pre) ⟨x.1, x.2.1, x.2.2.1, x.2.2.2⟩ (tableOf suf) (by rw [ht]; simp [tableOf]) (fun z hz => ?_) hcov h0 (C.w hlink args) (va_Nw.use rfl (va_Nw.warmC hW (va_Nw.of rfl (hG.2.1 _ hcast)))) hce hcv hcl (k q p e' R s m args below meth c H locs ls C Rp S LL)
  obtain ⟨z0, hz0, rfl⟩ := List.mem_map.mp hz
  obtain ⟨g1, e2, g2, g3⟩ := hpre z0 hz0
  refine Or.inr ⟨g1, exn e2, C.w g2 args, ?_⟩
  exact va_Nc.moved hW.alike (va_Nc.of (flat_of_before _ hG.2.2.2.2 _ g3))
section CallsW
variable {E : ENV} {pc : Nat} {L : List (Option Value)} {D : DT} {cu su : Nat} {K : Int × DT → Prop}
theorem cV_Xh {y : MethodName} {cc : ByteArray} {nL n9 idx d' mc' ms' a ci n : Nat} {ret : Option FieldType} {r : vw_C} (av : List Value) (st : List Value) {X : Option ((Int ⊕ Nat) × DT)} {hd : Nat → DT → Option (Int × DT)} {f : Int → DT → Option (Int × DT)} (hdc : decode (eC E) pc = .ok (.invokevirtual idx, 3)) (yv : YV y cc nL ret n9) (hlink : Cond.methodLink (eY E).cls idx y ∈ TB) (hr : vwCl[ci]? = some r) (hC : r.1 = y.cls) (hdd : d' + 1 ≤ (eD E).1) (hn : av.length = n9) (hst : (st.map fun v => v.category).sum ≤ 8) (hcu : cu + mc' ≤ (eD E).2.1) (hsu : su + ms' ≤ (eD E).2.2) (hs : (LF n).1 a = some (.inl ci))
    (h : ok (bndH X hd f) K) (hM : ∀ K', ok X K' → Sat (eL E) (eG E) y cc nL ret d' mc' ms' (vR (eG E) a :: av) (LF n) D (PXw n K')) (kx : ∀ e n D, ok (hd e D) K → PX E pc L st (LF n) D (cu + mc') (su + ms') (exn e)) (kk : ∀ v D, ok (f v D) K → Px E (pc + 3) L (vI v :: st) (LF n) D (cu + mc') (su + ms')) : Px E pc L (av.reverse ++ vR (eG E) a :: st) (LF n) D cu su :=
  p_callV hdc yv hlink hr hC hdd hn hst hcu hsu hs (hM _ (ok_bind h)) (fun v ly' D' hp => by
    rcases hp with ⟨v', e1, rfl, hk⟩ | ⟨e, n', e1, _⟩
    · cases e1; exact kk v' D' hk
    · cases e1) (fun e ly' D' hp => by
    rcases hp with ⟨v', e1, _⟩ | ⟨e', n', e1, rfl, hk⟩
    · cases e1
    · cases e1; exact kx _ n' D' hk)
def YSW (y : MethodName) (cc : ByteArray) (nL : Nat) (ret : Option FieldType) (hh : List (Nat × Nat × Nat × Nat)) (n : Nat) : Prop := Cond.codeWith y cc nL ret hh ∈ TB ∧ Cond.initialized y.cls ∈ TB ∧ nL ≤ 45 ∧ (y.cls ≠ "java/lang/invoke/MethodHandle" ∧ y.cls ≠ "java/lang/invoke/VarHandle" ∧ (parseMethodDescriptor y.desc).map (fun d => d.parameters.length) = some n) ∧ Cond.static y ∈ TB
theorem cW_Ie {y : MethodName} {cc : ByteArray} {nL n9 idx d' mc' ms' n : Nat} {ret : Option FieldType} {hh : List (Nat × Nat × Nat × Nat)} {β : Type} {K : β → Prop} (av : List Value) (st : List Value) {X : Option (Int × DT)} {f : Int → DT → Option β} (hdc : decode (eC E) pc = .ok (.invokestatic idx, 3)) (ys : YSW y cc nL ret hh n9) (hlink : Cond.methodLink (eY E).cls idx y ∈ TB) (hdd : d' + 1 ≤ (eD E).1) (hn : av.length = n9) (hst : (st.map fun v => v.category).sum ≤ 8) (hcu : cu + mc' ≤ (eD E).2.1) (hsu : su + ms' ≤ (eD E).2.2)
    (h : ok (bnd X f) K) (hM : ∀ K', ok X K' → SatW (eL E) (eG E) y cc nL ret hh d' mc' ms' av (LF n) D (PIe K')) (kk : ∀ n v D, ok (f v D) K → Px E (pc + 3) L (vI v :: st) (LF n) D (cu + mc') (su + ms')) : Px E pc L (av.reverse ++ st) (LF n) D cu su := by
  intro p e R s m args below meth c H locs ls C Rp S LL
  obtain ⟨h1, h2, h3, ⟨h4, h5, h6⟩, h7⟩ := ys
  have r1 := C.2.1.1
  have r2 := C.2.1.2.1
  refine q_run (vx_runSX (As := av) (rest := st) (Ts := TB) (hh := hh) ⟨C.1.1, C.1.2.1, C.1.2.2.1, C.1.2.2.2.1, fun w hw => C.w hw args⟩ (hM _ (ok_bind h)) ⟨⟨rfl, rfl, Nat.le_trans hdd r1, ?_, fun w hw a' U hW => ?_, List.mem_cons_self⟩, C.w h1 args, C.w h2 args, ⟨h4, h5⟩, fun sig h => ?_, C.w hlink args, C.w h7 args⟩ (pre_S C Rp S) rfl hn LL.1 rfl ?_ hdc ⟨Nat.le_trans hcu C.2.1.2.2.1, Nat.le_trans hsu C.2.1.2.2.2⟩) C S LL (fun v ly' D' hp => ?_) (fun e ly' D' hp => ?_)
  · show 8 + (nL + 11) + 64 * d' ≤ R.locals
    omega
  · rcases List.mem_cons.mp hw with rfl | hw
    · exact C.words hW h1 a'
    · exact C.words hW hw a'
  · rw [h] at h6
    exact (Option.some.inj h6).symm
  · show 2 * 0 + _ ≤ 8
    omega
  · obtain ⟨v', n', e1, rfl, hk⟩ := hp
    cases e1
    exact kk n' v' D' hk
  · obtain ⟨v', n', e1, _⟩ := hp
    cases e1
end CallsW
