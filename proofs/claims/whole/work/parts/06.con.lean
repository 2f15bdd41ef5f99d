/-! ===== contracts of methods; returns, throws and calls ===== -/
def exn : Nat → String
  | 0 => "java/lang/IndexOutOfBoundsException"
  | 1 => "java/util/NoSuchElementException"
  | _ => "java/lang/IllegalArgumentException"
/-- what a result may be: a value, or the number of an exception; the layout; the data -/
abbrev PT : Type := (Option Value ⊕ Nat) → LY → DT → Prop
def QcP (g : GH) (P : PT) : Array Value → State → Outcome → State → Prop := fun _ st o t => (∃ v ly D, o = .returned v ∧ P (.inl v) ly D ∧ Rep g ly D t.heap) ∧ va_F (Af g) st t
def XcP (g : GH) (P : PT) : String → State → State → Prop := fun En st t => (∃ e ly D, En = exn e ∧ P (.inr e) ly D ∧ Rep g ly D t.heap) ∧ va_F (Af g) st t
def PcP (g : GH) (av : List Value) (ly : LY) (D : DT) : Array Value → State → Prop := fun a U => a = av.toArray ∧ g.1.WarmedH U.vm ∧ Old g U.heap ∧ Rep g ly D U.heap
def Sat (l : Launch) (g : GH) (y : MethodName) (cc : ByteArray) (nL : Nat) (ret : Option FieldType) (d mc ms : Nat) (av : List Value) (ly : LY) (D : DT) (P : PT) : Prop :=
  vx_Met l y (Cond.code y cc nL ret :: TB) { frames := d, cells := mc, slots := ms, locals := 64 * d } (PcP g av ly D) (QcP g P) (XcP g P) mc ms (Af g)
def mkE (l : Launch) (g : GH) (y : MethodName) (cc : ByteArray) (nL : Nat) (ret : Option FieldType) (hh : List (Nat × Nat × Nat × Nat)) (d mc ms : Nat) (P : PT) : ENV :=
  (l, g, y, cc, nL, ret, some hh, (d, mc, ms), fun below args s => vx_MQ below (QcP g P) (XcP g P) args s mc ms (Af g))
theorem sl_cat1 {av : List Value} (hc : ∀ v ∈ av, v.category = 1) : lg_sl av = av.map Slot.val := by
  induction av with
  | nil => rfl
  | cons v av ih =>
    have h1 := hc v List.mem_cons_self
    have h2 := ih (fun w hw => hc w (List.mem_cons_of_mem _ hw))
    unfold lg_sl at h2 ⊢
    rw [List.flatMap_cons, h2, if_neg (by rw [h1]; decide)]
    rfl
theorem Sat.of {l : Launch} {g : GH} {y : MethodName} {cc : ByteArray} {nL : Nat} {ret : Option FieldType} {d mc ms : Nat} {av : List Value} {ly : LY} {D : DT} {P : PT} (hG : G0 l g) (hy : plainName y.cls = true) (hn : av.length ≤ nL) (hc : ∀ v ∈ av, v.category = 1)
    (h : Px (mkE l g y cc nL ret [] d mc ms P) 0 (argL av nL) [] ly D 0 0) : Sat l g y cc nL ret d mc ms av ly D P := by
  refine vx_ofW (cc := cc) (maxL := nL) (ret := ret) hy rfl ?_
  intro p e s m args below meth c s₁ B hml hnt hv
  obtain ⟨rfl, hW, hO, hR⟩ := hv
  rw [lg_entry_eq, sl_cat1 hc, List.length_map]
  have hE : c.exceptionTable.toList = [] := List.eq_nil_iff_forall_not_mem.mpr (fun x hx => hnt x hx)
  have C : Cx (mkE l g y cc nL ret [] d mc ms P) p { frames := d, cells := mc, slots := ms, locals := 64 * d } s m meth c :=
    ⟨⟨B.exec, B.bytes, hml, findClass_of_methodNamed B.named, B.returns, B.notSynchronized, fun h => (name_of_methodNamed B.named B.method).1.trans h⟩, ⟨Nat.le_refl _, Nat.le_refl _, Nat.le_refl _, Nat.le_refl _⟩, fun hh e => by cases e; rw [hE]; rfl, hG, hW, hO⟩
  exact h p e _ s m _ below meth c s.heap [] _ C hR va_S.rf (LR.entry hn hc)
section Ends2
variable {l : Launch} {g : GH} {y : MethodName} {cc : ByteArray} {nL : Nat} {ret : Option FieldType} {hh : List (Nat × Nat × Nat × Nat)} {d mc ms : Nat} {P : PT} {pc : Nat} {L : List (Option Value)} {st : List Value} {ly : LY} {D : DT} {cu su : Nat}
theorem p_ireturn {v : Int} (hd : decode cc pc = .ok (.ireturn, 1)) (hcu : cu ≤ mc) (hsu : su ≤ ms) (hp : P (.inl (some (vI v))) ly D) : Px (mkE l g y cc nL (some .int) hh d mc ms P) pc L [vI v] ly D cu su := by
  intro p e R s m args below meth c H locs ls C Rp S LL
  exact W.widen hcu hsu (vx_ret (W.iret C.1.1 C.1.2.1 C.1.2.2.2.2.1 (fun t ht hW => ⟨⟨_, ly, D, rfl, hp, by rw [ht]; exact Rp⟩, S.F ht⟩) S.2.2 hd (hlocks := C.1.2.2.2.2.2.1)))
theorem p_zreturn {v : Int} (hd : decode cc pc = .ok (.ireturn, 1)) (hcu : cu ≤ mc) (hsu : su ≤ ms) (hv : v = 0 ∨ v = 1) (hp : P (.inl (some (vI v))) ly D) : Px (mkE l g y cc nL (some .boolean) hh d mc ms P) pc L [vI v] ly D cu su := by
  intro p e R s m args below meth c H locs ls C Rp S LL
  exact W.widen hcu hsu (vx_ret (W.zret C.1.1 C.1.2.1 C.1.2.2.2.2.1 (nar_z hv) (fun t ht hW => ⟨⟨_, ly, D, rfl, hp, by rw [ht]; exact Rp⟩, S.F ht⟩) S.2.2 hd (hlocks := C.1.2.2.2.2.2.1)))
theorem p_lreturn {v : Int} (hd : decode cc pc = .ok (.lreturn, 1)) (hcu : cu ≤ mc) (hsu : su ≤ ms) (hp : P (.inl (some (vJ v))) ly D) : Px (mkE l g y cc nL (some .long) hh d mc ms P) pc L [vJ v] ly D cu su := by
  intro p e R s m args below meth c H locs ls C Rp S LL
  exact W.widen hcu hsu (vx_ret (W.lret C.1.1 C.1.2.1 C.1.2.2.2.2.1 (fun t ht hW => ⟨⟨_, ly, D, rfl, hp, by rw [ht]; exact Rp⟩, S.F ht⟩) S.2.2 hd (hlocks := C.1.2.2.2.2.2.1)))
theorem p_return (hd : decode cc pc = .ok (.return_, 1)) (hcu : cu ≤ mc) (hsu : su ≤ ms) (hp : P (.inl none) ly D) : Px (mkE l g y cc nL none hh d mc ms P) pc L [] ly D cu su := by
  intro p e R s m args below meth c H locs ls C Rp S LL
  exact W.widen hcu hsu (vx_ret (W.vret C.1.1 C.1.2.1 C.1.2.2.2.2.1 (fun t ht hW => ⟨⟨_, ly, D, rfl, hp, by rw [ht]; exact Rp⟩, S.F ht⟩) S.2.2 hd (hlocks := C.1.2.2.2.2.2.1)))
theorem p_areturn {a : Nat} {cn : String} (hd : decode cc pc = .ok (.areturn, 1)) (hcu : cu ≤ mc) (hsu : su ≤ ms) (hp : P (.inl (some (vR g a))) ly D) : Px (mkE l g y cc nL (some (.object cn)) hh d mc ms P) pc L [vR g a] ly D cu su := by
  intro p e R s m args below meth c H locs ls C Rp S LL
  exact W.widen hcu hsu (vx_ret (W.aret C.1.1 C.1.2.1 C.1.2.2.2.2.1 (Or.inl ⟨_, rfl⟩) (Or.inr ⟨_, rfl⟩) (fun t ht hW => ⟨⟨_, ly, D, rfl, hp, by rw [ht]; exact Rp⟩, S.F ht⟩) S.2.2 hd (hlocks := C.1.2.2.2.2.2.1)))
/-- thrown by a callee, not caught here -/
theorem px_out {e : Nat} (hcu : cu ≤ mc) (hsu : su ≤ ms) (hp : P (.inr e) ly D) : PX (mkE l g y cc nL ret [] d mc ms P) pc L st ly D cu su (exn e) := by
  intro p e' R s m args below meth c H locs ls q ce C Rp S LL hce hcv hcl
  exact vx_widen hcu hsu (vx_out (fun x hx => by rw [C.2.2.1 _ rfl] at hx; cases hx) C.1.2.2.2.2.2.1 hce hcv hcl (fun t ht hA => ⟨⟨e, ly, D, rfl, hp, by rw [ht]; exact Rp⟩, S.F ht⟩) S.2.2 (Nat.le_refl _) (Nat.le_refl _))
end Ends2
def YW (y : MethodName) (cc : ByteArray) (nL : Nat) (ret : Option FieldType) (n : Nat) : Prop := Cond.code y cc nL ret ∈ TB ∧ Cond.initialized y.cls ∈ TB ∧ nL ≤ 45 ∧ (y.cls ≠ "java/lang/invoke/MethodHandle" ∧ y.cls ≠ "java/lang/invoke/VarHandle" ∧ (parseMethodDescriptor y.desc).map (fun d => d.parameters.length) = some n)
def YV (y : MethodName) (cc : ByteArray) (nL : Nat) (ret : Option FieldType) (n : Nat) : Prop := YW y cc nL ret n ∧ Cond.instanceMethod y ∈ TB ∧ Cond.selects y.cls y y ∈ TB
def YS (y : MethodName) (cc : ByteArray) (nL : Nat) (ret : Option FieldType) (n : Nat) : Prop := YW y cc nL ret n ∧ Cond.static y ∈ TB
theorem Cx.words {E : ENV} {p : Program} {R : Room} {s : State} {m : MethodId} {meth : Method} {c : Code} (C : Cx E p R s m meth c) {U : State} (hW : s.WarmedH U.vm) {w : Cond} (hw : w ∈ TB) (a : Array Value) : w.before a U = true := word_of C.2.2.2.1 (State.WarmedH.trans C.2.2.2.2.1 hW) hw a
theorem callB_mk {E : ENV} {p : Program} {R : Room} {s : State} {m : MethodId} {args : Array Value} {meth : Method} {c : Code} (C : Cx E p R s m meth c) {y : MethodName} {cc : ByteArray} {nL n idx d' mc' ms' : Nat} {ret : Option FieldType} (yw : YW y cc nL ret n) (hlink : Cond.methodLink (eY E).cls idx y ∈ TB) (hd : d' + 1 ≤ (eD E).1) :
    CallB R s args (eY E).cls idx y cc nL ret (Cond.code y cc nL ret :: TB) { frames := d', cells := mc', slots := ms', locals := 64 * d' } mc' ms' n := by
  obtain ⟨h1, h2, h3, h4, h5, h6⟩ := yw
  have r1 := C.2.1.1
  have r2 := C.2.1.2.1
  refine ⟨rfl, rfl, Nat.le_trans hd r1, ?_, fun w hw a' U hW => ?_, List.mem_cons_self, C.w h1 args, C.w h2 args, ⟨h4, h5⟩, fun sig h => ?_, C.w hlink args⟩
  · show 8 + (nL + 11) + 64 * d' ≤ R.locals
    omega
  · rcases List.mem_cons.mp hw with rfl | hw
    · exact C.words hW h1 a'
    · exact C.words hW hw a'
  · rw [h] at h6
    exact (Option.some.inj h6).symm
theorem q_run {E : ENV} {P' : PT} {p : Program} {e : Env} {R : Room} {s : State} {m : MethodId} {args : Array Value} {below : List Frame} {meth : Method} {c : Code} {H : Heap} {locs : List Loc} {cu su mc' ms' pc : Nat} {ls : Array Slot} {L : List (Option Value)} {st0 st : List Value} {av : Array Value}
    (hr : vx_Run p (eL E) e R s m args below meth c H locs cu su mc' ms' (F0 m pc ls st0) st (QcP (eG E) P' av) (XcP (eG E) P') (Af (eG E))) (C : Cx E p R s m meth c) (S : va_S (Af (eG E)) s.heap H locs) (LL : LR ls (eN E) L)
    (kv : ∀ v ly' D', P' (.inl v) ly' D' → Px E (pc + 3) L (v.toList ++ st) ly' D' (cu + mc') (su + ms'))
    (kx : ∀ e ly' D', P' (.inr e) ly' D' → PX E pc L st ly' D' (cu + mc') (su + ms') (exn e)) : W p (eL E) e R s m args below meth c H locs cu su (eZ E below args s) (F0 m pc ls st0) := by
  intro T hT X
  rcases hr T hT X with ⟨v, st₀, t, T', Lc, h0, X', hL, e1, e2, ⟨⟨v', ly', D', hv, hp, hR⟩, hF⟩, st⟩ | ⟨q, st₀, t, T', Lc, En, ce, h0, X', hL, e1, e2, ⟨⟨ex, ly', D', rfl, hp, hR⟩, hF⟩, hce, hcv, hcl, st⟩
  · cases hv
    obtain ⟨k1, k2, k3⟩ := vx_keep h0 e1 S (fun _ _ h => h) (fun _ h => h) hL hF
    obtain ⟨t2, a1, b1⟩ := kv v ly' D' hp p e R s m args below meth c T'.heap (locs ++ Lc) ls C (by rw [e1]; exact hR) k3 LL T' rfl X'
    exact ⟨t2, st t2 a1, b1⟩
  · obtain ⟨k1, k2, k3⟩ := vx_keep h0 e1 S (fun _ _ h => h) (fun _ h => h) hL hF
    obtain ⟨t2, a1, b1⟩ := kx ex ly' D' hp p e R s m args below meth c T'.heap (locs ++ Lc) ls q ce C (by rw [e1]; exact hR) k3 LL (by rw [e1]; exact hce) hcv hcl T' rfl X'
    exact ⟨t2, st.trans a1, b1⟩
theorem pre_S {E : ENV} {p : Program} {R : Room} {s : State} {m : MethodId} {meth : Method} {c : Code} {H : Heap} {locs : List Loc} {ly : LY} {D : DT} {av : List Value} (C : Cx E p R s m meth c) (Rp : Rep (eG E) ly D H) (S : va_S (Af (eG E)) s.heap H locs) : PreS s H (PcP (eG E) av ly D) av :=
  ⟨fun _ _ _ _ q => q, fun U hU hW => ⟨rfl, State.WarmedH.trans C.2.2.2.2.1 hW, by rw [hU]; exact C.old S, by rw [hU]; exact Rp⟩⟩
theorem rcv_of {E : ENV} {p : Program} {R : Room} {s : State} {m : MethodId} {meth : Method} {c : Code} {H : Heap} {ly : LY} {D : DT} {a ci : Nat} {r : vw_C} (C : Cx E p R s m meth c) (Rp : Rep (eG E) ly D H) (hs : ly.1 a = some (.inl ci)) (hr : vwCl[ci]? = some r) :
    ∃ cellB : Cell, H[(eG E).1.heap.size + a]? = some cellB ∧ cellB.vm.isStatics = false ∧ s.vm.findClass r.1 = some cellB.cls := by
  obtain ⟨r', h1, cell, q1, q2, q3, q4⟩ := Rp.1 a ci hs
  obtain ⟨hS, hfc, -⟩ := C.K.1 ci _ hr
  exact ⟨cell, q1, by rw [q3]; rfl, by rw [q2]; exact hfc⟩
section Calls2
variable {E : ENV} {pc : Nat} {L : List (Option Value)} {st : List Value} {ly : LY} {D : DT} {cu su : Nat}
theorem p_callV {y : MethodName} {cc : ByteArray} {nL n idx d' mc' ms' a ci : Nat} {ret : Option FieldType} {r : vw_C} {av : List Value} {P' : PT} (hdc : decode (eC E) pc = .ok (.invokevirtual idx, 3)) (yv : YV y cc nL ret n) (hlink : Cond.methodLink (eY E).cls idx y ∈ TB) (hr : vwCl[ci]? = some r) (hC : r.1 = y.cls) (hd : d' + 1 ≤ (eD E).1) (hn : av.length = n) (hst : (st.map fun v => v.category).sum ≤ 8) (hcu : cu + mc' ≤ (eD E).2.1) (hsu : su + ms' ≤ (eD E).2.2)
    (hs : ly.1 a = some (.inl ci)) (hM : Sat (eL E) (eG E) y cc nL ret d' mc' ms' (vR (eG E) a :: av) ly D P')
    (kv : ∀ v ly' D', P' (.inl v) ly' D' → Px E (pc + 3) L (v.toList ++ st) ly' D' (cu + mc') (su + ms'))
    (kx : ∀ e ly' D', P' (.inr e) ly' D' → PX E pc L st ly' D' (cu + mc') (su + ms') (exn e)) : Px E pc L (av.reverse ++ vR (eG E) a :: st) ly D cu su := by
  intro p e R s m args below meth c H locs ls C Rp S LL
  obtain ⟨yw, hi, hsel⟩ := yv
  have pS := pre_S (av := vR (eG E) a :: av) C Rp S
  refine q_run (vx_runV (As := av) (rest := st) (Ts := TB) (C := y.cls) ⟨C.1.1, C.1.2.1, C.1.2.2.1, C.1.2.2.2.1, fun w hw => C.w hw args⟩ hM ⟨callB_mk C yw hlink hd, C.w hi args, C.w hsel args⟩ ⟨pS.1, ?_, pS.2⟩ rfl hn LL.1 rfl ?_ hdc ⟨Nat.le_trans hcu C.2.1.2.2.1, Nat.le_trans hsu C.2.1.2.2.2⟩) C S LL kv kx
  · rw [← hC]; exact rcv_of C Rp hs hr
  · show 2 * 0 + _ ≤ 8
    omega
theorem p_callS {y : MethodName} {cc : ByteArray} {nL n idx d' mc' ms' : Nat} {ret : Option FieldType} {av : List Value} {P' : PT} (hdc : decode (eC E) pc = .ok (.invokestatic idx, 3)) (ys : YS y cc nL ret n) (hlink : Cond.methodLink (eY E).cls idx y ∈ TB) (hd : d' + 1 ≤ (eD E).1) (hn : av.length = n) (hst : (st.map fun v => v.category).sum ≤ 8) (hcu : cu + mc' ≤ (eD E).2.1) (hsu : su + ms' ≤ (eD E).2.2)
    (hM : Sat (eL E) (eG E) y cc nL ret d' mc' ms' av ly D P')
    (kv : ∀ v ly' D', P' (.inl v) ly' D' → Px E (pc + 3) L (v.toList ++ st) ly' D' (cu + mc') (su + ms'))
    (kx : ∀ e ly' D', P' (.inr e) ly' D' → PX E pc L st ly' D' (cu + mc') (su + ms') (exn e)) : Px E pc L (av.reverse ++ st) ly D cu su := by
  intro p e R s m args below meth c H locs ls C Rp S LL
  obtain ⟨yw, hstat⟩ := ys
  refine q_run (vx_runS (As := av) (rest := st) (Ts := TB) ⟨C.1.1, C.1.2.1, C.1.2.2.1, C.1.2.2.2.1, fun w hw => C.w hw args⟩ hM ⟨callB_mk C yw hlink hd, C.w hstat args⟩ (pre_S C Rp S) rfl hn LL.1 rfl ?_ hdc ⟨Nat.le_trans hcu C.2.1.2.2.1, Nat.le_trans hsu C.2.1.2.2.2⟩) C S LL kv kx
  show 2 * 0 + _ ≤ 8
  omega
end Calls2
/-! ===== the functions: their answers are options, none where a check fails ===== -/
def ok {α : Type} (X : Option α) (K : α → Prop) : Prop := ∃ o, X = some o ∧ K o
theorem ok_some {α : Type} {a : α} {K : α → Prop} (h : ok (some a) K) : K a := by
  obtain ⟨o, e, h⟩ := h
  cases e; exact h
theorem ok_bind {α β : Type} {X : Option α} {f : α → Option β} {K : β → Prop} (h : ok (X.bind f) K) : ok X (fun a => ok (f a) K) := by
  obtain ⟨o, e, h⟩ := h
  obtain ⟨a, e1, e2⟩ := Option.bind_eq_some_iff.mp e
  exact ⟨a, e1, o, e2, h⟩
def done {σ α : Type} (X : Option α) : Option (σ ⊕ α) := X.map Sum.inr
theorem ok_done {σ α : Type} {X : Option α} {K : σ ⊕ α → Prop} (h : ok (done X) K) : ok X (fun a => K (.inr a)) := by
  obtain ⟨o, e, h⟩ := h
  obtain ⟨a, e1, rfl⟩ := Option.map_eq_some_iff.mp e
  exact ⟨a, e1, h⟩
def loopN {σ α : Type} (f : σ → Option (σ ⊕ α)) : Nat → σ → Option α
  | 0, _ => none
  | n + 1, s => match f s with
    | none => none
    | some (.inl s') => loopN f n s'
    | some (.inr r) => some r
theorem loopN_up {σ α : Type} {f : σ → Option (σ ⊕ α)} : ∀ {n : Nat} {s : σ} {r : α}, loopN f n s = some r → ∀ m, n ≤ m → loopN f m s = some r := by
  intro n
  induction n with
  | zero => intro s r h; cases h
  | succ n ih =>
    intro s r h m hm
    obtain ⟨m, rfl⟩ : ∃ k, m = k + 1 := ⟨m - 1, by omega⟩
    simp only [loopN] at h ⊢
    split at h
    · cases h
    · exact ih h m (by omega)
    · exact h
noncomputable def loopF {σ α : Type} (f : σ → Option (σ ⊕ α)) (s : σ) : Option α := by
  classical exact if h : ∃ n, (loopN f n s).isSome then loopN f h.choose s else none
theorem loopF_of {σ α : Type} {f : σ → Option (σ ⊕ α)} {n : Nat} {s : σ} {r : α} (h : loopN f n s = some r) : loopF f s = some r := by
  have hx : ∃ n, (loopN f n s).isSome := ⟨n, by rw [h]; rfl⟩
  unfold loopF
  rw [dif_pos hx]
  obtain ⟨r', hr⟩ := Option.isSome_iff_exists.mp hx.choose_spec
  rw [hr]
  have a := loopN_up hr (n + hx.choose) (by omega)
  have b := loopN_up h (n + hx.choose) (by omega)
  exact a.symm.trans b
theorem loopF_to {σ α : Type} {f : σ → Option (σ ⊕ α)} {s : σ} {r : α} (h : loopF f s = some r) : ∃ n, loopN f n s = some r := by
  unfold loopF at h
  split at h
  · exact ⟨_, h⟩
  · cases h
theorem loopF_inl {σ α : Type} {f : σ → Option (σ ⊕ α)} {s s' : σ} (h : f s = some (.inl s')) : loopF f s = loopF f s' := by
  cases hr : loopF f s' with
  | some r =>
    obtain ⟨n, hn⟩ := loopF_to hr
    exact loopF_of (n := n + 1) (by simp only [loopN, h]; exact hn)
  | none =>
    cases hr2 : loopF f s with
    | none => rfl
    | some r =>
      obtain ⟨n, hn⟩ := loopF_to hr2
      cases n with
      | zero => cases hn
      | succ n =>
        simp only [loopN, h] at hn
        rw [loopF_of hn] at hr
        cases hr
theorem loopF_inr {σ α : Type} {f : σ → Option (σ ⊕ α)} {s : σ} {r : α} (h : f s = some (.inr r)) : loopF f s = some r := loopF_of (n := 1) (by simp only [loopN, h])
theorem loopF_none {σ α : Type} {f : σ → Option (σ ⊕ α)} {s : σ} (h : f s = none) : loopF f s = none := by
  cases hr : loopF f s with
  | none => rfl
  | some r =>
    obtain ⟨n, hn⟩ := loopF_to hr
    cases n with
    | zero => cases hn
    | succ n =>
      simp only [loopN, h] at hn
      cases hn
/-- what a loop's goal follows from, at its head -/
def KL {σ α : Type} (P : σ → Prop) (K : α → Prop) : σ ⊕ α → Prop
  | .inl s => P s
  | .inr r => K r
theorem ok_loop {σ α : Type} {f : σ → Option (σ ⊕ α)} {K : α → Prop} {P : σ → Prop} (hb : ∀ s, ok (f s) (KL P K) → P s) {s : σ} (h : ok (loopF f s) K) : P s := by
  obtain ⟨r, e, hK⟩ := h
  obtain ⟨n, hn⟩ := loopF_to e
  clear e
  induction n generalizing s with
  | zero => cases hn
  | succ n ih =>
    refine hb s ?_
    simp only [loopN] at hn
    split at hn
    · cases hn
    · next s' e => exact ⟨_, e, ih hn⟩
    · next r' e =>
      cases hn
      exact ⟨_, e, hK⟩
def gd {α : Type} (c : Prop) [Decidable c] (X : Option α) : Option α := if c then X else none
theorem ok_gd {α : Type} {c : Prop} [Decidable c] {X : Option α} {K : α → Prop} (h : ok (gd c X) K) : c ∧ ok X K := by
  obtain ⟨o, e, h⟩ := h
  unfold gd at e
  split at e
  · next hc => exact ⟨hc, o, e, h⟩
  · cases e
theorem ok_ite {α : Type} {c : Prop} [Decidable c] {X Y : Option α} {K : α → Prop} (h : ok (if c then X else Y) K) : (c → ok X K) ∧ (¬ c → ok Y K) := ⟨fun hc => by rw [if_pos hc] at h; exact h, fun hc => by rw [if_neg hc] at h; exact h⟩
