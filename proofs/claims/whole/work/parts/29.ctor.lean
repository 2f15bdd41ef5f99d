/-! ===== constructors: a layout that grows ===== -/
theorem fv0 {B : Nat} {ty : FieldType} (h : ty ≠ .float ∧ ty ≠ .double) : defaultValue ty = fval B ty 0 none := by
  cases ty <;> first | rfl | exact absurd rfl h.1 | exact absurd rfl h.2
def CI (ly : LY) (D : DT) (a ci b : Nat) : Prop := ly.1 a = some (.inl ci) ∧ ly.2.2 = b ∧ a < b ∧ ∀ q, b ≤ q → ∀ k, D.1 q k = 0 ∧ D.2 q k = 0
theorem CI.n {ly : LY} {D : DT} {a ci b : Nat} (h : CI ly D a ci b) (x : Nat ⊕ (Nat × Nat)) : CI (sN ly x) D a ci (b + 1) := by
  obtain ⟨h1, h2, h3, h4⟩ := h
  refine ⟨?_, ?_, by omega, fun q hq => h4 q (by omega)⟩
  · show (if a = ly.2.2 then some x else ly.1 a) = _
    rw [if_neg (by omega)]; exact h1
  · show ly.2.2 + 1 = _
    omega
theorem CI.self {ly : LY} {D : DT} {a ci b : Nat} (h : CI ly D a ci b) (c : Nat) : CI (sN ly (.inl c)) D b c (b + 1) := by
  obtain ⟨h1, h2, h3, h4⟩ := h
  refine ⟨?_, ?_, by omega, fun q hq => h4 q (by omega)⟩
  · show (if b = ly.2.2 then some _ else ly.1 b) = _
    rw [if_pos h2.symm]
  · show ly.2.2 + 1 = _
    omega
theorem sN_at {ly : LY} {x : Nat ⊕ (Nat × Nat)} {b : Nat} (h : ly.2.2 = b) : (sN ly x).1 b = some x := by
  show (if b = ly.2.2 then some x else ly.1 b) = _
  rw [if_pos h.symm]
theorem CI.r {ly : LY} {D : DT} {a ci b a0 k q : Nat} (h : CI ly D a ci b) : CI (sR ly a0 k q) D a ci b := h
theorem CI.f {ly : LY} {D : DT} {a ci b a0 k : Nat} {v : Int} (h : CI ly D a ci b) (h0 : a0 < b) : CI ly (sF D a0 k v) a ci b := by
  obtain ⟨h1, h2, h3, h4⟩ := h
  refine ⟨h1, h2, h3, fun q hq k' => ⟨?_, (h4 q hq k').2⟩⟩
  show (if q = a0 ∧ k' = k then v else D.1 q k') = 0
  rw [if_neg (by omega)]; exact (h4 q hq k').1
theorem CI.a {ly : LY} {D : DT} {a ci b a0 k : Nat} {v : Int} (h : CI ly D a ci b) (h0 : a0 < b) : CI ly (sA D a0 k v) a ci b := by
  obtain ⟨h1, h2, h3, h4⟩ := h
  refine ⟨h1, h2, h3, fun q hq k' => ⟨(h4 q hq k').1, ?_⟩⟩
  show (if q = a0 ∧ k' = k then v else D.2 q k') = 0
  rw [if_neg (by omega)]; exact (h4 q hq k').2
theorem rep_new {g : GH} {ly : LY} {D : DT} {H H1 : Heap} {x : Nat ⊕ (Nat × Nat)} (Rp : Rep g ly D H) (z1 : H1.size = g.1.heap.size + ly.2.2 + 1) (o1 : ∀ q, q < g.1.heap.size + ly.2.2 → H1[q]? = H[q]?)
    (hx : ∀ ci, x = .inl ci → ∃ r, vwCl[ci]? = some r ∧ t_OB (g.1.heap.size + ly.2.2) (g.2.1 ci) r.2.2 (g.2.2.1 ci) H1 (fun k => fval g.1.heap.size (tyOf ci k) (D.1 ly.2.2 k) none))
    (hy : ∀ ty n, x = .inr (ty, n) → n ≤ 2147483647 ∧ H1[g.1.heap.size + ly.2.2]? = some (acell (g.2.2.2.1 ty) ty n (D.2 ly.2.2))) : Rep g (sN ly x) D H1 := by
  have hsz : H.size = g.1.heap.size + ly.2.2 := Rp.2.2
  refine ⟨fun a ci h => ?_, fun a ty n h => ?_, by rw [z1]; show _ = g.1.heap.size + (ly.2.2 + 1); omega⟩
  · have h' : (if a = ly.2.2 then some x else ly.1 a) = some (.inl ci) := h
    by_cases ea : a = ly.2.2
    · rw [if_pos ea] at h'
      obtain ⟨r, e1, e2⟩ := hx ci (Option.some.inj h')
      subst ea
      refine ⟨r, e1, e2.to fun k _ => ?_⟩
      show _ = fval _ _ _ (if ly.2.2 = ly.2.2 then none else ly.2.1 ly.2.2 k)
      rw [if_pos rfl]
    · rw [if_neg ea] at h'
      obtain ⟨r, e1, ob⟩ := Rp.1 a ci h'
      have hlt : g.1.heap.size + a < H.size := by
        obtain ⟨cell, q1, -⟩ := ob
        exact (Array.getElem?_eq_some_iff.mp q1).1
      refine ⟨r, e1, (ob.kept (o1 _ (by omega))).to fun k _ => ?_⟩
      show _ = fval _ _ _ (if a = ly.2.2 then none else ly.2.1 a k)
      rw [if_neg ea]
  · have h' : (if a = ly.2.2 then some x else ly.1 a) = some (.inr (ty, n)) := h
    by_cases ea : a = ly.2.2
    · rw [if_pos ea] at h'
      subst ea
      exact hy ty n (Option.some.inj h')
    · rw [if_neg ea] at h'
      obtain ⟨e1, q1⟩ := Rp.2.1 a ty n h'
      have hlt : g.1.heap.size + a < H.size := (Array.getElem?_eq_some_iff.mp q1).1
      exact ⟨e1, by rw [o1 _ (by omega)]; exact q1⟩
section Ctor
variable {E : ENV} {pc : Nat} {L : List (Option Value)} {st : List Value} {ly : LY} {D : DT} {cu su : Nat}
theorem p_new {idx ci b N : Nat} {C : String} {T : u_T} (hd : decode (eC E) pc = .ok (.new idx, 3)) (hcl : Cond.classLink (eY E).cls idx C ∈ TB) (hin : Cond.instantiable C N ∈ TB) (hini : Cond.initialized C ∈ TB) (ck : CK ci C T N) (hnf : ∀ k, k < N → tyOf ci k ≠ .float ∧ tyOf ci k ≠ .double) (hcu : cu + 1 ≤ (eD E).2.1) (hsu : su + N ≤ (eD E).2.2) (hb : ly.2.2 = b) (hz : ∀ k, D.1 b k = 0 ∧ D.2 b k = 0)
    (k : Px E (pc + 3) L (vR (eG E) b :: st) (sN ly (.inl ci)) D (cu + 1) (su + N)) : Px E pc L st ly D cu su := by
  subst hb
  intro p e R s m args below meth c H locs ls C9 Rp S LL
  obtain ⟨hc, hws, hty, hnm⟩ := ck
  have hKn := C9.K.1 ci _ hc
  have hts : ∀ w ∈ TB, w.before args s = true := fun w hw => C9.w hw args
  refine W.newcK C9.1.1 C9.1.2.1 C9.1.2.2.2.1 (C9.w hcl args) (C9.w hin args) (C9.w hini args) rfl hd (Nat.le_trans hcu C9.2.1.2.2.1) (Nat.le_trans hsu C9.2.1.2.2.2) hKn.2.1 Rp.2.2 fun H1 kC hkC e1 z1 o1 => ?_
  have hsz : H.size = (eG E).1.heap.size + ly.2.2 := Rp.2.2
  refine k p e R s m args below meth c H1 locs ls C9 (rep_new Rp z1 o1 (fun c h => ?_) (fun ty n h => by cases h)) ⟨Nat.le_trans S.1 (by omega), fun x h1 h2 => (o1 x (by have := S.1; omega)).trans (S.2.1 x h1 h2), S.2.2⟩ LL
  cases h
  refine ⟨_, hc, (u_born (tyOf ci) hts hws hKn hkC e1 hty).to fun j hj => ?_⟩
  rw [(hz j).1]
  exact fv0 (hnf j hj)
theorem p_newarr {b N ty : Nat} {x : Int} {atype : ArrayType} (hd : decode (eC E) pc = .ok (.newarray atype, 2)) (hw : Cond.arrayClass (newarray.typeOf atype) ∈ TB) (hty : (tysL (eG E))[ty]? = some ((eG E).2.2.2.1 ty, newarray.typeOf atype)) (hRA : ∀ U cA, va_RA U cA (newarray.typeOf atype) → U.vm.findClass ("[" ++ (newarray.typeOf atype).toString) = some cA) (hx : x = (N : Int)) (hN : N ≤ 100000) (hbytes : N * componentBytes (newarray.typeOf atype) ≤ 536870912) (hac : ∀ (cA : ClassId) (f : Nat → Int), (∀ j, f j = 0) → acell cA ty N f = arrV cA N (fun _ => defaultValue (newarray.typeOf atype))) (hcu : cu + 1 ≤ (eD E).2.1) (hsu : su + N ≤ (eD E).2.2) (hb : ly.2.2 = b) (hz : ∀ k, D.1 b k = 0 ∧ D.2 b k = 0)
    (k : Px E (pc + 2) L (vR (eG E) b :: st) (sN ly (.inr (ty, N))) D (cu + 1) (su + N)) : Px E pc L (vI x :: st) ly D cu su := by
  subst hb
  subst hx
  intro p e R s m args below meth c H locs ls C9 Rp S LL
  refine va_newaK (n := Int32.ofInt (N : Int)) (N := N) C9.1.1 C9.1.2.1 (C9.w hw args) rfl hd rfl (nneg_i (by omega) (by omega)) (i32_nat (by omega)) hbytes (Nat.le_trans hcu C9.2.1.2.2.1) (Nat.le_trans hsu C9.2.1.2.2.2) Rp.2.2 fun H1 cA e1 z1 o1 hAr hNm => ?_
  have hsz : H.size = (eG E).1.heap.size + ly.2.2 := Rp.2.2
  have hcA : cA = (eG E).2.2.2.1 ty := Option.some.inj (hNm.symm.trans (hRA _ _ (C9.K.2 ty _ hty).2))
  refine k p e R s m args below meth c H1 locs ls C9 (rep_new Rp z1 o1 (fun c h => by cases h) (fun ty' n h => ?_)) ⟨Nat.le_trans S.1 (by omega), fun x h1 h2 => (o1 x (by have := S.1; omega)).trans (S.2.1 x h1 h2), S.2.2⟩ LL
  cases h
  refine ⟨by omega, ?_⟩
  rw [hac _ _ (fun j => (hz j).2), ← hcA]
  exact e1
theorem p_objInit {idx : Nat} {a : Nat} (hd : decode (eC E) pc = .ok (.invokespecial idx, 3)) (hlink : Cond.methodLink (eY E).cls idx Lib.objectInit ∈ TB) (hw : Cond.instanceMethod Lib.objectInit ∈ TB ∧ Cond.code Lib.objectInit ⟨#[0xb1]⟩ 1 none ∈ TB) (hdd : 1 ≤ (eD E).1) (hst : (st.map fun v => v.category).sum ≤ 8) (k : Px E (pc + 3) L st ly D cu su) : Px E pc L (.ref a :: st) ly D cu su := by
  intro p e R s m args below meth c H locs ls C Rp S LL
  have r1 := C.2.1.1
  have r2 := C.2.1.2.1
  exact W.objInit C.1.1 C.1.2.1 C.1.2.2.2.1 (C.w hlink args) (C.w hw.1 args) (C.w hw.2 args) rfl (LL.1.trans C.1.2.2.1.symm) rfl hd (by omega) (by show 2 * 0 + _ + 12 ≤ _; omega) (k p e R s m args below meth c H locs ls C Rp S LL)
def YI (y : MethodName) (cc : ByteArray) (nL : Nat) : Prop := YW y cc nL none 0 ∧ y.name = "<init>" ∧ Cond.instanceMethod y ∈ TB
/-- a constructor of a nest mate -/
theorem p_callIN {y : MethodName} {cc : ByteArray} {nL idx d' mc' ms' b : Nat} {host : String} {P' : PT} (st : List Value) (hdc : decode (eC E) pc = .ok (.invokespecial idx, 3)) (yi : YI y cc nL) (hlink : Cond.methodLinkNest (eY E).cls idx y host ∈ lw_tbl) (hd : d' + 1 ≤ (eD E).1) (hst : (st.map fun v => v.category).sum ≤ 8) (hcu : cu + mc' ≤ (eD E).2.1) (hsu : su + ms' ≤ (eD E).2.2)
    (hM : Sat (eL E) (eG E) y cc nL none d' mc' ms' [vR (eG E) b] ly D P') (hnx : ∀ e ly' D', ¬ P' (.inr e) ly' D')
    (kv : ∀ v ly' D', P' (.inl v) ly' D' → Px E (pc + 3) L (v.toList ++ st) ly' D' (cu + mc') (su + ms')) : Px E pc L (vR (eG E) b :: st) ly D cu su := by
  intro p e R s m args below meth c H locs ls C Rp S LL
  obtain ⟨yw, hy1, hin⟩ := yi
  have r1 := C.2.1.1
  have r2 := C.2.1.2.1
  have hlk : va_Nw (.methodLinkNest (eY E).cls idx y host) s := va_Nw.warmM C.2.2.2.2.1 (va_Nw.of rfl (C.2.2.2.1.2.1 _ hlink))
  refine q_run (vx_runIN (As := []) (rest := st) (Ts := TB) (host := host) ⟨C.1.1, C.1.2.1, C.1.2.2.1, C.1.2.2.2.1, fun w hw => C.w hw args⟩ hM ⟨va_cnB 0 (fun w hw => C.w hw args) (fun w hw => ?_) rfl rfl rfl hlk (C.w yw.2.1 args) yw.2.2.2 ⟨Nat.le_trans hd r1, ?_⟩, hy1, C.w hin args⟩ (pre_S C Rp S) rfl rfl LL.1 rfl ?_ hdc ⟨Nat.le_trans hcu C.2.1.2.2.1, Nat.le_trans hsu C.2.1.2.2.2⟩) C S LL kv (fun e ly' D' hp => absurd hp (hnx e ly' D'))
  · have : w ∈ TB := by
      rcases List.mem_cons.mp hw with rfl | hw
      · exact yw.1
      · exact hw
    exact ⟨this, good_of_word (List.mem_filter.mp this).2⟩
  · have := yw.2.2.1
    show 8 + (nL + 11) + 64 * d' ≤ R.locals
    omega
  · show 2 * 0 + _ ≤ 8
    omega
/-- a public constructor -/
theorem p_callI {y : MethodName} {cc : ByteArray} {nL idx d' mc' ms' b : Nat} {P' : PT} (st : List Value) (hdc : decode (eC E) pc = .ok (.invokespecial idx, 3)) (yi : YI y cc nL) (hlink : Cond.methodLink (eY E).cls idx y ∈ TB) (hd : d' + 1 ≤ (eD E).1) (hst : (st.map fun v => v.category).sum ≤ 8) (hcu : cu + mc' ≤ (eD E).2.1) (hsu : su + ms' ≤ (eD E).2.2)
    (hM : Sat (eL E) (eG E) y cc nL none d' mc' ms' [vR (eG E) b] ly D P') (hnx : ∀ e ly' D', ¬ P' (.inr e) ly' D')
    (kv : ∀ v ly' D', P' (.inl v) ly' D' → Px E (pc + 3) L (v.toList ++ st) ly' D' (cu + mc') (su + ms')) : Px E pc L (vR (eG E) b :: st) ly D cu su := by
  intro p e R s m args below meth c H locs ls C Rp S LL
  obtain ⟨yw, hy1, hin⟩ := yi
  refine q_run (vx_runI (As := []) (rest := st) (Ts := TB) ⟨C.1.1, C.1.2.1, C.1.2.2.1, C.1.2.2.2.1, fun w hw => C.w hw args⟩ hM ⟨callB_mk C yw hlink hd, hy1, C.w hin args⟩ (pre_S C Rp S) rfl rfl LL.1 rfl ?_ hdc ⟨Nat.le_trans hcu C.2.1.2.2.1, Nat.le_trans hsu C.2.1.2.2.2⟩) C S LL kv (fun e ly' D' hp => absurd hp (hnx e ly' D'))
  show 2 * 0 + _ ≤ 8
  omega
end Ctor
def PC (ly' : LY) (D' : DT) : PT := fun r ly D => r = .inl none ∧ ly = ly' ∧ D = D'
theorem PC.nx {ly' : LY} {D' : DT} : ∀ e ly D, ¬ PC ly' D' (.inr e) ly D := fun e ly D h => by cases h.1
theorem ac0 {cA : ClassId} {N : Nat} {f : Nat → Int} (h : ∀ j, f j = 0) : acell cA 0 N f = arrV cA N (fun _ => .int 0) := by
  have : f = fun _ => 0 := funext h
  subst this; rfl
theorem ac1 {cA : ClassId} {N : Nat} {f : Nat → Int} (h : ∀ j, f j = 0) : acell cA 1 N f = arrV cA N (fun _ => .int 0) := by
  have : f = fun _ => 0 := funext h
  subst this; rfl
theorem ac2 {cA : ClassId} {N : Nat} {f : Nat → Int} (h : ∀ j, f j = 0) : acell cA 2 N f = arrV cA N (fun _ => .int 0) := by
  have : f = fun _ => 0 := funext h
  subst this; rfl
theorem ac3 {cA : ClassId} {N : Nat} {f : Nat → Int} (h : ∀ j, f j = 0) : acell cA 3 N f = arrV cA N (fun _ => .long 0) := by
  have : f = fun _ => 0 := funext h
  subst this; rfl
set_option maxRecDepth 100000 in
theorem oiw : Cond.instanceMethod Lib.objectInit ∈ TB ∧ Cond.code Lib.objectInit ⟨#[0xb1]⟩ 1 none ∈ TB := by decide +kernel
set_option maxRecDepth 100000 in
theorem aw_0 : Cond.arrayClass .int ∈ TB := by decide +kernel
set_option maxRecDepth 100000 in
theorem aw_1 : Cond.arrayClass .byte ∈ TB := by decide +kernel
set_option maxRecDepth 100000 in
theorem aw_2 : Cond.arrayClass .boolean ∈ TB := by decide +kernel
set_option maxRecDepth 100000 in
theorem aw_3 : Cond.arrayClass .long ∈ TB := by decide +kernel
theorem nf_X0 : ∀ k, k < 3 → tyOf 0 k ≠ .float ∧ tyOf 0 k ≠ .double := by decide +kernel
theorem nf_X1 : ∀ k, k < 11 → tyOf 1 k ≠ .float ∧ tyOf 1 k ≠ .double := by decide +kernel
theorem nf_X2 : ∀ k, k < 7 → tyOf 2 k ≠ .float ∧ tyOf 2 k ≠ .double := by decide +kernel
theorem nf_X3 : ∀ k, k < 4 → tyOf 3 k ≠ .float ∧ tyOf 3 k ≠ .double := by decide +kernel
theorem nf_X4 : ∀ k, k < 8 → tyOf 4 k ≠ .float ∧ tyOf 4 k ≠ .double := by decide +kernel
theorem nf_X5 : ∀ k, k < 6 → tyOf 5 k ≠ .float ∧ tyOf 5 k ≠ .double := by decide +kernel
theorem nf_X6 : ∀ k, k < 9 → tyOf 6 k ≠ .float ∧ tyOf 6 k ≠ .double := by decide +kernel
theorem nf_X7 : ∀ k, k < 2 → tyOf 7 k ≠ .float ∧ tyOf 7 k ≠ .double := by decide +kernel
theorem nf_X8 : ∀ k, k < 7 → tyOf 8 k ≠ .float ∧ tyOf 8 k ≠ .double := by decide +kernel
theorem nf_X9 : ∀ k, k < 10 → tyOf 9 k ≠ .float ∧ tyOf 9 k ≠ .double := by decide +kernel
theorem nf_X10 : ∀ k, k < 7 → tyOf 10 k ≠ .float ∧ tyOf 10 k ≠ .double := by decide +kernel
theorem nf_X11 : ∀ k, k < 41 → tyOf 11 k ≠ .float ∧ tyOf 11 k ≠ .double := by decide +kernel
set_option maxRecDepth 100000 in
theorem in_X0 : Cond.instantiable RX0 3 ∈ TB ∧ Cond.initialized RX0 ∈ TB := ⟨TBm (i := 286) rfl rfl, TBm (i := 135) rfl rfl⟩
set_option maxRecDepth 100000 in
theorem in_X1 : Cond.instantiable RX1 11 ∈ TB ∧ Cond.initialized RX1 ∈ TB := ⟨TBm (i := 170) rfl rfl, TBm (i := 132) rfl rfl⟩
set_option maxRecDepth 100000 in
theorem in_X2 : Cond.instantiable RX2 7 ∈ TB ∧ Cond.initialized RX2 ∈ TB := ⟨TBm (i := 331) rfl rfl, TBm (i := 136) rfl rfl⟩
set_option maxRecDepth 100000 in
theorem in_X3 : Cond.instantiable RX3 4 ∈ TB ∧ Cond.initialized RX3 ∈ TB := ⟨TBm (i := 441) rfl rfl, TBm (i := 139) rfl rfl⟩
set_option maxRecDepth 100000 in
theorem in_X4 : Cond.instantiable RX4 8 ∈ TB ∧ Cond.initialized RX4 ∈ TB := ⟨TBm (i := 462) rfl rfl, TBm (i := 140) rfl rfl⟩
set_option maxRecDepth 100000 in
theorem in_X5 : Cond.instantiable RX5 6 ∈ TB ∧ Cond.initialized RX5 ∈ TB := ⟨TBm (i := 164) rfl rfl, TBm (i := 131) rfl rfl⟩
set_option maxRecDepth 100000 in
theorem in_X6 : Cond.instantiable RX6 9 ∈ TB ∧ Cond.initialized RX6 ∈ TB := ⟨TBm (i := 280) rfl rfl, TBm (i := 134) rfl rfl⟩
set_option maxRecDepth 100000 in
theorem in_X7 : Cond.instantiable RX7 2 ∈ TB ∧ Cond.initialized RX7 ∈ TB := ⟨TBm (i := 426) rfl rfl, TBm (i := 138) rfl rfl⟩
set_option maxRecDepth 100000 in
theorem in_X8 : Cond.instantiable RX8 7 ∈ TB ∧ Cond.initialized RX8 ∈ TB := ⟨TBm (i := 248) rfl rfl, TBm (i := 133) rfl rfl⟩
set_option maxRecDepth 100000 in
theorem in_X9 : Cond.instantiable RX9 10 ∈ TB ∧ Cond.initialized RX9 ∈ TB := ⟨TBm (i := 385) rfl rfl, TBm (i := 137) rfl rfl⟩
set_option maxRecDepth 100000 in
theorem in_X10 : Cond.instantiable RX10 7 ∈ TB ∧ Cond.initialized RX10 ∈ TB := ⟨TBm (i := 156) rfl rfl, TBm (i := 130) rfl rfl⟩
set_option maxRecDepth 100000 in
theorem in_X11 : Cond.instantiable RX11 41 ∈ TB ∧ Cond.initialized RX11 ∈ TB := ⟨TBm (i := 1577) rfl rfl, TBm (i := 141) rfl rfl⟩
set_option maxRecDepth 100000 in
theorem yi_X0_init : YI yX0_init cX0_init 1 := ⟨⟨TBm (i := 289) rfl rfl, TBm (i := 135) rfl rfl, by decide, by decide +kernel⟩, rfl, TBm (i := 288) rfl rfl⟩
set_option maxRecDepth 100000 in
theorem om_X0 : Cond.methodLink RX0 1 Lib.objectInit ∈ TB := TBm (i := 290) rfl rfl
def l_X0 (a b : Nat) (ly : LY) : LY := ly
def d_X0 (a b : Nat) (D : DT) : DT := (sF (sF (sF D a 0 0) a 1 0) a 2 0)
set_option maxRecDepth 100000 in
theorem i_X0 {ly : LY} {D : DT} {a b : Nat} (h0 : CI ly D a 0 b) (a9 c9 : Nat) (h : CI ly D a9 c9 b) : CI (l_X0 a b ly) (d_X0 a b D) a9 c9 (b + 0) := by
  have h := h.f (k := 0) (v := 0) h0.2.2.1
  have h0 := h0.f (k := 0) (v := 0) h0.2.2.1
  have h := h.f (k := 1) (v := 0) h0.2.2.1
  have h0 := h0.f (k := 1) (v := 0) h0.2.2.1
  have h := h.f (k := 2) (v := 0) h0.2.2.1
  have h0 := h0.f (k := 2) (v := 0) h0.2.2.1
  exact h
set_option maxRecDepth 100000 in
set_option maxHeartbeats 4000000 in
theorem t_X0 {l : Launch} {g : GH} (hG : G0 l g) {ly : LY} {D : DT} {a b : Nat} (hc : CI ly D a 0 b) : Sat l g yX0_init cX0_init 1 none 1 0 0 [vR g a] ly D (PC (l_X0 a b ly) (d_X0 a b D)) := by
  refine Sat.of hG (by decide) (Nat.le_of_ble_eq_true rfl) (by simp [Value.category]) ?_
  refine p_aload_n dX0_init_0 rfl ?_
  refine p_objInit dX0_init_1 om_X0 oiw (Nat.le_of_ble_eq_true rfl) (Nat.le_of_ble_eq_true rfl) ?_
  refine p_aload_n dX0_init_4 rfl ?_
  refine p_lconst 0 dX0_init_5 (by decide) ?_
  refine p_putj dX0_init_6 fq_X0_7 rfl hc.1 ?_
  have hc := hc.f (k := 0) (v := 0) hc.2.2.1
  refine p_aload_n dX0_init_9 rfl ?_
  refine p_lconst 0 dX0_init_10 (by decide) ?_
  refine p_putj dX0_init_11 fq_X0_13 rfl hc.1 ?_
  have hc := hc.f (k := 1) (v := 0) hc.2.2.1
  refine p_aload_n dX0_init_14 rfl ?_
  refine p_lconst 0 dX0_init_15 (by decide) ?_
  refine p_putj dX0_init_16 fq_X0_16 rfl hc.1 ?_
  have hc := hc.f (k := 2) (v := 0) hc.2.2.1
  exact p_return dX0_init_19 (Nat.le_of_ble_eq_true rfl) (Nat.le_of_ble_eq_true rfl) ⟨rfl, rfl, rfl⟩
set_option maxRecDepth 100000 in
theorem yi_X1_init : YI yX1_init cX1_init 1 := ⟨⟨TBm (i := 173) rfl rfl, TBm (i := 132) rfl rfl, by decide, by decide +kernel⟩, rfl, TBm (i := 172) rfl rfl⟩
set_option maxRecDepth 100000 in
theorem om_X1 : Cond.methodLink RX1 3 Lib.objectInit ∈ TB := TBm (i := 174) rfl rfl
def l_X1 (a b : Nat) (ly : LY) : LY := (sR (sN (sR (sN (sR (sN (sR (sN (sR (sN (sR (sN (sR (sN ly (.inr (0, 384))) a 4 b) (.inr (2, 384))) a 5 (b + 1)) (.inr (0, 384))) a 6 (b + 2)) (.inr (0, 384))) a 7 (b + 3)) (.inr (0, 24))) a 8 (b + 4)) (.inr (1, 48))) a 9 (b + 5)) (.inr (0, 8))) a 10 (b + 6))
def d_X1 (a b : Nat) (D : DT) : DT := (sF (sF (sF (sF D a 0 0) a 1 0) a 2 0) a 3 1)
set_option maxRecDepth 100000 in
theorem i_X1 {ly : LY} {D : DT} {a b : Nat} (h0 : CI ly D a 1 b) (a9 c9 : Nat) (h : CI ly D a9 c9 b) : CI (l_X1 a b ly) (d_X1 a b D) a9 c9 (b + 7) := by
  have h := h.f (k := 0) (v := 0) h0.2.2.1
  have h0 := h0.f (k := 0) (v := 0) h0.2.2.1
  have h := h.f (k := 1) (v := 0) h0.2.2.1
  have h0 := h0.f (k := 1) (v := 0) h0.2.2.1
  have h := h.f (k := 2) (v := 0) h0.2.2.1
  have h0 := h0.f (k := 2) (v := 0) h0.2.2.1
  have h := h.f (k := 3) (v := 1) h0.2.2.1
  have h0 := h0.f (k := 3) (v := 1) h0.2.2.1
  have h := h.n (.inr (0, 384))
  have h0 := h0.n (.inr (0, 384))
  have h := h.r (a0 := a) (k := 4) (q := b)
  have h0 := h0.r (a0 := a) (k := 4) (q := b)
  have h := h.n (.inr (2, 384))
  have h0 := h0.n (.inr (2, 384))
  have h := h.r (a0 := a) (k := 5) (q := (b + 1))
  have h0 := h0.r (a0 := a) (k := 5) (q := (b + 1))
  have h := h.n (.inr (0, 384))
  have h0 := h0.n (.inr (0, 384))
  have h := h.r (a0 := a) (k := 6) (q := (b + 2))
  have h0 := h0.r (a0 := a) (k := 6) (q := (b + 2))
  have h := h.n (.inr (0, 384))
  have h0 := h0.n (.inr (0, 384))
  have h := h.r (a0 := a) (k := 7) (q := (b + 3))
  have h0 := h0.r (a0 := a) (k := 7) (q := (b + 3))
  have h := h.n (.inr (0, 24))
  have h0 := h0.n (.inr (0, 24))
  have h := h.r (a0 := a) (k := 8) (q := (b + 4))
  have h0 := h0.r (a0 := a) (k := 8) (q := (b + 4))
  have h := h.n (.inr (1, 48))
  have h0 := h0.n (.inr (1, 48))
  have h := h.r (a0 := a) (k := 9) (q := (b + 5))
  have h0 := h0.r (a0 := a) (k := 9) (q := (b + 5))
  have h := h.n (.inr (0, 8))
  have h0 := h0.n (.inr (0, 8))
  have h := h.r (a0 := a) (k := 10) (q := (b + 6))
  have h0 := h0.r (a0 := a) (k := 10) (q := (b + 6))
  exact h
set_option maxRecDepth 100000 in
set_option maxHeartbeats 4000000 in
theorem t_X1 {l : Launch} {g : GH} (hG : G0 l g) {ly : LY} {D : DT} {a b : Nat} (hc : CI ly D a 1 b) : Sat l g yX1_init cX1_init 1 none 1 7 1616 [vR g a] ly D (PC (l_X1 a b ly) (d_X1 a b D)) := by
  refine Sat.of hG (by decide) (Nat.le_of_ble_eq_true rfl) (by simp [Value.category]) ?_
  refine p_aload_n dX1_init_0 rfl ?_
  refine p_objInit dX1_init_1 om_X1 oiw (Nat.le_of_ble_eq_true rfl) (Nat.le_of_ble_eq_true rfl) ?_
  refine p_aload_n dX1_init_4 rfl ?_
  refine p_iconst dX1_init_5 ?_
  refine p_puti dX1_init_6 fq_X1_9 rfl hc.1 ?_
  have hc := hc.f (k := 0) (v := 0) hc.2.2.1
  refine p_aload_n dX1_init_9 rfl ?_
  refine p_iconst dX1_init_10 ?_
  refine p_puti dX1_init_11 fq_X1_15 rfl hc.1 ?_
  have hc := hc.f (k := 1) (v := 0) hc.2.2.1
  refine p_aload_n dX1_init_14 rfl ?_
  refine p_iconst dX1_init_15 ?_
  refine p_puti dX1_init_16 fq_X1_18 rfl hc.1 ?_
  have hc := hc.f (k := 2) (v := 0) hc.2.2.1
  refine p_aload_n dX1_init_19 rfl ?_
  refine p_iconst dX1_init_20 ?_
  refine p_puti dX1_init_21 fq_X1_21 rfl hc.1 ?_
  have hc := hc.f (k := 3) (v := 1) hc.2.2.1
  refine p_aload_n dX1_init_24 rfl ?_
  refine p_sipush dX1_init_25 (by decide) ?_
  refine p_newarr (b := b) (N := 384) (ty := 0) dX1_init_28 aw_0 rfl (fun _ _ h => h) rfl (by decide) (by decide) (fun _ _ h => ac0 h) (Nat.le_of_ble_eq_true rfl) (Nat.le_of_ble_eq_true rfl) hc.2.1 (fun k => hc.2.2.2 _ (Nat.le_refl _) k) ?_
  have hc0 := hc
  have hc := hc.n (.inr (0, 384))
  refine p_putr dX1_init_30 ff_X1_24 rfl (fun _ _ _ => rfl) rfl rfl hc.1 ?_
  have hc := hc.r (a0 := a) (k := 4) (q := b)
  refine p_aload_n dX1_init_33 rfl ?_
  refine p_sipush dX1_init_34 (by decide) ?_
  refine p_newarr (b := (b + 1)) (N := 384) (ty := 2) dX1_init_37 aw_2 rfl (fun _ _ h => h) rfl (by decide) (by decide) (fun _ _ h => ac2 h) (Nat.le_of_ble_eq_true rfl) (Nat.le_of_ble_eq_true rfl) hc.2.1 (fun k => hc.2.2.2 _ (Nat.le_refl _) k) ?_
  have hc0 := hc
  have hc := hc.n (.inr (2, 384))
  refine p_putr dX1_init_39 ff_X1_28 rfl (fun _ _ _ => rfl) rfl rfl hc.1 ?_
  have hc := hc.r (a0 := a) (k := 5) (q := (b + 1))
  refine p_aload_n dX1_init_42 rfl ?_
  refine p_sipush dX1_init_43 (by decide) ?_
  refine p_newarr (b := (b + 2)) (N := 384) (ty := 0) dX1_init_46 aw_0 rfl (fun _ _ h => h) rfl (by decide) (by decide) (fun _ _ h => ac0 h) (Nat.le_of_ble_eq_true rfl) (Nat.le_of_ble_eq_true rfl) hc.2.1 (fun k => hc.2.2.2 _ (Nat.le_refl _) k) ?_
  have hc0 := hc
  have hc := hc.n (.inr (0, 384))
  refine p_putr dX1_init_48 ff_X1_32 rfl (fun _ _ _ => rfl) rfl rfl hc.1 ?_
  have hc := hc.r (a0 := a) (k := 6) (q := (b + 2))
  refine p_aload_n dX1_init_51 rfl ?_
  refine p_sipush dX1_init_52 (by decide) ?_
  refine p_newarr (b := (b + 3)) (N := 384) (ty := 0) dX1_init_55 aw_0 rfl (fun _ _ h => h) rfl (by decide) (by decide) (fun _ _ h => ac0 h) (Nat.le_of_ble_eq_true rfl) (Nat.le_of_ble_eq_true rfl) hc.2.1 (fun k => hc.2.2.2 _ (Nat.le_refl _) k) ?_
  have hc0 := hc
  have hc := hc.n (.inr (0, 384))
  refine p_putr dX1_init_57 ff_X1_35 rfl (fun _ _ _ => rfl) rfl rfl hc.1 ?_
  have hc := hc.r (a0 := a) (k := 7) (q := (b + 3))
  refine p_aload_n dX1_init_60 rfl ?_
  refine p_bipush dX1_init_61 (by decide) ?_
  refine p_newarr (b := (b + 4)) (N := 24) (ty := 0) dX1_init_63 aw_0 rfl (fun _ _ h => h) rfl (by decide) (by decide) (fun _ _ h => ac0 h) (Nat.le_of_ble_eq_true rfl) (Nat.le_of_ble_eq_true rfl) hc.2.1 (fun k => hc.2.2.2 _ (Nat.le_refl _) k) ?_
  have hc0 := hc
  have hc := hc.n (.inr (0, 24))
  refine p_putr dX1_init_65 ff_X1_38 rfl (fun _ _ _ => rfl) rfl rfl hc.1 ?_
  have hc := hc.r (a0 := a) (k := 8) (q := (b + 4))
  refine p_aload_n dX1_init_68 rfl ?_
  refine p_bipush dX1_init_69 (by decide) ?_
  refine p_newarr (b := (b + 5)) (N := 48) (ty := 1) dX1_init_71 aw_1 rfl (fun _ _ h => h) rfl (by decide) (by decide) (fun _ _ h => ac1 h) (Nat.le_of_ble_eq_true rfl) (Nat.le_of_ble_eq_true rfl) hc.2.1 (fun k => hc.2.2.2 _ (Nat.le_refl _) k) ?_
  have hc0 := hc
  have hc := hc.n (.inr (1, 48))
  refine p_putr dX1_init_73 ff_X1_41 rfl (fun _ _ _ => rfl) rfl rfl hc.1 ?_
  have hc := hc.r (a0 := a) (k := 9) (q := (b + 5))
  refine p_aload_n dX1_init_76 rfl ?_
  refine p_bipush dX1_init_77 (by decide) ?_
  refine p_newarr (b := (b + 6)) (N := 8) (ty := 0) dX1_init_79 aw_0 rfl (fun _ _ h => h) rfl (by decide) (by decide) (fun _ _ h => ac0 h) (Nat.le_of_ble_eq_true rfl) (Nat.le_of_ble_eq_true rfl) hc.2.1 (fun k => hc.2.2.2 _ (Nat.le_refl _) k) ?_
  have hc0 := hc
  have hc := hc.n (.inr (0, 8))
  refine p_putr dX1_init_81 ff_X1_45 rfl (fun _ _ _ => rfl) rfl rfl hc.1 ?_
  have hc := hc.r (a0 := a) (k := 10) (q := (b + 6))
  exact p_return dX1_init_84 (Nat.le_of_ble_eq_true rfl) (Nat.le_of_ble_eq_true rfl) ⟨rfl, rfl, rfl⟩
set_option maxRecDepth 100000 in
theorem yi_X8_init : YI yX8_init cX8_init 1 := ⟨⟨TBm (i := 251) rfl rfl, TBm (i := 133) rfl rfl, by decide, by decide +kernel⟩, rfl, TBm (i := 250) rfl rfl⟩
set_option maxRecDepth 100000 in
theorem om_X8 : Cond.methodLink RX8 3 Lib.objectInit ∈ TB := TBm (i := 252) rfl rfl
def l_X8 (a b : Nat) (ly : LY) : LY := (sR (sN (sR (sN (sR (sN (sR (sN ly (.inr (0, 8))) a 1 b) (.inr (0, 120))) a 4 (b + 1)) (.inr (0, 120))) a 5 (b + 2)) (.inr (0, 15))) a 6 (b + 3))
def d_X8 (a b : Nat) (D : DT) : DT := (sF (sF (sF D a 0 0) a 2 0) a 3 1)
set_option maxRecDepth 100000 in
theorem i_X8 {ly : LY} {D : DT} {a b : Nat} (h0 : CI ly D a 8 b) (a9 c9 : Nat) (h : CI ly D a9 c9 b) : CI (l_X8 a b ly) (d_X8 a b D) a9 c9 (b + 4) := by
  have h := h.f (k := 0) (v := 0) h0.2.2.1
  have h0 := h0.f (k := 0) (v := 0) h0.2.2.1
  have h := h.n (.inr (0, 8))
  have h0 := h0.n (.inr (0, 8))
  have h := h.r (a0 := a) (k := 1) (q := b)
  have h0 := h0.r (a0 := a) (k := 1) (q := b)
  have h := h.f (k := 2) (v := 0) h0.2.2.1
  have h0 := h0.f (k := 2) (v := 0) h0.2.2.1
  have h := h.f (k := 3) (v := 1) h0.2.2.1
  have h0 := h0.f (k := 3) (v := 1) h0.2.2.1
  have h := h.n (.inr (0, 120))
  have h0 := h0.n (.inr (0, 120))
  have h := h.r (a0 := a) (k := 4) (q := (b + 1))
  have h0 := h0.r (a0 := a) (k := 4) (q := (b + 1))
  have h := h.n (.inr (0, 120))
  have h0 := h0.n (.inr (0, 120))
  have h := h.r (a0 := a) (k := 5) (q := (b + 2))
  have h0 := h0.r (a0 := a) (k := 5) (q := (b + 2))
  have h := h.n (.inr (0, 15))
  have h0 := h0.n (.inr (0, 15))
  have h := h.r (a0 := a) (k := 6) (q := (b + 3))
  have h0 := h0.r (a0 := a) (k := 6) (q := (b + 3))
  exact h
set_option maxRecDepth 100000 in
set_option maxHeartbeats 4000000 in
theorem t_X8 {l : Launch} {g : GH} (hG : G0 l g) {ly : LY} {D : DT} {a b : Nat} (hc : CI ly D a 8 b) : Sat l g yX8_init cX8_init 1 none 1 4 263 [vR g a] ly D (PC (l_X8 a b ly) (d_X8 a b D)) := by
  refine Sat.of hG (by decide) (Nat.le_of_ble_eq_true rfl) (by simp [Value.category]) ?_
  refine p_aload_n dX8_init_0 rfl ?_
  refine p_objInit dX8_init_1 om_X8 oiw (Nat.le_of_ble_eq_true rfl) (Nat.le_of_ble_eq_true rfl) ?_
  refine p_aload_n dX8_init_4 rfl ?_
  refine p_iconst dX8_init_5 ?_
  refine p_putz dX8_init_6 fq_X8_9 rfl (Or.inl rfl) hc.1 ?_
  have hc := hc.f (k := 0) (v := 0) hc.2.2.1
  refine p_aload_n dX8_init_9 rfl ?_
  refine p_bipush dX8_init_10 (by decide) ?_
  refine p_newarr (b := b) (N := 8) (ty := 0) dX8_init_12 aw_0 rfl (fun _ _ h => h) rfl (by decide) (by decide) (fun _ _ h => ac0 h) (Nat.le_of_ble_eq_true rfl) (Nat.le_of_ble_eq_true rfl) hc.2.1 (fun k => hc.2.2.2 _ (Nat.le_refl _) k) ?_
  have hc0 := hc
  have hc := hc.n (.inr (0, 8))
  refine p_putr dX8_init_14 ff_X8_15 rfl (fun _ _ _ => rfl) rfl rfl hc.1 ?_
  have hc := hc.r (a0 := a) (k := 1) (q := b)
  refine p_aload_n dX8_init_17 rfl ?_
  refine p_iconst dX8_init_18 ?_
  refine p_puti dX8_init_19 fq_X8_19 rfl hc.1 ?_
  have hc := hc.f (k := 2) (v := 0) hc.2.2.1
  refine p_aload_n dX8_init_22 rfl ?_
  refine p_iconst dX8_init_23 ?_
  refine p_puti dX8_init_24 fq_X8_23 rfl hc.1 ?_
  have hc := hc.f (k := 3) (v := 1) hc.2.2.1
  refine p_aload_n dX8_init_27 rfl ?_
  refine p_bipush dX8_init_28 (by decide) ?_
  refine p_newarr (b := (b + 1)) (N := 120) (ty := 0) dX8_init_30 aw_0 rfl (fun _ _ h => h) rfl (by decide) (by decide) (fun _ _ h => ac0 h) (Nat.le_of_ble_eq_true rfl) (Nat.le_of_ble_eq_true rfl) hc.2.1 (fun k => hc.2.2.2 _ (Nat.le_refl _) k) ?_
  have hc0 := hc
  have hc := hc.n (.inr (0, 120))
  refine p_putr dX8_init_32 ff_X8_26 rfl (fun _ _ _ => rfl) rfl rfl hc.1 ?_
  have hc := hc.r (a0 := a) (k := 4) (q := (b + 1))
  refine p_aload_n dX8_init_35 rfl ?_
  refine p_bipush dX8_init_36 (by decide) ?_
  refine p_newarr (b := (b + 2)) (N := 120) (ty := 0) dX8_init_38 aw_0 rfl (fun _ _ h => h) rfl (by decide) (by decide) (fun _ _ h => ac0 h) (Nat.le_of_ble_eq_true rfl) (Nat.le_of_ble_eq_true rfl) hc.2.1 (fun k => hc.2.2.2 _ (Nat.le_refl _) k) ?_
  have hc0 := hc
  have hc := hc.n (.inr (0, 120))
  refine p_putr dX8_init_40 ff_X8_29 rfl (fun _ _ _ => rfl) rfl rfl hc.1 ?_
  have hc := hc.r (a0 := a) (k := 5) (q := (b + 2))
  refine p_aload_n dX8_init_43 rfl ?_
  refine p_bipush dX8_init_44 (by decide) ?_
  refine p_newarr (b := (b + 3)) (N := 15) (ty := 0) dX8_init_46 aw_0 rfl (fun _ _ h => h) rfl (by decide) (by decide) (fun _ _ h => ac0 h) (Nat.le_of_ble_eq_true rfl) (Nat.le_of_ble_eq_true rfl) hc.2.1 (fun k => hc.2.2.2 _ (Nat.le_refl _) k) ?_
  have hc0 := hc
  have hc := hc.n (.inr (0, 15))
  refine p_putr dX8_init_48 ff_X8_32 rfl (fun _ _ _ => rfl) rfl rfl hc.1 ?_
  have hc := hc.r (a0 := a) (k := 6) (q := (b + 3))
  exact p_return dX8_init_51 (Nat.le_of_ble_eq_true rfl) (Nat.le_of_ble_eq_true rfl) ⟨rfl, rfl, rfl⟩
set_option maxRecDepth 100000 in
theorem yi_X6_init : YI yX6_init cX6_init 1 := ⟨⟨TBm (i := 283) rfl rfl, TBm (i := 134) rfl rfl, by decide, by decide +kernel⟩, rfl, TBm (i := 282) rfl rfl⟩
set_option maxRecDepth 100000 in
theorem om_X6 : Cond.methodLink RX6 3 Lib.objectInit ∈ TB := TBm (i := 284) rfl rfl
set_option maxRecDepth 100000 in
theorem cc_X6_39 : Cond.classLink RX6 39 RX0 ∈ TB := TBm (i := 285) rfl rfl
set_option maxRecDepth 100000 in
theorem nl_X6_41 : Cond.methodLinkNest RX6 41 yX0_init "DotSpreader" ∈ lw_tbl := List.mem_of_getElem? (i := 287) rfl
def l_X6 (a b : Nat) (ly : LY) : LY := (sR (l_X0 (b + 6) (b + 7) (sN (sR (sN (sR (sN (sR (sN (sR (sN (sR (sN (sR (sN ly (.inr (0, 384))) a 0 b) (.inr (0, 384))) a 1 (b + 1)) (.inr (0, 8))) a 2 (b + 2)) (.inr (2, 8))) a 3 (b + 3)) (.inr (0, 384))) a 5 (b + 4)) (.inr (0, 384))) a 6 (b + 5)) (.inl 0))) a 8 (b + 6))
def d_X6 (a b : Nat) (D : DT) : DT := (d_X0 (b + 6) (b + 7) (sF (sF D a 4 0) a 7 0))
set_option maxRecDepth 100000 in
theorem i_X6 {ly : LY} {D : DT} {a b : Nat} (h0 : CI ly D a 6 b) (a9 c9 : Nat) (h : CI ly D a9 c9 b) : CI (l_X6 a b ly) (d_X6 a b D) a9 c9 (b + 7) := by
  have h := h.n (.inr (0, 384))
  have h0 := h0.n (.inr (0, 384))
  have h := h.r (a0 := a) (k := 0) (q := b)
  have h0 := h0.r (a0 := a) (k := 0) (q := b)
  have h := h.n (.inr (0, 384))
  have h0 := h0.n (.inr (0, 384))
  have h := h.r (a0 := a) (k := 1) (q := (b + 1))
  have h0 := h0.r (a0 := a) (k := 1) (q := (b + 1))
  have h := h.n (.inr (0, 8))
  have h0 := h0.n (.inr (0, 8))
  have h := h.r (a0 := a) (k := 2) (q := (b + 2))
  have h0 := h0.r (a0 := a) (k := 2) (q := (b + 2))
  have h := h.n (.inr (2, 8))
  have h0 := h0.n (.inr (2, 8))
  have h := h.r (a0 := a) (k := 3) (q := (b + 3))
  have h0 := h0.r (a0 := a) (k := 3) (q := (b + 3))
  have h := h.f (k := 4) (v := 0) h0.2.2.1
  have h0 := h0.f (k := 4) (v := 0) h0.2.2.1
  have h := h.n (.inr (0, 384))
  have h0 := h0.n (.inr (0, 384))
  have h := h.r (a0 := a) (k := 5) (q := (b + 4))
  have h0 := h0.r (a0 := a) (k := 5) (q := (b + 4))
  have h := h.n (.inr (0, 384))
  have h0 := h0.n (.inr (0, 384))
  have h := h.r (a0 := a) (k := 6) (q := (b + 5))
  have h0 := h0.r (a0 := a) (k := 6) (q := (b + 5))
  have h := h.f (k := 7) (v := 0) h0.2.2.1
  have h0 := h0.f (k := 7) (v := 0) h0.2.2.1
  have hs := h0.self 0
  have h0 := h0.n (.inl 0)
  have h := h.n (.inl 0)
  have h := i_X0 hs _ _ h
  have h0 := i_X0 hs _ _ h0
  have h := h.r (a0 := a) (k := 8) (q := (b + 6))
  have h0 := h0.r (a0 := a) (k := 8) (q := (b + 6))
  exact h
set_option maxRecDepth 100000 in
set_option maxHeartbeats 4000000 in
theorem t_X6 {l : Launch} {g : GH} (hG : G0 l g) {ly : LY} {D : DT} {a b : Nat} (hc : CI ly D a 6 b) : Sat l g yX6_init cX6_init 1 none 2 7 1555 [vR g a] ly D (PC (l_X6 a b ly) (d_X6 a b D)) := by
  refine Sat.of hG (by decide) (Nat.le_of_ble_eq_true rfl) (by simp [Value.category]) ?_
  refine p_aload_n dX6_init_0 rfl ?_
  refine p_objInit dX6_init_1 om_X6 oiw (Nat.le_of_ble_eq_true rfl) (Nat.le_of_ble_eq_true rfl) ?_
  refine p_aload_n dX6_init_4 rfl ?_
  refine p_sipush dX6_init_5 (by decide) ?_
  refine p_newarr (b := b) (N := 384) (ty := 0) dX6_init_8 aw_0 rfl (fun _ _ h => h) rfl (by decide) (by decide) (fun _ _ h => ac0 h) (Nat.le_of_ble_eq_true rfl) (Nat.le_of_ble_eq_true rfl) hc.2.1 (fun k => hc.2.2.2 _ (Nat.le_refl _) k) ?_
  have hc0 := hc
  have hc := hc.n (.inr (0, 384))
  refine p_putr dX6_init_10 ff_X6_9 rfl (fun _ _ _ => rfl) rfl rfl hc.1 ?_
  have hc := hc.r (a0 := a) (k := 0) (q := b)
  refine p_aload_n dX6_init_13 rfl ?_
  refine p_sipush dX6_init_14 (by decide) ?_
  refine p_newarr (b := (b + 1)) (N := 384) (ty := 0) dX6_init_17 aw_0 rfl (fun _ _ h => h) rfl (by decide) (by decide) (fun _ _ h => ac0 h) (Nat.le_of_ble_eq_true rfl) (Nat.le_of_ble_eq_true rfl) hc.2.1 (fun k => hc.2.2.2 _ (Nat.le_refl _) k) ?_
  have hc0 := hc
  have hc := hc.n (.inr (0, 384))
  refine p_putr dX6_init_19 ff_X6_15 rfl (fun _ _ _ => rfl) rfl rfl hc.1 ?_
  have hc := hc.r (a0 := a) (k := 1) (q := (b + 1))
  refine p_aload_n dX6_init_22 rfl ?_
  refine p_bipush dX6_init_23 (by decide) ?_
  refine p_newarr (b := (b + 2)) (N := 8) (ty := 0) dX6_init_25 aw_0 rfl (fun _ _ h => h) rfl (by decide) (by decide) (fun _ _ h => ac0 h) (Nat.le_of_ble_eq_true rfl) (Nat.le_of_ble_eq_true rfl) hc.2.1 (fun k => hc.2.2.2 _ (Nat.le_refl _) k) ?_
  have hc0 := hc
  have hc := hc.n (.inr (0, 8))
  refine p_putr dX6_init_27 ff_X6_18 rfl (fun _ _ _ => rfl) rfl rfl hc.1 ?_
  have hc := hc.r (a0 := a) (k := 2) (q := (b + 2))
  refine p_aload_n dX6_init_30 rfl ?_
  refine p_bipush dX6_init_31 (by decide) ?_
  refine p_newarr (b := (b + 3)) (N := 8) (ty := 2) dX6_init_33 aw_2 rfl (fun _ _ h => h) rfl (by decide) (by decide) (fun _ _ h => ac2 h) (Nat.le_of_ble_eq_true rfl) (Nat.le_of_ble_eq_true rfl) hc.2.1 (fun k => hc.2.2.2 _ (Nat.le_refl _) k) ?_
  have hc0 := hc
  have hc := hc.n (.inr (2, 8))
  refine p_putr dX6_init_35 ff_X6_21 rfl (fun _ _ _ => rfl) rfl rfl hc.1 ?_
  have hc := hc.r (a0 := a) (k := 3) (q := (b + 3))
  refine p_aload_n dX6_init_38 rfl ?_
  refine p_iconst dX6_init_39 ?_
  refine p_putz dX6_init_40 fq_X6_25 rfl (Or.inl rfl) hc.1 ?_
  have hc := hc.f (k := 4) (v := 0) hc.2.2.1
  refine p_aload_n dX6_init_43 rfl ?_
  refine p_sipush dX6_init_44 (by decide) ?_
  refine p_newarr (b := (b + 4)) (N := 384) (ty := 0) dX6_init_47 aw_0 rfl (fun _ _ h => h) rfl (by decide) (by decide) (fun _ _ h => ac0 h) (Nat.le_of_ble_eq_true rfl) (Nat.le_of_ble_eq_true rfl) hc.2.1 (fun k => hc.2.2.2 _ (Nat.le_refl _) k) ?_
  have hc0 := hc
  have hc := hc.n (.inr (0, 384))
  refine p_putr dX6_init_49 ff_X6_29 rfl (fun _ _ _ => rfl) rfl rfl hc.1 ?_
  have hc := hc.r (a0 := a) (k := 5) (q := (b + 4))
  refine p_aload_n dX6_init_52 rfl ?_
  refine p_sipush dX6_init_53 (by decide) ?_
  refine p_newarr (b := (b + 5)) (N := 384) (ty := 0) dX6_init_56 aw_0 rfl (fun _ _ h => h) rfl (by decide) (by decide) (fun _ _ h => ac0 h) (Nat.le_of_ble_eq_true rfl) (Nat.le_of_ble_eq_true rfl) hc.2.1 (fun k => hc.2.2.2 _ (Nat.le_refl _) k) ?_
  have hc0 := hc
  have hc := hc.n (.inr (0, 384))
  refine p_putr dX6_init_58 ff_X6_32 rfl (fun _ _ _ => rfl) rfl rfl hc.1 ?_
  have hc := hc.r (a0 := a) (k := 6) (q := (b + 5))
  refine p_aload_n dX6_init_61 rfl ?_
  refine p_iconst dX6_init_62 ?_
  refine p_puti dX6_init_63 fq_X6_35 rfl hc.1 ?_
  have hc := hc.f (k := 7) (v := 0) hc.2.2.1
  refine p_aload_n dX6_init_66 rfl ?_
  refine p_new (b := (b + 6)) dX6_init_67 cc_X6_39 in_X0.1 in_X0.2 ck_X0 nf_X0 (Nat.le_of_ble_eq_true rfl) (Nat.le_of_ble_eq_true rfl) hc.2.1 (fun k => hc.2.2.2 _ (Nat.le_refl _) k) ?_
  have hs := hc.self 0
  have hc := hc.n (.inl 0)
  refine p_dup dX6_init_70 rfl ?_
  refine p_callIN (b := (b + 6)) [vR g (b + 6), vR g a] dX6_init_71 yi_X0_init nl_X6_41 (Nat.le_of_ble_eq_true rfl) (Nat.le_of_ble_eq_true rfl) (Nat.le_of_ble_eq_true rfl) (Nat.le_of_ble_eq_true rfl) (t_X0 hG hs) PC.nx (fun v ly9 D9 hp => ?_)
  obtain ⟨e1, rfl, rfl⟩ := hp
  cases e1
  have hc := i_X0 hs _ _ hc
  refine p_putr dX6_init_74 ff_X6_42 rfl (fun _ _ _ => rfl) rfl rfl hc.1 ?_
  have hc := hc.r (a0 := a) (k := 8) (q := (b + 6))
  exact p_return dX6_init_77 (Nat.le_of_ble_eq_true rfl) (Nat.le_of_ble_eq_true rfl) ⟨rfl, rfl, rfl⟩
set_option maxRecDepth 100000 in
theorem yi_X2_init : YI yX2_init cX2_init 1 := ⟨⟨TBm (i := 334) rfl rfl, TBm (i := 136) rfl rfl, by decide, by decide +kernel⟩, rfl, TBm (i := 333) rfl rfl⟩
set_option maxRecDepth 100000 in
theorem om_X2 : Cond.methodLink RX2 3 Lib.objectInit ∈ TB := TBm (i := 335) rfl rfl
set_option maxRecDepth 100000 in
theorem cc_X2_31 : Cond.classLink RX2 31 RX0 ∈ TB := TBm (i := 336) rfl rfl
set_option maxRecDepth 100000 in
theorem nl_X2_33 : Cond.methodLinkNest RX2 33 yX0_init "DotSpreader" ∈ lw_tbl := List.mem_of_getElem? (i := 337) rfl
def l_X2 (a b : Nat) (ly : LY) : LY := (sR (l_X0 (b + 3) (b + 4) (sN (sR (sN (sR (sN (sR (sN ly (.inr (0, 1152))) a 2 b) (.inr (0, 384))) a 3 (b + 1)) (.inr (0, 384))) a 4 (b + 2)) (.inl 0))) a 6 (b + 3))
def d_X2 (a b : Nat) (D : DT) : DT := (d_X0 (b + 3) (b + 4) (sF (sF (sF D a 0 (-1)) a 1 0) a 5 0))
set_option maxRecDepth 100000 in
theorem i_X2 {ly : LY} {D : DT} {a b : Nat} (h0 : CI ly D a 2 b) (a9 c9 : Nat) (h : CI ly D a9 c9 b) : CI (l_X2 a b ly) (d_X2 a b D) a9 c9 (b + 4) := by
  have h := h.f (k := 0) (v := (-1)) h0.2.2.1
  have h0 := h0.f (k := 0) (v := (-1)) h0.2.2.1
  have h := h.f (k := 1) (v := 0) h0.2.2.1
  have h0 := h0.f (k := 1) (v := 0) h0.2.2.1
  have h := h.n (.inr (0, 1152))
  have h0 := h0.n (.inr (0, 1152))
  have h := h.r (a0 := a) (k := 2) (q := b)
  have h0 := h0.r (a0 := a) (k := 2) (q := b)
  have h := h.n (.inr (0, 384))
  have h0 := h0.n (.inr (0, 384))
  have h := h.r (a0 := a) (k := 3) (q := (b + 1))
  have h0 := h0.r (a0 := a) (k := 3) (q := (b + 1))
  have h := h.n (.inr (0, 384))
  have h0 := h0.n (.inr (0, 384))
  have h := h.r (a0 := a) (k := 4) (q := (b + 2))
  have h0 := h0.r (a0 := a) (k := 4) (q := (b + 2))
  have h := h.f (k := 5) (v := 0) h0.2.2.1
  have h0 := h0.f (k := 5) (v := 0) h0.2.2.1
  have hs := h0.self 0
  have h0 := h0.n (.inl 0)
  have h := h.n (.inl 0)
  have h := i_X0 hs _ _ h
  have h0 := i_X0 hs _ _ h0
  have h := h.r (a0 := a) (k := 6) (q := (b + 3))
  have h0 := h0.r (a0 := a) (k := 6) (q := (b + 3))
  exact h
set_option maxRecDepth 100000 in
set_option maxHeartbeats 4000000 in
theorem t_X2 {l : Launch} {g : GH} (hG : G0 l g) {ly : LY} {D : DT} {a b : Nat} (hc : CI ly D a 2 b) : Sat l g yX2_init cX2_init 1 none 2 4 1923 [vR g a] ly D (PC (l_X2 a b ly) (d_X2 a b D)) := by
  refine Sat.of hG (by decide) (Nat.le_of_ble_eq_true rfl) (by simp [Value.category]) ?_
  refine p_aload_n dX2_init_0 rfl ?_
  refine p_objInit dX2_init_1 om_X2 oiw (Nat.le_of_ble_eq_true rfl) (Nat.le_of_ble_eq_true rfl) ?_
  refine p_aload_n dX2_init_4 rfl ?_
  refine p_iconst dX2_init_5 ?_
  refine p_puti dX2_init_6 fq_X2_9 rfl hc.1 ?_
  have hc := hc.f (k := 0) (v := (-1)) hc.2.2.1
  refine p_aload_n dX2_init_9 rfl ?_
  refine p_iconst dX2_init_10 ?_
  refine p_puti dX2_init_11 fq_X2_15 rfl hc.1 ?_
  have hc := hc.f (k := 1) (v := 0) hc.2.2.1
  refine p_aload_n dX2_init_14 rfl ?_
  refine p_sipush dX2_init_15 (by decide) ?_
  refine p_newarr (b := b) (N := 1152) (ty := 0) dX2_init_18 aw_0 rfl (fun _ _ h => h) rfl (by decide) (by decide) (fun _ _ h => ac0 h) (Nat.le_of_ble_eq_true rfl) (Nat.le_of_ble_eq_true rfl) hc.2.1 (fun k => hc.2.2.2 _ (Nat.le_refl _) k) ?_
  have hc0 := hc
  have hc := hc.n (.inr (0, 1152))
  refine p_putr dX2_init_20 ff_X2_18 rfl (fun _ _ _ => rfl) rfl rfl hc.1 ?_
  have hc := hc.r (a0 := a) (k := 2) (q := b)
  refine p_aload_n dX2_init_23 rfl ?_
  refine p_sipush dX2_init_24 (by decide) ?_
  refine p_newarr (b := (b + 1)) (N := 384) (ty := 0) dX2_init_27 aw_0 rfl (fun _ _ h => h) rfl (by decide) (by decide) (fun _ _ h => ac0 h) (Nat.le_of_ble_eq_true rfl) (Nat.le_of_ble_eq_true rfl) hc.2.1 (fun k => hc.2.2.2 _ (Nat.le_refl _) k) ?_
  have hc0 := hc
  have hc := hc.n (.inr (0, 384))
  refine p_putr dX2_init_29 ff_X2_22 rfl (fun _ _ _ => rfl) rfl rfl hc.1 ?_
  have hc := hc.r (a0 := a) (k := 3) (q := (b + 1))
  refine p_aload_n dX2_init_32 rfl ?_
  refine p_sipush dX2_init_33 (by decide) ?_
  refine p_newarr (b := (b + 2)) (N := 384) (ty := 0) dX2_init_36 aw_0 rfl (fun _ _ h => h) rfl (by decide) (by decide) (fun _ _ h => ac0 h) (Nat.le_of_ble_eq_true rfl) (Nat.le_of_ble_eq_true rfl) hc.2.1 (fun k => hc.2.2.2 _ (Nat.le_refl _) k) ?_
  have hc0 := hc
  have hc := hc.n (.inr (0, 384))
  refine p_putr dX2_init_38 ff_X2_25 rfl (fun _ _ _ => rfl) rfl rfl hc.1 ?_
  have hc := hc.r (a0 := a) (k := 4) (q := (b + 2))
  refine p_aload_n dX2_init_41 rfl ?_
  refine p_iconst dX2_init_42 ?_
  refine p_puti dX2_init_43 fq_X2_28 rfl hc.1 ?_
  have hc := hc.f (k := 5) (v := 0) hc.2.2.1
  refine p_aload_n dX2_init_46 rfl ?_
  refine p_new (b := (b + 3)) dX2_init_47 cc_X2_31 in_X0.1 in_X0.2 ck_X0 nf_X0 (Nat.le_of_ble_eq_true rfl) (Nat.le_of_ble_eq_true rfl) hc.2.1 (fun k => hc.2.2.2 _ (Nat.le_refl _) k) ?_
  have hs := hc.self 0
  have hc := hc.n (.inl 0)
  refine p_dup dX2_init_50 rfl ?_
  refine p_callIN (b := (b + 3)) [vR g (b + 3), vR g a] dX2_init_51 yi_X0_init nl_X2_33 (Nat.le_of_ble_eq_true rfl) (Nat.le_of_ble_eq_true rfl) (Nat.le_of_ble_eq_true rfl) (Nat.le_of_ble_eq_true rfl) (t_X0 hG hs) PC.nx (fun v ly9 D9 hp => ?_)
  obtain ⟨e1, rfl, rfl⟩ := hp
  cases e1
  have hc := i_X0 hs _ _ hc
  refine p_putr dX2_init_54 ff_X2_34 rfl (fun _ _ _ => rfl) rfl rfl hc.1 ?_
  have hc := hc.r (a0 := a) (k := 6) (q := (b + 3))
  exact p_return dX2_init_57 (Nat.le_of_ble_eq_true rfl) (Nat.le_of_ble_eq_true rfl) ⟨rfl, rfl, rfl⟩
set_option maxRecDepth 100000 in
theorem yi_X5_init : YI yX5_init cX5_init 1 := ⟨⟨TBm (i := 167) rfl rfl, TBm (i := 131) rfl rfl, by decide, by decide +kernel⟩, rfl, TBm (i := 166) rfl rfl⟩
set_option maxRecDepth 100000 in
theorem om_X5 : Cond.methodLink RX5 3 Lib.objectInit ∈ TB := TBm (i := 168) rfl rfl
set_option maxRecDepth 100000 in
theorem cc_X5_9 : Cond.classLink RX5 9 RX1 ∈ TB := TBm (i := 169) rfl rfl
set_option maxRecDepth 100000 in
theorem nl_X5_11 : Cond.methodLinkNest RX5 11 yX1_init "DotSpreader" ∈ lw_tbl := List.mem_of_getElem? (i := 171) rfl
set_option maxRecDepth 100000 in
theorem cc_X5_25 : Cond.classLink RX5 25 RX8 ∈ TB := TBm (i := 247) rfl rfl
set_option maxRecDepth 100000 in
theorem nl_X5_27 : Cond.methodLinkNest RX5 27 yX8_init "DotSpreader" ∈ lw_tbl := List.mem_of_getElem? (i := 249) rfl
set_option maxRecDepth 100000 in
theorem cc_X5_32 : Cond.classLink RX5 32 RX6 ∈ TB := TBm (i := 279) rfl rfl
set_option maxRecDepth 100000 in
theorem nl_X5_34 : Cond.methodLinkNest RX5 34 yX6_init "DotSpreader" ∈ lw_tbl := List.mem_of_getElem? (i := 281) rfl
set_option maxRecDepth 100000 in
theorem cc_X5_39 : Cond.classLink RX5 39 RX2 ∈ TB := TBm (i := 330) rfl rfl
set_option maxRecDepth 100000 in
theorem nl_X5_41 : Cond.methodLinkNest RX5 41 yX2_init "DotSpreader" ∈ lw_tbl := List.mem_of_getElem? (i := 332) rfl
def l_X5 (a b : Nat) (ly : LY) : LY := (sR (l_X2 (b + 21) (b + 22) (sN (sR (l_X6 (b + 13) (b + 14) (sN (sR (l_X8 (b + 8) (b + 9) (sN (sR (l_X1 b (b + 1) (sN ly (.inl 1))) a 0 b) (.inl 8))) a 3 (b + 8)) (.inl 6))) a 4 (b + 13)) (.inl 2))) a 5 (b + 21))
def d_X5 (a b : Nat) (D : DT) : DT := (d_X2 (b + 21) (b + 22) (d_X6 (b + 13) (b + 14) (d_X8 (b + 8) (b + 9) (sF (sF (d_X1 b (b + 1) D) a 1 100) a 2 5))))
set_option maxRecDepth 100000 in
theorem i_X5 {ly : LY} {D : DT} {a b : Nat} (h0 : CI ly D a 5 b) (a9 c9 : Nat) (h : CI ly D a9 c9 b) : CI (l_X5 a b ly) (d_X5 a b D) a9 c9 (b + 26) := by
  have hs := h0.self 1
  have h0 := h0.n (.inl 1)
  have h := h.n (.inl 1)
  have h := i_X1 hs _ _ h
  have h0 := i_X1 hs _ _ h0
  have h := h.r (a0 := a) (k := 0) (q := b)
  have h0 := h0.r (a0 := a) (k := 0) (q := b)
  have h := h.f (k := 1) (v := 100) h0.2.2.1
  have h0 := h0.f (k := 1) (v := 100) h0.2.2.1
  have h := h.f (k := 2) (v := 5) h0.2.2.1
  have h0 := h0.f (k := 2) (v := 5) h0.2.2.1
  have hs := h0.self 8
  have h0 := h0.n (.inl 8)
  have h := h.n (.inl 8)
  have h := i_X8 hs _ _ h
  have h0 := i_X8 hs _ _ h0
  have h := h.r (a0 := a) (k := 3) (q := (b + 8))
  have h0 := h0.r (a0 := a) (k := 3) (q := (b + 8))
  have hs := h0.self 6
  have h0 := h0.n (.inl 6)
  have h := h.n (.inl 6)
  have h := i_X6 hs _ _ h
  have h0 := i_X6 hs _ _ h0
  have h := h.r (a0 := a) (k := 4) (q := (b + 13))
  have h0 := h0.r (a0 := a) (k := 4) (q := (b + 13))
  have hs := h0.self 2
  have h0 := h0.n (.inl 2)
  have h := h.n (.inl 2)
  have h := i_X2 hs _ _ h
  have h0 := i_X2 hs _ _ h0
  have h := h.r (a0 := a) (k := 5) (q := (b + 21))
  have h0 := h0.r (a0 := a) (k := 5) (q := (b + 21))
  exact h
set_option maxRecDepth 100000 in
set_option maxHeartbeats 4000000 in
theorem t_X5 {l : Launch} {g : GH} (hG : G0 l g) {ly : LY} {D : DT} {a b : Nat} (hc : CI ly D a 5 b) : Sat l g yX5_init cX5_init 1 none 3 26 5391 [vR g a] ly D (PC (l_X5 a b ly) (d_X5 a b D)) := by
  refine Sat.of hG (by decide) (Nat.le_of_ble_eq_true rfl) (by simp [Value.category]) ?_
  refine p_aload_n dX5_init_0 rfl ?_
  refine p_objInit dX5_init_1 om_X5 oiw (Nat.le_of_ble_eq_true rfl) (Nat.le_of_ble_eq_true rfl) ?_
  refine p_aload_n dX5_init_4 rfl ?_
  refine p_new (b := b) dX5_init_5 cc_X5_9 in_X1.1 in_X1.2 ck_X1 nf_X1 (Nat.le_of_ble_eq_true rfl) (Nat.le_of_ble_eq_true rfl) hc.2.1 (fun k => hc.2.2.2 _ (Nat.le_refl _) k) ?_
  have hs := hc.self 1
  have hc := hc.n (.inl 1)
  refine p_dup dX5_init_8 rfl ?_
  refine p_callIN (b := b) [vR g b, vR g a] dX5_init_9 yi_X1_init nl_X5_11 (Nat.le_of_ble_eq_true rfl) (Nat.le_of_ble_eq_true rfl) (Nat.le_of_ble_eq_true rfl) (Nat.le_of_ble_eq_true rfl) (t_X1 hG hs) PC.nx (fun v ly9 D9 hp => ?_)
  obtain ⟨e1, rfl, rfl⟩ := hp
  cases e1
  have hc := i_X1 hs _ _ hc
  refine p_putr dX5_init_12 ff_X5_12 rfl (fun _ _ _ => rfl) rfl rfl hc.1 ?_
  have hc := hc.r (a0 := a) (k := 0) (q := b)
  refine p_aload_n dX5_init_15 rfl ?_
  refine p_bipush dX5_init_16 (by decide) ?_
  refine p_puti dX5_init_18 fq_X5_18 rfl hc.1 ?_
  have hc := hc.f (k := 1) (v := 100) hc.2.2.1
  refine p_aload_n dX5_init_21 rfl ?_
  refine p_iconst dX5_init_22 ?_
  refine p_puti dX5_init_23 fq_X5_22 rfl hc.1 ?_
  have hc := hc.f (k := 2) (v := 5) hc.2.2.1
  refine p_aload_n dX5_init_26 rfl ?_
  refine p_new (b := (b + 8)) dX5_init_27 cc_X5_25 in_X8.1 in_X8.2 ck_X8 nf_X8 (Nat.le_of_ble_eq_true rfl) (Nat.le_of_ble_eq_true rfl) hc.2.1 (fun k => hc.2.2.2 _ (Nat.le_refl _) k) ?_
  have hs := hc.self 8
  have hc := hc.n (.inl 8)
  refine p_dup dX5_init_30 rfl ?_
  refine p_callIN (b := (b + 8)) [vR g (b + 8), vR g a] dX5_init_31 yi_X8_init nl_X5_27 (Nat.le_of_ble_eq_true rfl) (Nat.le_of_ble_eq_true rfl) (Nat.le_of_ble_eq_true rfl) (Nat.le_of_ble_eq_true rfl) (t_X8 hG hs) PC.nx (fun v ly9 D9 hp => ?_)
  obtain ⟨e1, rfl, rfl⟩ := hp
  cases e1
  have hc := i_X8 hs _ _ hc
  refine p_putr dX5_init_34 ff_X5_28 rfl (fun _ _ _ => rfl) rfl rfl hc.1 ?_
  have hc := hc.r (a0 := a) (k := 3) (q := (b + 8))
  refine p_aload_n dX5_init_37 rfl ?_
  refine p_new (b := (b + 13)) dX5_init_38 cc_X5_32 in_X6.1 in_X6.2 ck_X6 nf_X6 (Nat.le_of_ble_eq_true rfl) (Nat.le_of_ble_eq_true rfl) hc.2.1 (fun k => hc.2.2.2 _ (Nat.le_refl _) k) ?_
  have hs := hc.self 6
  have hc := hc.n (.inl 6)
  refine p_dup dX5_init_41 rfl ?_
  refine p_callIN (b := (b + 13)) [vR g (b + 13), vR g a] dX5_init_42 yi_X6_init nl_X5_34 (Nat.le_of_ble_eq_true rfl) (Nat.le_of_ble_eq_true rfl) (Nat.le_of_ble_eq_true rfl) (Nat.le_of_ble_eq_true rfl) (t_X6 hG hs) PC.nx (fun v ly9 D9 hp => ?_)
  obtain ⟨e1, rfl, rfl⟩ := hp
  cases e1
  have hc := i_X6 hs _ _ hc
  refine p_putr dX5_init_45 ff_X5_35 rfl (fun _ _ _ => rfl) rfl rfl hc.1 ?_
  have hc := hc.r (a0 := a) (k := 4) (q := (b + 13))
  refine p_aload_n dX5_init_48 rfl ?_
  refine p_new (b := (b + 21)) dX5_init_49 cc_X5_39 in_X2.1 in_X2.2 ck_X2 nf_X2 (Nat.le_of_ble_eq_true rfl) (Nat.le_of_ble_eq_true rfl) hc.2.1 (fun k => hc.2.2.2 _ (Nat.le_refl _) k) ?_
  have hs := hc.self 2
  have hc := hc.n (.inl 2)
  refine p_dup dX5_init_52 rfl ?_
  refine p_callIN (b := (b + 21)) [vR g (b + 21), vR g a] dX5_init_53 yi_X2_init nl_X5_41 (Nat.le_of_ble_eq_true rfl) (Nat.le_of_ble_eq_true rfl) (Nat.le_of_ble_eq_true rfl) (Nat.le_of_ble_eq_true rfl) (t_X2 hG hs) PC.nx (fun v ly9 D9 hp => ?_)
  obtain ⟨e1, rfl, rfl⟩ := hp
  cases e1
  have hc := i_X2 hs _ _ hc
  refine p_putr dX5_init_56 ff_X5_42 rfl (fun _ _ _ => rfl) rfl rfl hc.1 ?_
  have hc := hc.r (a0 := a) (k := 5) (q := (b + 21))
  exact p_return dX5_init_59 (Nat.le_of_ble_eq_true rfl) (Nat.le_of_ble_eq_true rfl) ⟨rfl, rfl, rfl⟩
set_option maxRecDepth 100000 in
theorem yi_X9_init : YI yX9_init cX9_init 1 := ⟨⟨TBm (i := 388) rfl rfl, TBm (i := 137) rfl rfl, by decide, by decide +kernel⟩, rfl, TBm (i := 387) rfl rfl⟩
set_option maxRecDepth 100000 in
theorem om_X9 : Cond.methodLink RX9 3 Lib.objectInit ∈ TB := TBm (i := 389) rfl rfl
set_option maxRecDepth 100000 in
theorem cc_X9_15 : Cond.classLink RX9 15 RX1 ∈ TB := TBm (i := 390) rfl rfl
set_option maxRecDepth 100000 in
theorem nl_X9_17 : Cond.methodLinkNest RX9 17 yX1_init "DotSpreader" ∈ lw_tbl := List.mem_of_getElem? (i := 391) rfl
def l_X9 (a b : Nat) (ly : LY) : LY := (sR (sN (sR (l_X1 b (b + 1) (sN ly (.inl 1))) a 1 b) (.inr (1, 400))) a 2 (b + 8))
def d_X9 (a b : Nat) (D : DT) : DT := (sF (sF (sF (sF (sF (sF (sF (d_X1 b (b + 1) (sF D a 0 0)) a 3 0) a 4 0) a 5 0) a 6 0) a 7 0) a 8 (-1)) a 9 0)
set_option maxRecDepth 100000 in
theorem i_X9 {ly : LY} {D : DT} {a b : Nat} (h0 : CI ly D a 9 b) (a9 c9 : Nat) (h : CI ly D a9 c9 b) : CI (l_X9 a b ly) (d_X9 a b D) a9 c9 (b + 9) := by
  have h := h.f (k := 0) (v := 0) h0.2.2.1
  have h0 := h0.f (k := 0) (v := 0) h0.2.2.1
  have hs := h0.self 1
  have h0 := h0.n (.inl 1)
  have h := h.n (.inl 1)
  have h := i_X1 hs _ _ h
  have h0 := i_X1 hs _ _ h0
  have h := h.r (a0 := a) (k := 1) (q := b)
  have h0 := h0.r (a0 := a) (k := 1) (q := b)
  have h := h.n (.inr (1, 400))
  have h0 := h0.n (.inr (1, 400))
  have h := h.r (a0 := a) (k := 2) (q := (b + 8))
  have h0 := h0.r (a0 := a) (k := 2) (q := (b + 8))
  have h := h.f (k := 3) (v := 0) h0.2.2.1
  have h0 := h0.f (k := 3) (v := 0) h0.2.2.1
  have h := h.f (k := 4) (v := 0) h0.2.2.1
  have h0 := h0.f (k := 4) (v := 0) h0.2.2.1
  have h := h.f (k := 5) (v := 0) h0.2.2.1
  have h0 := h0.f (k := 5) (v := 0) h0.2.2.1
  have h := h.f (k := 6) (v := 0) h0.2.2.1
  have h0 := h0.f (k := 6) (v := 0) h0.2.2.1
  have h := h.f (k := 7) (v := 0) h0.2.2.1
  have h0 := h0.f (k := 7) (v := 0) h0.2.2.1
  have h := h.f (k := 8) (v := (-1)) h0.2.2.1
  have h0 := h0.f (k := 8) (v := (-1)) h0.2.2.1
  have h := h.f (k := 9) (v := 0) h0.2.2.1
  have h0 := h0.f (k := 9) (v := 0) h0.2.2.1
  exact h
set_option maxRecDepth 100000 in
set_option maxHeartbeats 4000000 in
theorem t_X9 {l : Launch} {g : GH} (hG : G0 l g) {ly : LY} {D : DT} {a b : Nat} (hc : CI ly D a 9 b) : Sat l g yX9_init cX9_init 1 none 2 9 2027 [vR g a] ly D (PC (l_X9 a b ly) (d_X9 a b D)) := by
  refine Sat.of hG (by decide) (Nat.le_of_ble_eq_true rfl) (by simp [Value.category]) ?_
  refine p_aload_n dX9_init_0 rfl ?_
  refine p_objInit dX9_init_1 om_X9 oiw (Nat.le_of_ble_eq_true rfl) (Nat.le_of_ble_eq_true rfl) ?_
  refine p_aload_n dX9_init_4 rfl ?_
  refine p_iconst dX9_init_5 ?_
  refine p_puti dX9_init_6 fq_X9_9 rfl hc.1 ?_
  have hc := hc.f (k := 0) (v := 0) hc.2.2.1
  refine p_aload_n dX9_init_9 rfl ?_
  refine p_new (b := b) dX9_init_10 cc_X9_15 in_X1.1 in_X1.2 ck_X1 nf_X1 (Nat.le_of_ble_eq_true rfl) (Nat.le_of_ble_eq_true rfl) hc.2.1 (fun k => hc.2.2.2 _ (Nat.le_refl _) k) ?_
  have hs := hc.self 1
  have hc := hc.n (.inl 1)
  refine p_dup dX9_init_13 rfl ?_
  refine p_callIN (b := b) [vR g b, vR g a] dX9_init_14 yi_X1_init nl_X9_17 (Nat.le_of_ble_eq_true rfl) (Nat.le_of_ble_eq_true rfl) (Nat.le_of_ble_eq_true rfl) (Nat.le_of_ble_eq_true rfl) (t_X1 hG hs) PC.nx (fun v ly9 D9 hp => ?_)
  obtain ⟨e1, rfl, rfl⟩ := hp
  cases e1
  have hc := i_X1 hs _ _ hc
  refine p_putr dX9_init_17 ff_X9_18 rfl (fun _ _ _ => rfl) rfl rfl hc.1 ?_
  have hc := hc.r (a0 := a) (k := 1) (q := b)
  refine p_aload_n dX9_init_20 rfl ?_
  refine p_sipush dX9_init_21 (by decide) ?_
  refine p_newarr (b := (b + 8)) (N := 400) (ty := 1) dX9_init_24 aw_1 rfl (fun _ _ h => h) rfl (by decide) (by decide) (fun _ _ h => ac1 h) (Nat.le_of_ble_eq_true rfl) (Nat.le_of_ble_eq_true rfl) hc.2.1 (fun k => hc.2.2.2 _ (Nat.le_refl _) k) ?_
  have hc0 := hc
  have hc := hc.n (.inr (1, 400))
  refine p_putr dX9_init_26 ff_X9_22 rfl (fun _ _ _ => rfl) rfl rfl hc.1 ?_
  have hc := hc.r (a0 := a) (k := 2) (q := (b + 8))
  refine p_aload_n dX9_init_29 rfl ?_
  refine p_iconst dX9_init_30 ?_
  refine p_puti dX9_init_31 fq_X9_26 rfl hc.1 ?_
  have hc := hc.f (k := 3) (v := 0) hc.2.2.1
  refine p_aload_n dX9_init_34 rfl ?_
  refine p_iconst dX9_init_35 ?_
  refine p_puti dX9_init_36 fq_X9_29 rfl hc.1 ?_
  have hc := hc.f (k := 4) (v := 0) hc.2.2.1
  refine p_aload_n dX9_init_39 rfl ?_
  refine p_iconst dX9_init_40 ?_
  refine p_puti dX9_init_41 fq_X9_32 rfl hc.1 ?_
  have hc := hc.f (k := 5) (v := 0) hc.2.2.1
  refine p_aload_n dX9_init_44 rfl ?_
  refine p_iconst dX9_init_45 ?_
  refine p_puti dX9_init_46 fq_X9_35 rfl hc.1 ?_
  have hc := hc.f (k := 6) (v := 0) hc.2.2.1
  refine p_aload_n dX9_init_49 rfl ?_
  refine p_iconst dX9_init_50 ?_
  refine p_puti dX9_init_51 fq_X9_38 rfl hc.1 ?_
  have hc := hc.f (k := 7) (v := 0) hc.2.2.1
  refine p_aload_n dX9_init_54 rfl ?_
  refine p_iconst dX9_init_55 ?_
  refine p_puti dX9_init_56 fq_X9_41 rfl hc.1 ?_
  have hc := hc.f (k := 8) (v := (-1)) hc.2.2.1
  refine p_aload_n dX9_init_59 rfl ?_
  refine p_iconst dX9_init_60 ?_
  refine p_putz dX9_init_61 fq_X9_44 rfl (Or.inl rfl) hc.1 ?_
  have hc := hc.f (k := 9) (v := 0) hc.2.2.1
  exact p_return dX9_init_64 (Nat.le_of_ble_eq_true rfl) (Nat.le_of_ble_eq_true rfl) ⟨rfl, rfl, rfl⟩
set_option maxRecDepth 100000 in
theorem yi_X7_init : YI yX7_init cX7_init 1 := ⟨⟨TBm (i := 429) rfl rfl, TBm (i := 138) rfl rfl, by decide, by decide +kernel⟩, rfl, TBm (i := 428) rfl rfl⟩
set_option maxRecDepth 100000 in
theorem om_X7 : Cond.methodLink RX7 3 Lib.objectInit ∈ TB := TBm (i := 430) rfl rfl
def l_X7 (a b : Nat) (ly : LY) : LY := (sR (sN ly (.inr (1, 1600))) a 1 b)
def d_X7 (a b : Nat) (D : DT) : DT := (sF D a 0 0)
set_option maxRecDepth 100000 in
theorem i_X7 {ly : LY} {D : DT} {a b : Nat} (h0 : CI ly D a 7 b) (a9 c9 : Nat) (h : CI ly D a9 c9 b) : CI (l_X7 a b ly) (d_X7 a b D) a9 c9 (b + 1) := by
  have h := h.f (k := 0) (v := 0) h0.2.2.1
  have h0 := h0.f (k := 0) (v := 0) h0.2.2.1
  have h := h.n (.inr (1, 1600))
  have h0 := h0.n (.inr (1, 1600))
  have h := h.r (a0 := a) (k := 1) (q := b)
  have h0 := h0.r (a0 := a) (k := 1) (q := b)
  exact h
set_option maxRecDepth 100000 in
set_option maxHeartbeats 4000000 in
theorem t_X7 {l : Launch} {g : GH} (hG : G0 l g) {ly : LY} {D : DT} {a b : Nat} (hc : CI ly D a 7 b) : Sat l g yX7_init cX7_init 1 none 1 1 1600 [vR g a] ly D (PC (l_X7 a b ly) (d_X7 a b D)) := by
  refine Sat.of hG (by decide) (Nat.le_of_ble_eq_true rfl) (by simp [Value.category]) ?_
  refine p_aload_n dX7_init_0 rfl ?_
  refine p_objInit dX7_init_1 om_X7 oiw (Nat.le_of_ble_eq_true rfl) (Nat.le_of_ble_eq_true rfl) ?_
  refine p_aload_n dX7_init_4 rfl ?_
  refine p_iconst dX7_init_5 ?_
  refine p_puti dX7_init_6 fq_X7_9 rfl hc.1 ?_
  have hc := hc.f (k := 0) (v := 0) hc.2.2.1
  refine p_aload_n dX7_init_9 rfl ?_
  refine p_sipush dX7_init_10 (by decide) ?_
  refine p_newarr (b := b) (N := 1600) (ty := 1) dX7_init_13 aw_1 rfl (fun _ _ h => h) rfl (by decide) (by decide) (fun _ _ h => ac1 h) (Nat.le_of_ble_eq_true rfl) (Nat.le_of_ble_eq_true rfl) hc.2.1 (fun k => hc.2.2.2 _ (Nat.le_refl _) k) ?_
  have hc0 := hc
  have hc := hc.n (.inr (1, 1600))
  refine p_putr dX7_init_15 ff_X7_15 rfl (fun _ _ _ => rfl) rfl rfl hc.1 ?_
  have hc := hc.r (a0 := a) (k := 1) (q := b)
  exact p_return dX7_init_18 (Nat.le_of_ble_eq_true rfl) (Nat.le_of_ble_eq_true rfl) ⟨rfl, rfl, rfl⟩
set_option maxRecDepth 100000 in
theorem yi_X3_init : YI yX3_init cX3_init 1 := ⟨⟨TBm (i := 444) rfl rfl, TBm (i := 139) rfl rfl, by decide, by decide +kernel⟩, rfl, TBm (i := 443) rfl rfl⟩
set_option maxRecDepth 100000 in
theorem om_X3 : Cond.methodLink RX3 3 Lib.objectInit ∈ TB := TBm (i := 445) rfl rfl
def l_X3 (a b : Nat) (ly : LY) : LY := (sR (sN (sR (sN ly (.inr (0, 384))) a 1 b) (.inr (0, 384))) a 2 (b + 1))
def d_X3 (a b : Nat) (D : DT) : DT := (sF (sF D a 0 0) a 3 0)
set_option maxRecDepth 100000 in
theorem i_X3 {ly : LY} {D : DT} {a b : Nat} (h0 : CI ly D a 3 b) (a9 c9 : Nat) (h : CI ly D a9 c9 b) : CI (l_X3 a b ly) (d_X3 a b D) a9 c9 (b + 2) := by
  have h := h.f (k := 0) (v := 0) h0.2.2.1
  have h0 := h0.f (k := 0) (v := 0) h0.2.2.1
  have h := h.n (.inr (0, 384))
  have h0 := h0.n (.inr (0, 384))
  have h := h.r (a0 := a) (k := 1) (q := b)
  have h0 := h0.r (a0 := a) (k := 1) (q := b)
  have h := h.n (.inr (0, 384))
  have h0 := h0.n (.inr (0, 384))
  have h := h.r (a0 := a) (k := 2) (q := (b + 1))
  have h0 := h0.r (a0 := a) (k := 2) (q := (b + 1))
  have h := h.f (k := 3) (v := 0) h0.2.2.1
  have h0 := h0.f (k := 3) (v := 0) h0.2.2.1
  exact h
set_option maxRecDepth 100000 in
set_option maxHeartbeats 4000000 in
theorem t_X3 {l : Launch} {g : GH} (hG : G0 l g) {ly : LY} {D : DT} {a b : Nat} (hc : CI ly D a 3 b) : Sat l g yX3_init cX3_init 1 none 1 2 768 [vR g a] ly D (PC (l_X3 a b ly) (d_X3 a b D)) := by
  refine Sat.of hG (by decide) (Nat.le_of_ble_eq_true rfl) (by simp [Value.category]) ?_
  refine p_aload_n dX3_init_0 rfl ?_
  refine p_objInit dX3_init_1 om_X3 oiw (Nat.le_of_ble_eq_true rfl) (Nat.le_of_ble_eq_true rfl) ?_
  refine p_aload_n dX3_init_4 rfl ?_
  refine p_iconst dX3_init_5 ?_
  refine p_puti dX3_init_6 fq_X3_9 rfl hc.1 ?_
  have hc := hc.f (k := 0) (v := 0) hc.2.2.1
  refine p_aload_n dX3_init_9 rfl ?_
  refine p_sipush dX3_init_10 (by decide) ?_
  refine p_newarr (b := b) (N := 384) (ty := 0) dX3_init_13 aw_0 rfl (fun _ _ h => h) rfl (by decide) (by decide) (fun _ _ h => ac0 h) (Nat.le_of_ble_eq_true rfl) (Nat.le_of_ble_eq_true rfl) hc.2.1 (fun k => hc.2.2.2 _ (Nat.le_refl _) k) ?_
  have hc0 := hc
  have hc := hc.n (.inr (0, 384))
  refine p_putr dX3_init_15 ff_X3_15 rfl (fun _ _ _ => rfl) rfl rfl hc.1 ?_
  have hc := hc.r (a0 := a) (k := 1) (q := b)
  refine p_aload_n dX3_init_18 rfl ?_
  refine p_sipush dX3_init_19 (by decide) ?_
  refine p_newarr (b := (b + 1)) (N := 384) (ty := 0) dX3_init_22 aw_0 rfl (fun _ _ h => h) rfl (by decide) (by decide) (fun _ _ h => ac0 h) (Nat.le_of_ble_eq_true rfl) (Nat.le_of_ble_eq_true rfl) hc.2.1 (fun k => hc.2.2.2 _ (Nat.le_refl _) k) ?_
  have hc0 := hc
  have hc := hc.n (.inr (0, 384))
  refine p_putr dX3_init_24 ff_X3_19 rfl (fun _ _ _ => rfl) rfl rfl hc.1 ?_
  have hc := hc.r (a0 := a) (k := 2) (q := (b + 1))
  refine p_aload_n dX3_init_27 rfl ?_
  refine p_iconst dX3_init_28 ?_
  refine p_puti dX3_init_29 fq_X3_22 rfl hc.1 ?_
  have hc := hc.f (k := 3) (v := 0) hc.2.2.1
  exact p_return dX3_init_32 (Nat.le_of_ble_eq_true rfl) (Nat.le_of_ble_eq_true rfl) ⟨rfl, rfl, rfl⟩
set_option maxRecDepth 100000 in
theorem yi_X4_init : YI yX4_init cX4_init 1 := ⟨⟨TBm (i := 465) rfl rfl, TBm (i := 140) rfl rfl, by decide, by decide +kernel⟩, rfl, TBm (i := 464) rfl rfl⟩
set_option maxRecDepth 100000 in
theorem om_X4 : Cond.methodLink RX4 3 Lib.objectInit ∈ TB := TBm (i := 466) rfl rfl
def l_X4 (a b : Nat) (ly : LY) : LY := (sR (sN (sR (sN ly (.inr (0, 768))) a 2 b) (.inr (0, 384))) a 3 (b + 1))
def d_X4 (a b : Nat) (D : DT) : DT := (sF (sF (sF (sF (sF (sF D a 0 0) a 1 0) a 4 0) a 5 (-1)) a 6 (-1)) a 7 (-1))
set_option maxRecDepth 100000 in
theorem i_X4 {ly : LY} {D : DT} {a b : Nat} (h0 : CI ly D a 4 b) (a9 c9 : Nat) (h : CI ly D a9 c9 b) : CI (l_X4 a b ly) (d_X4 a b D) a9 c9 (b + 2) := by
  have h := h.f (k := 0) (v := 0) h0.2.2.1
  have h0 := h0.f (k := 0) (v := 0) h0.2.2.1
  have h := h.f (k := 1) (v := 0) h0.2.2.1
  have h0 := h0.f (k := 1) (v := 0) h0.2.2.1
  have h := h.n (.inr (0, 768))
  have h0 := h0.n (.inr (0, 768))
  have h := h.r (a0 := a) (k := 2) (q := b)
  have h0 := h0.r (a0 := a) (k := 2) (q := b)
  have h := h.n (.inr (0, 384))
  have h0 := h0.n (.inr (0, 384))
  have h := h.r (a0 := a) (k := 3) (q := (b + 1))
  have h0 := h0.r (a0 := a) (k := 3) (q := (b + 1))
  have h := h.f (k := 4) (v := 0) h0.2.2.1
  have h0 := h0.f (k := 4) (v := 0) h0.2.2.1
  have h := h.f (k := 5) (v := (-1)) h0.2.2.1
  have h0 := h0.f (k := 5) (v := (-1)) h0.2.2.1
  have h := h.f (k := 6) (v := (-1)) h0.2.2.1
  have h0 := h0.f (k := 6) (v := (-1)) h0.2.2.1
  have h := h.f (k := 7) (v := (-1)) h0.2.2.1
  have h0 := h0.f (k := 7) (v := (-1)) h0.2.2.1
  exact h
set_option maxRecDepth 100000 in
set_option maxHeartbeats 4000000 in
theorem t_X4 {l : Launch} {g : GH} (hG : G0 l g) {ly : LY} {D : DT} {a b : Nat} (hc : CI ly D a 4 b) : Sat l g yX4_init cX4_init 1 none 1 2 1152 [vR g a] ly D (PC (l_X4 a b ly) (d_X4 a b D)) := by
  refine Sat.of hG (by decide) (Nat.le_of_ble_eq_true rfl) (by simp [Value.category]) ?_
  refine p_aload_n dX4_init_0 rfl ?_
  refine p_objInit dX4_init_1 om_X4 oiw (Nat.le_of_ble_eq_true rfl) (Nat.le_of_ble_eq_true rfl) ?_
  refine p_aload_n dX4_init_4 rfl ?_
  refine p_iconst dX4_init_5 ?_
  refine p_puti dX4_init_6 fq_X4_9 rfl hc.1 ?_
  have hc := hc.f (k := 0) (v := 0) hc.2.2.1
  refine p_aload_n dX4_init_9 rfl ?_
  refine p_iconst dX4_init_10 ?_
  refine p_puti dX4_init_11 fq_X4_15 rfl hc.1 ?_
  have hc := hc.f (k := 1) (v := 0) hc.2.2.1
  refine p_aload_n dX4_init_14 rfl ?_
  refine p_sipush dX4_init_15 (by decide) ?_
  refine p_newarr (b := b) (N := 768) (ty := 0) dX4_init_18 aw_0 rfl (fun _ _ h => h) rfl (by decide) (by decide) (fun _ _ h => ac0 h) (Nat.le_of_ble_eq_true rfl) (Nat.le_of_ble_eq_true rfl) hc.2.1 (fun k => hc.2.2.2 _ (Nat.le_refl _) k) ?_
  have hc0 := hc
  have hc := hc.n (.inr (0, 768))
  refine p_putr dX4_init_20 ff_X4_18 rfl (fun _ _ _ => rfl) rfl rfl hc.1 ?_
  have hc := hc.r (a0 := a) (k := 2) (q := b)
  refine p_aload_n dX4_init_23 rfl ?_
  refine p_sipush dX4_init_24 (by decide) ?_
  refine p_newarr (b := (b + 1)) (N := 384) (ty := 0) dX4_init_27 aw_0 rfl (fun _ _ h => h) rfl (by decide) (by decide) (fun _ _ h => ac0 h) (Nat.le_of_ble_eq_true rfl) (Nat.le_of_ble_eq_true rfl) hc.2.1 (fun k => hc.2.2.2 _ (Nat.le_refl _) k) ?_
  have hc0 := hc
  have hc := hc.n (.inr (0, 384))
  refine p_putr dX4_init_29 ff_X4_22 rfl (fun _ _ _ => rfl) rfl rfl hc.1 ?_
  have hc := hc.r (a0 := a) (k := 3) (q := (b + 1))
  refine p_aload_n dX4_init_32 rfl ?_
  refine p_iconst dX4_init_33 ?_
  refine p_puti dX4_init_34 fq_X4_25 rfl hc.1 ?_
  have hc := hc.f (k := 4) (v := 0) hc.2.2.1
  refine p_aload_n dX4_init_37 rfl ?_
  refine p_iconst dX4_init_38 ?_
  refine p_puti dX4_init_39 fq_X4_28 rfl hc.1 ?_
  have hc := hc.f (k := 5) (v := (-1)) hc.2.2.1
  refine p_aload_n dX4_init_42 rfl ?_
  refine p_iconst dX4_init_43 ?_
  refine p_puti dX4_init_44 fq_X4_31 rfl hc.1 ?_
  have hc := hc.f (k := 6) (v := (-1)) hc.2.2.1
  refine p_aload_n dX4_init_47 rfl ?_
  refine p_iconst dX4_init_48 ?_
  refine p_puti dX4_init_49 fq_X4_34 rfl hc.1 ?_
  have hc := hc.f (k := 7) (v := (-1)) hc.2.2.1
  exact p_return dX4_init_52 (Nat.le_of_ble_eq_true rfl) (Nat.le_of_ble_eq_true rfl) ⟨rfl, rfl, rfl⟩
set_option maxRecDepth 100000 in
theorem yi_X10_init : YI yX10_init cX10_init 1 := ⟨⟨TBm (i := 159) rfl rfl, TBm (i := 130) rfl rfl, by decide, by decide +kernel⟩, rfl, TBm (i := 158) rfl rfl⟩
set_option maxRecDepth 100000 in
theorem om_X10 : Cond.methodLink RX10 1 Lib.objectInit ∈ TB := TBm (i := 160) rfl rfl
set_option maxRecDepth 100000 in
theorem cc_X10_7 : Cond.classLink RX10 7 RX5 ∈ TB := TBm (i := 163) rfl rfl
set_option maxRecDepth 100000 in
theorem nl_X10_9 : Cond.methodLinkNest RX10 9 yX5_init "DotSpreader" ∈ lw_tbl := List.mem_of_getElem? (i := 165) rfl
set_option maxRecDepth 100000 in
theorem cc_X10_19 : Cond.classLink RX10 19 RX9 ∈ TB := TBm (i := 384) rfl rfl
set_option maxRecDepth 100000 in
theorem nl_X10_21 : Cond.methodLinkNest RX10 21 yX9_init "DotSpreader" ∈ lw_tbl := List.mem_of_getElem? (i := 386) rfl
set_option maxRecDepth 100000 in
theorem cc_X10_30 : Cond.classLink RX10 30 RX7 ∈ TB := TBm (i := 425) rfl rfl
set_option maxRecDepth 100000 in
theorem nl_X10_32 : Cond.methodLinkNest RX10 32 yX7_init "DotSpreader" ∈ lw_tbl := List.mem_of_getElem? (i := 427) rfl
set_option maxRecDepth 100000 in
theorem cc_X10_37 : Cond.classLink RX10 37 RX3 ∈ TB := TBm (i := 440) rfl rfl
set_option maxRecDepth 100000 in
theorem nl_X10_39 : Cond.methodLinkNest RX10 39 yX3_init "DotSpreader" ∈ lw_tbl := List.mem_of_getElem? (i := 442) rfl
set_option maxRecDepth 100000 in
theorem cc_X10_44 : Cond.classLink RX10 44 RX4 ∈ TB := TBm (i := 461) rfl rfl
set_option maxRecDepth 100000 in
theorem nl_X10_46 : Cond.methodLinkNest RX10 46 yX4_init "DotSpreader" ∈ lw_tbl := List.mem_of_getElem? (i := 463) rfl
def l_X10 (a b : Nat) (ly : LY) : LY := (sR (l_X4 (b + 69) (b + 70) (sN (sR (l_X3 (b + 66) (b + 67) (sN (sR (l_X7 (b + 64) (b + 65) (sN (sR (l_X9 (b + 54) (b + 55) (sN (sR (l_X5 (b + 27) (b + 28) (sN (sR (l_X5 b (b + 1) (sN ly (.inl 5))) a 0 b) (.inl 5))) a 1 (b + 27)) (.inl 9))) a 2 (b + 54)) (.inl 7))) a 4 (b + 64)) (.inl 3))) a 5 (b + 66)) (.inl 4))) a 6 (b + 69))
def d_X10 (a b : Nat) (D : DT) : DT := (d_X4 (b + 69) (b + 70) (d_X3 (b + 66) (b + 67) (d_X7 (b + 64) (b + 65) (sF (d_X9 (b + 54) (b + 55) (d_X5 (b + 27) (b + 28) (d_X5 b (b + 1) D))) a 3 (-1)))))
set_option maxRecDepth 100000 in
theorem i_X10 {ly : LY} {D : DT} {a b : Nat} (h0 : CI ly D a 10 b) (a9 c9 : Nat) (h : CI ly D a9 c9 b) : CI (l_X10 a b ly) (d_X10 a b D) a9 c9 (b + 72) := by
  have hs := h0.self 5
  have h0 := h0.n (.inl 5)
  have h := h.n (.inl 5)
  have h := i_X5 hs _ _ h
  have h0 := i_X5 hs _ _ h0
  have h := h.r (a0 := a) (k := 0) (q := b)
  have h0 := h0.r (a0 := a) (k := 0) (q := b)
  have hs := h0.self 5
  have h0 := h0.n (.inl 5)
  have h := h.n (.inl 5)
  have h := i_X5 hs _ _ h
  have h0 := i_X5 hs _ _ h0
  have h := h.r (a0 := a) (k := 1) (q := (b + 27))
  have h0 := h0.r (a0 := a) (k := 1) (q := (b + 27))
  have hs := h0.self 9
  have h0 := h0.n (.inl 9)
  have h := h.n (.inl 9)
  have h := i_X9 hs _ _ h
  have h0 := i_X9 hs _ _ h0
  have h := h.r (a0 := a) (k := 2) (q := (b + 54))
  have h0 := h0.r (a0 := a) (k := 2) (q := (b + 54))
  have h := h.f (k := 3) (v := (-1)) h0.2.2.1
  have h0 := h0.f (k := 3) (v := (-1)) h0.2.2.1
  have hs := h0.self 7
  have h0 := h0.n (.inl 7)
  have h := h.n (.inl 7)
  have h := i_X7 hs _ _ h
  have h0 := i_X7 hs _ _ h0
  have h := h.r (a0 := a) (k := 4) (q := (b + 64))
  have h0 := h0.r (a0 := a) (k := 4) (q := (b + 64))
  have hs := h0.self 3
  have h0 := h0.n (.inl 3)
  have h := h.n (.inl 3)
  have h := i_X3 hs _ _ h
  have h0 := i_X3 hs _ _ h0
  have h := h.r (a0 := a) (k := 5) (q := (b + 66))
  have h0 := h0.r (a0 := a) (k := 5) (q := (b + 66))
  have hs := h0.self 4
  have h0 := h0.n (.inl 4)
  have h := h.n (.inl 4)
  have h := i_X4 hs _ _ h
  have h0 := i_X4 hs _ _ h0
  have h := h.r (a0 := a) (k := 6) (q := (b + 69))
  have h0 := h0.r (a0 := a) (k := 6) (q := (b + 69))
  exact h
set_option maxRecDepth 100000 in
set_option maxHeartbeats 4000000 in
theorem t_X10 {l : Launch} {g : GH} (hG : G0 l g) {ly : LY} {D : DT} {a b : Nat} (hc : CI ly D a 10 b) : Sat l g yX10_init cX10_init 1 none 4 72 16365 [vR g a] ly D (PC (l_X10 a b ly) (d_X10 a b D)) := by
  refine Sat.of hG (by decide) (Nat.le_of_ble_eq_true rfl) (by simp [Value.category]) ?_
  refine p_aload_n dX10_init_0 rfl ?_
  refine p_objInit dX10_init_1 om_X10 oiw (Nat.le_of_ble_eq_true rfl) (Nat.le_of_ble_eq_true rfl) ?_
  refine p_aload_n dX10_init_4 rfl ?_
  refine p_new (b := b) dX10_init_5 cc_X10_7 in_X5.1 in_X5.2 ck_X5 nf_X5 (Nat.le_of_ble_eq_true rfl) (Nat.le_of_ble_eq_true rfl) hc.2.1 (fun k => hc.2.2.2 _ (Nat.le_refl _) k) ?_
  have hs := hc.self 5
  have hc := hc.n (.inl 5)
  refine p_dup dX10_init_8 rfl ?_
  refine p_callIN (b := b) [vR g b, vR g a] dX10_init_9 yi_X5_init nl_X10_9 (Nat.le_of_ble_eq_true rfl) (Nat.le_of_ble_eq_true rfl) (Nat.le_of_ble_eq_true rfl) (Nat.le_of_ble_eq_true rfl) (t_X5 hG hs) PC.nx (fun v ly9 D9 hp => ?_)
  obtain ⟨e1, rfl, rfl⟩ := hp
  cases e1
  have hc := i_X5 hs _ _ hc
  refine p_putr dX10_init_12 ff_X10_10 rfl (fun _ _ _ => rfl) rfl rfl hc.1 ?_
  have hc := hc.r (a0 := a) (k := 0) (q := b)
  refine p_aload_n dX10_init_15 rfl ?_
  refine p_new (b := (b + 27)) dX10_init_16 cc_X10_7 in_X5.1 in_X5.2 ck_X5 nf_X5 (Nat.le_of_ble_eq_true rfl) (Nat.le_of_ble_eq_true rfl) hc.2.1 (fun k => hc.2.2.2 _ (Nat.le_refl _) k) ?_
  have hs := hc.self 5
  have hc := hc.n (.inl 5)
  refine p_dup dX10_init_19 rfl ?_
  refine p_callIN (b := (b + 27)) [vR g (b + 27), vR g a] dX10_init_20 yi_X5_init nl_X10_9 (Nat.le_of_ble_eq_true rfl) (Nat.le_of_ble_eq_true rfl) (Nat.le_of_ble_eq_true rfl) (Nat.le_of_ble_eq_true rfl) (t_X5 hG hs) PC.nx (fun v ly9 D9 hp => ?_)
  obtain ⟨e1, rfl, rfl⟩ := hp
  cases e1
  have hc := i_X5 hs _ _ hc
  refine p_putr dX10_init_23 ff_X10_16 rfl (fun _ _ _ => rfl) rfl rfl hc.1 ?_
  have hc := hc.r (a0 := a) (k := 1) (q := (b + 27))
  refine p_aload_n dX10_init_26 rfl ?_
  refine p_new (b := (b + 54)) dX10_init_27 cc_X10_19 in_X9.1 in_X9.2 ck_X9 nf_X9 (Nat.le_of_ble_eq_true rfl) (Nat.le_of_ble_eq_true rfl) hc.2.1 (fun k => hc.2.2.2 _ (Nat.le_refl _) k) ?_
  have hs := hc.self 9
  have hc := hc.n (.inl 9)
  refine p_dup dX10_init_30 rfl ?_
  refine p_callIN (b := (b + 54)) [vR g (b + 54), vR g a] dX10_init_31 yi_X9_init nl_X10_21 (Nat.le_of_ble_eq_true rfl) (Nat.le_of_ble_eq_true rfl) (Nat.le_of_ble_eq_true rfl) (Nat.le_of_ble_eq_true rfl) (t_X9 hG hs) PC.nx (fun v ly9 D9 hp => ?_)
  obtain ⟨e1, rfl, rfl⟩ := hp
  cases e1
  have hc := i_X9 hs _ _ hc
  refine p_putr dX10_init_34 ff_X10_22 rfl (fun _ _ _ => rfl) rfl rfl hc.1 ?_
  have hc := hc.r (a0 := a) (k := 2) (q := (b + 54))
  refine p_aload_n dX10_init_37 rfl ?_
  refine p_iconst dX10_init_38 ?_
  refine p_puti dX10_init_39 fq_X10_26 rfl hc.1 ?_
  have hc := hc.f (k := 3) (v := (-1)) hc.2.2.1
  refine p_aload_n dX10_init_42 rfl ?_
  refine p_new (b := (b + 64)) dX10_init_43 cc_X10_30 in_X7.1 in_X7.2 ck_X7 nf_X7 (Nat.le_of_ble_eq_true rfl) (Nat.le_of_ble_eq_true rfl) hc.2.1 (fun k => hc.2.2.2 _ (Nat.le_refl _) k) ?_
  have hs := hc.self 7
  have hc := hc.n (.inl 7)
  refine p_dup dX10_init_46 rfl ?_
  refine p_callIN (b := (b + 64)) [vR g (b + 64), vR g a] dX10_init_47 yi_X7_init nl_X10_32 (Nat.le_of_ble_eq_true rfl) (Nat.le_of_ble_eq_true rfl) (Nat.le_of_ble_eq_true rfl) (Nat.le_of_ble_eq_true rfl) (t_X7 hG hs) PC.nx (fun v ly9 D9 hp => ?_)
  obtain ⟨e1, rfl, rfl⟩ := hp
  cases e1
  have hc := i_X7 hs _ _ hc
  refine p_putr dX10_init_50 ff_X10_33 rfl (fun _ _ _ => rfl) rfl rfl hc.1 ?_
  have hc := hc.r (a0 := a) (k := 4) (q := (b + 64))
  refine p_aload_n dX10_init_53 rfl ?_
  refine p_new (b := (b + 66)) dX10_init_54 cc_X10_37 in_X3.1 in_X3.2 ck_X3 nf_X3 (Nat.le_of_ble_eq_true rfl) (Nat.le_of_ble_eq_true rfl) hc.2.1 (fun k => hc.2.2.2 _ (Nat.le_refl _) k) ?_
  have hs := hc.self 3
  have hc := hc.n (.inl 3)
  refine p_dup dX10_init_57 rfl ?_
  refine p_callIN (b := (b + 66)) [vR g (b + 66), vR g a] dX10_init_58 yi_X3_init nl_X10_39 (Nat.le_of_ble_eq_true rfl) (Nat.le_of_ble_eq_true rfl) (Nat.le_of_ble_eq_true rfl) (Nat.le_of_ble_eq_true rfl) (t_X3 hG hs) PC.nx (fun v ly9 D9 hp => ?_)
  obtain ⟨e1, rfl, rfl⟩ := hp
  cases e1
  have hc := i_X3 hs _ _ hc
  refine p_putr dX10_init_61 ff_X10_40 rfl (fun _ _ _ => rfl) rfl rfl hc.1 ?_
  have hc := hc.r (a0 := a) (k := 5) (q := (b + 66))
  refine p_aload_n dX10_init_64 rfl ?_
  refine p_new (b := (b + 69)) dX10_init_65 cc_X10_44 in_X4.1 in_X4.2 ck_X4 nf_X4 (Nat.le_of_ble_eq_true rfl) (Nat.le_of_ble_eq_true rfl) hc.2.1 (fun k => hc.2.2.2 _ (Nat.le_refl _) k) ?_
  have hs := hc.self 4
  have hc := hc.n (.inl 4)
  refine p_dup dX10_init_68 rfl ?_
  refine p_callIN (b := (b + 69)) [vR g (b + 69), vR g a] dX10_init_69 yi_X4_init nl_X10_46 (Nat.le_of_ble_eq_true rfl) (Nat.le_of_ble_eq_true rfl) (Nat.le_of_ble_eq_true rfl) (Nat.le_of_ble_eq_true rfl) (t_X4 hG hs) PC.nx (fun v ly9 D9 hp => ?_)
  obtain ⟨e1, rfl, rfl⟩ := hp
  cases e1
  have hc := i_X4 hs _ _ hc
  refine p_putr dX10_init_72 ff_X10_47 rfl (fun _ _ _ => rfl) rfl rfl hc.1 ?_
  have hc := hc.r (a0 := a) (k := 6) (q := (b + 69))
  exact p_return dX10_init_75 (Nat.le_of_ble_eq_true rfl) (Nat.le_of_ble_eq_true rfl) ⟨rfl, rfl, rfl⟩
set_option maxRecDepth 100000 in
theorem yi_X11_init : YI yX11_init cX11_init 1 := ⟨⟨TBm (i := 1580) rfl rfl, TBm (i := 141) rfl rfl, by decide, by decide +kernel⟩, rfl, TBm (i := 1579) rfl rfl⟩
set_option maxRecDepth 100000 in
theorem om_X11 : Cond.methodLink RX11 1 Lib.objectInit ∈ TB := TBm (i := 1581) rfl rfl
def l_X11 (a b : Nat) (ly : LY) : LY := (sR (sN (sR (sN (sR (sN (sR (sN (sR (sN (sR (sN (sR (sN (sR (sN (sR (sN (sR (sN (sR (sN (sR (sN (sR (sN (sR (sN (sR (sN (sR (sN (sR (sN (sR (sN (sR (sN (sR (sN (sR (sN (sR (sN (sR (sN (sR (sN (sR (sN (sR (sN (sR (sN (sR (sN ly (.inr (1, 400))) a 1 b) (.inr (0, 5))) a 3 (b + 1)) (.inr (0, 4))) a 4 (b + 2)) (.inr (0, 4))) a 5 (b + 3)) (.inr (0, 384))) a 6 (b + 4)) (.inr (0, 384))) a 7 (b + 5)) (.inr (2, 384))) a 8 (b + 6)) (.inr (2, 384))) a 9 (b + 7)) (.inr (0, 24))) a 10 (b + 8)) (.inr (0, 24))) a 11 (b + 9)) (.inr (1, 48))) a 12 (b + 10)) (.inr (1, 48))) a 13 (b + 11)) (.inr (0, 384))) a 22 (b + 12)) (.inr (0, 9))) a 23 (b + 13)) (.inr (0, 384))) a 24 (b + 14)) (.inr (0, 384))) a 25 (b + 15)) (.inr (0, 120))) a 26 (b + 16)) (.inr (0, 120))) a 27 (b + 17)) (.inr (0, 15))) a 28 (b + 18)) (.inr (0, 1152))) a 29 (b + 19)) (.inr (0, 1152))) a 30 (b + 20)) (.inr (0, 384))) a 31 (b + 21)) (.inr (0, 384))) a 32 (b + 22)) (.inr (0, 384))) a 33 (b + 23)) (.inr (0, 24))) a 34 (b + 24)) (.inr (0, 384))) a 35 (b + 25)) (.inr (2, 384))) a 37 (b + 26)) (.inr (1, 20000))) a 39 (b + 27))
def d_X11 (a b : Nat) (D : DT) : DT := (sF (sF (sF (sA (sA (sA (sA D (b + 2) 0 0) (b + 2) 1 0) (b + 2) 2 0) (b + 2) 3 1) a 14 100) a 15 5) a 20 (-1))
set_option maxRecDepth 100000 in
theorem i_X11 {ly : LY} {D : DT} {a b : Nat} (h0 : CI ly D a 11 b) (a9 c9 : Nat) (h : CI ly D a9 c9 b) : CI (l_X11 a b ly) (d_X11 a b D) a9 c9 (b + 28) := by
  have h := h.n (.inr (1, 400))
  have h0 := h0.n (.inr (1, 400))
  have h := h.r (a0 := a) (k := 1) (q := b)
  have h0 := h0.r (a0 := a) (k := 1) (q := b)
  have h := h.n (.inr (0, 5))
  have h0 := h0.n (.inr (0, 5))
  have h := h.r (a0 := a) (k := 3) (q := (b + 1))
  have h0 := h0.r (a0 := a) (k := 3) (q := (b + 1))
  have h := h.n (.inr (0, 4))
  have h0 := h0.n (.inr (0, 4))
  have h := h.a (k := 0) (v := 0) (show (b + 2) < _ by omega)
  have h0 := h0.a (k := 0) (v := 0) (show (b + 2) < _ by omega)
  have h := h.a (k := 1) (v := 0) (show (b + 2) < _ by omega)
  have h0 := h0.a (k := 1) (v := 0) (show (b + 2) < _ by omega)
  have h := h.a (k := 2) (v := 0) (show (b + 2) < _ by omega)
  have h0 := h0.a (k := 2) (v := 0) (show (b + 2) < _ by omega)
  have h := h.a (k := 3) (v := 1) (show (b + 2) < _ by omega)
  have h0 := h0.a (k := 3) (v := 1) (show (b + 2) < _ by omega)
  have h := h.r (a0 := a) (k := 4) (q := (b + 2))
  have h0 := h0.r (a0 := a) (k := 4) (q := (b + 2))
  have h := h.n (.inr (0, 4))
  have h0 := h0.n (.inr (0, 4))
  have h := h.r (a0 := a) (k := 5) (q := (b + 3))
  have h0 := h0.r (a0 := a) (k := 5) (q := (b + 3))
  have h := h.n (.inr (0, 384))
  have h0 := h0.n (.inr (0, 384))
  have h := h.r (a0 := a) (k := 6) (q := (b + 4))
  have h0 := h0.r (a0 := a) (k := 6) (q := (b + 4))
  have h := h.n (.inr (0, 384))
  have h0 := h0.n (.inr (0, 384))
  have h := h.r (a0 := a) (k := 7) (q := (b + 5))
  have h0 := h0.r (a0 := a) (k := 7) (q := (b + 5))
  have h := h.n (.inr (2, 384))
  have h0 := h0.n (.inr (2, 384))
  have h := h.r (a0 := a) (k := 8) (q := (b + 6))
  have h0 := h0.r (a0 := a) (k := 8) (q := (b + 6))
  have h := h.n (.inr (2, 384))
  have h0 := h0.n (.inr (2, 384))
  have h := h.r (a0 := a) (k := 9) (q := (b + 7))
  have h0 := h0.r (a0 := a) (k := 9) (q := (b + 7))
  have h := h.n (.inr (0, 24))
  have h0 := h0.n (.inr (0, 24))
  have h := h.r (a0 := a) (k := 10) (q := (b + 8))
  have h0 := h0.r (a0 := a) (k := 10) (q := (b + 8))
  have h := h.n (.inr (0, 24))
  have h0 := h0.n (.inr (0, 24))
  have h := h.r (a0 := a) (k := 11) (q := (b + 9))
  have h0 := h0.r (a0 := a) (k := 11) (q := (b + 9))
  have h := h.n (.inr (1, 48))
  have h0 := h0.n (.inr (1, 48))
  have h := h.r (a0 := a) (k := 12) (q := (b + 10))
  have h0 := h0.r (a0 := a) (k := 12) (q := (b + 10))
  have h := h.n (.inr (1, 48))
  have h0 := h0.n (.inr (1, 48))
  have h := h.r (a0 := a) (k := 13) (q := (b + 11))
  have h0 := h0.r (a0 := a) (k := 13) (q := (b + 11))
  have h := h.f (k := 14) (v := 100) h0.2.2.1
  have h0 := h0.f (k := 14) (v := 100) h0.2.2.1
  have h := h.f (k := 15) (v := 5) h0.2.2.1
  have h0 := h0.f (k := 15) (v := 5) h0.2.2.1
  have h := h.f (k := 20) (v := (-1)) h0.2.2.1
  have h0 := h0.f (k := 20) (v := (-1)) h0.2.2.1
  have h := h.n (.inr (0, 384))
  have h0 := h0.n (.inr (0, 384))
  have h := h.r (a0 := a) (k := 22) (q := (b + 12))
  have h0 := h0.r (a0 := a) (k := 22) (q := (b + 12))
  have h := h.n (.inr (0, 9))
  have h0 := h0.n (.inr (0, 9))
  have h := h.r (a0 := a) (k := 23) (q := (b + 13))
  have h0 := h0.r (a0 := a) (k := 23) (q := (b + 13))
  have h := h.n (.inr (0, 384))
  have h0 := h0.n (.inr (0, 384))
  have h := h.r (a0 := a) (k := 24) (q := (b + 14))
  have h0 := h0.r (a0 := a) (k := 24) (q := (b + 14))
  have h := h.n (.inr (0, 384))
  have h0 := h0.n (.inr (0, 384))
  have h := h.r (a0 := a) (k := 25) (q := (b + 15))
  have h0 := h0.r (a0 := a) (k := 25) (q := (b + 15))
  have h := h.n (.inr (0, 120))
  have h0 := h0.n (.inr (0, 120))
  have h := h.r (a0 := a) (k := 26) (q := (b + 16))
  have h0 := h0.r (a0 := a) (k := 26) (q := (b + 16))
  have h := h.n (.inr (0, 120))
  have h0 := h0.n (.inr (0, 120))
  have h := h.r (a0 := a) (k := 27) (q := (b + 17))
  have h0 := h0.r (a0 := a) (k := 27) (q := (b + 17))
  have h := h.n (.inr (0, 15))
  have h0 := h0.n (.inr (0, 15))
  have h := h.r (a0 := a) (k := 28) (q := (b + 18))
  have h0 := h0.r (a0 := a) (k := 28) (q := (b + 18))
  have h := h.n (.inr (0, 1152))
  have h0 := h0.n (.inr (0, 1152))
  have h := h.r (a0 := a) (k := 29) (q := (b + 19))
  have h0 := h0.r (a0 := a) (k := 29) (q := (b + 19))
  have h := h.n (.inr (0, 1152))
  have h0 := h0.n (.inr (0, 1152))
  have h := h.r (a0 := a) (k := 30) (q := (b + 20))
  have h0 := h0.r (a0 := a) (k := 30) (q := (b + 20))
  have h := h.n (.inr (0, 384))
  have h0 := h0.n (.inr (0, 384))
  have h := h.r (a0 := a) (k := 31) (q := (b + 21))
  have h0 := h0.r (a0 := a) (k := 31) (q := (b + 21))
  have h := h.n (.inr (0, 384))
  have h0 := h0.n (.inr (0, 384))
  have h := h.r (a0 := a) (k := 32) (q := (b + 22))
  have h0 := h0.r (a0 := a) (k := 32) (q := (b + 22))
  have h := h.n (.inr (0, 384))
  have h0 := h0.n (.inr (0, 384))
  have h := h.r (a0 := a) (k := 33) (q := (b + 23))
  have h0 := h0.r (a0 := a) (k := 33) (q := (b + 23))
  have h := h.n (.inr (0, 24))
  have h0 := h0.n (.inr (0, 24))
  have h := h.r (a0 := a) (k := 34) (q := (b + 24))
  have h0 := h0.r (a0 := a) (k := 34) (q := (b + 24))
  have h := h.n (.inr (0, 384))
  have h0 := h0.n (.inr (0, 384))
  have h := h.r (a0 := a) (k := 35) (q := (b + 25))
  have h0 := h0.r (a0 := a) (k := 35) (q := (b + 25))
  have h := h.n (.inr (2, 384))
  have h0 := h0.n (.inr (2, 384))
  have h := h.r (a0 := a) (k := 37) (q := (b + 26))
  have h0 := h0.r (a0 := a) (k := 37) (q := (b + 26))
  have h := h.n (.inr (1, 20000))
  have h0 := h0.n (.inr (1, 20000))
  have h := h.r (a0 := a) (k := 39) (q := (b + 27))
  have h0 := h0.r (a0 := a) (k := 39) (q := (b + 27))
  exact h
set_option maxRecDepth 100000 in
set_option maxHeartbeats 4000000 in
theorem t_X11 {l : Launch} {g : GH} (hG : G0 l g) {ly : LY} {D : DT} {a b : Nat} (hc : CI ly D a 11 b) : Sat l g yX11_init cX11_init 1 none 1 28 27757 [vR g a] ly D (PC (l_X11 a b ly) (d_X11 a b D)) := by
  refine Sat.of hG (by decide) (Nat.le_of_ble_eq_true rfl) (by simp [Value.category]) ?_
  refine p_aload_n dX11_init_0 rfl ?_
  refine p_objInit dX11_init_1 om_X11 oiw (Nat.le_of_ble_eq_true rfl) (Nat.le_of_ble_eq_true rfl) ?_
  refine p_aload_n dX11_init_4 rfl ?_
  refine p_sipush dX11_init_5 (by decide) ?_
  refine p_newarr (b := b) (N := 400) (ty := 1) dX11_init_8 aw_1 rfl (fun _ _ h => h) rfl (by decide) (by decide) (fun _ _ h => ac1 h) (Nat.le_of_ble_eq_true rfl) (Nat.le_of_ble_eq_true rfl) hc.2.1 (fun k => hc.2.2.2 _ (Nat.le_refl _) k) ?_
  have hc0 := hc
  have hc := hc.n (.inr (1, 400))
  refine p_putr dX11_init_10 ff_X11_9 rfl (fun _ _ _ => rfl) rfl rfl hc.1 ?_
  have hc := hc.r (a0 := a) (k := 1) (q := b)
  refine p_aload_n dX11_init_13 rfl ?_
  refine p_iconst dX11_init_14 ?_
  refine p_newarr (b := (b + 1)) (N := 5) (ty := 0) dX11_init_15 aw_0 rfl (fun _ _ h => h) rfl (by decide) (by decide) (fun _ _ h => ac0 h) (Nat.le_of_ble_eq_true rfl) (Nat.le_of_ble_eq_true rfl) hc.2.1 (fun k => hc.2.2.2 _ (Nat.le_refl _) k) ?_
  have hc0 := hc
  have hc := hc.n (.inr (0, 5))
  refine p_putr dX11_init_17 ff_X11_13 rfl (fun _ _ _ => rfl) rfl rfl hc.1 ?_
  have hc := hc.r (a0 := a) (k := 3) (q := (b + 1))
  refine p_aload_n dX11_init_20 rfl ?_
  refine p_iconst dX11_init_21 ?_
  refine p_newarr (b := (b + 2)) (N := 4) (ty := 0) dX11_init_22 aw_0 rfl (fun _ _ h => h) rfl (by decide) (by decide) (fun _ _ h => ac0 h) (Nat.le_of_ble_eq_true rfl) (Nat.le_of_ble_eq_true rfl) hc.2.1 (fun k => hc.2.2.2 _ (Nat.le_refl _) k) ?_
  have hc0 := hc
  have hc := hc.n (.inr (0, 4))
  refine p_dup dX11_init_24 rfl ?_
  refine p_iconst dX11_init_25 ?_
  refine p_iconst dX11_init_26 ?_
  refine p_iast (n := 4) 0 dX11_init_27 (sN_at hc0.2.1) rfl (by decide) ?_
  have hc := hc.a (k := 0) (v := 0) (show (b + 2) < _ by omega)
  refine p_dup dX11_init_28 rfl ?_
  refine p_iconst dX11_init_29 ?_
  refine p_iconst dX11_init_30 ?_
  refine p_iast (n := 4) 1 dX11_init_31 (sN_at hc0.2.1) rfl (by decide) ?_
  have hc := hc.a (k := 1) (v := 0) (show (b + 2) < _ by omega)
  refine p_dup dX11_init_32 rfl ?_
  refine p_iconst dX11_init_33 ?_
  refine p_iconst dX11_init_34 ?_
  refine p_iast (n := 4) 2 dX11_init_35 (sN_at hc0.2.1) rfl (by decide) ?_
  have hc := hc.a (k := 2) (v := 0) (show (b + 2) < _ by omega)
  refine p_dup dX11_init_36 rfl ?_
  refine p_iconst dX11_init_37 ?_
  refine p_iconst dX11_init_38 ?_
  refine p_iast (n := 4) 3 dX11_init_39 (sN_at hc0.2.1) rfl (by decide) ?_
  have hc := hc.a (k := 3) (v := 1) (show (b + 2) < _ by omega)
  refine p_putr dX11_init_40 ff_X11_17 rfl (fun _ _ _ => rfl) rfl rfl hc.1 ?_
  have hc := hc.r (a0 := a) (k := 4) (q := (b + 2))
  refine p_aload_n dX11_init_43 rfl ?_
  refine p_iconst dX11_init_44 ?_
  refine p_newarr (b := (b + 3)) (N := 4) (ty := 0) dX11_init_45 aw_0 rfl (fun _ _ h => h) rfl (by decide) (by decide) (fun _ _ h => ac0 h) (Nat.le_of_ble_eq_true rfl) (Nat.le_of_ble_eq_true rfl) hc.2.1 (fun k => hc.2.2.2 _ (Nat.le_refl _) k) ?_
  have hc0 := hc
  have hc := hc.n (.inr (0, 4))
  refine p_putr dX11_init_47 ff_X11_20 rfl (fun _ _ _ => rfl) rfl rfl hc.1 ?_
  have hc := hc.r (a0 := a) (k := 5) (q := (b + 3))
  refine p_aload_n dX11_init_50 rfl ?_
  refine p_sipush dX11_init_51 (by decide) ?_
  refine p_newarr (b := (b + 4)) (N := 384) (ty := 0) dX11_init_54 aw_0 rfl (fun _ _ h => h) rfl (by decide) (by decide) (fun _ _ h => ac0 h) (Nat.le_of_ble_eq_true rfl) (Nat.le_of_ble_eq_true rfl) hc.2.1 (fun k => hc.2.2.2 _ (Nat.le_refl _) k) ?_
  have hc0 := hc
  have hc := hc.n (.inr (0, 384))
  refine p_putr dX11_init_56 ff_X11_23 rfl (fun _ _ _ => rfl) rfl rfl hc.1 ?_
  have hc := hc.r (a0 := a) (k := 6) (q := (b + 4))
  refine p_aload_n dX11_init_59 rfl ?_
  refine p_sipush dX11_init_60 (by decide) ?_
  refine p_newarr (b := (b + 5)) (N := 384) (ty := 0) dX11_init_63 aw_0 rfl (fun _ _ h => h) rfl (by decide) (by decide) (fun _ _ h => ac0 h) (Nat.le_of_ble_eq_true rfl) (Nat.le_of_ble_eq_true rfl) hc.2.1 (fun k => hc.2.2.2 _ (Nat.le_refl _) k) ?_
  have hc0 := hc
  have hc := hc.n (.inr (0, 384))
  refine p_putr dX11_init_65 ff_X11_26 rfl (fun _ _ _ => rfl) rfl rfl hc.1 ?_
  have hc := hc.r (a0 := a) (k := 7) (q := (b + 5))
  refine p_aload_n dX11_init_68 rfl ?_
  refine p_sipush dX11_init_69 (by decide) ?_
  refine p_newarr (b := (b + 6)) (N := 384) (ty := 2) dX11_init_72 aw_2 rfl (fun _ _ h => h) rfl (by decide) (by decide) (fun _ _ h => ac2 h) (Nat.le_of_ble_eq_true rfl) (Nat.le_of_ble_eq_true rfl) hc.2.1 (fun k => hc.2.2.2 _ (Nat.le_refl _) k) ?_
  have hc0 := hc
  have hc := hc.n (.inr (2, 384))
  refine p_putr dX11_init_74 ff_X11_29 rfl (fun _ _ _ => rfl) rfl rfl hc.1 ?_
  have hc := hc.r (a0 := a) (k := 8) (q := (b + 6))
  refine p_aload_n dX11_init_77 rfl ?_
  refine p_sipush dX11_init_78 (by decide) ?_
  refine p_newarr (b := (b + 7)) (N := 384) (ty := 2) dX11_init_81 aw_2 rfl (fun _ _ h => h) rfl (by decide) (by decide) (fun _ _ h => ac2 h) (Nat.le_of_ble_eq_true rfl) (Nat.le_of_ble_eq_true rfl) hc.2.1 (fun k => hc.2.2.2 _ (Nat.le_refl _) k) ?_
  have hc0 := hc
  have hc := hc.n (.inr (2, 384))
  refine p_putr dX11_init_83 ff_X11_33 rfl (fun _ _ _ => rfl) rfl rfl hc.1 ?_
  have hc := hc.r (a0 := a) (k := 9) (q := (b + 7))
  refine p_aload_n dX11_init_86 rfl ?_
  refine p_bipush dX11_init_87 (by decide) ?_
  refine p_newarr (b := (b + 8)) (N := 24) (ty := 0) dX11_init_89 aw_0 rfl (fun _ _ h => h) rfl (by decide) (by decide) (fun _ _ h => ac0 h) (Nat.le_of_ble_eq_true rfl) (Nat.le_of_ble_eq_true rfl) hc.2.1 (fun k => hc.2.2.2 _ (Nat.le_refl _) k) ?_
  have hc0 := hc
  have hc := hc.n (.inr (0, 24))
  refine p_putr dX11_init_91 ff_X11_36 rfl (fun _ _ _ => rfl) rfl rfl hc.1 ?_
  have hc := hc.r (a0 := a) (k := 10) (q := (b + 8))
  refine p_aload_n dX11_init_94 rfl ?_
  refine p_bipush dX11_init_95 (by decide) ?_
  refine p_newarr (b := (b + 9)) (N := 24) (ty := 0) dX11_init_97 aw_0 rfl (fun _ _ h => h) rfl (by decide) (by decide) (fun _ _ h => ac0 h) (Nat.le_of_ble_eq_true rfl) (Nat.le_of_ble_eq_true rfl) hc.2.1 (fun k => hc.2.2.2 _ (Nat.le_refl _) k) ?_
  have hc0 := hc
  have hc := hc.n (.inr (0, 24))
  refine p_putr dX11_init_99 ff_X11_39 rfl (fun _ _ _ => rfl) rfl rfl hc.1 ?_
  have hc := hc.r (a0 := a) (k := 11) (q := (b + 9))
  refine p_aload_n dX11_init_102 rfl ?_
  refine p_bipush dX11_init_103 (by decide) ?_
  refine p_newarr (b := (b + 10)) (N := 48) (ty := 1) dX11_init_105 aw_1 rfl (fun _ _ h => h) rfl (by decide) (by decide) (fun _ _ h => ac1 h) (Nat.le_of_ble_eq_true rfl) (Nat.le_of_ble_eq_true rfl) hc.2.1 (fun k => hc.2.2.2 _ (Nat.le_refl _) k) ?_
  have hc0 := hc
  have hc := hc.n (.inr (1, 48))
  refine p_putr dX11_init_107 ff_X11_42 rfl (fun _ _ _ => rfl) rfl rfl hc.1 ?_
  have hc := hc.r (a0 := a) (k := 12) (q := (b + 10))
  refine p_aload_n dX11_init_110 rfl ?_
  refine p_bipush dX11_init_111 (by decide) ?_
  refine p_newarr (b := (b + 11)) (N := 48) (ty := 1) dX11_init_113 aw_1 rfl (fun _ _ h => h) rfl (by decide) (by decide) (fun _ _ h => ac1 h) (Nat.le_of_ble_eq_true rfl) (Nat.le_of_ble_eq_true rfl) hc.2.1 (fun k => hc.2.2.2 _ (Nat.le_refl _) k) ?_
  have hc0 := hc
  have hc := hc.n (.inr (1, 48))
  refine p_putr dX11_init_115 ff_X11_45 rfl (fun _ _ _ => rfl) rfl rfl hc.1 ?_
  have hc := hc.r (a0 := a) (k := 13) (q := (b + 11))
  refine p_aload_n dX11_init_118 rfl ?_
  refine p_bipush dX11_init_119 (by decide) ?_
  refine p_puti dX11_init_121 fq_X11_48 rfl hc.1 ?_
  have hc := hc.f (k := 14) (v := 100) hc.2.2.1
  refine p_aload_n dX11_init_124 rfl ?_
  refine p_iconst dX11_init_125 ?_
  refine p_puti dX11_init_126 fq_X11_52 rfl hc.1 ?_
  have hc := hc.f (k := 15) (v := 5) hc.2.2.1
  refine p_aload_n dX11_init_129 rfl ?_
  refine p_iconst dX11_init_130 ?_
  refine p_puti dX11_init_131 fq_X11_55 rfl hc.1 ?_
  have hc := hc.f (k := 20) (v := (-1)) hc.2.2.1
  refine p_aload_n dX11_init_134 rfl ?_
  refine p_sipush dX11_init_135 (by decide) ?_
  refine p_newarr (b := (b + 12)) (N := 384) (ty := 0) dX11_init_138 aw_0 rfl (fun _ _ h => h) rfl (by decide) (by decide) (fun _ _ h => ac0 h) (Nat.le_of_ble_eq_true rfl) (Nat.le_of_ble_eq_true rfl) hc.2.1 (fun k => hc.2.2.2 _ (Nat.le_refl _) k) ?_
  have hc0 := hc
  have hc := hc.n (.inr (0, 384))
  refine p_putr dX11_init_140 ff_X11_58 rfl (fun _ _ _ => rfl) rfl rfl hc.1 ?_
  have hc := hc.r (a0 := a) (k := 22) (q := (b + 12))
  refine p_aload_n dX11_init_143 rfl ?_
  refine p_bipush dX11_init_144 (by decide) ?_
  refine p_newarr (b := (b + 13)) (N := 9) (ty := 0) dX11_init_146 aw_0 rfl (fun _ _ h => h) rfl (by decide) (by decide) (fun _ _ h => ac0 h) (Nat.le_of_ble_eq_true rfl) (Nat.le_of_ble_eq_true rfl) hc.2.1 (fun k => hc.2.2.2 _ (Nat.le_refl _) k) ?_
  have hc0 := hc
  have hc := hc.n (.inr (0, 9))
  refine p_putr dX11_init_148 ff_X11_61 rfl (fun _ _ _ => rfl) rfl rfl hc.1 ?_
  have hc := hc.r (a0 := a) (k := 23) (q := (b + 13))
  refine p_aload_n dX11_init_151 rfl ?_
  refine p_sipush dX11_init_152 (by decide) ?_
  refine p_newarr (b := (b + 14)) (N := 384) (ty := 0) dX11_init_155 aw_0 rfl (fun _ _ h => h) rfl (by decide) (by decide) (fun _ _ h => ac0 h) (Nat.le_of_ble_eq_true rfl) (Nat.le_of_ble_eq_true rfl) hc.2.1 (fun k => hc.2.2.2 _ (Nat.le_refl _) k) ?_
  have hc0 := hc
  have hc := hc.n (.inr (0, 384))
  refine p_putr dX11_init_157 ff_X11_64 rfl (fun _ _ _ => rfl) rfl rfl hc.1 ?_
  have hc := hc.r (a0 := a) (k := 24) (q := (b + 14))
  refine p_aload_n dX11_init_160 rfl ?_
  refine p_sipush dX11_init_161 (by decide) ?_
  refine p_newarr (b := (b + 15)) (N := 384) (ty := 0) dX11_init_164 aw_0 rfl (fun _ _ h => h) rfl (by decide) (by decide) (fun _ _ h => ac0 h) (Nat.le_of_ble_eq_true rfl) (Nat.le_of_ble_eq_true rfl) hc.2.1 (fun k => hc.2.2.2 _ (Nat.le_refl _) k) ?_
  have hc0 := hc
  have hc := hc.n (.inr (0, 384))
  refine p_putr dX11_init_166 ff_X11_67 rfl (fun _ _ _ => rfl) rfl rfl hc.1 ?_
  have hc := hc.r (a0 := a) (k := 25) (q := (b + 15))
  refine p_aload_n dX11_init_169 rfl ?_
  refine p_bipush dX11_init_170 (by decide) ?_
  refine p_newarr (b := (b + 16)) (N := 120) (ty := 0) dX11_init_172 aw_0 rfl (fun _ _ h => h) rfl (by decide) (by decide) (fun _ _ h => ac0 h) (Nat.le_of_ble_eq_true rfl) (Nat.le_of_ble_eq_true rfl) hc.2.1 (fun k => hc.2.2.2 _ (Nat.le_refl _) k) ?_
  have hc0 := hc
  have hc := hc.n (.inr (0, 120))
  refine p_putr dX11_init_174 ff_X11_70 rfl (fun _ _ _ => rfl) rfl rfl hc.1 ?_
  have hc := hc.r (a0 := a) (k := 26) (q := (b + 16))
  refine p_aload_n dX11_init_177 rfl ?_
  refine p_bipush dX11_init_178 (by decide) ?_
  refine p_newarr (b := (b + 17)) (N := 120) (ty := 0) dX11_init_180 aw_0 rfl (fun _ _ h => h) rfl (by decide) (by decide) (fun _ _ h => ac0 h) (Nat.le_of_ble_eq_true rfl) (Nat.le_of_ble_eq_true rfl) hc.2.1 (fun k => hc.2.2.2 _ (Nat.le_refl _) k) ?_
  have hc0 := hc
  have hc := hc.n (.inr (0, 120))
  refine p_putr dX11_init_182 ff_X11_73 rfl (fun _ _ _ => rfl) rfl rfl hc.1 ?_
  have hc := hc.r (a0 := a) (k := 27) (q := (b + 17))
  refine p_aload_n dX11_init_185 rfl ?_
  refine p_bipush dX11_init_186 (by decide) ?_
  refine p_newarr (b := (b + 18)) (N := 15) (ty := 0) dX11_init_188 aw_0 rfl (fun _ _ h => h) rfl (by decide) (by decide) (fun _ _ h => ac0 h) (Nat.le_of_ble_eq_true rfl) (Nat.le_of_ble_eq_true rfl) hc.2.1 (fun k => hc.2.2.2 _ (Nat.le_refl _) k) ?_
  have hc0 := hc
  have hc := hc.n (.inr (0, 15))
  refine p_putr dX11_init_190 ff_X11_76 rfl (fun _ _ _ => rfl) rfl rfl hc.1 ?_
  have hc := hc.r (a0 := a) (k := 28) (q := (b + 18))
  refine p_aload_n dX11_init_193 rfl ?_
  refine p_sipush dX11_init_194 (by decide) ?_
  refine p_newarr (b := (b + 19)) (N := 1152) (ty := 0) dX11_init_197 aw_0 rfl (fun _ _ h => h) rfl (by decide) (by decide) (fun _ _ h => ac0 h) (Nat.le_of_ble_eq_true rfl) (Nat.le_of_ble_eq_true rfl) hc.2.1 (fun k => hc.2.2.2 _ (Nat.le_refl _) k) ?_
  have hc0 := hc
  have hc := hc.n (.inr (0, 1152))
  refine p_putr dX11_init_199 ff_X11_79 rfl (fun _ _ _ => rfl) rfl rfl hc.1 ?_
  have hc := hc.r (a0 := a) (k := 29) (q := (b + 19))
  refine p_aload_n dX11_init_202 rfl ?_
  refine p_sipush dX11_init_203 (by decide) ?_
  refine p_newarr (b := (b + 20)) (N := 1152) (ty := 0) dX11_init_206 aw_0 rfl (fun _ _ h => h) rfl (by decide) (by decide) (fun _ _ h => ac0 h) (Nat.le_of_ble_eq_true rfl) (Nat.le_of_ble_eq_true rfl) hc.2.1 (fun k => hc.2.2.2 _ (Nat.le_refl _) k) ?_
  have hc0 := hc
  have hc := hc.n (.inr (0, 1152))
  refine p_putr dX11_init_208 ff_X11_82 rfl (fun _ _ _ => rfl) rfl rfl hc.1 ?_
  have hc := hc.r (a0 := a) (k := 30) (q := (b + 20))
  refine p_aload_n dX11_init_211 rfl ?_
  refine p_sipush dX11_init_212 (by decide) ?_
  refine p_newarr (b := (b + 21)) (N := 384) (ty := 0) dX11_init_215 aw_0 rfl (fun _ _ h => h) rfl (by decide) (by decide) (fun _ _ h => ac0 h) (Nat.le_of_ble_eq_true rfl) (Nat.le_of_ble_eq_true rfl) hc.2.1 (fun k => hc.2.2.2 _ (Nat.le_refl _) k) ?_
  have hc0 := hc
  have hc := hc.n (.inr (0, 384))
  refine p_putr dX11_init_217 ff_X11_85 rfl (fun _ _ _ => rfl) rfl rfl hc.1 ?_
  have hc := hc.r (a0 := a) (k := 31) (q := (b + 21))
  refine p_aload_n dX11_init_220 rfl ?_
  refine p_sipush dX11_init_221 (by decide) ?_
  refine p_newarr (b := (b + 22)) (N := 384) (ty := 0) dX11_init_224 aw_0 rfl (fun _ _ h => h) rfl (by decide) (by decide) (fun _ _ h => ac0 h) (Nat.le_of_ble_eq_true rfl) (Nat.le_of_ble_eq_true rfl) hc.2.1 (fun k => hc.2.2.2 _ (Nat.le_refl _) k) ?_
  have hc0 := hc
  have hc := hc.n (.inr (0, 384))
  refine p_putr dX11_init_226 ff_X11_88 rfl (fun _ _ _ => rfl) rfl rfl hc.1 ?_
  have hc := hc.r (a0 := a) (k := 32) (q := (b + 22))
  refine p_aload_n dX11_init_229 rfl ?_
  refine p_sipush dX11_init_230 (by decide) ?_
  refine p_newarr (b := (b + 23)) (N := 384) (ty := 0) dX11_init_233 aw_0 rfl (fun _ _ h => h) rfl (by decide) (by decide) (fun _ _ h => ac0 h) (Nat.le_of_ble_eq_true rfl) (Nat.le_of_ble_eq_true rfl) hc.2.1 (fun k => hc.2.2.2 _ (Nat.le_refl _) k) ?_
  have hc0 := hc
  have hc := hc.n (.inr (0, 384))
  refine p_putr dX11_init_235 ff_X11_91 rfl (fun _ _ _ => rfl) rfl rfl hc.1 ?_
  have hc := hc.r (a0 := a) (k := 33) (q := (b + 23))
  refine p_aload_n dX11_init_238 rfl ?_
  refine p_bipush dX11_init_239 (by decide) ?_
  refine p_newarr (b := (b + 24)) (N := 24) (ty := 0) dX11_init_241 aw_0 rfl (fun _ _ h => h) rfl (by decide) (by decide) (fun _ _ h => ac0 h) (Nat.le_of_ble_eq_true rfl) (Nat.le_of_ble_eq_true rfl) hc.2.1 (fun k => hc.2.2.2 _ (Nat.le_refl _) k) ?_
  have hc0 := hc
  have hc := hc.n (.inr (0, 24))
  refine p_putr dX11_init_243 ff_X11_94 rfl (fun _ _ _ => rfl) rfl rfl hc.1 ?_
  have hc := hc.r (a0 := a) (k := 34) (q := (b + 24))
  refine p_aload_n dX11_init_246 rfl ?_
  refine p_sipush dX11_init_247 (by decide) ?_
  refine p_newarr (b := (b + 25)) (N := 384) (ty := 0) dX11_init_250 aw_0 rfl (fun _ _ h => h) rfl (by decide) (by decide) (fun _ _ h => ac0 h) (Nat.le_of_ble_eq_true rfl) (Nat.le_of_ble_eq_true rfl) hc.2.1 (fun k => hc.2.2.2 _ (Nat.le_refl _) k) ?_
  have hc0 := hc
  have hc := hc.n (.inr (0, 384))
  refine p_putr dX11_init_252 ff_X11_97 rfl (fun _ _ _ => rfl) rfl rfl hc.1 ?_
  have hc := hc.r (a0 := a) (k := 35) (q := (b + 25))
  refine p_aload_n dX11_init_255 rfl ?_
  refine p_sipush dX11_init_256 (by decide) ?_
  refine p_newarr (b := (b + 26)) (N := 384) (ty := 2) dX11_init_259 aw_2 rfl (fun _ _ h => h) rfl (by decide) (by decide) (fun _ _ h => ac2 h) (Nat.le_of_ble_eq_true rfl) (Nat.le_of_ble_eq_true rfl) hc.2.1 (fun k => hc.2.2.2 _ (Nat.le_refl _) k) ?_
  have hc0 := hc
  have hc := hc.n (.inr (2, 384))
  refine p_putr dX11_init_261 ff_X11_100 rfl (fun _ _ _ => rfl) rfl rfl hc.1 ?_
  have hc := hc.r (a0 := a) (k := 37) (q := (b + 26))
  refine p_aload_n dX11_init_264 rfl ?_
  refine p_sipush dX11_init_265 (by decide) ?_
  refine p_newarr (b := (b + 27)) (N := 20000) (ty := 1) dX11_init_268 aw_1 rfl (fun _ _ h => h) rfl (by decide) (by decide) (fun _ _ h => ac1 h) (Nat.le_of_ble_eq_true rfl) (Nat.le_of_ble_eq_true rfl) hc.2.1 (fun k => hc.2.2.2 _ (Nat.le_refl _) k) ?_
  have hc0 := hc
  have hc := hc.n (.inr (1, 20000))
  refine p_putr dX11_init_270 ff_X11_103 rfl (fun _ _ _ => rfl) rfl rfl hc.1 ?_
  have hc := hc.r (a0 := a) (k := 39) (q := (b + 27))
  exact p_return dX11_init_273 (Nat.le_of_ble_eq_true rfl) (Nat.le_of_ble_eq_true rfl) ⟨rfl, rfl, rfl⟩
