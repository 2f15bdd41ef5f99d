/-! THE CLAIM OUT OF ONE WALK OF THE LAW'S BODY. Your part is whole_start (and what it stands on); all else here is the same for every law, but numbers. -/
def R_law : String := "DotSpreaderLaw"
def lw_P (b : Addr) (xs : List Int32) (args : Array Value) (s : State) : Prop := args = #[.ref b] ∧ s.IntsAt b xs ∧ xs.length ≤ 3584 ∧ (Jvm.Cond.and given_1 narrow_1).before args s = true
def lw_Q (_ : Array Value) (s : State) (o : Outcome) (t : State) : Prop := o = .returned (some (.int 1)) ∧ Framed s o t [] 601024 7293034
def lw_Z (below : List Frame) (a : Array Value) (s : State) : State → Prop := fun t => ∃ o, t.status = .running ∧ Ended t below o ∧ lw_Q a s o t
/-- the law's own end, with 1 on the stack, nothing written that was there before, its room as the claim has it -/
theorem lw_ret {p : Program} {l : Launch} {e : Env} {s : State} {m : MethodId} {below : List Frame} {meth : Method} {c : Code} {b : Nat} (hx : p.tables.exec = Jvm.exec) (hb : c.code = code) (hr : meth.sig.returnType = ret) (hlocks : meth.locks = false) {pc : Nat} {H : Heap} {ls : Array Slot} (hdg : decode code pc = .ok (.ireturn, 1)) : W p l e room_1 s m #[Value.ref b] below meth c H [] 601024 7293034 (lw_Z below #[Value.ref b] s) (F0 m pc ls [.int 1]) := by
  intro T hT X
  obtain ⟨fs, hret, hrun, hended, hW, hframe⟩ := X.leave (v := some (.int 1)) (hlocks := hlocks) (fun h => by rw [hr] at h; cases h)
  have hmeth' : T.vm.method? m = some meth := X.method'
  refine ⟨T.setFrames fs, ?_, .returned (some (.int 1)), hrun, hended, rfl, ⟨_, rfl⟩, hW, hframe⟩
  jvm_step X.here [X.here.top, hx, hb, hdg, hmeth', hr, ret, narrow_b1]
  (try refine ⟨rfl, ?_⟩); (try refine ⟨rfl, ?_⟩)
  first | (intro acts; rw [hret _ acts rfl rfl rfl]) | rw [hret _ _ rfl rfl rfl]
  exact Steps.refl _
/-- what holds at the law's entry: the machine, the code, the tables' words (any of lw_tbl by 'hts w (by decide +kernel)'), the script of L ints xs at the cell b, what the Statement gives of the start (any of its parts by flat_of_before) -/
def lw_At (p : Program) (s : State) (m : MethodId) (meth : Method) (c : Code) (b L : Nat) (xs : Nat → Int32) : Prop :=
  p.tables.exec = Jvm.exec ∧ c.code = code ∧ meth.sig.returnType = ret ∧ c.maxLocals = 7 ∧ s.vm.findClass R_law = some m.cls ∧ (∀ w ∈ lw_tbl, w.before #[Value.ref b] s = true) ∧ va_X b L xs s s.heap ∧ b < s.heap.size ∧ meth.locks = false ∧ (Jvm.Cond.and given_1 narrow_1).before #[Value.ref b] s = true
/-! ===== the law's own frame ===== -/
def cuF (i : Int) : Nat := 200 + i.toNat
def suF (i : Int) : Nat := 50000 + 6 * i.toNat
theorem cuL {i : Int} {x : Nat} (h : 0 ≤ i ∧ i ≤ 3584) (hx : x ≤ 7) : cuF i + x ≤ 601024 := by unfold cuF; omega
theorem suL {i : Int} {x : Nat} (h : 0 ≤ i ∧ i ≤ 3584) (hx : x ≤ 42) : suF i + x ≤ 7293034 := by unfold suF; omega
theorem cuL2 {i : Int} {x y : Nat} (h : 0 ≤ i ∧ i ≤ 3584) (hx : x + y ≤ 7) : cuF i + x + y ≤ 601024 := by unfold cuF; omega
theorem suL2 {i : Int} {x y : Nat} (h : 0 ≤ i ∧ i ≤ 3584) (hx : x + y ≤ 42) : suF i + x + y ≤ 7293034 := by unfold suF; omega
theorem cuN {i : Int} {x : Nat} (h : 0 ≤ i ∧ i ≤ 3584) (hx : x ≤ 7) : cuF i + x ≤ cuF (i + 7) + 0 := by unfold cuF; omega
theorem suN {i : Int} {x : Nat} (h : 0 ≤ i ∧ i ≤ 3584) (hx : x ≤ 42) : suF i + x ≤ suF (i + 7) + 0 := by unfold suF; omega
abbrev lwE (g : GH) : List Frame → Array Value → State → State → Prop := fun below args s t => (args = #[Value.ref g.2.2.2.2.1] ∧ s = g.1) → lw_Z below args s t
abbrev E_L (l : Launch) (g : GH) : ENV := (l, g, x, code, 7, ret, none, (1000, 601024, 7293034), lwE g)
theorem p_widen {E : ENV} {pc : Nat} {L : List (Option Value)} {st : List Value} {ly : LY} {D : DT} {cu su cu' su' : Nat} (h1 : cu ≤ cu') (h2 : su ≤ su') (k : Px E pc L st ly D cu' su') : Px E pc L st ly D cu su := by
  intro p e R s m args below meth c H locs ls C Rp S LL
  exact W.widen h1 h2 (k p e R s m args below meth c H locs ls C Rp S LL)
theorem p_lawret {l : Launch} {g : GH} {pc : Nat} {L : List (Option Value)} {ly : LY} {D : DT} {cu su : Nat} {v : Int} (hd : decode code pc = .ok (.ireturn, 1)) (hcu : cu ≤ 601024) (hsu : su ≤ 7293034) (hv : v = 1) : Px (E_L l g) pc L [vI v] ly D cu su := by
  subst hv
  intro p e R s m args below meth c H locs ls C Rp S LL
  by_cases hc : args = #[Value.ref g.2.2.2.2.1] ∧ s = g.1
  · obtain ⟨rfl, rfl⟩ := hc
    intro T hT X
    have hf : ∀ q ∈ locs, g.1.heap.size ≤ q.base := fun q hq => S.2.2 q hq
    have X1 : Stand p l e R g.1 m #[Value.ref g.2.2.2.2.1] below meth c T [] 601024 7293034 := stand_widen (Stand.forget (locs := []) X hf) hcu hsu
    obtain ⟨fs, hret, hrun, hended, hW, hframe⟩ := X1.leave (v := some (.int 1)) (hlocks := C.1.2.2.2.2.2.1) (fun h => by rw [show meth.sig.returnType = ret from C.1.2.2.2.2.1] at h; cases h)
    have hmeth' : T.vm.method? m = some meth := X1.method'
    have hx := C.1.1
    have hb : c.code = code := C.1.2.1
    have hr : meth.sig.returnType = ret := C.1.2.2.2.2.1
    refine ⟨T.setFrames fs, ?_, fun _ => ⟨.returned (some (.int 1)), hrun, hended, rfl, ⟨_, rfl⟩, hW, hframe⟩⟩
    jvm_step X1.here [X1.here.top, hx, hb, hd, hmeth', hr, ret, narrow_b1]
    (try refine ⟨rfl, ?_⟩); (try refine ⟨rfl, ?_⟩)
    first | (intro acts; rw [hret _ acts rfl rfl rfl]) | rw [hret _ _ rfl rfl rfl]
    exact Steps.refl _
  · intro T hT X
    exact ⟨_, Steps.refl _, fun h => absurd h hc⟩
theorem tin1 {a v lo : Int} (e : a = v) (h : ¬ v < lo) : ¬ a < lo := by rw [e]; exact h
theorem tin2 {a v hi : Int} (e : a = v) (h : ¬ hi < v) : ¬ hi < a := by rw [e]; exact h
theorem tin3 {a v lo : Int} {offs : Array Int} {o : Option Int} (e : a = v) (h : offs[(v - lo).toNat]? = o) : offs[(a - lo).toNat]? = o := by rw [e]; exact h
theorem tout {a lo hi : Int} (h : ¬ (lo ≤ a ∧ a ≤ hi)) : a < lo ∨ hi < a := by omega
def andI (a b : Int) : Int := (Int32.ofInt a &&& Int32.ofInt b).toInt
abbrev xsG (g : GH) : Nat → Int := fun j => (g.2.2.2.2.2.2 j).toInt
theorem xs_at {E : ENV} {p : Program} {R : Room} {s : State} {m : MethodId} {meth : Method} {c : Code} (C : Cx E p R s m meth c) : va_X (eG E).2.2.2.2.1 (eG E).2.2.2.2.2.1 (eG E).2.2.2.2.2.2 s s.heap ∧ (eG E).2.2.2.2.1 < (eG E).1.heap.size := by
  obtain ⟨scr, h1, h2, h3, h4, h5⟩ := C.2.2.2.1.2.2.2.1
  have hlt : (eG E).2.2.2.2.1 < (eG E).1.heap.size := (Array.getElem?_eq_some_iff.mp h1).1
  exact ⟨⟨scr, by rw [C.2.2.2.2.2.2 _ hlt]; exact h1, State.isArrayOf_alike C.2.2.2.2.1.alike h2, h3, h4, h5⟩, hlt⟩
section Script
variable {E : ENV} {pc : Nat} {L : List (Option Value)} {st : List Value} {ly : LY} {D : DT} {cu su : Nat} {β : Type} {K : β → Prop} {X : Option β}
theorem q_sld {i : Int} (hL : (eG E).2.2.2.2.2.1 ≤ 3584) (hd : decode (eC E) pc = .ok (.iaload, 1)) (h : ok (gd ((0 : Int) ≤ i ∧ i < ((eG E).2.2.2.2.2.1 : Int)) X) K) (k : ok X K → Px E (pc + 1) L (vI (xsG (eG E) (Int.toNat i)) :: st) ly D cu su) : Px E pc L (vI i :: .ref (eG E).2.2.2.2.1 :: st) ly D cu su := by
  intro p e R s m args below meth c H locs ls C Rp S LL
  obtain ⟨h1, h9⟩ := ok_gd h
  obtain ⟨hX, hlt⟩ := xs_at C
  obtain ⟨j, rfl⟩ : ∃ j : Nat, i = (j : Int) := ⟨i.toNat, by omega⟩
  have hj : j < (eG E).2.2.2.2.2.1 := by omega
  have k1 := k h9 p e R s m args below meth c H locs ls C Rp S LL
  have e1 : vI (xsG (eG E) (Int.toNat (j : Int))) = .int ((eG E).2.2.2.2.2.2 (Int32.ofInt (j : Int)).toNatClampNeg) := by
    rw [i32_nat (by omega)]
    exact congrArg Value.int (Int32.ofInt_toInt _)
  rw [e1] at k1
  exact va_sld C.1.1 C.1.2.1 hX (Nat.lt_of_lt_of_le hlt C.2.2.2.2.2.1) (Nat.not_le.mpr hlt) S (i32_in hj (by omega)) hd k1
theorem p_slen (hd : decode (eC E) pc = .ok (.arraylength, 1)) (k : Px E (pc + 1) L (vI ((eG E).2.2.2.2.2.1 : Int) :: st) ly D cu su) : Px E pc L (.ref (eG E).2.2.2.2.1 :: st) ly D cu su := by
  intro p e R s m args below meth c H locs ls C Rp S LL
  obtain ⟨hX, hlt⟩ := xs_at C
  have k1 := k p e R s m args below meth c H locs ls C Rp S LL
  have e1 : vI ((eG E).2.2.2.2.2.1 : Int) = .int (Int32.ofNat (eG E).2.2.2.2.2.1) := congrArg Value.int Int32.ofInt_eq_ofNat
  rw [e1] at k1
  exact va_slen C.1.1 C.1.2.1 hX (Nat.lt_of_lt_of_le hlt C.2.2.2.2.2.1) (Nat.not_le.mpr hlt) S hd k1
end Script
abbrev P_L (l : Launch) (g : GH) : Int × DT → Prop := fun s => ∀ n, Px (E_L l g) 23 [some (.ref g.2.2.2.2.1), some (vR g 0), some (vR g 73), some (vR g 102), some (vI s.1), none, none] [] (LF n) s.2 (cuF s.1 + 0) (suF s.1 + 0)
abbrev K1 : Int → Prop := fun v => v = 1
