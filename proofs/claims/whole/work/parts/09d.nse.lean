theorem q_max {E : ENV} {pc : Nat} {L : List (Option Value)} {ly : LY} {D : DT} {cu su : Nat} {β : Type} {K : β → Prop} {X : Option β} {idx : Nat} {a b : Int} (st : List Value) (hdc : decode (eC E) pc = .ok (.invokestatic idx, 3)) (hlink : Cond.methodLink (eY E).cls idx yJ9_max_7cf53 ∈ TB) (hd : 1 ≤ (eD E).1) (hst : (st.map fun v => v.category).sum ≤ 8) (hcu : cu ≤ (eD E).2.1) (hsu : su ≤ (eD E).2.2) (h : ok (gd (InR a ∧ InR b) X) K) (k : ok X K → Px E (pc + 3) L (vI (max a b) :: st) ly D cu su) : Px E pc L (vI b :: vI a :: st) ly D cu su := by
  intro p e R s m args below meth c H locs ls C Rp S LL
  obtain ⟨h1, h⟩ := ok_gd h
  have r1 := C.2.1.1
  have r2 := C.2.1.2.1
  refine va_mmax C.1.1 C.1.2.1 (C.1.2.2.1.trans LL.1.symm) C.1.2.2.2.1 (C.w hlink args) (C.w ys_J9_max_7cf53.2 args) (C.w ys_J9_max_7cf53.1.2.1 args) (C.w (w := Cond.code Lib.Math.max.name Lib.Math.max.code 2 (some .int)) (by rw [show Lib.Math.max.code = cJ9_max_7cf53 by decide +kernel]; exact ys_J9_max_7cf53.1.1) args) (by omega) (by omega) (Nat.le_trans hcu C.2.1.2.2.1) (Nat.le_trans hsu C.2.1.2.2.2) hdc ?_
  have k1 := k h p e R s m args below meth c H locs ls C Rp S LL
  have q := i32_lt h1.1 h1.2
  have e1 : vI (max a b) = .int (if Int32.ofInt a < Int32.ofInt b then Int32.ofInt b else Int32.ofInt a) := by
    by_cases z : a < b
    · rw [if_pos (q.mpr z), show max a b = b by omega]
    · rw [if_neg (fun w => z (q.mp w)), show max a b = a by omega]
  rw [e1] at k1
  exact k1
theorem q_min {E : ENV} {pc : Nat} {L : List (Option Value)} {ly : LY} {D : DT} {cu su : Nat} {β : Type} {K : β → Prop} {X : Option β} {idx : Nat} {a b : Int} (st : List Value) (hdc : decode (eC E) pc = .ok (.invokestatic idx, 3)) (hlink : Cond.methodLink (eY E).cls idx yJ9_min_7cf53 ∈ TB) (hd : 1 ≤ (eD E).1) (hst : (st.map fun v => v.category).sum ≤ 8) (hcu : cu ≤ (eD E).2.1) (hsu : su ≤ (eD E).2.2) (h : ok (gd (InR a ∧ InR b) X) K) (k : ok X K → Px E (pc + 3) L (vI (min a b) :: st) ly D cu su) : Px E pc L (vI b :: vI a :: st) ly D cu su := by
  intro p e R s m args below meth c H locs ls C Rp S LL
  obtain ⟨h1, h⟩ := ok_gd h
  have r1 := C.2.1.1
  have r2 := C.2.1.2.1
  refine va_mmin C.1.1 C.1.2.1 (C.1.2.2.1.trans LL.1.symm) C.1.2.2.2.1 (C.w hlink args) (C.w ys_J9_min_7cf53.2 args) (C.w ys_J9_min_7cf53.1.2.1 args) (C.w (w := Cond.code Lib.Math.min.name Lib.Math.min.code 2 (some .int)) (by rw [show Lib.Math.min.code = cJ9_min_7cf53 by decide +kernel]; exact ys_J9_min_7cf53.1.1) args) (by omega) (by omega) (Nat.le_trans hcu C.2.1.2.2.1) (Nat.le_trans hsu C.2.1.2.2.2) hdc ?_
  have k1 := k h p e R s m args below meth c H locs ls C Rp S LL
  have q := i32_lt h1.2 h1.1
  have e1 : vI (min a b) = .int (if Int32.ofInt b < Int32.ofInt a then Int32.ofInt b else Int32.ofInt a) := by
    by_cases z : b < a
    · rw [if_pos (q.mpr z), show min a b = b by omega]
    · rw [if_neg (fun w => z (q.mp w)), show min a b = a by omega]
  rw [e1] at k1
  exact k1
section ThrowN
variable {l : Launch} {g : GH} {y : MethodName} {cc : ByteArray} {nL : Nat} {ret : Option FieldType} {d mc ms : Nat} {P : PT} {pc : Nat} {L : List (Option Value)} {st : List Value} {n : Nat} {D : DT} {cu su : Nat}
theorem p_throwNS {i is : Nat} (hG : G0 l g) (hy : y.cls = RX10) (hi : i < 39) (hO : strOs.getD i "" = y.cls) (hk : strKs.getD i 0 = is) (d0 : decode cc pc = .ok (.new 102, 3)) (d3 : decode cc (pc + 3) = .ok (.dup, 1)) (d4 : decode cc (pc + 4) = .ok (.ldc is, 2)) (d6 : decode cc (pc + 6) = .ok (.invokespecial 106, 3)) (d9 : decode cc (pc + 9) = .ok (.athrow, 1)) (hd : 8 ≤ d) (hcu : cu + 1 ≤ mc) (hsu : su + 6 ≤ ms) (hst : (st.map fun v => v.category).sum ≤ 8) (hp : ∀ n', P (.inr 1) (LF n') D) :
    Px (mkE l g y cc nL ret [] d mc ms P) pc L st (LF n) D cu su := sorry
theorem p_throwNW {i is : Nat} (hG : G0 l g) (hy : y.cls = RX10) (hi : i < 39) (hO : strOs.getD i "" = y.cls) (hk : strKs.getD i 0 = is) (d0 : decode cc pc = .ok (.new 102, 3)) (d3 : decode cc (pc + 3) = .ok (.dup, 1)) (d4 : decode cc (pc + 4) = .ok (.ldc_w is, 3)) (d6 : decode cc (pc + 7) = .ok (.invokespecial 106, 3)) (d9 : decode cc (pc + 10) = .ok (.athrow, 1)) (hd : 8 ≤ d) (hcu : cu + 1 ≤ mc) (hsu : su + 6 ≤ ms) (hst : (st.map fun v => v.category).sum ≤ 8) (hp : ∀ n', P (.inr 1) (LF n') D) :
    Px (mkE l g y cc nL ret [] d mc ms P) pc L st (LF n) D cu su := sorry
end ThrowN
