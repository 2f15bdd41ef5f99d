noncomputable def m_L_read (D : DT) : Option (Int × DT) := bndH (m_X10_read D) (fun e D => if e = 2 then some (1, D) else none) (fun r D1 => gd (InR r) (gd ((0 : Int) ≤ 0 ∧ 0 < (1 : Int)) (sq (sA D1 102 (Int.toNat 0) r) (fun D2 => some (0, D2)))))
noncomputable def m_L_cell (v1 : Int) (v2 : Int) (D : DT) : Option (Int × DT) := bndH (m_X10_cell v1 v2 D) (fun e D => if e = 0 then some (1, D) else if e = 1 then some (2, D) else none) (fun r D1 => gd (InR r) (gd ((0 : Int) ≤ 0 ∧ 0 < (1 : Int)) (sq (sA D1 102 (Int.toNat 0) r) (fun D2 => some (0, D2)))))
noncomputable def m_L_zone (v1 : Int) (v2 : Int) (D : DT) : Option (Int × DT) := bndH (m_X10_zone v1 v2 D) (fun e D => if e = 0 then some (1, D) else if e = 1 then some (2, D) else none) (fun r D1 => gd (InR r) (gd ((0 : Int) ≤ 0 ∧ 0 < (1 : Int)) (sq (sA D1 102 (Int.toNat 0) r) (fun D2 => some (0, D2)))))
noncomputable def m_L_name (v1 : Int) (v2 : Int) (D : DT) : Option (Int × DT) := bndH (m_X10_name v1 v2 D) (fun e D => if e = 0 then some (1, D) else none) (fun r D1 => gd (InR r) (gd ((0 : Int) ≤ 0 ∧ 0 < (1 : Int)) (sq (sA D1 102 (Int.toNat 0) r) (fun D2 => some (0, D2)))))
noncomputable def m_L_people (v1 : Int) (v2 : Int) (v3 : Int) (D : DT) : Option (Int × DT) := bndH (m_X10_people v1 v2 v3 D) (fun e D => if e = 0 then some (1, D) else if e = 2 then some (2, D) else none) (fun r D1 => gd (InR r) (gd ((0 : Int) ≤ 0 ∧ 0 < (1 : Int)) (sq (sA D1 102 (Int.toNat 0) r) (fun D2 => some (0, D2)))))
noncomputable def m_L_lives (v1 : Int) (v2 : Int) (D : DT) : Option (Int × DT) := bndH (m_X10_lives v1 v2 D) (fun e D => if e = 0 then some (1, D) else none) (fun r D1 => gd (InR r) (gd ((0 : Int) ≤ 0 ∧ 0 < (1 : Int)) (sq (sA D1 102 (Int.toNat 0) r) (fun D2 => some (0, D2)))))
noncomputable def m_L_flood (v1 : Int) (v2 : Int) (D : DT) : Option (Int × DT) := bndH (m_X10_flood v1 v2 D) (fun e D => if e = 0 then some (1, D) else none) (fun r D1 => gd (InR r) (if r = 0 then gd ((0 : Int) ≤ 0 ∧ 0 < (1 : Int)) (sq (sA D1 102 (Int.toNat 0) 0) (fun D2 => some (0, D2))) else gd ((0 : Int) ≤ 0 ∧ 0 < (1 : Int)) (sq (sA D1 102 (Int.toNat 0) 1) (fun D2 => some (0, D2)))))
noncomputable def m_L_unit (v1 : Int) (D : DT) : Option (Int × DT) := bndH (m_X10_unit v1 D) (fun e D => if e = 2 then some (1, D) else none) (fun r D1 => gd (InR r) (gd ((0 : Int) ≤ 0 ∧ 0 < (1 : Int)) (sq (sA D1 102 (Int.toNat 0) r) (fun D2 => some (0, D2)))))
noncomputable def m_L_factor (v1 : Int) (D : DT) : Option (Int × DT) := bndH (m_X10_factor v1 D) (fun e D => if e = 2 then some (1, D) else none) (fun r D1 => gd (InR r) (gd ((0 : Int) ≤ 0 ∧ 0 < (1 : Int)) (sq (sA D1 102 (Int.toNat 0) r) (fun D2 => some (0, D2)))))
noncomputable def m_L_order (v1 : Int) (v2 : Int) (D : DT) : Option (Int × DT) := bndH (m_X10_order v1 v2 D) (fun e D => if e = 0 then some (1, D) else none) (fun r D1 => gd (InR r) (gd ((0 : Int) ≤ 0 ∧ 0 < (1 : Int)) (sq (sA D1 102 (Int.toNat 0) r) (fun D2 => some (0, D2)))))
noncomputable def m_L_stands (v1 : Int) (D : DT) : Option (Int × DT) := bndH (m_X10_stands v1 D) (fun e D => if e = 0 then some (1, D) else none) (fun r D1 => gd (InR r) (gd ((0 : Int) ≤ 0 ∧ 0 < (1 : Int)) (sq (sA D1 102 (Int.toNat 0) r) (fun D2 => some (0, D2)))))
noncomputable def m_L_dots (v1 : Int) (v2 : Int) (v3 : Int) (D : DT) : Option (Int × DT) := bndH (m_X10_dots v1 v2 v3 D) (fun e D => if e = 0 then some (1, D) else none) (fun r D1 => gd (InR r) (gd ((0 : Int) ≤ 0 ∧ 0 < (1 : Int)) (sq (sA D1 102 (Int.toNat 0) r) (fun D2 => some (0, D2)))))
noncomputable def m_L_carried (v1 : Int) (v2 : Int) (v3 : Int) (D : DT) : Option (Int × DT) := bndH (m_X10_carried v1 v2 v3 D) (fun e D => if e = 0 then some (1, D) else none) (fun r D1 => gd (InR r) (gd ((0 : Int) ≤ 0 ∧ 0 < (1 : Int)) (sq (sA D1 102 (Int.toNat 0) r) (fun D2 => some (0, D2)))))
noncomputable def m_L_left (v1 : Int) (v2 : Int) (D : DT) : Option (Int × DT) := bndH (m_X10_left v1 v2 D) (fun e D => if e = 0 then some (1, D) else none) (fun r D1 => gd (InR r) (gd ((0 : Int) ≤ 0 ∧ 0 < (1 : Int)) (sq (sA D1 102 (Int.toNat 0) r) (fun D2 => some (0, D2)))))
noncomputable def m_L_all (v1 : Int) (v2 : Int) (D : DT) : Option (Int × DT) := bndH (m_X10_all v1 v2 D) (fun e D => if e = 0 then some (1, D) else none) (fun r D1 => gd (InR r) (gd ((0 : Int) ≤ 0 ∧ 0 < (1 : Int)) (sq (sA D1 102 (Int.toNat 0) r) (fun D2 => some (0, D2)))))
noncomputable def m_L_dot (v1 : Int) (v2 : Int) (v3 : Int) (v4 : Int) (D : DT) : Option (Int × DT) := bndH (m_X10_dot v1 v2 v3 v4 D) (fun e D => if e = 0 then some (1, D) else if e = 1 then some (2, D) else none) (fun r D1 => gd (InR r) (gd ((0 : Int) ≤ 0 ∧ 0 < (1 : Int)) (sq (sA D1 102 (Int.toNat 0) r) (fun D2 => some (0, D2)))))
noncomputable def m_L_crowd (v1 : Int) (v2 : Int) (v3 : Int) (D : DT) : Option (Int × DT) := bndH (m_X10_crowd v1 v2 v3 D) (fun e D => if e = 0 then some (1, D) else none) (fun r D1 => gd (InR r) (gd ((0 : Int) ≤ 0 ∧ 0 < (1 : Int)) (sq (sA D1 102 (Int.toNat 0) r) (fun D2 => some (0, D2)))))
noncomputable def m_L_apart (v1 : Int) (D : DT) : Option (Int × DT) := bndH (m_X10_apart v1 D) (fun e D => if e = 0 then some (1, D) else none) (fun r D1 => gd (InR r) (gd ((0 : Int) ≤ 0 ∧ 0 < (1 : Int)) (sq (sA D1 102 (Int.toNat 0) r) (fun D2 => some (0, D2)))))
noncomputable def m_L_off (v1 : Int) (v2 : Int) (D : DT) : Option (Int × DT) := bndH (m_X10_off v1 v2 D) (fun e D => if e = 0 then some (1, D) else none) (fun r D1 => gd (InR r) (gd ((0 : Int) ≤ 0 ∧ 0 < (1 : Int)) (sq (sA D1 102 (Int.toNat 0) r) (fun D2 => some (0, D2)))))
noncomputable def m_L_move (v1 : Int) (v2 : Int) (v3 : Int) (v4 : Int) (v5 : Int) (D : DT) : Option (Int × DT) := bndH (m_X10_move v1 v2 v3 v4 v5 D) (fun e D => if e = 0 then some (1, D) else if e = 2 then some (2, D) else none) (fun r D1 => gd (InR r) (gd ((0 : Int) ≤ 0 ∧ 0 < (1 : Int)) (sq (sA D1 102 (Int.toNat 0) r) (fun D2 => some (0, D2)))))
noncomputable def m_L_tries (v1 : Int) (v2 : Int) (v3 : Int) (v4 : Int) (v5 : Int) (v6 : Int) (D : DT) : Option (Int × DT) := bndH (m_X10_tries v1 v2 v3 v4 v5 v6 D) (fun e D => if e = 0 then some (1, D) else if e = 2 then some (2, D) else none) (fun r D1 => gd (InR r) (gd ((0 : Int) ≤ 0 ∧ 0 < (1 : Int)) (sq (sA D1 102 (Int.toNat 0) r) (fun D2 => some (0, D2)))))
noncomputable def m_L_run (v1 : Int) (v2 : Int) (v3 : Int) (v4 : Int) (D : DT) : Option (Int × DT) := bndH (m_X10_run v1 v2 v3 v4 D) (fun e D => if e = 0 then some (1, D) else none) (fun r D1 => gd (InR r) (gd ((0 : Int) ≤ 0 ∧ 0 < (1 : Int)) (sq (sA D1 102 (Int.toNat 0) r) (fun D2 => some (0, D2)))))
noncomputable def m_L_part (v1 : Int) (D : DT) : Option (Int × DT) := bndH (m_X10_part v1 D) (fun e D => if e = 0 then some (1, D) else none) (fun r D1 => gd (InR r) (gd ((0 : Int) ≤ 0 ∧ 0 < (1 : Int)) (sq (sA D1 102 (Int.toNat 0) r) (fun D2 => some (0, D2)))))
noncomputable def m_L_measure (v1 : Int) (v2 : Int) (v3 : Int) (v4 : Int) (D : DT) : Option (Int × DT) := bndH (m_X10_measure v1 v2 v3 v4 D) (fun e D => if e = 0 then some (1, D) else if e = 1 then some (2, D) else if e = 2 then some (3, D) else none) (fun r D1 => gd (InR r) (gd ((0 : Int) ≤ 0 ∧ 0 < (1 : Int)) (sq (sA D1 102 (Int.toNat 0) r) (fun D2 => some (0, D2)))))
noncomputable def m_L_best (v1 : Int) (v2 : Int) (v3 : Int) (D : DT) : Option (Int × DT) := bndH (m_X10_best v1 v2 v3 D) (fun e D => if e = 0 then some (1, D) else if e = 1 then some (2, D) else if e = 2 then some (3, D) else none) (fun r D1 => gd (InR r) (gd ((0 : Int) ≤ 0 ∧ 0 < (1 : Int)) (sq (sA D1 102 (Int.toNat 0) r) (fun D2 => some (0, D2)))))
noncomputable def m_L_nearest (v1 : Int) (v2 : Int) (D : DT) : Option (Int × DT) := bndH (m_X10_nearest v1 v2 D) (fun e D => if e = 0 then some (1, D) else none) (fun r D1 => gd (InR r) (gd ((0 : Int) ≤ 0 ∧ 0 < (1 : Int)) (sq (sA D1 102 (Int.toNat 0) r) (fun D2 => some (0, D2)))))
noncomputable def m_L_served (v1 : Int) (v2 : Int) (D : DT) : Option (Int × DT) := bndH (m_X10_served v1 v2 D) (fun e D => if e = 0 then some (1, D) else none) (fun r D1 => gd (InR r) (gd ((0 : Int) ≤ 0 ∧ 0 < (1 : Int)) (sq (sA D1 102 (Int.toNat 0) r) (fun D2 => some (0, D2)))))
noncomputable def m_L_thinned (v1 : Int) (v2 : Int) (v3 : Int) (D : DT) : Option (Int × DT) := bndH (m_X10_thinned v1 v2 v3 D) (fun e D => if e = 0 then some (1, D) else if e = 2 then some (2, D) else none) (fun r D1 => gd (InR r) (gd ((0 : Int) ≤ 0 ∧ 0 < (1 : Int)) (sq (sA D1 102 (Int.toNat 0) r) (fun D2 => some (0, D2)))))
noncomputable def m_L_tour (v1 : Int) (v2 : Int) (D : DT) : Option (Int × DT) := bndH (m_X10_tour v1 v2 D) (fun e D => if e = 0 then some (1, D) else none) (fun r D1 => gd (InR r) (gd ((0 : Int) ≤ 0 ∧ 0 < (1 : Int)) (sq (sA D1 102 (Int.toNat 0) r) (fun D2 => some (0, D2)))))
noncomputable def m_L_way (v1 : Int) (D : DT) : Option (Int × DT) := bndH (m_X10_way v1 D) (fun e D => if e = 0 then some (1, D) else none) (fun r D1 => gd (InR r) (gd ((0 : Int) ≤ 0 ∧ 0 < (1 : Int)) (sq (sA D1 102 (Int.toNat 0) r) (fun D2 => some (0, D2)))))
noncomputable def m_L_hull (v1 : Int) (v2 : Int) (D : DT) : Option (Int × DT) := bndH (m_X10_hull v1 v2 D) (fun e D => if e = 0 then some (1, D) else none) (fun r D1 => gd (InR r) (gd ((0 : Int) ≤ 0 ∧ 0 < (1 : Int)) (sq (sA D1 102 (Int.toNat 0) r) (fun D2 => some (0, D2)))))
noncomputable def m_L_area (v1 : Int) (D : DT) : Option (Int × DT) := bndH (m_X10_area v1 D) (fun e D => if e = 0 then some (1, D) else none) (fun r D1 => gd (InR r) (gd ((0 : Int) ≤ 0 ∧ 0 < (1 : Int)) (sq (sA D1 102 (Int.toNat 0) r) (fun D2 => some (0, D2)))))
noncomputable def m_L_middle (v1 : Int) (v2 : Int) (D : DT) : Option (Int × DT) := bndH (m_X10_middle v1 v2 D) (fun e D => if e = 0 then some (1, D) else none) (fun r D1 => gd (InR r) (gd ((0 : Int) ≤ 0 ∧ 0 < (1 : Int)) (sq (sA D1 102 (Int.toNat 0) r) (fun D2 => some (0, D2)))))
noncomputable def m_L_line (v1 : Int) (v2 : Int) (v3 : Int) (D : DT) : Option (Int × DT) := bndH (m_X10_line v1 v2 v3 D) (fun e D => if e = 0 then some (1, D) else none) (fun r D1 => gd (InR r) (gd ((0 : Int) ≤ 0 ∧ 0 < (1 : Int)) (sq (sA D1 102 (Int.toNat 0) r) (fun D2 => some (0, D2)))))
noncomputable def m_L_joined (v1 : Int) (v2 : Int) (v3 : Int) (D : DT) : Option (Int × DT) := bndH (m_X10_joined v1 v2 v3 D) (fun e D => if e = 0 then some (1, D) else if e = 2 then some (2, D) else none) (fun r D1 => gd (InR r) (gd ((0 : Int) ≤ 0 ∧ 0 < (1 : Int)) (sq (sA D1 102 (Int.toNat 0) r) (fun D2 => some (0, D2)))))
noncomputable def m_L_write (v1 : Int) (D : DT) : Option (Int × DT) := bndH (m_X10_write v1 D) (fun e D => if e = 0 then some (1, D) else none) (fun r D1 => gd (InR r) (gd ((0 : Int) ≤ 0 ∧ 0 < (1 : Int)) (sq (sA D1 102 (Int.toNat 0) r) (fun D2 => some (0, D2)))))
set_option maxRecDepth 100000 in
theorem lc_0 : Cond.classLink RL 19 (exn 0) ∈ TB := TBm (i := 885) rfl rfl
set_option maxRecDepth 100000 in
theorem lk_0 : Cond.castable (exn 0) (exn 0) ∈ lw_tbl := by decide +kernel
set_option maxRecDepth 100000 in
theorem lc_1 : Cond.classLink RL 21 (exn 1) ∈ TB := TBm (i := 886) rfl rfl
set_option maxRecDepth 100000 in
theorem lk_1 : Cond.castable (exn 1) (exn 1) ∈ lw_tbl := by decide +kernel
set_option maxRecDepth 100000 in
theorem lc_2 : Cond.classLink RL 13 (exn 2) ∈ TB := TBm (i := 622) rfl rfl
set_option maxRecDepth 100000 in
theorem lk_2 : Cond.castable (exn 2) (exn 2) ∈ lw_tbl := by decide +kernel
set_option maxRecDepth 100000 in
theorem ln_0_1 : Cond.not (.castable (exn 0) (exn 1)) ∈ flatC prC := by decide +kernel
set_option maxRecDepth 100000 in
theorem ln_0_2 : Cond.not (.castable (exn 0) (exn 2)) ∈ flatC prC := by decide +kernel
set_option maxRecDepth 100000 in
theorem ln_1_0 : Cond.not (.castable (exn 1) (exn 0)) ∈ flatC prC := by decide +kernel
set_option maxRecDepth 100000 in
theorem ln_1_2 : Cond.not (.castable (exn 1) (exn 2)) ∈ flatC prC := by decide +kernel
set_option maxRecDepth 100000 in
theorem ln_2_0 : Cond.not (.castable (exn 2) (exn 0)) ∈ flatC prC := by decide +kernel
set_option maxRecDepth 100000 in
theorem ln_2_1 : Cond.not (.castable (exn 2) (exn 1)) ∈ flatC prC := by decide +kernel
set_option maxRecDepth 100000 in
theorem yw_L_read : YSW yL_read cL_read 3 (some .int) [(0, 8, 11, 13)] 2 := ⟨TBm (i := 621) rfl rfl, TBm (i := 129) rfl rfl, by decide, by decide +kernel, TBm (i := 620) rfl rfl⟩
set_option maxRecDepth 100000 in
set_option maxHeartbeats 4000000 in
theorem s_L_read {l : Launch} {g : GH} (hG : G0 l g) {n : Nat} {D : DT} {K : Int × DT → Prop} (h : ok (m_L_read D) K) : SatW l g yL_read cL_read 3 (some .int) [(0, 8, 11, 13)] 12 1 6 [vR g 0, vR g 102] (LF n) D (PIe K) := by
  refine SatW.of hG (by decide) (Nat.le_of_ble_eq_true rfl) (by simp [Value.category]) ?_
  refine p_aload_n dL_read_0 rfl ?_
  refine p_iconst dL_read_1 ?_
  refine p_aload_n dL_read_2 rfl ?_
  refine cV_Xh [] [vI 0, vR g 102] dL_read_3 yv_X10_read ml_L_7 (r := (RX10, TX10, 7)) rfl rfl (Nat.le_of_ble_eq_true rfl) rfl (Nat.le_of_ble_eq_true rfl) (Nat.le_of_ble_eq_true rfl) (Nat.le_of_ble_eq_true rfl) rfl h (fun K h => s_X10_read hG h) (fun e n D h => ?_) (fun r D1 h => ?_)
  · by_cases e2 : e = 2
    · have h := (ok_ite h).1 e2
      subst e2
      refine px_catch [] (0, 8, 11, 13) [] rfl (fun z hz => by cases hz) (by decide) (by decide) lc_2 lk_2 (fun q => ?_)
      refine p_astore_n dL_read_11 (Nat.le_of_ble_eq_true rfl) rfl ?_
      refine p_iconst dL_read_12 ?_
      exact p_ireturn dL_read_13 (Nat.le_of_ble_eq_true rfl) (Nat.le_of_ble_eq_true rfl) ⟨_, _, rfl, rfl, ok_some h⟩
    have h := (ok_ite h).2 e2
    obtain ⟨_, e9, _⟩ := h
    cases e9
  · refine q_i2l dL_read_6 h (fun h => ?_)
    refine q_last dL_read_7 rfl rfl h (fun D2 h => ?_)
    refine p_goto (tgt := 14) dL_read_8 (by decide) ?_
    refine p_iconst dL_read_14 ?_
    exact p_ireturn dL_read_15 (Nat.le_of_ble_eq_true rfl) (Nat.le_of_ble_eq_true rfl) ⟨_, _, rfl, rfl, ok_some h⟩
set_option maxRecDepth 100000 in
theorem yw_L_cell : YSW yL_cell cL_cell 5 (some .int) [(0, 10, 13, 19), (0, 10, 17, 21)] 4 := ⟨TBm (i := 884) rfl rfl, TBm (i := 129) rfl rfl, by decide, by decide +kernel, TBm (i := 883) rfl rfl⟩
set_option maxRecDepth 100000 in
set_option maxHeartbeats 4000000 in
theorem s_L_cell {l : Launch} {g : GH} (hG : G0 l g) {n : Nat} {v1 : Int} {v2 : Int} {D : DT} {K : Int × DT → Prop} (h : ok (m_L_cell v1 v2 D) K) : SatW l g yL_cell cL_cell 5 (some .int) [(0, 10, 13, 19), (0, 10, 17, 21)] 10 2 12 [vR g 0, vI v1, vI v2, vR g 102] (LF n) D (PIe K) := by
  refine SatW.of hG (by decide) (Nat.le_of_ble_eq_true rfl) (by simp [Value.category]) ?_
  refine p_aload_n dL_cell_0 rfl ?_
  refine p_iconst dL_cell_1 ?_
  refine p_aload_n dL_cell_2 rfl ?_
  refine p_iload_n dL_cell_3 rfl ?_
  refine p_iload_n dL_cell_4 rfl ?_
  refine cV_Xh [vI v1, vI v2] [vI 0, vR g 102] dL_cell_5 yv_X10_cell ml_L_15 (r := (RX10, TX10, 7)) rfl rfl (Nat.le_of_ble_eq_true rfl) rfl (Nat.le_of_ble_eq_true rfl) (Nat.le_of_ble_eq_true rfl) (Nat.le_of_ble_eq_true rfl) rfl h (fun K h => s_X10_cell hG h) (fun e n D h => ?_) (fun r D1 h => ?_)
  · by_cases e0 : e = 0
    · have h := (ok_ite h).1 e0
      subst e0
      refine px_catch [] (0, 10, 13, 19) [(0, 10, 17, 21)] rfl (fun z hz => by cases hz) (by decide) (by decide) lc_0 lk_0 (fun q => ?_)
      refine p_astore dL_cell_13 (Nat.le_of_ble_eq_true rfl) rfl ?_
      refine p_iconst dL_cell_15 ?_
      exact p_ireturn dL_cell_16 (Nat.le_of_ble_eq_true rfl) (Nat.le_of_ble_eq_true rfl) ⟨_, _, rfl, rfl, ok_some h⟩
    have h := (ok_ite h).2 e0
    by_cases e1 : e = 1
    · have h := (ok_ite h).1 e1
      subst e1
      refine px_catch [(0, 10, 13, 19)] (0, 10, 17, 21) [] rfl (fun z hz => by rcases List.mem_cons.mp hz with rfl | hz; exact ⟨by decide, 0, lc_0, ln_1_0⟩; cases hz) (by decide) (by decide) lc_1 lk_1 (fun q => ?_)
      refine p_astore dL_cell_17 (Nat.le_of_ble_eq_true rfl) rfl ?_
      refine p_iconst dL_cell_19 ?_
      exact p_ireturn dL_cell_20 (Nat.le_of_ble_eq_true rfl) (Nat.le_of_ble_eq_true rfl) ⟨_, _, rfl, rfl, ok_some h⟩
    have h := (ok_ite h).2 e1
    obtain ⟨_, e9, _⟩ := h
    cases e9
  · refine q_i2l dL_cell_8 h (fun h => ?_)
    refine q_last dL_cell_9 rfl rfl h (fun D2 h => ?_)
    refine p_goto (tgt := 21) dL_cell_10 (by decide) ?_
    refine p_iconst dL_cell_21 ?_
    exact p_ireturn dL_cell_22 (Nat.le_of_ble_eq_true rfl) (Nat.le_of_ble_eq_true rfl) ⟨_, _, rfl, rfl, ok_some h⟩
set_option maxRecDepth 100000 in
theorem yw_L_zone : YSW yL_zone cL_zone 5 (some .int) [(0, 10, 13, 19), (0, 10, 17, 21)] 4 := ⟨TBm (i := 930) rfl rfl, TBm (i := 129) rfl rfl, by decide, by decide +kernel, TBm (i := 929) rfl rfl⟩
set_option maxRecDepth 100000 in
set_option maxHeartbeats 4000000 in
theorem s_L_zone {l : Launch} {g : GH} (hG : G0 l g) {n : Nat} {v1 : Int} {v2 : Int} {D : DT} {K : Int × DT → Prop} (h : ok (m_L_zone v1 v2 D) K) : SatW l g yL_zone cL_zone 5 (some .int) [(0, 10, 13, 19), (0, 10, 17, 21)] 10 2 12 [vR g 0, vI v1, vI v2, vR g 102] (LF n) D (PIe K) := by
  refine SatW.of hG (by decide) (Nat.le_of_ble_eq_true rfl) (by simp [Value.category]) ?_
  refine p_aload_n dL_zone_0 rfl ?_
  refine p_iconst dL_zone_1 ?_
  refine p_aload_n dL_zone_2 rfl ?_
  refine p_iload_n dL_zone_3 rfl ?_
  refine p_iload_n dL_zone_4 rfl ?_
  refine cV_Xh [vI v1, vI v2] [vI 0, vR g 102] dL_zone_5 yv_X10_zone ml_L_23 (r := (RX10, TX10, 7)) rfl rfl (Nat.le_of_ble_eq_true rfl) rfl (Nat.le_of_ble_eq_true rfl) (Nat.le_of_ble_eq_true rfl) (Nat.le_of_ble_eq_true rfl) rfl h (fun K h => s_X10_zone hG h) (fun e n D h => ?_) (fun r D1 h => ?_)
  · by_cases e0 : e = 0
    · have h := (ok_ite h).1 e0
      subst e0
      refine px_catch [] (0, 10, 13, 19) [(0, 10, 17, 21)] rfl (fun z hz => by cases hz) (by decide) (by decide) lc_0 lk_0 (fun q => ?_)
      refine p_astore dL_zone_13 (Nat.le_of_ble_eq_true rfl) rfl ?_
      refine p_iconst dL_zone_15 ?_
      exact p_ireturn dL_zone_16 (Nat.le_of_ble_eq_true rfl) (Nat.le_of_ble_eq_true rfl) ⟨_, _, rfl, rfl, ok_some h⟩
    have h := (ok_ite h).2 e0
    by_cases e1 : e = 1
    · have h := (ok_ite h).1 e1
      subst e1
      refine px_catch [(0, 10, 13, 19)] (0, 10, 17, 21) [] rfl (fun z hz => by rcases List.mem_cons.mp hz with rfl | hz; exact ⟨by decide, 0, lc_0, ln_1_0⟩; cases hz) (by decide) (by decide) lc_1 lk_1 (fun q => ?_)
      refine p_astore dL_zone_17 (Nat.le_of_ble_eq_true rfl) rfl ?_
      refine p_iconst dL_zone_19 ?_
      exact p_ireturn dL_zone_20 (Nat.le_of_ble_eq_true rfl) (Nat.le_of_ble_eq_true rfl) ⟨_, _, rfl, rfl, ok_some h⟩
    have h := (ok_ite h).2 e1
    obtain ⟨_, e9, _⟩ := h
    cases e9
  · refine q_i2l dL_zone_8 h (fun h => ?_)
    refine q_last dL_zone_9 rfl rfl h (fun D2 h => ?_)
    refine p_goto (tgt := 21) dL_zone_10 (by decide) ?_
    refine p_iconst dL_zone_21 ?_
    exact p_ireturn dL_zone_22 (Nat.le_of_ble_eq_true rfl) (Nat.le_of_ble_eq_true rfl) ⟨_, _, rfl, rfl, ok_some h⟩
set_option maxRecDepth 100000 in
theorem yw_L_name : YSW yL_name cL_name 5 (some .int) [(0, 10, 13, 19)] 4 := ⟨TBm (i := 995) rfl rfl, TBm (i := 129) rfl rfl, by decide, by decide +kernel, TBm (i := 994) rfl rfl⟩
set_option maxRecDepth 100000 in
set_option maxHeartbeats 4000000 in
theorem s_L_name {l : Launch} {g : GH} (hG : G0 l g) {n : Nat} {v1 : Int} {v2 : Int} {D : DT} {K : Int × DT → Prop} (h : ok (m_L_name v1 v2 D) K) : SatW l g yL_name cL_name 5 (some .int) [(0, 10, 13, 19)] 10 1 6 [vR g 0, vI v1, vI v2, vR g 102] (LF n) D (PIe K) := by
  refine SatW.of hG (by decide) (Nat.le_of_ble_eq_true rfl) (by simp [Value.category]) ?_
  refine p_aload_n dL_name_0 rfl ?_
  refine p_iconst dL_name_1 ?_
  refine p_aload_n dL_name_2 rfl ?_
  refine p_iload_n dL_name_3 rfl ?_
  refine p_iload_n dL_name_4 rfl ?_
  refine cV_Xh [vI v1, vI v2] [vI 0, vR g 102] dL_name_5 yv_X10_name ml_L_26 (r := (RX10, TX10, 7)) rfl rfl (Nat.le_of_ble_eq_true rfl) rfl (Nat.le_of_ble_eq_true rfl) (Nat.le_of_ble_eq_true rfl) (Nat.le_of_ble_eq_true rfl) rfl h (fun K h => s_X10_name hG h) (fun e n D h => ?_) (fun r D1 h => ?_)
  · by_cases e0 : e = 0
    · have h := (ok_ite h).1 e0
      subst e0
      refine px_catch [] (0, 10, 13, 19) [] rfl (fun z hz => by cases hz) (by decide) (by decide) lc_0 lk_0 (fun q => ?_)
      refine p_astore dL_name_13 (Nat.le_of_ble_eq_true rfl) rfl ?_
      refine p_iconst dL_name_15 ?_
      exact p_ireturn dL_name_16 (Nat.le_of_ble_eq_true rfl) (Nat.le_of_ble_eq_true rfl) ⟨_, _, rfl, rfl, ok_some h⟩
    have h := (ok_ite h).2 e0
    obtain ⟨_, e9, _⟩ := h
    cases e9
  · refine q_i2l dL_name_8 h (fun h => ?_)
    refine q_last dL_name_9 rfl rfl h (fun D2 h => ?_)
    refine p_goto (tgt := 17) dL_name_10 (by decide) ?_
    refine p_iconst dL_name_17 ?_
    exact p_ireturn dL_name_18 (Nat.le_of_ble_eq_true rfl) (Nat.le_of_ble_eq_true rfl) ⟨_, _, rfl, rfl, ok_some h⟩
set_option maxRecDepth 100000 in
theorem yw_L_people : YSW yL_people cL_people 6 (some .int) [(0, 12, 15, 19), (0, 12, 19, 13)] 5 := ⟨TBm (i := 1002) rfl rfl, TBm (i := 129) rfl rfl, by decide, by decide +kernel, TBm (i := 1001) rfl rfl⟩
set_option maxRecDepth 100000 in
set_option maxHeartbeats 4000000 in
theorem s_L_people {l : Launch} {g : GH} (hG : G0 l g) {n : Nat} {v1 : Int} {v2 : Int} {v3 : Int} {D : DT} {K : Int × DT → Prop} (h : ok (m_L_people v1 v2 v3 D) K) : SatW l g yL_people cL_people 6 (some .int) [(0, 12, 15, 19), (0, 12, 19, 13)] 10 3 18 [vR g 0, vI v1, vI v2, vI v3, vR g 102] (LF n) D (PIe K) := by
  refine SatW.of hG (by decide) (Nat.le_of_ble_eq_true rfl) (by simp [Value.category]) ?_
  refine p_aload dL_people_0 rfl ?_
  refine p_iconst dL_people_2 ?_
  refine p_aload_n dL_people_3 rfl ?_
  refine p_iload_n dL_people_4 rfl ?_
  refine p_iload_n dL_people_5 rfl ?_
  refine p_iload_n dL_people_6 rfl ?_
  refine cV_Xh [vI v1, vI v2, vI v3] [vI 0, vR g 102] dL_people_7 yv_X10_people ml_L_29 (r := (RX10, TX10, 7)) rfl rfl (Nat.le_of_ble_eq_true rfl) rfl (Nat.le_of_ble_eq_true rfl) (Nat.le_of_ble_eq_true rfl) (Nat.le_of_ble_eq_true rfl) rfl h (fun K h => s_X10_people hG h) (fun e n D h => ?_) (fun r D1 h => ?_)
  · by_cases e0 : e = 0
    · have h := (ok_ite h).1 e0
      subst e0
      refine px_catch [] (0, 12, 15, 19) [(0, 12, 19, 13)] rfl (fun z hz => by cases hz) (by decide) (by decide) lc_0 lk_0 (fun q => ?_)
      refine p_astore dL_people_15 (Nat.le_of_ble_eq_true rfl) rfl ?_
      refine p_iconst dL_people_17 ?_
      exact p_ireturn dL_people_18 (Nat.le_of_ble_eq_true rfl) (Nat.le_of_ble_eq_true rfl) ⟨_, _, rfl, rfl, ok_some h⟩
    have h := (ok_ite h).2 e0
    by_cases e2 : e = 2
    · have h := (ok_ite h).1 e2
      subst e2
      refine px_catch [(0, 12, 15, 19)] (0, 12, 19, 13) [] rfl (fun z hz => by rcases List.mem_cons.mp hz with rfl | hz; exact ⟨by decide, 0, lc_0, ln_2_0⟩; cases hz) (by decide) (by decide) lc_2 lk_2 (fun q => ?_)
      refine p_astore dL_people_19 (Nat.le_of_ble_eq_true rfl) rfl ?_
      refine p_iconst dL_people_21 ?_
      exact p_ireturn dL_people_22 (Nat.le_of_ble_eq_true rfl) (Nat.le_of_ble_eq_true rfl) ⟨_, _, rfl, rfl, ok_some h⟩
    have h := (ok_ite h).2 e2
    obtain ⟨_, e9, _⟩ := h
    cases e9
  · refine q_i2l dL_people_10 h (fun h => ?_)
    refine q_last dL_people_11 rfl rfl h (fun D2 h => ?_)
    refine p_goto (tgt := 23) dL_people_12 (by decide) ?_
    refine p_iconst dL_people_23 ?_
    exact p_ireturn dL_people_24 (Nat.le_of_ble_eq_true rfl) (Nat.le_of_ble_eq_true rfl) ⟨_, _, rfl, rfl, ok_some h⟩
set_option maxRecDepth 100000 in
theorem yw_L_lives : YSW yL_lives cL_lives 5 (some .int) [(0, 10, 13, 19)] 4 := ⟨TBm (i := 1023) rfl rfl, TBm (i := 129) rfl rfl, by decide, by decide +kernel, TBm (i := 1022) rfl rfl⟩
set_option maxRecDepth 100000 in
set_option maxHeartbeats 4000000 in
theorem s_L_lives {l : Launch} {g : GH} (hG : G0 l g) {n : Nat} {v1 : Int} {v2 : Int} {D : DT} {K : Int × DT → Prop} (h : ok (m_L_lives v1 v2 D) K) : SatW l g yL_lives cL_lives 5 (some .int) [(0, 10, 13, 19)] 10 2 12 [vR g 0, vI v1, vI v2, vR g 102] (LF n) D (PIe K) := by
  refine SatW.of hG (by decide) (Nat.le_of_ble_eq_true rfl) (by simp [Value.category]) ?_
  refine p_aload_n dL_lives_0 rfl ?_
  refine p_iconst dL_lives_1 ?_
  refine p_aload_n dL_lives_2 rfl ?_
  refine p_iload_n dL_lives_3 rfl ?_
  refine p_iload_n dL_lives_4 rfl ?_
  refine cV_Xh [vI v1, vI v2] [vI 0, vR g 102] dL_lives_5 yv_X10_lives ml_L_33 (r := (RX10, TX10, 7)) rfl rfl (Nat.le_of_ble_eq_true rfl) rfl (Nat.le_of_ble_eq_true rfl) (Nat.le_of_ble_eq_true rfl) (Nat.le_of_ble_eq_true rfl) rfl h (fun K h => s_X10_lives hG h) (fun e n D h => ?_) (fun r D1 h => ?_)
  · by_cases e0 : e = 0
    · have h := (ok_ite h).1 e0
      subst e0
      refine px_catch [] (0, 10, 13, 19) [] rfl (fun z hz => by cases hz) (by decide) (by decide) lc_0 lk_0 (fun q => ?_)
      refine p_astore dL_lives_13 (Nat.le_of_ble_eq_true rfl) rfl ?_
      refine p_iconst dL_lives_15 ?_
      exact p_ireturn dL_lives_16 (Nat.le_of_ble_eq_true rfl) (Nat.le_of_ble_eq_true rfl) ⟨_, _, rfl, rfl, ok_some h⟩
    have h := (ok_ite h).2 e0
    obtain ⟨_, e9, _⟩ := h
    cases e9
  · refine q_i2l dL_lives_8 h (fun h => ?_)
    refine q_last dL_lives_9 rfl rfl h (fun D2 h => ?_)
    refine p_goto (tgt := 17) dL_lives_10 (by decide) ?_
    refine p_iconst dL_lives_17 ?_
    exact p_ireturn dL_lives_18 (Nat.le_of_ble_eq_true rfl) (Nat.le_of_ble_eq_true rfl) ⟨_, _, rfl, rfl, ok_some h⟩
set_option maxRecDepth 100000 in
theorem yw_L_flood : YSW yL_flood cL_flood 5 (some .int) [(0, 17, 20, 19)] 4 := ⟨TBm (i := 1030) rfl rfl, TBm (i := 129) rfl rfl, by decide, by decide +kernel, TBm (i := 1029) rfl rfl⟩
set_option maxRecDepth 100000 in
set_option maxHeartbeats 4000000 in
theorem s_L_flood {l : Launch} {g : GH} (hG : G0 l g) {n : Nat} {v1 : Int} {v2 : Int} {D : DT} {K : Int × DT → Prop} (h : ok (m_L_flood v1 v2 D) K) : SatW l g yL_flood cL_flood 5 (some .int) [(0, 17, 20, 19)] 10 1 6 [vR g 0, vI v1, vI v2, vR g 102] (LF n) D (PIe K) := by
  refine SatW.of hG (by decide) (Nat.le_of_ble_eq_true rfl) (by simp [Value.category]) ?_
  refine p_aload_n dL_flood_0 rfl ?_
  refine p_iconst dL_flood_1 ?_
  refine p_aload_n dL_flood_2 rfl ?_
  refine p_iload_n dL_flood_3 rfl ?_
  refine p_iload_n dL_flood_4 rfl ?_
  refine cV_Xh [vI v1, vI v2] [vI 0, vR g 102] dL_flood_5 yv_X10_flood ml_L_36 (r := (RX10, TX10, 7)) rfl rfl (Nat.le_of_ble_eq_true rfl) rfl (Nat.le_of_ble_eq_true rfl) (Nat.le_of_ble_eq_true rfl) (Nat.le_of_ble_eq_true rfl) rfl h (fun K h => s_X10_flood hG h) (fun e n D h => ?_) (fun r D1 h => ?_)
  · by_cases e0 : e = 0
    · have h := (ok_ite h).1 e0
      subst e0
      refine px_catch [] (0, 17, 20, 19) [] rfl (fun z hz => by cases hz) (by decide) (by decide) lc_0 lk_0 (fun q => ?_)
      refine p_astore dL_flood_20 (Nat.le_of_ble_eq_true rfl) rfl ?_
      refine p_iconst dL_flood_22 ?_
      exact p_ireturn dL_flood_23 (Nat.le_of_ble_eq_true rfl) (Nat.le_of_ble_eq_true rfl) ⟨_, _, rfl, rfl, ok_some h⟩
    have h := (ok_ite h).2 e0
    obtain ⟨_, e9, _⟩ := h
    cases e9
  · refine q_if_eq (tgt := 15) dL_flood_8 (by decide) h (fun h => ?_) (fun h => ?_)
    · refine p_lconst 0 dL_flood_15 (by decide) ?_
      refine q_last dL_flood_16 rfl rfl h (fun D2 h => ?_)
      refine p_goto (tgt := 24) dL_flood_17 (by decide) ?_
      refine p_iconst dL_flood_24 ?_
      exact p_ireturn dL_flood_25 (Nat.le_of_ble_eq_true rfl) (Nat.le_of_ble_eq_true rfl) ⟨_, _, rfl, rfl, ok_some h⟩
    · refine p_lconst 1 dL_flood_11 (by decide) ?_
      refine p_goto (tgt := 16) dL_flood_12 (by decide) ?_
      refine q_last dL_flood_16 rfl rfl h (fun D2 h => ?_)
      refine p_goto (tgt := 24) dL_flood_17 (by decide) ?_
      refine p_iconst dL_flood_24 ?_
      exact p_ireturn dL_flood_25 (Nat.le_of_ble_eq_true rfl) (Nat.le_of_ble_eq_true rfl) ⟨_, _, rfl, rfl, ok_some h⟩
set_option maxRecDepth 100000 in
theorem yw_L_unit : YSW yL_unit cL_unit 4 (some .int) [(0, 9, 12, 13)] 3 := ⟨TBm (i := 1046) rfl rfl, TBm (i := 129) rfl rfl, by decide, by decide +kernel, TBm (i := 1045) rfl rfl⟩
set_option maxRecDepth 100000 in
set_option maxHeartbeats 4000000 in
theorem s_L_unit {l : Launch} {g : GH} (hG : G0 l g) {n : Nat} {v1 : Int} {D : DT} {K : Int × DT → Prop} (h : ok (m_L_unit v1 D) K) : SatW l g yL_unit cL_unit 4 (some .int) [(0, 9, 12, 13)] 9 1 6 [vR g 0, vI v1, vR g 102] (LF n) D (PIe K) := by
  refine SatW.of hG (by decide) (Nat.le_of_ble_eq_true rfl) (by simp [Value.category]) ?_
  refine p_aload_n dL_unit_0 rfl ?_
  refine p_iconst dL_unit_1 ?_
  refine p_aload_n dL_unit_2 rfl ?_
  refine p_iload_n dL_unit_3 rfl ?_
  refine cV_Xh [vI v1] [vI 0, vR g 102] dL_unit_4 yv_X10_unit ml_L_40 (r := (RX10, TX10, 7)) rfl rfl (Nat.le_of_ble_eq_true rfl) rfl (Nat.le_of_ble_eq_true rfl) (Nat.le_of_ble_eq_true rfl) (Nat.le_of_ble_eq_true rfl) rfl h (fun K h => s_X10_unit hG h) (fun e n D h => ?_) (fun r D1 h => ?_)
  · by_cases e2 : e = 2
    · have h := (ok_ite h).1 e2
      subst e2
      refine px_catch [] (0, 9, 12, 13) [] rfl (fun z hz => by cases hz) (by decide) (by decide) lc_2 lk_2 (fun q => ?_)
      refine p_astore_n dL_unit_12 (Nat.le_of_ble_eq_true rfl) rfl ?_
      refine p_iconst dL_unit_13 ?_
      exact p_ireturn dL_unit_14 (Nat.le_of_ble_eq_true rfl) (Nat.le_of_ble_eq_true rfl) ⟨_, _, rfl, rfl, ok_some h⟩
    have h := (ok_ite h).2 e2
    obtain ⟨_, e9, _⟩ := h
    cases e9
  · refine q_i2l dL_unit_7 h (fun h => ?_)
    refine q_last dL_unit_8 rfl rfl h (fun D2 h => ?_)
    refine p_goto (tgt := 15) dL_unit_9 (by decide) ?_
    refine p_iconst dL_unit_15 ?_
    exact p_ireturn dL_unit_16 (Nat.le_of_ble_eq_true rfl) (Nat.le_of_ble_eq_true rfl) ⟨_, _, rfl, rfl, ok_some h⟩
set_option maxRecDepth 100000 in
theorem yw_L_factor : YSW yL_factor cL_factor 4 (some .int) [(0, 9, 12, 13)] 3 := ⟨TBm (i := 1054) rfl rfl, TBm (i := 129) rfl rfl, by decide, by decide +kernel, TBm (i := 1053) rfl rfl⟩
set_option maxRecDepth 100000 in
set_option maxHeartbeats 4000000 in
theorem s_L_factor {l : Launch} {g : GH} (hG : G0 l g) {n : Nat} {v1 : Int} {D : DT} {K : Int × DT → Prop} (h : ok (m_L_factor v1 D) K) : SatW l g yL_factor cL_factor 4 (some .int) [(0, 9, 12, 13)] 9 1 6 [vR g 0, vI v1, vR g 102] (LF n) D (PIe K) := by
  refine SatW.of hG (by decide) (Nat.le_of_ble_eq_true rfl) (by simp [Value.category]) ?_
  refine p_aload_n dL_factor_0 rfl ?_
  refine p_iconst dL_factor_1 ?_
  refine p_aload_n dL_factor_2 rfl ?_
  refine p_iload_n dL_factor_3 rfl ?_
  refine cV_Xh [vI v1] [vI 0, vR g 102] dL_factor_4 yv_X10_factor ml_L_44 (r := (RX10, TX10, 7)) rfl rfl (Nat.le_of_ble_eq_true rfl) rfl (Nat.le_of_ble_eq_true rfl) (Nat.le_of_ble_eq_true rfl) (Nat.le_of_ble_eq_true rfl) rfl h (fun K h => s_X10_factor hG h) (fun e n D h => ?_) (fun r D1 h => ?_)
  · by_cases e2 : e = 2
    · have h := (ok_ite h).1 e2
      subst e2
      refine px_catch [] (0, 9, 12, 13) [] rfl (fun z hz => by cases hz) (by decide) (by decide) lc_2 lk_2 (fun q => ?_)
      refine p_astore_n dL_factor_12 (Nat.le_of_ble_eq_true rfl) rfl ?_
      refine p_iconst dL_factor_13 ?_
      exact p_ireturn dL_factor_14 (Nat.le_of_ble_eq_true rfl) (Nat.le_of_ble_eq_true rfl) ⟨_, _, rfl, rfl, ok_some h⟩
    have h := (ok_ite h).2 e2
    obtain ⟨_, e9, _⟩ := h
    cases e9
  · refine q_i2l dL_factor_7 h (fun h => ?_)
    refine q_last dL_factor_8 rfl rfl h (fun D2 h => ?_)
    refine p_goto (tgt := 15) dL_factor_9 (by decide) ?_
    refine p_iconst dL_factor_15 ?_
    exact p_ireturn dL_factor_16 (Nat.le_of_ble_eq_true rfl) (Nat.le_of_ble_eq_true rfl) ⟨_, _, rfl, rfl, ok_some h⟩
set_option maxRecDepth 100000 in
theorem yw_L_order : YSW yL_order cL_order 5 (some .int) [(0, 10, 13, 19)] 4 := ⟨TBm (i := 1062) rfl rfl, TBm (i := 129) rfl rfl, by decide, by decide +kernel, TBm (i := 1061) rfl rfl⟩
set_option maxRecDepth 100000 in
set_option maxHeartbeats 4000000 in
theorem s_L_order {l : Launch} {g : GH} (hG : G0 l g) {n : Nat} {v1 : Int} {v2 : Int} {D : DT} {K : Int × DT → Prop} (h : ok (m_L_order v1 v2 D) K) : SatW l g yL_order cL_order 5 (some .int) [(0, 10, 13, 19)] 10 1 6 [vR g 0, vI v1, vI v2, vR g 102] (LF n) D (PIe K) := by
  refine SatW.of hG (by decide) (Nat.le_of_ble_eq_true rfl) (by simp [Value.category]) ?_
  refine p_aload_n dL_order_0 rfl ?_
  refine p_iconst dL_order_1 ?_
  refine p_aload_n dL_order_2 rfl ?_
  refine p_iload_n dL_order_3 rfl ?_
  refine p_iload_n dL_order_4 rfl ?_
  refine cV_Xh [vI v1, vI v2] [vI 0, vR g 102] dL_order_5 yv_X10_order ml_L_47 (r := (RX10, TX10, 7)) rfl rfl (Nat.le_of_ble_eq_true rfl) rfl (Nat.le_of_ble_eq_true rfl) (Nat.le_of_ble_eq_true rfl) (Nat.le_of_ble_eq_true rfl) rfl h (fun K h => s_X10_order hG h) (fun e n D h => ?_) (fun r D1 h => ?_)
  · by_cases e0 : e = 0
    · have h := (ok_ite h).1 e0
      subst e0
      refine px_catch [] (0, 10, 13, 19) [] rfl (fun z hz => by cases hz) (by decide) (by decide) lc_0 lk_0 (fun q => ?_)
      refine p_astore dL_order_13 (Nat.le_of_ble_eq_true rfl) rfl ?_
      refine p_iconst dL_order_15 ?_
      exact p_ireturn dL_order_16 (Nat.le_of_ble_eq_true rfl) (Nat.le_of_ble_eq_true rfl) ⟨_, _, rfl, rfl, ok_some h⟩
    have h := (ok_ite h).2 e0
    obtain ⟨_, e9, _⟩ := h
    cases e9
  · refine q_i2l dL_order_8 h (fun h => ?_)
    refine q_last dL_order_9 rfl rfl h (fun D2 h => ?_)
    refine p_goto (tgt := 17) dL_order_10 (by decide) ?_
    refine p_iconst dL_order_17 ?_
    exact p_ireturn dL_order_18 (Nat.le_of_ble_eq_true rfl) (Nat.le_of_ble_eq_true rfl) ⟨_, _, rfl, rfl, ok_some h⟩
set_option maxRecDepth 100000 in
theorem yw_L_stands : YSW yL_stands cL_stands 4 (some .int) [(0, 9, 12, 19)] 3 := ⟨TBm (i := 1125) rfl rfl, TBm (i := 129) rfl rfl, by decide, by decide +kernel, TBm (i := 1124) rfl rfl⟩
set_option maxRecDepth 100000 in
set_option maxHeartbeats 4000000 in
theorem s_L_stands {l : Launch} {g : GH} (hG : G0 l g) {n : Nat} {v1 : Int} {D : DT} {K : Int × DT → Prop} (h : ok (m_L_stands v1 D) K) : SatW l g yL_stands cL_stands 4 (some .int) [(0, 9, 12, 19)] 10 1 6 [vR g 0, vI v1, vR g 102] (LF n) D (PIe K) := by
  refine SatW.of hG (by decide) (Nat.le_of_ble_eq_true rfl) (by simp [Value.category]) ?_
  refine p_aload_n dL_stands_0 rfl ?_
  refine p_iconst dL_stands_1 ?_
  refine p_aload_n dL_stands_2 rfl ?_
  refine p_iload_n dL_stands_3 rfl ?_
  refine cV_Xh [vI v1] [vI 0, vR g 102] dL_stands_4 yv_X10_stands ml_L_50 (r := (RX10, TX10, 7)) rfl rfl (Nat.le_of_ble_eq_true rfl) rfl (Nat.le_of_ble_eq_true rfl) (Nat.le_of_ble_eq_true rfl) (Nat.le_of_ble_eq_true rfl) rfl h (fun K h => s_X10_stands hG h) (fun e n D h => ?_) (fun r D1 h => ?_)
  · by_cases e0 : e = 0
    · have h := (ok_ite h).1 e0
      subst e0
      refine px_catch [] (0, 9, 12, 19) [] rfl (fun z hz => by cases hz) (by decide) (by decide) lc_0 lk_0 (fun q => ?_)
      refine p_astore_n dL_stands_12 (Nat.le_of_ble_eq_true rfl) rfl ?_
      refine p_iconst dL_stands_13 ?_
      exact p_ireturn dL_stands_14 (Nat.le_of_ble_eq_true rfl) (Nat.le_of_ble_eq_true rfl) ⟨_, _, rfl, rfl, ok_some h⟩
    have h := (ok_ite h).2 e0
    obtain ⟨_, e9, _⟩ := h
    cases e9
  · refine q_i2l dL_stands_7 h (fun h => ?_)
    refine q_last dL_stands_8 rfl rfl h (fun D2 h => ?_)
    refine p_goto (tgt := 15) dL_stands_9 (by decide) ?_
    refine p_iconst dL_stands_15 ?_
    exact p_ireturn dL_stands_16 (Nat.le_of_ble_eq_true rfl) (Nat.le_of_ble_eq_true rfl) ⟨_, _, rfl, rfl, ok_some h⟩
set_option maxRecDepth 100000 in
theorem yw_L_dots : YSW yL_dots cL_dots 6 (some .int) [(0, 12, 15, 19)] 5 := ⟨TBm (i := 1132) rfl rfl, TBm (i := 129) rfl rfl, by decide, by decide +kernel, TBm (i := 1131) rfl rfl⟩
set_option maxRecDepth 100000 in
set_option maxHeartbeats 4000000 in
theorem s_L_dots {l : Launch} {g : GH} (hG : G0 l g) {n : Nat} {v1 : Int} {v2 : Int} {v3 : Int} {D : DT} {K : Int × DT → Prop} (h : ok (m_L_dots v1 v2 v3 D) K) : SatW l g yL_dots cL_dots 6 (some .int) [(0, 12, 15, 19)] 10 3 18 [vR g 0, vI v1, vI v2, vI v3, vR g 102] (LF n) D (PIe K) := by
  refine SatW.of hG (by decide) (Nat.le_of_ble_eq_true rfl) (by simp [Value.category]) ?_
  refine p_aload dL_dots_0 rfl ?_
  refine p_iconst dL_dots_2 ?_
  refine p_aload_n dL_dots_3 rfl ?_
  refine p_iload_n dL_dots_4 rfl ?_
  refine p_iload_n dL_dots_5 rfl ?_
  refine p_iload_n dL_dots_6 rfl ?_
  refine cV_Xh [vI v1, vI v2, vI v3] [vI 0, vR g 102] dL_dots_7 yv_X10_dots ml_L_53 (r := (RX10, TX10, 7)) rfl rfl (Nat.le_of_ble_eq_true rfl) rfl (Nat.le_of_ble_eq_true rfl) (Nat.le_of_ble_eq_true rfl) (Nat.le_of_ble_eq_true rfl) rfl h (fun K h => s_X10_dots hG h) (fun e n D h => ?_) (fun r D1 h => ?_)
  · by_cases e0 : e = 0
    · have h := (ok_ite h).1 e0
      subst e0
      refine px_catch [] (0, 12, 15, 19) [] rfl (fun z hz => by cases hz) (by decide) (by decide) lc_0 lk_0 (fun q => ?_)
      refine p_astore dL_dots_15 (Nat.le_of_ble_eq_true rfl) rfl ?_
      refine p_iconst dL_dots_17 ?_
      exact p_ireturn dL_dots_18 (Nat.le_of_ble_eq_true rfl) (Nat.le_of_ble_eq_true rfl) ⟨_, _, rfl, rfl, ok_some h⟩
    have h := (ok_ite h).2 e0
    obtain ⟨_, e9, _⟩ := h
    cases e9
  · refine q_i2l dL_dots_10 h (fun h => ?_)
    refine q_last dL_dots_11 rfl rfl h (fun D2 h => ?_)
    refine p_goto (tgt := 19) dL_dots_12 (by decide) ?_
    refine p_iconst dL_dots_19 ?_
    exact p_ireturn dL_dots_20 (Nat.le_of_ble_eq_true rfl) (Nat.le_of_ble_eq_true rfl) ⟨_, _, rfl, rfl, ok_some h⟩
set_option maxRecDepth 100000 in
theorem yw_L_carried : YSW yL_carried cL_carried 6 (some .int) [(0, 12, 15, 19)] 5 := ⟨TBm (i := 1145) rfl rfl, TBm (i := 129) rfl rfl, by decide, by decide +kernel, TBm (i := 1144) rfl rfl⟩
set_option maxRecDepth 100000 in
set_option maxHeartbeats 4000000 in
theorem s_L_carried {l : Launch} {g : GH} (hG : G0 l g) {n : Nat} {v1 : Int} {v2 : Int} {v3 : Int} {D : DT} {K : Int × DT → Prop} (h : ok (m_L_carried v1 v2 v3 D) K) : SatW l g yL_carried cL_carried 6 (some .int) [(0, 12, 15, 19)] 10 3 18 [vR g 0, vI v1, vI v2, vI v3, vR g 102] (LF n) D (PIe K) := by
  refine SatW.of hG (by decide) (Nat.le_of_ble_eq_true rfl) (by simp [Value.category]) ?_
  refine p_aload dL_carried_0 rfl ?_
  refine p_iconst dL_carried_2 ?_
  refine p_aload_n dL_carried_3 rfl ?_
  refine p_iload_n dL_carried_4 rfl ?_
  refine p_iload_n dL_carried_5 rfl ?_
  refine p_iload_n dL_carried_6 rfl ?_
  refine cV_Xh [vI v1, vI v2, vI v3] [vI 0, vR g 102] dL_carried_7 yv_X10_carried ml_L_56 (r := (RX10, TX10, 7)) rfl rfl (Nat.le_of_ble_eq_true rfl) rfl (Nat.le_of_ble_eq_true rfl) (Nat.le_of_ble_eq_true rfl) (Nat.le_of_ble_eq_true rfl) rfl h (fun K h => s_X10_carried hG h) (fun e n D h => ?_) (fun r D1 h => ?_)
  · by_cases e0 : e = 0
    · have h := (ok_ite h).1 e0
      subst e0
      refine px_catch [] (0, 12, 15, 19) [] rfl (fun z hz => by cases hz) (by decide) (by decide) lc_0 lk_0 (fun q => ?_)
      refine p_astore dL_carried_15 (Nat.le_of_ble_eq_true rfl) rfl ?_
      refine p_iconst dL_carried_17 ?_
      exact p_ireturn dL_carried_18 (Nat.le_of_ble_eq_true rfl) (Nat.le_of_ble_eq_true rfl) ⟨_, _, rfl, rfl, ok_some h⟩
    have h := (ok_ite h).2 e0
    obtain ⟨_, e9, _⟩ := h
    cases e9
  · refine q_i2l dL_carried_10 h (fun h => ?_)
    refine q_last dL_carried_11 rfl rfl h (fun D2 h => ?_)
    refine p_goto (tgt := 19) dL_carried_12 (by decide) ?_
    refine p_iconst dL_carried_19 ?_
    exact p_ireturn dL_carried_20 (Nat.le_of_ble_eq_true rfl) (Nat.le_of_ble_eq_true rfl) ⟨_, _, rfl, rfl, ok_some h⟩
set_option maxRecDepth 100000 in
theorem yw_L_left : YSW yL_left cL_left 5 (some .int) [(0, 10, 13, 19)] 4 := ⟨TBm (i := 1156) rfl rfl, TBm (i := 129) rfl rfl, by decide, by decide +kernel, TBm (i := 1155) rfl rfl⟩
set_option maxRecDepth 100000 in
set_option maxHeartbeats 4000000 in
theorem s_L_left {l : Launch} {g : GH} (hG : G0 l g) {n : Nat} {v1 : Int} {v2 : Int} {D : DT} {K : Int × DT → Prop} (h : ok (m_L_left v1 v2 D) K) : SatW l g yL_left cL_left 5 (some .int) [(0, 10, 13, 19)] 10 2 12 [vR g 0, vI v1, vI v2, vR g 102] (LF n) D (PIe K) := by
  refine SatW.of hG (by decide) (Nat.le_of_ble_eq_true rfl) (by simp [Value.category]) ?_
  refine p_aload_n dL_left_0 rfl ?_
  refine p_iconst dL_left_1 ?_
  refine p_aload_n dL_left_2 rfl ?_
  refine p_iload_n dL_left_3 rfl ?_
  refine p_iload_n dL_left_4 rfl ?_
  refine cV_Xh [vI v1, vI v2] [vI 0, vR g 102] dL_left_5 yv_X10_left ml_L_59 (r := (RX10, TX10, 7)) rfl rfl (Nat.le_of_ble_eq_true rfl) rfl (Nat.le_of_ble_eq_true rfl) (Nat.le_of_ble_eq_true rfl) (Nat.le_of_ble_eq_true rfl) rfl h (fun K h => s_X10_left hG h) (fun e n D h => ?_) (fun r D1 h => ?_)
  · by_cases e0 : e = 0
    · have h := (ok_ite h).1 e0
      subst e0
      refine px_catch [] (0, 10, 13, 19) [] rfl (fun z hz => by cases hz) (by decide) (by decide) lc_0 lk_0 (fun q => ?_)
      refine p_astore dL_left_13 (Nat.le_of_ble_eq_true rfl) rfl ?_
      refine p_iconst dL_left_15 ?_
      exact p_ireturn dL_left_16 (Nat.le_of_ble_eq_true rfl) (Nat.le_of_ble_eq_true rfl) ⟨_, _, rfl, rfl, ok_some h⟩
    have h := (ok_ite h).2 e0
    obtain ⟨_, e9, _⟩ := h
    cases e9
  · refine q_i2l dL_left_8 h (fun h => ?_)
    refine q_last dL_left_9 rfl rfl h (fun D2 h => ?_)
    refine p_goto (tgt := 17) dL_left_10 (by decide) ?_
    refine p_iconst dL_left_17 ?_
    exact p_ireturn dL_left_18 (Nat.le_of_ble_eq_true rfl) (Nat.le_of_ble_eq_true rfl) ⟨_, _, rfl, rfl, ok_some h⟩
set_option maxRecDepth 100000 in
theorem yw_L_all : YSW yL_all cL_all 5 (some .int) [(0, 10, 13, 19)] 4 := ⟨TBm (i := 1167) rfl rfl, TBm (i := 129) rfl rfl, by decide, by decide +kernel, TBm (i := 1166) rfl rfl⟩
set_option maxRecDepth 100000 in
set_option maxHeartbeats 4000000 in
theorem s_L_all {l : Launch} {g : GH} (hG : G0 l g) {n : Nat} {v1 : Int} {v2 : Int} {D : DT} {K : Int × DT → Prop} (h : ok (m_L_all v1 v2 D) K) : SatW l g yL_all cL_all 5 (some .int) [(0, 10, 13, 19)] 11 2 12 [vR g 0, vI v1, vI v2, vR g 102] (LF n) D (PIe K) := by
  refine SatW.of hG (by decide) (Nat.le_of_ble_eq_true rfl) (by simp [Value.category]) ?_
  refine p_aload_n dL_all_0 rfl ?_
  refine p_iconst dL_all_1 ?_
  refine p_aload_n dL_all_2 rfl ?_
  refine p_iload_n dL_all_3 rfl ?_
  refine p_iload_n dL_all_4 rfl ?_
  refine cV_Xh [vI v1, vI v2] [vI 0, vR g 102] dL_all_5 yv_X10_all ml_L_62 (r := (RX10, TX10, 7)) rfl rfl (Nat.le_of_ble_eq_true rfl) rfl (Nat.le_of_ble_eq_true rfl) (Nat.le_of_ble_eq_true rfl) (Nat.le_of_ble_eq_true rfl) rfl h (fun K h => s_X10_all hG h) (fun e n D h => ?_) (fun r D1 h => ?_)
  · by_cases e0 : e = 0
    · have h := (ok_ite h).1 e0
      subst e0
      refine px_catch [] (0, 10, 13, 19) [] rfl (fun z hz => by cases hz) (by decide) (by decide) lc_0 lk_0 (fun q => ?_)
      refine p_astore dL_all_13 (Nat.le_of_ble_eq_true rfl) rfl ?_
      refine p_iconst dL_all_15 ?_
      exact p_ireturn dL_all_16 (Nat.le_of_ble_eq_true rfl) (Nat.le_of_ble_eq_true rfl) ⟨_, _, rfl, rfl, ok_some h⟩
    have h := (ok_ite h).2 e0
    obtain ⟨_, e9, _⟩ := h
    cases e9
  · refine q_i2l dL_all_8 h (fun h => ?_)
    refine q_last dL_all_9 rfl rfl h (fun D2 h => ?_)
    refine p_goto (tgt := 17) dL_all_10 (by decide) ?_
    refine p_iconst dL_all_17 ?_
    exact p_ireturn dL_all_18 (Nat.le_of_ble_eq_true rfl) (Nat.le_of_ble_eq_true rfl) ⟨_, _, rfl, rfl, ok_some h⟩
set_option maxRecDepth 100000 in
theorem yw_L_dot : YSW yL_dot cL_dot 7 (some .int) [(0, 14, 17, 19), (0, 14, 21, 21)] 6 := ⟨TBm (i := 1179) rfl rfl, TBm (i := 129) rfl rfl, by decide, by decide +kernel, TBm (i := 1178) rfl rfl⟩
set_option maxRecDepth 100000 in
set_option maxHeartbeats 4000000 in
theorem s_L_dot {l : Launch} {g : GH} (hG : G0 l g) {n : Nat} {v1 : Int} {v2 : Int} {v3 : Int} {v4 : Int} {D : DT} {K : Int × DT → Prop} (h : ok (m_L_dot v1 v2 v3 v4 D) K) : SatW l g yL_dot cL_dot 7 (some .int) [(0, 14, 17, 19), (0, 14, 21, 21)] 10 4 24 [vR g 0, vI v1, vI v2, vI v3, vI v4, vR g 102] (LF n) D (PIe K) := by
  refine SatW.of hG (by decide) (Nat.le_of_ble_eq_true rfl) (by simp [Value.category]) ?_
  refine p_aload dL_dot_0 rfl ?_
  refine p_iconst dL_dot_2 ?_
  refine p_aload_n dL_dot_3 rfl ?_
  refine p_iload_n dL_dot_4 rfl ?_
  refine p_iload_n dL_dot_5 rfl ?_
  refine p_iload_n dL_dot_6 rfl ?_
  refine p_iload dL_dot_7 rfl ?_
  refine cV_Xh [vI v1, vI v2, vI v3, vI v4] [vI 0, vR g 102] dL_dot_9 yv_X10_dot ml_L_65 (r := (RX10, TX10, 7)) rfl rfl (Nat.le_of_ble_eq_true rfl) rfl (Nat.le_of_ble_eq_true rfl) (Nat.le_of_ble_eq_true rfl) (Nat.le_of_ble_eq_true rfl) rfl h (fun K h => s_X10_dot hG h) (fun e n D h => ?_) (fun r D1 h => ?_)
  · by_cases e0 : e = 0
    · have h := (ok_ite h).1 e0
      subst e0
      refine px_catch [] (0, 14, 17, 19) [(0, 14, 21, 21)] rfl (fun z hz => by cases hz) (by decide) (by decide) lc_0 lk_0 (fun q => ?_)
      refine p_astore dL_dot_17 (Nat.le_of_ble_eq_true rfl) rfl ?_
      refine p_iconst dL_dot_19 ?_
      exact p_ireturn dL_dot_20 (Nat.le_of_ble_eq_true rfl) (Nat.le_of_ble_eq_true rfl) ⟨_, _, rfl, rfl, ok_some h⟩
    have h := (ok_ite h).2 e0
    by_cases e1 : e = 1
    · have h := (ok_ite h).1 e1
      subst e1
      refine px_catch [(0, 14, 17, 19)] (0, 14, 21, 21) [] rfl (fun z hz => by rcases List.mem_cons.mp hz with rfl | hz; exact ⟨by decide, 0, lc_0, ln_1_0⟩; cases hz) (by decide) (by decide) lc_1 lk_1 (fun q => ?_)
      refine p_astore dL_dot_21 (Nat.le_of_ble_eq_true rfl) rfl ?_
      refine p_iconst dL_dot_23 ?_
      exact p_ireturn dL_dot_24 (Nat.le_of_ble_eq_true rfl) (Nat.le_of_ble_eq_true rfl) ⟨_, _, rfl, rfl, ok_some h⟩
    have h := (ok_ite h).2 e1
    obtain ⟨_, e9, _⟩ := h
    cases e9
  · refine q_i2l dL_dot_12 h (fun h => ?_)
    refine q_last dL_dot_13 rfl rfl h (fun D2 h => ?_)
    refine p_goto (tgt := 25) dL_dot_14 (by decide) ?_
    refine p_iconst dL_dot_25 ?_
    exact p_ireturn dL_dot_26 (Nat.le_of_ble_eq_true rfl) (Nat.le_of_ble_eq_true rfl) ⟨_, _, rfl, rfl, ok_some h⟩
set_option maxRecDepth 100000 in
theorem yw_L_crowd : YSW yL_crowd cL_crowd 6 (some .int) [(0, 12, 15, 19)] 5 := ⟨TBm (i := 1187) rfl rfl, TBm (i := 129) rfl rfl, by decide, by decide +kernel, TBm (i := 1186) rfl rfl⟩
set_option maxRecDepth 100000 in
set_option maxHeartbeats 4000000 in
theorem s_L_crowd {l : Launch} {g : GH} (hG : G0 l g) {n : Nat} {v1 : Int} {v2 : Int} {v3 : Int} {D : DT} {K : Int × DT → Prop} (h : ok (m_L_crowd v1 v2 v3 D) K) : SatW l g yL_crowd cL_crowd 6 (some .int) [(0, 12, 15, 19)] 11 3 18 [vR g 0, vI v1, vI v2, vI v3, vR g 102] (LF n) D (PIe K) := by
  refine SatW.of hG (by decide) (Nat.le_of_ble_eq_true rfl) (by simp [Value.category]) ?_
  refine p_aload dL_crowd_0 rfl ?_
  refine p_iconst dL_crowd_2 ?_
  refine p_aload_n dL_crowd_3 rfl ?_
  refine p_iload_n dL_crowd_4 rfl ?_
  refine p_iload_n dL_crowd_5 rfl ?_
  refine p_iload_n dL_crowd_6 rfl ?_
  refine cV_Xh [vI v1, vI v2, vI v3] [vI 0, vR g 102] dL_crowd_7 yv_X10_crowd ml_L_69 (r := (RX10, TX10, 7)) rfl rfl (Nat.le_of_ble_eq_true rfl) rfl (Nat.le_of_ble_eq_true rfl) (Nat.le_of_ble_eq_true rfl) (Nat.le_of_ble_eq_true rfl) rfl h (fun K h => s_X10_crowd hG h) (fun e n D h => ?_) (fun r D1 h => ?_)
  · by_cases e0 : e = 0
    · have h := (ok_ite h).1 e0
      subst e0
      refine px_catch [] (0, 12, 15, 19) [] rfl (fun z hz => by cases hz) (by decide) (by decide) lc_0 lk_0 (fun q => ?_)
      refine p_astore dL_crowd_15 (Nat.le_of_ble_eq_true rfl) rfl ?_
      refine p_iconst dL_crowd_17 ?_
      exact p_ireturn dL_crowd_18 (Nat.le_of_ble_eq_true rfl) (Nat.le_of_ble_eq_true rfl) ⟨_, _, rfl, rfl, ok_some h⟩
    have h := (ok_ite h).2 e0
    obtain ⟨_, e9, _⟩ := h
    cases e9
  · refine q_i2l dL_crowd_10 h (fun h => ?_)
    refine q_last dL_crowd_11 rfl rfl h (fun D2 h => ?_)
    refine p_goto (tgt := 19) dL_crowd_12 (by decide) ?_
    refine p_iconst dL_crowd_19 ?_
    exact p_ireturn dL_crowd_20 (Nat.le_of_ble_eq_true rfl) (Nat.le_of_ble_eq_true rfl) ⟨_, _, rfl, rfl, ok_some h⟩
set_option maxRecDepth 100000 in
theorem yw_L_apart : YSW yL_apart cL_apart 4 (some .int) [(0, 9, 12, 19)] 3 := ⟨TBm (i := 1222) rfl rfl, TBm (i := 129) rfl rfl, by decide, by decide +kernel, TBm (i := 1221) rfl rfl⟩
set_option maxRecDepth 100000 in
set_option maxHeartbeats 4000000 in
theorem s_L_apart {l : Launch} {g : GH} (hG : G0 l g) {n : Nat} {v1 : Int} {D : DT} {K : Int × DT → Prop} (h : ok (m_L_apart v1 D) K) : SatW l g yL_apart cL_apart 4 (some .int) [(0, 9, 12, 19)] 10 1 6 [vR g 0, vI v1, vR g 102] (LF n) D (PIe K) := by
  refine SatW.of hG (by decide) (Nat.le_of_ble_eq_true rfl) (by simp [Value.category]) ?_
  refine p_aload_n dL_apart_0 rfl ?_
  refine p_iconst dL_apart_1 ?_
  refine p_aload_n dL_apart_2 rfl ?_
  refine p_iload_n dL_apart_3 rfl ?_
  refine cV_Xh [vI v1] [vI 0, vR g 102] dL_apart_4 yv_X10_apart ml_L_72 (r := (RX10, TX10, 7)) rfl rfl (Nat.le_of_ble_eq_true rfl) rfl (Nat.le_of_ble_eq_true rfl) (Nat.le_of_ble_eq_true rfl) (Nat.le_of_ble_eq_true rfl) rfl h (fun K h => s_X10_apart hG h) (fun e n D h => ?_) (fun r D1 h => ?_)
  · by_cases e0 : e = 0
    · have h := (ok_ite h).1 e0
      subst e0
      refine px_catch [] (0, 9, 12, 19) [] rfl (fun z hz => by cases hz) (by decide) (by decide) lc_0 lk_0 (fun q => ?_)
      refine p_astore_n dL_apart_12 (Nat.le_of_ble_eq_true rfl) rfl ?_
      refine p_iconst dL_apart_13 ?_
      exact p_ireturn dL_apart_14 (Nat.le_of_ble_eq_true rfl) (Nat.le_of_ble_eq_true rfl) ⟨_, _, rfl, rfl, ok_some h⟩
    have h := (ok_ite h).2 e0
    obtain ⟨_, e9, _⟩ := h
    cases e9
  · refine q_i2l dL_apart_7 h (fun h => ?_)
    refine q_last dL_apart_8 rfl rfl h (fun D2 h => ?_)
    refine p_goto (tgt := 15) dL_apart_9 (by decide) ?_
    refine p_iconst dL_apart_15 ?_
    exact p_ireturn dL_apart_16 (Nat.le_of_ble_eq_true rfl) (Nat.le_of_ble_eq_true rfl) ⟨_, _, rfl, rfl, ok_some h⟩
set_option maxRecDepth 100000 in
theorem yw_L_off : YSW yL_off cL_off 5 (some .int) [(0, 10, 13, 19)] 4 := ⟨TBm (i := 1234) rfl rfl, TBm (i := 129) rfl rfl, by decide, by decide +kernel, TBm (i := 1233) rfl rfl⟩
set_option maxRecDepth 100000 in
set_option maxHeartbeats 4000000 in
theorem s_L_off {l : Launch} {g : GH} (hG : G0 l g) {n : Nat} {v1 : Int} {v2 : Int} {D : DT} {K : Int × DT → Prop} (h : ok (m_L_off v1 v2 D) K) : SatW l g yL_off cL_off 5 (some .int) [(0, 10, 13, 19)] 10 2 12 [vR g 0, vI v1, vI v2, vR g 102] (LF n) D (PIe K) := by
  refine SatW.of hG (by decide) (Nat.le_of_ble_eq_true rfl) (by simp [Value.category]) ?_
  refine p_aload_n dL_off_0 rfl ?_
  refine p_iconst dL_off_1 ?_
  refine p_aload_n dL_off_2 rfl ?_
  refine p_iload_n dL_off_3 rfl ?_
  refine p_iload_n dL_off_4 rfl ?_
  refine cV_Xh [vI v1, vI v2] [vI 0, vR g 102] dL_off_5 yv_X10_off ml_L_75 (r := (RX10, TX10, 7)) rfl rfl (Nat.le_of_ble_eq_true rfl) rfl (Nat.le_of_ble_eq_true rfl) (Nat.le_of_ble_eq_true rfl) (Nat.le_of_ble_eq_true rfl) rfl h (fun K h => s_X10_off hG h) (fun e n D h => ?_) (fun r D1 h => ?_)
  · by_cases e0 : e = 0
    · have h := (ok_ite h).1 e0
      subst e0
      refine px_catch [] (0, 10, 13, 19) [] rfl (fun z hz => by cases hz) (by decide) (by decide) lc_0 lk_0 (fun q => ?_)
      refine p_astore dL_off_13 (Nat.le_of_ble_eq_true rfl) rfl ?_
      refine p_iconst dL_off_15 ?_
      exact p_ireturn dL_off_16 (Nat.le_of_ble_eq_true rfl) (Nat.le_of_ble_eq_true rfl) ⟨_, _, rfl, rfl, ok_some h⟩
    have h := (ok_ite h).2 e0
    obtain ⟨_, e9, _⟩ := h
    cases e9
  · refine q_i2l dL_off_8 h (fun h => ?_)
    refine q_last dL_off_9 rfl rfl h (fun D2 h => ?_)
    refine p_goto (tgt := 17) dL_off_10 (by decide) ?_
    refine p_iconst dL_off_17 ?_
    exact p_ireturn dL_off_18 (Nat.le_of_ble_eq_true rfl) (Nat.le_of_ble_eq_true rfl) ⟨_, _, rfl, rfl, ok_some h⟩
set_option maxRecDepth 100000 in
theorem yw_L_move : YSW yL_move cL_move 8 (some .int) [(0, 16, 19, 19), (0, 16, 23, 13)] 7 := ⟨TBm (i := 1241) rfl rfl, TBm (i := 129) rfl rfl, by decide, by decide +kernel, TBm (i := 1240) rfl rfl⟩
set_option maxRecDepth 100000 in
set_option maxHeartbeats 4000000 in
theorem s_L_move {l : Launch} {g : GH} (hG : G0 l g) {n : Nat} {v1 : Int} {v2 : Int} {v3 : Int} {v4 : Int} {v5 : Int} {D : DT} {K : Int × DT → Prop} (h : ok (m_L_move v1 v2 v3 v4 v5 D) K) : SatW l g yL_move cL_move 8 (some .int) [(0, 16, 19, 19), (0, 16, 23, 13)] 11 5 30 [vR g 0, vI v1, vI v2, vI v3, vI v4, vI v5, vR g 102] (LF n) D (PIe K) := by
  refine SatW.of hG (by decide) (Nat.le_of_ble_eq_true rfl) (by simp [Value.category]) ?_
  refine p_aload dL_move_0 rfl ?_
  refine p_iconst dL_move_2 ?_
  refine p_aload_n dL_move_3 rfl ?_
  refine p_iload_n dL_move_4 rfl ?_
  refine p_iload_n dL_move_5 rfl ?_
  refine p_iload_n dL_move_6 rfl ?_
  refine p_iload dL_move_7 rfl ?_
  refine p_iload dL_move_9 rfl ?_
  refine cV_Xh [vI v1, vI v2, vI v3, vI v4, vI v5] [vI 0, vR g 102] dL_move_11 yv_X10_move ml_L_78 (r := (RX10, TX10, 7)) rfl rfl (Nat.le_of_ble_eq_true rfl) rfl (Nat.le_of_ble_eq_true rfl) (Nat.le_of_ble_eq_true rfl) (Nat.le_of_ble_eq_true rfl) rfl h (fun K h => s_X10_move hG h) (fun e n D h => ?_) (fun r D1 h => ?_)
  · by_cases e0 : e = 0
    · have h := (ok_ite h).1 e0
      subst e0
      refine px_catch [] (0, 16, 19, 19) [(0, 16, 23, 13)] rfl (fun z hz => by cases hz) (by decide) (by decide) lc_0 lk_0 (fun q => ?_)
      refine p_astore dL_move_19 (Nat.le_of_ble_eq_true rfl) rfl ?_
      refine p_iconst dL_move_21 ?_
      exact p_ireturn dL_move_22 (Nat.le_of_ble_eq_true rfl) (Nat.le_of_ble_eq_true rfl) ⟨_, _, rfl, rfl, ok_some h⟩
    have h := (ok_ite h).2 e0
    by_cases e2 : e = 2
    · have h := (ok_ite h).1 e2
      subst e2
      refine px_catch [(0, 16, 19, 19)] (0, 16, 23, 13) [] rfl (fun z hz => by rcases List.mem_cons.mp hz with rfl | hz; exact ⟨by decide, 0, lc_0, ln_2_0⟩; cases hz) (by decide) (by decide) lc_2 lk_2 (fun q => ?_)
      refine p_astore dL_move_23 (Nat.le_of_ble_eq_true rfl) rfl ?_
      refine p_iconst dL_move_25 ?_
      exact p_ireturn dL_move_26 (Nat.le_of_ble_eq_true rfl) (Nat.le_of_ble_eq_true rfl) ⟨_, _, rfl, rfl, ok_some h⟩
    have h := (ok_ite h).2 e2
    obtain ⟨_, e9, _⟩ := h
    cases e9
  · refine q_i2l dL_move_14 h (fun h => ?_)
    refine q_last dL_move_15 rfl rfl h (fun D2 h => ?_)
    refine p_goto (tgt := 27) dL_move_16 (by decide) ?_
    refine p_iconst dL_move_27 ?_
    exact p_ireturn dL_move_28 (Nat.le_of_ble_eq_true rfl) (Nat.le_of_ble_eq_true rfl) ⟨_, _, rfl, rfl, ok_some h⟩
set_option maxRecDepth 100000 in
theorem yw_L_tries : YSW yL_tries cL_tries 9 (some .int) [(0, 18, 21, 19), (0, 18, 25, 13)] 8 := ⟨TBm (i := 1269) rfl rfl, TBm (i := 129) rfl rfl, by decide, by decide +kernel, TBm (i := 1268) rfl rfl⟩
set_option maxRecDepth 100000 in
set_option maxHeartbeats 4000000 in
theorem s_L_tries {l : Launch} {g : GH} (hG : G0 l g) {n : Nat} {v1 : Int} {v2 : Int} {v3 : Int} {v4 : Int} {v5 : Int} {v6 : Int} {D : DT} {K : Int × DT → Prop} (h : ok (m_L_tries v1 v2 v3 v4 v5 v6 D) K) : SatW l g yL_tries cL_tries 9 (some .int) [(0, 18, 21, 19), (0, 18, 25, 13)] 11 6 36 [vR g 0, vI v1, vI v2, vI v3, vI v4, vI v5, vI v6, vR g 102] (LF n) D (PIe K) := by
  refine SatW.of hG (by decide) (Nat.le_of_ble_eq_true rfl) (by simp [Value.category]) ?_
  refine p_aload dL_tries_0 rfl ?_
  refine p_iconst dL_tries_2 ?_
  refine p_aload_n dL_tries_3 rfl ?_
  refine p_iload_n dL_tries_4 rfl ?_
  refine p_iload_n dL_tries_5 rfl ?_
  refine p_iload_n dL_tries_6 rfl ?_
  refine p_iload dL_tries_7 rfl ?_
  refine p_iload dL_tries_9 rfl ?_
  refine p_iload dL_tries_11 rfl ?_
  refine cV_Xh [vI v1, vI v2, vI v3, vI v4, vI v5, vI v6] [vI 0, vR g 102] dL_tries_13 yv_X10_tries ml_L_82 (r := (RX10, TX10, 7)) rfl rfl (Nat.le_of_ble_eq_true rfl) rfl (Nat.le_of_ble_eq_true rfl) (Nat.le_of_ble_eq_true rfl) (Nat.le_of_ble_eq_true rfl) rfl h (fun K h => s_X10_tries hG h) (fun e n D h => ?_) (fun r D1 h => ?_)
  · by_cases e0 : e = 0
    · have h := (ok_ite h).1 e0
      subst e0
      refine px_catch [] (0, 18, 21, 19) [(0, 18, 25, 13)] rfl (fun z hz => by cases hz) (by decide) (by decide) lc_0 lk_0 (fun q => ?_)
      refine p_astore dL_tries_21 (Nat.le_of_ble_eq_true rfl) rfl ?_
      refine p_iconst dL_tries_23 ?_
      exact p_ireturn dL_tries_24 (Nat.le_of_ble_eq_true rfl) (Nat.le_of_ble_eq_true rfl) ⟨_, _, rfl, rfl, ok_some h⟩
    have h := (ok_ite h).2 e0
    by_cases e2 : e = 2
    · have h := (ok_ite h).1 e2
      subst e2
      refine px_catch [(0, 18, 21, 19)] (0, 18, 25, 13) [] rfl (fun z hz => by rcases List.mem_cons.mp hz with rfl | hz; exact ⟨by decide, 0, lc_0, ln_2_0⟩; cases hz) (by decide) (by decide) lc_2 lk_2 (fun q => ?_)
      refine p_astore dL_tries_25 (Nat.le_of_ble_eq_true rfl) rfl ?_
      refine p_iconst dL_tries_27 ?_
      exact p_ireturn dL_tries_28 (Nat.le_of_ble_eq_true rfl) (Nat.le_of_ble_eq_true rfl) ⟨_, _, rfl, rfl, ok_some h⟩
    have h := (ok_ite h).2 e2
    obtain ⟨_, e9, _⟩ := h
    cases e9
  · refine q_i2l dL_tries_16 h (fun h => ?_)
    refine q_last dL_tries_17 rfl rfl h (fun D2 h => ?_)
    refine p_goto (tgt := 29) dL_tries_18 (by decide) ?_
    refine p_iconst dL_tries_29 ?_
    exact p_ireturn dL_tries_30 (Nat.le_of_ble_eq_true rfl) (Nat.le_of_ble_eq_true rfl) ⟨_, _, rfl, rfl, ok_some h⟩
set_option maxRecDepth 100000 in
theorem yw_L_run : YSW yL_run cL_run 7 (some .int) [(0, 14, 17, 19)] 6 := ⟨TBm (i := 1294) rfl rfl, TBm (i := 129) rfl rfl, by decide, by decide +kernel, TBm (i := 1293) rfl rfl⟩
set_option maxRecDepth 100000 in
set_option maxHeartbeats 4000000 in
theorem s_L_run {l : Launch} {g : GH} (hG : G0 l g) {n : Nat} {v1 : Int} {v2 : Int} {v3 : Int} {v4 : Int} {D : DT} {K : Int × DT → Prop} (h : ok (m_L_run v1 v2 v3 v4 D) K) : SatW l g yL_run cL_run 7 (some .int) [(0, 14, 17, 19)] 10 2 12 [vR g 0, vI v1, vI v2, vI v3, vI v4, vR g 102] (LF n) D (PIe K) := by
  refine SatW.of hG (by decide) (Nat.le_of_ble_eq_true rfl) (by simp [Value.category]) ?_
  refine p_aload dL_run_0 rfl ?_
  refine p_iconst dL_run_2 ?_
  refine p_aload_n dL_run_3 rfl ?_
  refine p_iload_n dL_run_4 rfl ?_
  refine p_iload_n dL_run_5 rfl ?_
  refine p_iload_n dL_run_6 rfl ?_
  refine p_iload dL_run_7 rfl ?_
  refine cV_Xh [vI v1, vI v2, vI v3, vI v4] [vI 0, vR g 102] dL_run_9 yv_X10_run ml_L_86 (r := (RX10, TX10, 7)) rfl rfl (Nat.le_of_ble_eq_true rfl) rfl (Nat.le_of_ble_eq_true rfl) (Nat.le_of_ble_eq_true rfl) (Nat.le_of_ble_eq_true rfl) rfl h (fun K h => s_X10_run hG h) (fun e n D h => ?_) (fun r D1 h => ?_)
  · by_cases e0 : e = 0
    · have h := (ok_ite h).1 e0
      subst e0
      refine px_catch [] (0, 14, 17, 19) [] rfl (fun z hz => by cases hz) (by decide) (by decide) lc_0 lk_0 (fun q => ?_)
      refine p_astore dL_run_17 (Nat.le_of_ble_eq_true rfl) rfl ?_
      refine p_iconst dL_run_19 ?_
      exact p_ireturn dL_run_20 (Nat.le_of_ble_eq_true rfl) (Nat.le_of_ble_eq_true rfl) ⟨_, _, rfl, rfl, ok_some h⟩
    have h := (ok_ite h).2 e0
    obtain ⟨_, e9, _⟩ := h
    cases e9
  · refine q_i2l dL_run_12 h (fun h => ?_)
    refine q_last dL_run_13 rfl rfl h (fun D2 h => ?_)
    refine p_goto (tgt := 21) dL_run_14 (by decide) ?_
    refine p_iconst dL_run_21 ?_
    exact p_ireturn dL_run_22 (Nat.le_of_ble_eq_true rfl) (Nat.le_of_ble_eq_true rfl) ⟨_, _, rfl, rfl, ok_some h⟩
set_option maxRecDepth 100000 in
theorem yw_L_part : YSW yL_part cL_part 4 (some .int) [(0, 9, 12, 19)] 3 := ⟨TBm (i := 1310) rfl rfl, TBm (i := 129) rfl rfl, by decide, by decide +kernel, TBm (i := 1309) rfl rfl⟩
set_option maxRecDepth 100000 in
set_option maxHeartbeats 4000000 in
theorem s_L_part {l : Launch} {g : GH} (hG : G0 l g) {n : Nat} {v1 : Int} {D : DT} {K : Int × DT → Prop} (h : ok (m_L_part v1 D) K) : SatW l g yL_part cL_part 4 (some .int) [(0, 9, 12, 19)] 10 1 6 [vR g 0, vI v1, vR g 102] (LF n) D (PIe K) := by
  refine SatW.of hG (by decide) (Nat.le_of_ble_eq_true rfl) (by simp [Value.category]) ?_
  refine p_aload_n dL_part_0 rfl ?_
  refine p_iconst dL_part_1 ?_
  refine p_aload_n dL_part_2 rfl ?_
  refine p_iload_n dL_part_3 rfl ?_
  refine cV_Xh [vI v1] [vI 0, vR g 102] dL_part_4 yv_X10_part ml_L_90 (r := (RX10, TX10, 7)) rfl rfl (Nat.le_of_ble_eq_true rfl) rfl (Nat.le_of_ble_eq_true rfl) (Nat.le_of_ble_eq_true rfl) (Nat.le_of_ble_eq_true rfl) rfl h (fun K h => s_X10_part hG h) (fun e n D h => ?_) (fun r D1 h => ?_)
  · by_cases e0 : e = 0
    · have h := (ok_ite h).1 e0
      subst e0
      refine px_catch [] (0, 9, 12, 19) [] rfl (fun z hz => by cases hz) (by decide) (by decide) lc_0 lk_0 (fun q => ?_)
      refine p_astore_n dL_part_12 (Nat.le_of_ble_eq_true rfl) rfl ?_
      refine p_iconst dL_part_13 ?_
      exact p_ireturn dL_part_14 (Nat.le_of_ble_eq_true rfl) (Nat.le_of_ble_eq_true rfl) ⟨_, _, rfl, rfl, ok_some h⟩
    have h := (ok_ite h).2 e0
    obtain ⟨_, e9, _⟩ := h
    cases e9
  · refine q_i2l dL_part_7 h (fun h => ?_)
    refine q_last dL_part_8 rfl rfl h (fun D2 h => ?_)
    refine p_goto (tgt := 15) dL_part_9 (by decide) ?_
    refine p_iconst dL_part_15 ?_
    exact p_ireturn dL_part_16 (Nat.le_of_ble_eq_true rfl) (Nat.le_of_ble_eq_true rfl) ⟨_, _, rfl, rfl, ok_some h⟩
set_option maxRecDepth 100000 in
theorem yw_L_measure : YSW yL_measure cL_measure 7 (some .int) [(0, 14, 17, 19), (0, 14, 21, 21), (0, 14, 25, 13)] 6 := ⟨TBm (i := 1318) rfl rfl, TBm (i := 129) rfl rfl, by decide, by decide +kernel, TBm (i := 1317) rfl rfl⟩
set_option maxRecDepth 100000 in
set_option maxHeartbeats 4000000 in
theorem s_L_measure {l : Launch} {g : GH} (hG : G0 l g) {n : Nat} {v1 : Int} {v2 : Int} {v3 : Int} {v4 : Int} {D : DT} {K : Int × DT → Prop} (h : ok (m_L_measure v1 v2 v3 v4 D) K) : SatW l g yL_measure cL_measure 7 (some .int) [(0, 14, 17, 19), (0, 14, 21, 21), (0, 14, 25, 13)] 10 4 24 [vR g 0, vI v1, vI v2, vI v3, vI v4, vR g 102] (LF n) D (PIe K) := by
  refine SatW.of hG (by decide) (Nat.le_of_ble_eq_true rfl) (by simp [Value.category]) ?_
  refine p_aload dL_measure_0 rfl ?_
  refine p_iconst dL_measure_2 ?_
  refine p_aload_n dL_measure_3 rfl ?_
  refine p_iload_n dL_measure_4 rfl ?_
  refine p_iload_n dL_measure_5 rfl ?_
  refine p_iload_n dL_measure_6 rfl ?_
  refine p_iload dL_measure_7 rfl ?_
  refine cV_Xh [vI v1, vI v2, vI v3, vI v4] [vI 0, vR g 102] dL_measure_9 yv_X10_measure ml_L_93 (r := (RX10, TX10, 7)) rfl rfl (Nat.le_of_ble_eq_true rfl) rfl (Nat.le_of_ble_eq_true rfl) (Nat.le_of_ble_eq_true rfl) (Nat.le_of_ble_eq_true rfl) rfl h (fun K h => s_X10_measure hG h) (fun e n D h => ?_) (fun r D1 h => ?_)
  · by_cases e0 : e = 0
    · have h := (ok_ite h).1 e0
      subst e0
      refine px_catch [] (0, 14, 17, 19) [(0, 14, 21, 21), (0, 14, 25, 13)] rfl (fun z hz => by cases hz) (by decide) (by decide) lc_0 lk_0 (fun q => ?_)
      refine p_astore dL_measure_17 (Nat.le_of_ble_eq_true rfl) rfl ?_
      refine p_iconst dL_measure_19 ?_
      exact p_ireturn dL_measure_20 (Nat.le_of_ble_eq_true rfl) (Nat.le_of_ble_eq_true rfl) ⟨_, _, rfl, rfl, ok_some h⟩
    have h := (ok_ite h).2 e0
    by_cases e1 : e = 1
    · have h := (ok_ite h).1 e1
      subst e1
      refine px_catch [(0, 14, 17, 19)] (0, 14, 21, 21) [(0, 14, 25, 13)] rfl (fun z hz => by rcases List.mem_cons.mp hz with rfl | hz; exact ⟨by decide, 0, lc_0, ln_1_0⟩; cases hz) (by decide) (by decide) lc_1 lk_1 (fun q => ?_)
      refine p_astore dL_measure_21 (Nat.le_of_ble_eq_true rfl) rfl ?_
      refine p_iconst dL_measure_23 ?_
      exact p_ireturn dL_measure_24 (Nat.le_of_ble_eq_true rfl) (Nat.le_of_ble_eq_true rfl) ⟨_, _, rfl, rfl, ok_some h⟩
    have h := (ok_ite h).2 e1
    by_cases e2 : e = 2
    · have h := (ok_ite h).1 e2
      subst e2
      refine px_catch [(0, 14, 17, 19), (0, 14, 21, 21)] (0, 14, 25, 13) [] rfl (fun z hz => by rcases List.mem_cons.mp hz with rfl | hz; exact ⟨by decide, 0, lc_0, ln_2_0⟩; rcases List.mem_cons.mp hz with rfl | hz; exact ⟨by decide, 1, lc_1, ln_2_1⟩; cases hz) (by decide) (by decide) lc_2 lk_2 (fun q => ?_)
      refine p_astore dL_measure_25 (Nat.le_of_ble_eq_true rfl) rfl ?_
      refine p_iconst dL_measure_27 ?_
      exact p_ireturn dL_measure_28 (Nat.le_of_ble_eq_true rfl) (Nat.le_of_ble_eq_true rfl) ⟨_, _, rfl, rfl, ok_some h⟩
    have h := (ok_ite h).2 e2
    obtain ⟨_, e9, _⟩ := h
    cases e9
  · refine q_i2l dL_measure_12 h (fun h => ?_)
    refine q_last dL_measure_13 rfl rfl h (fun D2 h => ?_)
    refine p_goto (tgt := 29) dL_measure_14 (by decide) ?_
    refine p_iconst dL_measure_29 ?_
    exact p_ireturn dL_measure_30 (Nat.le_of_ble_eq_true rfl) (Nat.le_of_ble_eq_true rfl) ⟨_, _, rfl, rfl, ok_some h⟩
set_option maxRecDepth 100000 in
theorem yw_L_best : YSW yL_best cL_best 6 (some .int) [(0, 12, 15, 19), (0, 12, 19, 21), (0, 12, 23, 13)] 5 := ⟨TBm (i := 1355) rfl rfl, TBm (i := 129) rfl rfl, by decide, by decide +kernel, TBm (i := 1354) rfl rfl⟩
set_option maxRecDepth 100000 in
set_option maxHeartbeats 4000000 in
theorem s_L_best {l : Launch} {g : GH} (hG : G0 l g) {n : Nat} {v1 : Int} {v2 : Int} {v3 : Int} {D : DT} {K : Int × DT → Prop} (h : ok (m_L_best v1 v2 v3 D) K) : SatW l g yL_best cL_best 6 (some .int) [(0, 12, 15, 19), (0, 12, 19, 21), (0, 12, 23, 13)] 10 3 18 [vR g 0, vI v1, vI v2, vI v3, vR g 102] (LF n) D (PIe K) := by
  refine SatW.of hG (by decide) (Nat.le_of_ble_eq_true rfl) (by simp [Value.category]) ?_
  refine p_aload dL_best_0 rfl ?_
  refine p_iconst dL_best_2 ?_
  refine p_aload_n dL_best_3 rfl ?_
  refine p_iload_n dL_best_4 rfl ?_
  refine p_iload_n dL_best_5 rfl ?_
  refine p_iload_n dL_best_6 rfl ?_
  refine cV_Xh [vI v1, vI v2, vI v3] [vI 0, vR g 102] dL_best_7 yv_X10_best ml_L_96 (r := (RX10, TX10, 7)) rfl rfl (Nat.le_of_ble_eq_true rfl) rfl (Nat.le_of_ble_eq_true rfl) (Nat.le_of_ble_eq_true rfl) (Nat.le_of_ble_eq_true rfl) rfl h (fun K h => s_X10_best hG h) (fun e n D h => ?_) (fun r D1 h => ?_)
  · by_cases e0 : e = 0
    · have h := (ok_ite h).1 e0
      subst e0
      refine px_catch [] (0, 12, 15, 19) [(0, 12, 19, 21), (0, 12, 23, 13)] rfl (fun z hz => by cases hz) (by decide) (by decide) lc_0 lk_0 (fun q => ?_)
      refine p_astore dL_best_15 (Nat.le_of_ble_eq_true rfl) rfl ?_
      refine p_iconst dL_best_17 ?_
      exact p_ireturn dL_best_18 (Nat.le_of_ble_eq_true rfl) (Nat.le_of_ble_eq_true rfl) ⟨_, _, rfl, rfl, ok_some h⟩
    have h := (ok_ite h).2 e0
    by_cases e1 : e = 1
    · have h := (ok_ite h).1 e1
      subst e1
      refine px_catch [(0, 12, 15, 19)] (0, 12, 19, 21) [(0, 12, 23, 13)] rfl (fun z hz => by rcases List.mem_cons.mp hz with rfl | hz; exact ⟨by decide, 0, lc_0, ln_1_0⟩; cases hz) (by decide) (by decide) lc_1 lk_1 (fun q => ?_)
      refine p_astore dL_best_19 (Nat.le_of_ble_eq_true rfl) rfl ?_
      refine p_iconst dL_best_21 ?_
      exact p_ireturn dL_best_22 (Nat.le_of_ble_eq_true rfl) (Nat.le_of_ble_eq_true rfl) ⟨_, _, rfl, rfl, ok_some h⟩
    have h := (ok_ite h).2 e1
    by_cases e2 : e = 2
    · have h := (ok_ite h).1 e2
      subst e2
      refine px_catch [(0, 12, 15, 19), (0, 12, 19, 21)] (0, 12, 23, 13) [] rfl (fun z hz => by rcases List.mem_cons.mp hz with rfl | hz; exact ⟨by decide, 0, lc_0, ln_2_0⟩; rcases List.mem_cons.mp hz with rfl | hz; exact ⟨by decide, 1, lc_1, ln_2_1⟩; cases hz) (by decide) (by decide) lc_2 lk_2 (fun q => ?_)
      refine p_astore dL_best_23 (Nat.le_of_ble_eq_true rfl) rfl ?_
      refine p_iconst dL_best_25 ?_
      exact p_ireturn dL_best_26 (Nat.le_of_ble_eq_true rfl) (Nat.le_of_ble_eq_true rfl) ⟨_, _, rfl, rfl, ok_some h⟩
    have h := (ok_ite h).2 e2
    obtain ⟨_, e9, _⟩ := h
    cases e9
  · refine q_i2l dL_best_10 h (fun h => ?_)
    refine q_last dL_best_11 rfl rfl h (fun D2 h => ?_)
    refine p_goto (tgt := 27) dL_best_12 (by decide) ?_
    refine p_iconst dL_best_27 ?_
    exact p_ireturn dL_best_28 (Nat.le_of_ble_eq_true rfl) (Nat.le_of_ble_eq_true rfl) ⟨_, _, rfl, rfl, ok_some h⟩
set_option maxRecDepth 100000 in
theorem yw_L_nearest : YSW yL_nearest cL_nearest 5 (some .int) [(0, 10, 13, 19)] 4 := ⟨TBm (i := 1368) rfl rfl, TBm (i := 129) rfl rfl, by decide, by decide +kernel, TBm (i := 1367) rfl rfl⟩
set_option maxRecDepth 100000 in
set_option maxHeartbeats 4000000 in
theorem s_L_nearest {l : Launch} {g : GH} (hG : G0 l g) {n : Nat} {v1 : Int} {v2 : Int} {D : DT} {K : Int × DT → Prop} (h : ok (m_L_nearest v1 v2 D) K) : SatW l g yL_nearest cL_nearest 5 (some .int) [(0, 10, 13, 19)] 10 2 12 [vR g 0, vI v1, vI v2, vR g 102] (LF n) D (PIe K) := by
  refine SatW.of hG (by decide) (Nat.le_of_ble_eq_true rfl) (by simp [Value.category]) ?_
  refine p_aload_n dL_nearest_0 rfl ?_
  refine p_iconst dL_nearest_1 ?_
  refine p_aload_n dL_nearest_2 rfl ?_
  refine p_iload_n dL_nearest_3 rfl ?_
  refine p_iload_n dL_nearest_4 rfl ?_
  refine cV_Xh [vI v1, vI v2] [vI 0, vR g 102] dL_nearest_5 yv_X10_nearest ml_L_99 (r := (RX10, TX10, 7)) rfl rfl (Nat.le_of_ble_eq_true rfl) rfl (Nat.le_of_ble_eq_true rfl) (Nat.le_of_ble_eq_true rfl) (Nat.le_of_ble_eq_true rfl) rfl h (fun K h => s_X10_nearest hG h) (fun e n D h => ?_) (fun r D1 h => ?_)
  · by_cases e0 : e = 0
    · have h := (ok_ite h).1 e0
      subst e0
      refine px_catch [] (0, 10, 13, 19) [] rfl (fun z hz => by cases hz) (by decide) (by decide) lc_0 lk_0 (fun q => ?_)
      refine p_astore dL_nearest_13 (Nat.le_of_ble_eq_true rfl) rfl ?_
      refine p_iconst dL_nearest_15 ?_
      exact p_ireturn dL_nearest_16 (Nat.le_of_ble_eq_true rfl) (Nat.le_of_ble_eq_true rfl) ⟨_, _, rfl, rfl, ok_some h⟩
    have h := (ok_ite h).2 e0
    obtain ⟨_, e9, _⟩ := h
    cases e9
  · refine q_i2l dL_nearest_8 h (fun h => ?_)
    refine q_last dL_nearest_9 rfl rfl h (fun D2 h => ?_)
    refine p_goto (tgt := 17) dL_nearest_10 (by decide) ?_
    refine p_iconst dL_nearest_17 ?_
    exact p_ireturn dL_nearest_18 (Nat.le_of_ble_eq_true rfl) (Nat.le_of_ble_eq_true rfl) ⟨_, _, rfl, rfl, ok_some h⟩
set_option maxRecDepth 100000 in
theorem yw_L_served : YSW yL_served cL_served 5 (some .int) [(0, 10, 13, 19)] 4 := ⟨TBm (i := 1376) rfl rfl, TBm (i := 129) rfl rfl, by decide, by decide +kernel, TBm (i := 1375) rfl rfl⟩
set_option maxRecDepth 100000 in
set_option maxHeartbeats 4000000 in
theorem s_L_served {l : Launch} {g : GH} (hG : G0 l g) {n : Nat} {v1 : Int} {v2 : Int} {D : DT} {K : Int × DT → Prop} (h : ok (m_L_served v1 v2 D) K) : SatW l g yL_served cL_served 5 (some .int) [(0, 10, 13, 19)] 10 2 12 [vR g 0, vI v1, vI v2, vR g 102] (LF n) D (PIe K) := by
  refine SatW.of hG (by decide) (Nat.le_of_ble_eq_true rfl) (by simp [Value.category]) ?_
  refine p_aload_n dL_served_0 rfl ?_
  refine p_iconst dL_served_1 ?_
  refine p_aload_n dL_served_2 rfl ?_
  refine p_iload_n dL_served_3 rfl ?_
  refine p_iload_n dL_served_4 rfl ?_
  refine cV_Xh [vI v1, vI v2] [vI 0, vR g 102] dL_served_5 yv_X10_served ml_L_102 (r := (RX10, TX10, 7)) rfl rfl (Nat.le_of_ble_eq_true rfl) rfl (Nat.le_of_ble_eq_true rfl) (Nat.le_of_ble_eq_true rfl) (Nat.le_of_ble_eq_true rfl) rfl h (fun K h => s_X10_served hG h) (fun e n D h => ?_) (fun r D1 h => ?_)
  · by_cases e0 : e = 0
    · have h := (ok_ite h).1 e0
      subst e0
      refine px_catch [] (0, 10, 13, 19) [] rfl (fun z hz => by cases hz) (by decide) (by decide) lc_0 lk_0 (fun q => ?_)
      refine p_astore dL_served_13 (Nat.le_of_ble_eq_true rfl) rfl ?_
      refine p_iconst dL_served_15 ?_
      exact p_ireturn dL_served_16 (Nat.le_of_ble_eq_true rfl) (Nat.le_of_ble_eq_true rfl) ⟨_, _, rfl, rfl, ok_some h⟩
    have h := (ok_ite h).2 e0
    obtain ⟨_, e9, _⟩ := h
    cases e9
  · refine q_i2l dL_served_8 h (fun h => ?_)
    refine q_last dL_served_9 rfl rfl h (fun D2 h => ?_)
    refine p_goto (tgt := 17) dL_served_10 (by decide) ?_
    refine p_iconst dL_served_17 ?_
    exact p_ireturn dL_served_18 (Nat.le_of_ble_eq_true rfl) (Nat.le_of_ble_eq_true rfl) ⟨_, _, rfl, rfl, ok_some h⟩
set_option maxRecDepth 100000 in
theorem yw_L_thinned : YSW yL_thinned cL_thinned 6 (some .int) [(0, 12, 15, 19), (0, 12, 19, 13)] 5 := ⟨TBm (i := 1391) rfl rfl, TBm (i := 129) rfl rfl, by decide, by decide +kernel, TBm (i := 1390) rfl rfl⟩
set_option maxRecDepth 100000 in
set_option maxHeartbeats 4000000 in
theorem s_L_thinned {l : Launch} {g : GH} (hG : G0 l g) {n : Nat} {v1 : Int} {v2 : Int} {v3 : Int} {D : DT} {K : Int × DT → Prop} (h : ok (m_L_thinned v1 v2 v3 D) K) : SatW l g yL_thinned cL_thinned 6 (some .int) [(0, 12, 15, 19), (0, 12, 19, 13)] 10 2 12 [vR g 0, vI v1, vI v2, vI v3, vR g 102] (LF n) D (PIe K) := by
  refine SatW.of hG (by decide) (Nat.le_of_ble_eq_true rfl) (by simp [Value.category]) ?_
  refine p_aload dL_thinned_0 rfl ?_
  refine p_iconst dL_thinned_2 ?_
  refine p_aload_n dL_thinned_3 rfl ?_
  refine p_iload_n dL_thinned_4 rfl ?_
  refine p_iload_n dL_thinned_5 rfl ?_
  refine p_iload_n dL_thinned_6 rfl ?_
  refine cV_Xh [vI v1, vI v2, vI v3] [vI 0, vR g 102] dL_thinned_7 yv_X10_thinned ml_L_105 (r := (RX10, TX10, 7)) rfl rfl (Nat.le_of_ble_eq_true rfl) rfl (Nat.le_of_ble_eq_true rfl) (Nat.le_of_ble_eq_true rfl) (Nat.le_of_ble_eq_true rfl) rfl h (fun K h => s_X10_thinned hG h) (fun e n D h => ?_) (fun r D1 h => ?_)
  · by_cases e0 : e = 0
    · have h := (ok_ite h).1 e0
      subst e0
      refine px_catch [] (0, 12, 15, 19) [(0, 12, 19, 13)] rfl (fun z hz => by cases hz) (by decide) (by decide) lc_0 lk_0 (fun q => ?_)
      refine p_astore dL_thinned_15 (Nat.le_of_ble_eq_true rfl) rfl ?_
      refine p_iconst dL_thinned_17 ?_
      exact p_ireturn dL_thinned_18 (Nat.le_of_ble_eq_true rfl) (Nat.le_of_ble_eq_true rfl) ⟨_, _, rfl, rfl, ok_some h⟩
    have h := (ok_ite h).2 e0
    by_cases e2 : e = 2
    · have h := (ok_ite h).1 e2
      subst e2
      refine px_catch [(0, 12, 15, 19)] (0, 12, 19, 13) [] rfl (fun z hz => by rcases List.mem_cons.mp hz with rfl | hz; exact ⟨by decide, 0, lc_0, ln_2_0⟩; cases hz) (by decide) (by decide) lc_2 lk_2 (fun q => ?_)
      refine p_astore dL_thinned_19 (Nat.le_of_ble_eq_true rfl) rfl ?_
      refine p_iconst dL_thinned_21 ?_
      exact p_ireturn dL_thinned_22 (Nat.le_of_ble_eq_true rfl) (Nat.le_of_ble_eq_true rfl) ⟨_, _, rfl, rfl, ok_some h⟩
    have h := (ok_ite h).2 e2
    obtain ⟨_, e9, _⟩ := h
    cases e9
  · refine q_i2l dL_thinned_10 h (fun h => ?_)
    refine q_last dL_thinned_11 rfl rfl h (fun D2 h => ?_)
    refine p_goto (tgt := 23) dL_thinned_12 (by decide) ?_
    refine p_iconst dL_thinned_23 ?_
    exact p_ireturn dL_thinned_24 (Nat.le_of_ble_eq_true rfl) (Nat.le_of_ble_eq_true rfl) ⟨_, _, rfl, rfl, ok_some h⟩
set_option maxRecDepth 100000 in
theorem yw_L_tour : YSW yL_tour cL_tour 5 (some .int) [(0, 10, 13, 19)] 4 := ⟨TBm (i := 1455) rfl rfl, TBm (i := 129) rfl rfl, by decide, by decide +kernel, TBm (i := 1454) rfl rfl⟩
set_option maxRecDepth 100000 in
set_option maxHeartbeats 4000000 in
theorem s_L_tour {l : Launch} {g : GH} (hG : G0 l g) {n : Nat} {v1 : Int} {v2 : Int} {D : DT} {K : Int × DT → Prop} (h : ok (m_L_tour v1 v2 D) K) : SatW l g yL_tour cL_tour 5 (some .int) [(0, 10, 13, 19)] 10 1 6 [vR g 0, vI v1, vI v2, vR g 102] (LF n) D (PIe K) := by
  refine SatW.of hG (by decide) (Nat.le_of_ble_eq_true rfl) (by simp [Value.category]) ?_
  refine p_aload_n dL_tour_0 rfl ?_
  refine p_iconst dL_tour_1 ?_
  refine p_aload_n dL_tour_2 rfl ?_
  refine p_iload_n dL_tour_3 rfl ?_
  refine p_iload_n dL_tour_4 rfl ?_
  refine cV_Xh [vI v1, vI v2] [vI 0, vR g 102] dL_tour_5 yv_X10_tour ml_L_108 (r := (RX10, TX10, 7)) rfl rfl (Nat.le_of_ble_eq_true rfl) rfl (Nat.le_of_ble_eq_true rfl) (Nat.le_of_ble_eq_true rfl) (Nat.le_of_ble_eq_true rfl) rfl h (fun K h => s_X10_tour hG h) (fun e n D h => ?_) (fun r D1 h => ?_)
  · by_cases e0 : e = 0
    · have h := (ok_ite h).1 e0
      subst e0
      refine px_catch [] (0, 10, 13, 19) [] rfl (fun z hz => by cases hz) (by decide) (by decide) lc_0 lk_0 (fun q => ?_)
      refine p_astore dL_tour_13 (Nat.le_of_ble_eq_true rfl) rfl ?_
      refine p_iconst dL_tour_15 ?_
      exact p_ireturn dL_tour_16 (Nat.le_of_ble_eq_true rfl) (Nat.le_of_ble_eq_true rfl) ⟨_, _, rfl, rfl, ok_some h⟩
    have h := (ok_ite h).2 e0
    obtain ⟨_, e9, _⟩ := h
    cases e9
  · refine q_i2l dL_tour_8 h (fun h => ?_)
    refine q_last dL_tour_9 rfl rfl h (fun D2 h => ?_)
    refine p_goto (tgt := 17) dL_tour_10 (by decide) ?_
    refine p_iconst dL_tour_17 ?_
    exact p_ireturn dL_tour_18 (Nat.le_of_ble_eq_true rfl) (Nat.le_of_ble_eq_true rfl) ⟨_, _, rfl, rfl, ok_some h⟩
set_option maxRecDepth 100000 in
theorem yw_L_way : YSW yL_way cL_way 4 (some .int) [(0, 9, 12, 19)] 3 := ⟨TBm (i := 1462) rfl rfl, TBm (i := 129) rfl rfl, by decide, by decide +kernel, TBm (i := 1461) rfl rfl⟩
set_option maxRecDepth 100000 in
set_option maxHeartbeats 4000000 in
theorem s_L_way {l : Launch} {g : GH} (hG : G0 l g) {n : Nat} {v1 : Int} {D : DT} {K : Int × DT → Prop} (h : ok (m_L_way v1 D) K) : SatW l g yL_way cL_way 4 (some .int) [(0, 9, 12, 19)] 10 1 6 [vR g 0, vI v1, vR g 102] (LF n) D (PIe K) := by
  refine SatW.of hG (by decide) (Nat.le_of_ble_eq_true rfl) (by simp [Value.category]) ?_
  refine p_aload_n dL_way_0 rfl ?_
  refine p_iconst dL_way_1 ?_
  refine p_aload_n dL_way_2 rfl ?_
  refine p_iload_n dL_way_3 rfl ?_
  refine cV_Xh [vI v1] [vI 0, vR g 102] dL_way_4 yv_X10_way ml_L_111 (r := (RX10, TX10, 7)) rfl rfl (Nat.le_of_ble_eq_true rfl) rfl (Nat.le_of_ble_eq_true rfl) (Nat.le_of_ble_eq_true rfl) (Nat.le_of_ble_eq_true rfl) rfl h (fun K h => s_X10_way hG h) (fun e n D h => ?_) (fun r D1 h => ?_)
  · by_cases e0 : e = 0
    · have h := (ok_ite h).1 e0
      subst e0
      refine px_catch [] (0, 9, 12, 19) [] rfl (fun z hz => by cases hz) (by decide) (by decide) lc_0 lk_0 (fun q => ?_)
      refine p_astore_n dL_way_12 (Nat.le_of_ble_eq_true rfl) rfl ?_
      refine p_iconst dL_way_13 ?_
      exact p_ireturn dL_way_14 (Nat.le_of_ble_eq_true rfl) (Nat.le_of_ble_eq_true rfl) ⟨_, _, rfl, rfl, ok_some h⟩
    have h := (ok_ite h).2 e0
    obtain ⟨_, e9, _⟩ := h
    cases e9
  · refine q_i2l dL_way_7 h (fun h => ?_)
    refine q_last dL_way_8 rfl rfl h (fun D2 h => ?_)
    refine p_goto (tgt := 15) dL_way_9 (by decide) ?_
    refine p_iconst dL_way_15 ?_
    exact p_ireturn dL_way_16 (Nat.le_of_ble_eq_true rfl) (Nat.le_of_ble_eq_true rfl) ⟨_, _, rfl, rfl, ok_some h⟩
set_option maxRecDepth 100000 in
theorem yw_L_hull : YSW yL_hull cL_hull 5 (some .int) [(0, 10, 13, 19)] 4 := ⟨TBm (i := 1469) rfl rfl, TBm (i := 129) rfl rfl, by decide, by decide +kernel, TBm (i := 1468) rfl rfl⟩
set_option maxRecDepth 100000 in
set_option maxHeartbeats 4000000 in
theorem s_L_hull {l : Launch} {g : GH} (hG : G0 l g) {n : Nat} {v1 : Int} {v2 : Int} {D : DT} {K : Int × DT → Prop} (h : ok (m_L_hull v1 v2 D) K) : SatW l g yL_hull cL_hull 5 (some .int) [(0, 10, 13, 19)] 10 1 6 [vR g 0, vI v1, vI v2, vR g 102] (LF n) D (PIe K) := by
  refine SatW.of hG (by decide) (Nat.le_of_ble_eq_true rfl) (by simp [Value.category]) ?_
  refine p_aload_n dL_hull_0 rfl ?_
  refine p_iconst dL_hull_1 ?_
  refine p_aload_n dL_hull_2 rfl ?_
  refine p_iload_n dL_hull_3 rfl ?_
  refine p_iload_n dL_hull_4 rfl ?_
  refine cV_Xh [vI v1, vI v2] [vI 0, vR g 102] dL_hull_5 yv_X10_hull ml_L_114 (r := (RX10, TX10, 7)) rfl rfl (Nat.le_of_ble_eq_true rfl) rfl (Nat.le_of_ble_eq_true rfl) (Nat.le_of_ble_eq_true rfl) (Nat.le_of_ble_eq_true rfl) rfl h (fun K h => s_X10_hull hG h) (fun e n D h => ?_) (fun r D1 h => ?_)
  · by_cases e0 : e = 0
    · have h := (ok_ite h).1 e0
      subst e0
      refine px_catch [] (0, 10, 13, 19) [] rfl (fun z hz => by cases hz) (by decide) (by decide) lc_0 lk_0 (fun q => ?_)
      refine p_astore dL_hull_13 (Nat.le_of_ble_eq_true rfl) rfl ?_
      refine p_iconst dL_hull_15 ?_
      exact p_ireturn dL_hull_16 (Nat.le_of_ble_eq_true rfl) (Nat.le_of_ble_eq_true rfl) ⟨_, _, rfl, rfl, ok_some h⟩
    have h := (ok_ite h).2 e0
    obtain ⟨_, e9, _⟩ := h
    cases e9
  · refine q_i2l dL_hull_8 h (fun h => ?_)
    refine q_last dL_hull_9 rfl rfl h (fun D2 h => ?_)
    refine p_goto (tgt := 17) dL_hull_10 (by decide) ?_
    refine p_iconst dL_hull_17 ?_
    exact p_ireturn dL_hull_18 (Nat.le_of_ble_eq_true rfl) (Nat.le_of_ble_eq_true rfl) ⟨_, _, rfl, rfl, ok_some h⟩
set_option maxRecDepth 100000 in
theorem yw_L_area : YSW yL_area cL_area 4 (some .int) [(0, 9, 12, 19)] 3 := ⟨TBm (i := 1476) rfl rfl, TBm (i := 129) rfl rfl, by decide, by decide +kernel, TBm (i := 1475) rfl rfl⟩
set_option maxRecDepth 100000 in
set_option maxHeartbeats 4000000 in
theorem s_L_area {l : Launch} {g : GH} (hG : G0 l g) {n : Nat} {v1 : Int} {D : DT} {K : Int × DT → Prop} (h : ok (m_L_area v1 D) K) : SatW l g yL_area cL_area 4 (some .int) [(0, 9, 12, 19)] 10 1 6 [vR g 0, vI v1, vR g 102] (LF n) D (PIe K) := by
  refine SatW.of hG (by decide) (Nat.le_of_ble_eq_true rfl) (by simp [Value.category]) ?_
  refine p_aload_n dL_area_0 rfl ?_
  refine p_iconst dL_area_1 ?_
  refine p_aload_n dL_area_2 rfl ?_
  refine p_iload_n dL_area_3 rfl ?_
  refine cV_Xh [vI v1] [vI 0, vR g 102] dL_area_4 yv_X10_area ml_L_117 (r := (RX10, TX10, 7)) rfl rfl (Nat.le_of_ble_eq_true rfl) rfl (Nat.le_of_ble_eq_true rfl) (Nat.le_of_ble_eq_true rfl) (Nat.le_of_ble_eq_true rfl) rfl h (fun K h => s_X10_area hG h) (fun e n D h => ?_) (fun r D1 h => ?_)
  · by_cases e0 : e = 0
    · have h := (ok_ite h).1 e0
      subst e0
      refine px_catch [] (0, 9, 12, 19) [] rfl (fun z hz => by cases hz) (by decide) (by decide) lc_0 lk_0 (fun q => ?_)
      refine p_astore_n dL_area_12 (Nat.le_of_ble_eq_true rfl) rfl ?_
      refine p_iconst dL_area_13 ?_
      exact p_ireturn dL_area_14 (Nat.le_of_ble_eq_true rfl) (Nat.le_of_ble_eq_true rfl) ⟨_, _, rfl, rfl, ok_some h⟩
    have h := (ok_ite h).2 e0
    obtain ⟨_, e9, _⟩ := h
    cases e9
  · refine q_i2l dL_area_7 h (fun h => ?_)
    refine q_last dL_area_8 rfl rfl h (fun D2 h => ?_)
    refine p_goto (tgt := 15) dL_area_9 (by decide) ?_
    refine p_iconst dL_area_15 ?_
    exact p_ireturn dL_area_16 (Nat.le_of_ble_eq_true rfl) (Nat.le_of_ble_eq_true rfl) ⟨_, _, rfl, rfl, ok_some h⟩
set_option maxRecDepth 100000 in
theorem yw_L_middle : YSW yL_middle cL_middle 5 (some .int) [(0, 10, 13, 19)] 4 := ⟨TBm (i := 1487) rfl rfl, TBm (i := 129) rfl rfl, by decide, by decide +kernel, TBm (i := 1486) rfl rfl⟩
set_option maxRecDepth 100000 in
set_option maxHeartbeats 4000000 in
theorem s_L_middle {l : Launch} {g : GH} (hG : G0 l g) {n : Nat} {v1 : Int} {v2 : Int} {D : DT} {K : Int × DT → Prop} (h : ok (m_L_middle v1 v2 D) K) : SatW l g yL_middle cL_middle 5 (some .int) [(0, 10, 13, 19)] 11 2 12 [vR g 0, vI v1, vI v2, vR g 102] (LF n) D (PIe K) := by
  refine SatW.of hG (by decide) (Nat.le_of_ble_eq_true rfl) (by simp [Value.category]) ?_
  refine p_aload_n dL_middle_0 rfl ?_
  refine p_iconst dL_middle_1 ?_
  refine p_aload_n dL_middle_2 rfl ?_
  refine p_iload_n dL_middle_3 rfl ?_
  refine p_iload_n dL_middle_4 rfl ?_
  refine cV_Xh [vI v1, vI v2] [vI 0, vR g 102] dL_middle_5 yv_X10_middle ml_L_120 (r := (RX10, TX10, 7)) rfl rfl (Nat.le_of_ble_eq_true rfl) rfl (Nat.le_of_ble_eq_true rfl) (Nat.le_of_ble_eq_true rfl) (Nat.le_of_ble_eq_true rfl) rfl h (fun K h => s_X10_middle hG h) (fun e n D h => ?_) (fun r D1 h => ?_)
  · by_cases e0 : e = 0
    · have h := (ok_ite h).1 e0
      subst e0
      refine px_catch [] (0, 10, 13, 19) [] rfl (fun z hz => by cases hz) (by decide) (by decide) lc_0 lk_0 (fun q => ?_)
      refine p_astore dL_middle_13 (Nat.le_of_ble_eq_true rfl) rfl ?_
      refine p_iconst dL_middle_15 ?_
      exact p_ireturn dL_middle_16 (Nat.le_of_ble_eq_true rfl) (Nat.le_of_ble_eq_true rfl) ⟨_, _, rfl, rfl, ok_some h⟩
    have h := (ok_ite h).2 e0
    obtain ⟨_, e9, _⟩ := h
    cases e9
  · refine q_i2l dL_middle_8 h (fun h => ?_)
    refine q_last dL_middle_9 rfl rfl h (fun D2 h => ?_)
    refine p_goto (tgt := 17) dL_middle_10 (by decide) ?_
    refine p_iconst dL_middle_17 ?_
    exact p_ireturn dL_middle_18 (Nat.le_of_ble_eq_true rfl) (Nat.le_of_ble_eq_true rfl) ⟨_, _, rfl, rfl, ok_some h⟩
set_option maxRecDepth 100000 in
theorem yw_L_line : YSW yL_line cL_line 6 (some .int) [(0, 12, 15, 19)] 5 := ⟨TBm (i := 1505) rfl rfl, TBm (i := 129) rfl rfl, by decide, by decide +kernel, TBm (i := 1504) rfl rfl⟩
set_option maxRecDepth 100000 in
set_option maxHeartbeats 4000000 in
theorem s_L_line {l : Launch} {g : GH} (hG : G0 l g) {n : Nat} {v1 : Int} {v2 : Int} {v3 : Int} {D : DT} {K : Int × DT → Prop} (h : ok (m_L_line v1 v2 v3 D) K) : SatW l g yL_line cL_line 6 (some .int) [(0, 12, 15, 19)] 10 1 6 [vR g 0, vI v1, vI v2, vI v3, vR g 102] (LF n) D (PIe K) := by
  refine SatW.of hG (by decide) (Nat.le_of_ble_eq_true rfl) (by simp [Value.category]) ?_
  refine p_aload dL_line_0 rfl ?_
  refine p_iconst dL_line_2 ?_
  refine p_aload_n dL_line_3 rfl ?_
  refine p_iload_n dL_line_4 rfl ?_
  refine p_iload_n dL_line_5 rfl ?_
  refine p_iload_n dL_line_6 rfl ?_
  refine cV_Xh [vI v1, vI v2, vI v3] [vI 0, vR g 102] dL_line_7 yv_X10_line ml_L_123 (r := (RX10, TX10, 7)) rfl rfl (Nat.le_of_ble_eq_true rfl) rfl (Nat.le_of_ble_eq_true rfl) (Nat.le_of_ble_eq_true rfl) (Nat.le_of_ble_eq_true rfl) rfl h (fun K h => s_X10_line hG h) (fun e n D h => ?_) (fun r D1 h => ?_)
  · by_cases e0 : e = 0
    · have h := (ok_ite h).1 e0
      subst e0
      refine px_catch [] (0, 12, 15, 19) [] rfl (fun z hz => by cases hz) (by decide) (by decide) lc_0 lk_0 (fun q => ?_)
      refine p_astore dL_line_15 (Nat.le_of_ble_eq_true rfl) rfl ?_
      refine p_iconst dL_line_17 ?_
      exact p_ireturn dL_line_18 (Nat.le_of_ble_eq_true rfl) (Nat.le_of_ble_eq_true rfl) ⟨_, _, rfl, rfl, ok_some h⟩
    have h := (ok_ite h).2 e0
    obtain ⟨_, e9, _⟩ := h
    cases e9
  · refine q_i2l dL_line_10 h (fun h => ?_)
    refine q_last dL_line_11 rfl rfl h (fun D2 h => ?_)
    refine p_goto (tgt := 19) dL_line_12 (by decide) ?_
    refine p_iconst dL_line_19 ?_
    exact p_ireturn dL_line_20 (Nat.le_of_ble_eq_true rfl) (Nat.le_of_ble_eq_true rfl) ⟨_, _, rfl, rfl, ok_some h⟩
set_option maxRecDepth 100000 in
theorem yw_L_joined : YSW yL_joined cL_joined 6 (some .int) [(0, 12, 15, 19), (0, 12, 19, 13)] 5 := ⟨TBm (i := 1521) rfl rfl, TBm (i := 129) rfl rfl, by decide, by decide +kernel, TBm (i := 1520) rfl rfl⟩
set_option maxRecDepth 100000 in
set_option maxHeartbeats 4000000 in
theorem s_L_joined {l : Launch} {g : GH} (hG : G0 l g) {n : Nat} {v1 : Int} {v2 : Int} {v3 : Int} {D : DT} {K : Int × DT → Prop} (h : ok (m_L_joined v1 v2 v3 D) K) : SatW l g yL_joined cL_joined 6 (some .int) [(0, 12, 15, 19), (0, 12, 19, 13)] 10 4 24 [vR g 0, vI v1, vI v2, vI v3, vR g 102] (LF n) D (PIe K) := by
  refine SatW.of hG (by decide) (Nat.le_of_ble_eq_true rfl) (by simp [Value.category]) ?_
  refine p_aload dL_joined_0 rfl ?_
  refine p_iconst dL_joined_2 ?_
  refine p_aload_n dL_joined_3 rfl ?_
  refine p_iload_n dL_joined_4 rfl ?_
  refine p_iload_n dL_joined_5 rfl ?_
  refine p_iload_n dL_joined_6 rfl ?_
  refine cV_Xh [vI v1, vI v2, vI v3] [vI 0, vR g 102] dL_joined_7 yv_X10_joined ml_L_127 (r := (RX10, TX10, 7)) rfl rfl (Nat.le_of_ble_eq_true rfl) rfl (Nat.le_of_ble_eq_true rfl) (Nat.le_of_ble_eq_true rfl) (Nat.le_of_ble_eq_true rfl) rfl h (fun K h => s_X10_joined hG h) (fun e n D h => ?_) (fun r D1 h => ?_)
  · by_cases e0 : e = 0
    · have h := (ok_ite h).1 e0
      subst e0
      refine px_catch [] (0, 12, 15, 19) [(0, 12, 19, 13)] rfl (fun z hz => by cases hz) (by decide) (by decide) lc_0 lk_0 (fun q => ?_)
      refine p_astore dL_joined_15 (Nat.le_of_ble_eq_true rfl) rfl ?_
      refine p_iconst dL_joined_17 ?_
      exact p_ireturn dL_joined_18 (Nat.le_of_ble_eq_true rfl) (Nat.le_of_ble_eq_true rfl) ⟨_, _, rfl, rfl, ok_some h⟩
    have h := (ok_ite h).2 e0
    by_cases e2 : e = 2
    · have h := (ok_ite h).1 e2
      subst e2
      refine px_catch [(0, 12, 15, 19)] (0, 12, 19, 13) [] rfl (fun z hz => by rcases List.mem_cons.mp hz with rfl | hz; exact ⟨by decide, 0, lc_0, ln_2_0⟩; cases hz) (by decide) (by decide) lc_2 lk_2 (fun q => ?_)
      refine p_astore dL_joined_19 (Nat.le_of_ble_eq_true rfl) rfl ?_
      refine p_iconst dL_joined_21 ?_
      exact p_ireturn dL_joined_22 (Nat.le_of_ble_eq_true rfl) (Nat.le_of_ble_eq_true rfl) ⟨_, _, rfl, rfl, ok_some h⟩
    have h := (ok_ite h).2 e2
    obtain ⟨_, e9, _⟩ := h
    cases e9
  · refine q_i2l dL_joined_10 h (fun h => ?_)
    refine q_last dL_joined_11 rfl rfl h (fun D2 h => ?_)
    refine p_goto (tgt := 23) dL_joined_12 (by decide) ?_
    refine p_iconst dL_joined_23 ?_
    exact p_ireturn dL_joined_24 (Nat.le_of_ble_eq_true rfl) (Nat.le_of_ble_eq_true rfl) ⟨_, _, rfl, rfl, ok_some h⟩
set_option maxRecDepth 100000 in
theorem yw_L_write : YSW yL_write cL_write 4 (some .int) [(0, 9, 12, 19)] 3 := ⟨TBm (i := 1536) rfl rfl, TBm (i := 129) rfl rfl, by decide, by decide +kernel, TBm (i := 1535) rfl rfl⟩
set_option maxRecDepth 100000 in
set_option maxHeartbeats 4000000 in
theorem s_L_write {l : Launch} {g : GH} (hG : G0 l g) {n : Nat} {v1 : Int} {D : DT} {K : Int × DT → Prop} (h : ok (m_L_write v1 D) K) : SatW l g yL_write cL_write 4 (some .int) [(0, 9, 12, 19)] 10 1 6 [vR g 0, vI v1, vR g 102] (LF n) D (PIe K) := by
  refine SatW.of hG (by decide) (Nat.le_of_ble_eq_true rfl) (by simp [Value.category]) ?_
  refine p_aload_n dL_write_0 rfl ?_
  refine p_iconst dL_write_1 ?_
  refine p_aload_n dL_write_2 rfl ?_
  refine p_iload_n dL_write_3 rfl ?_
  refine cV_Xh [vI v1] [vI 0, vR g 102] dL_write_4 yv_X10_write ml_L_130 (r := (RX10, TX10, 7)) rfl rfl (Nat.le_of_ble_eq_true rfl) rfl (Nat.le_of_ble_eq_true rfl) (Nat.le_of_ble_eq_true rfl) (Nat.le_of_ble_eq_true rfl) rfl h (fun K h => s_X10_write hG h) (fun e n D h => ?_) (fun r D1 h => ?_)
  · by_cases e0 : e = 0
    · have h := (ok_ite h).1 e0
      subst e0
      refine px_catch [] (0, 9, 12, 19) [] rfl (fun z hz => by cases hz) (by decide) (by decide) lc_0 lk_0 (fun q => ?_)
      refine p_astore_n dL_write_12 (Nat.le_of_ble_eq_true rfl) rfl ?_
      refine p_iconst dL_write_13 ?_
      exact p_ireturn dL_write_14 (Nat.le_of_ble_eq_true rfl) (Nat.le_of_ble_eq_true rfl) ⟨_, _, rfl, rfl, ok_some h⟩
    have h := (ok_ite h).2 e0
    obtain ⟨_, e9, _⟩ := h
    cases e9
  · refine q_i2l dL_write_7 h (fun h => ?_)
    refine q_last dL_write_8 rfl rfl h (fun D2 h => ?_)
    refine p_goto (tgt := 15) dL_write_9 (by decide) ?_
    refine p_iconst dL_write_15 ?_
    exact p_ireturn dL_write_16 (Nat.le_of_ble_eq_true rfl) (Nat.le_of_ble_eq_true rfl) ⟨_, _, rfl, rfl, ok_some h⟩
