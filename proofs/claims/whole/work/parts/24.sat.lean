abbrev E_X10_thinned (l : Launch) (g : GH) (P : PT) : ENV := mkE l g yX10_thinned cX10_thinned 4 (some .int) [] 9 2 12 P
set_option maxRecDepth 100000 in
set_option maxHeartbeats 4000000 in
theorem x_X10_thinned {l : Launch} {g : GH} (hG : G0 l g) {n : Nat} {v1 : Int} {v2 : Int} {v3 : Int} {D : DT} {K : ((Int ⊕ Nat) × DT) → Prop} (h : ok (m_X10_thinned v1 v2 v3 D) K) : Px (E_X10_thinned l g (PXw n K)) 0 [some (vR g 0), some (vI v1), some (vI v2), some (vI v3)] [] (LF n) D 0 0 := by
  refine p_aload_n dX10_thinned_0 rfl ?_
  refine p_iload_n dX10_thinned_1 rfl ?_
  refine cV_Nr [vI v1] [] dX10_thinned_2 yv_X10_needLevel ml_X10_193 (r := (RX10, TX10, 7)) rfl rfl (Nat.le_of_ble_eq_true rfl) rfl (Nat.le_of_ble_eq_true rfl) (Nat.le_of_ble_eq_true rfl) (Nat.le_of_ble_eq_true rfl) rfl h (fun K h => s_X10_needLevel hG h) (fun e n h => px_out (Nat.le_of_ble_eq_true rfl) (Nat.le_of_ble_eq_true rfl) (Or.inr ⟨_, _, rfl, rfl, h⟩)) (fun h => ?_)
  refine p_aload_n dX10_thinned_5 rfl ?_
  refine p_iload_n dX10_thinned_6 rfl ?_
  refine cV_Nr [vI v2] [] dX10_thinned_7 yv_X10_needFar ml_X10_269 (r := (RX10, TX10, 7)) rfl rfl (Nat.le_of_ble_eq_true rfl) rfl (Nat.le_of_ble_eq_true rfl) (Nat.le_of_ble_eq_true rfl) (Nat.le_of_ble_eq_true rfl) rfl h (fun K h => s_X10_needFar hG h) (fun e n h => px_out (Nat.le_of_ble_eq_true rfl) (Nat.le_of_ble_eq_true rfl) (Or.inr ⟨_, _, rfl, rfl, h⟩)) (fun h => ?_)
  refine p_aload_n dX10_thinned_10 rfl ?_
  refine p_iconst dX10_thinned_11 ?_
  refine p_iload_n dX10_thinned_12 rfl ?_
  refine p_iload_n dX10_thinned_13 rfl ?_
  refine cV_Vw [vI 0, vI v1, vI v2] [] dX10_thinned_14 yv_X10_bringPath ml_X10_287 (r := (RX10, TX10, 7)) rfl rfl (Nat.le_of_ble_eq_true rfl) rfl (Nat.le_of_ble_eq_true rfl) (Nat.le_of_ble_eq_true rfl) (Nat.le_of_ble_eq_true rfl) rfl h (fun K h => s_X10_bringPath hG h) (fun D14 h => ?_)
  refine p_aload_n dX10_thinned_17 rfl ?_
  refine p_iload_n dX10_thinned_18 rfl ?_
  refine cV_Ir [vI v3] [] dX10_thinned_19 yv_X10_countOrStop ml_X10_290 (r := (RX10, TX10, 7)) rfl rfl (Nat.le_of_ble_eq_true rfl) rfl (Nat.le_of_ble_eq_true rfl) (Nat.le_of_ble_eq_true rfl) (Nat.le_of_ble_eq_true rfl) rfl h (fun K h => s_X10_countOrStop hG h) (fun r19 h => ?_)
  exact p_ireturn dX10_thinned_22 (Nat.le_of_ble_eq_true rfl) (Nat.le_of_ble_eq_true rfl) (Or.inl ⟨_, rfl, rfl, ok_some h⟩)
theorem s_X10_thinned {l : Launch} {g : GH} (hG : G0 l g) {n : Nat} {v1 : Int} {v2 : Int} {v3 : Int} {D : DT} {K : ((Int ⊕ Nat) × DT) → Prop} (h : ok (m_X10_thinned v1 v2 v3 D) K) : Sat l g yX10_thinned cX10_thinned 4 (some .int) 9 2 12 [vR g 0, vI v1, vI v2, vI v3] (LF n) D (PXw n K) := Sat.of hG (by decide) (Nat.le_of_ble_eq_true rfl) (by simp [Value.category]) (x_X10_thinned hG h)
abbrev E_X10_tour (l : Launch) (g : GH) (P : PT) : ENV := mkE l g yX10_tour cX10_tour 3 (some .int) [] 9 1 6 P
set_option maxRecDepth 100000 in
set_option maxHeartbeats 4000000 in
theorem x_X10_tour {l : Launch} {g : GH} (hG : G0 l g) {n : Nat} {v1 : Int} {v2 : Int} {D : DT} {K : ((Int ⊕ Nat) × DT) → Prop} (h : ok (m_X10_tour v1 v2 D) K) : Px (E_X10_tour l g (PXw n K)) 0 [some (vR g 0), some (vI v1), some (vI v2)] [] (LF n) D 0 0 := by
  refine p_aload_n dX10_tour_0 rfl ?_
  refine p_iload_n dX10_tour_1 rfl ?_
  refine cV_Nr [vI v1] [] dX10_tour_2 yv_X10_needLevel ml_X10_193 (r := (RX10, TX10, 7)) rfl rfl (Nat.le_of_ble_eq_true rfl) rfl (Nat.le_of_ble_eq_true rfl) (Nat.le_of_ble_eq_true rfl) (Nat.le_of_ble_eq_true rfl) rfl h (fun K h => s_X10_needLevel hG h) (fun e n h => px_out (Nat.le_of_ble_eq_true rfl) (Nat.le_of_ble_eq_true rfl) (Or.inr ⟨_, _, rfl, rfl, h⟩)) (fun h => ?_)
  refine p_aload_n dX10_tour_5 rfl ?_
  refine p_iconst dX10_tour_6 ?_
  refine p_iload_n dX10_tour_7 rfl ?_
  refine p_iconst dX10_tour_8 ?_
  refine cV_Vw [vI 1, vI v1, vI 0] [] dX10_tour_9 yv_X10_bringPath ml_X10_287 (r := (RX10, TX10, 7)) rfl rfl (Nat.le_of_ble_eq_true rfl) rfl (Nat.le_of_ble_eq_true rfl) (Nat.le_of_ble_eq_true rfl) (Nat.le_of_ble_eq_true rfl) rfl h (fun K h => s_X10_bringPath hG h) (fun D9 h => ?_)
  refine p_aload_n dX10_tour_12 rfl ?_
  refine p_iload_n dX10_tour_13 rfl ?_
  refine cV_Ir [vI v2] [] dX10_tour_14 yv_X10_countOrStop ml_X10_290 (r := (RX10, TX10, 7)) rfl rfl (Nat.le_of_ble_eq_true rfl) rfl (Nat.le_of_ble_eq_true rfl) (Nat.le_of_ble_eq_true rfl) (Nat.le_of_ble_eq_true rfl) rfl h (fun K h => s_X10_countOrStop hG h) (fun r14 h => ?_)
  exact p_ireturn dX10_tour_17 (Nat.le_of_ble_eq_true rfl) (Nat.le_of_ble_eq_true rfl) (Or.inl ⟨_, rfl, rfl, ok_some h⟩)
theorem s_X10_tour {l : Launch} {g : GH} (hG : G0 l g) {n : Nat} {v1 : Int} {v2 : Int} {D : DT} {K : ((Int ⊕ Nat) × DT) → Prop} (h : ok (m_X10_tour v1 v2 D) K) : Sat l g yX10_tour cX10_tour 3 (some .int) 9 1 6 [vR g 0, vI v1, vI v2] (LF n) D (PXw n K) := Sat.of hG (by decide) (Nat.le_of_ble_eq_true rfl) (by simp [Value.category]) (x_X10_tour hG h)
abbrev E_X10_way (l : Launch) (g : GH) (P : PT) : ENV := mkE l g yX10_way cX10_way 2 (some .int) [] 9 1 6 P
set_option maxRecDepth 100000 in
set_option maxHeartbeats 4000000 in
theorem x_X10_way {l : Launch} {g : GH} (hG : G0 l g) {n : Nat} {v1 : Int} {D : DT} {K : ((Int ⊕ Nat) × DT) → Prop} (h : ok (m_X10_way v1 D) K) : Px (E_X10_way l g (PXw n K)) 0 [some (vR g 0), some (vI v1)] [] (LF n) D 0 0 := by
  refine p_aload_n dX10_way_0 rfl ?_
  refine p_iload_n dX10_way_1 rfl ?_
  refine cV_Nr [vI v1] [] dX10_way_2 yv_X10_needLevel ml_X10_193 (r := (RX10, TX10, 7)) rfl rfl (Nat.le_of_ble_eq_true rfl) rfl (Nat.le_of_ble_eq_true rfl) (Nat.le_of_ble_eq_true rfl) (Nat.le_of_ble_eq_true rfl) rfl h (fun K h => s_X10_needLevel hG h) (fun e n h => px_out (Nat.le_of_ble_eq_true rfl) (Nat.le_of_ble_eq_true rfl) (Or.inr ⟨_, _, rfl, rfl, h⟩)) (fun h => ?_)
  refine p_aload_n dX10_way_5 rfl ?_
  refine p_iconst dX10_way_6 ?_
  refine p_iload_n dX10_way_7 rfl ?_
  refine p_iconst dX10_way_8 ?_
  refine cV_Vw [vI 1, vI v1, vI 0] [] dX10_way_9 yv_X10_bringPath ml_X10_287 (r := (RX10, TX10, 7)) rfl rfl (Nat.le_of_ble_eq_true rfl) rfl (Nat.le_of_ble_eq_true rfl) (Nat.le_of_ble_eq_true rfl) (Nat.le_of_ble_eq_true rfl) rfl h (fun K h => s_X10_bringPath hG h) (fun D9 h => ?_)
  refine p_aload_n dX10_way_12 rfl ?_
  refine p_getr dX10_way_13 fl_X10_47 (fun _ _ _ => rfl) rfl rfl ?_
  refine p_geti dX10_way_16 fl_X10_293 (fun _ _ _ => rfl) rfl ?_
  exact p_ireturn dX10_way_19 (Nat.le_of_ble_eq_true rfl) (Nat.le_of_ble_eq_true rfl) (Or.inl ⟨_, rfl, rfl, ok_some h⟩)
theorem s_X10_way {l : Launch} {g : GH} (hG : G0 l g) {n : Nat} {v1 : Int} {D : DT} {K : ((Int ⊕ Nat) × DT) → Prop} (h : ok (m_X10_way v1 D) K) : Sat l g yX10_way cX10_way 2 (some .int) 9 1 6 [vR g 0, vI v1] (LF n) D (PXw n K) := Sat.of hG (by decide) (Nat.le_of_ble_eq_true rfl) (by simp [Value.category]) (x_X10_way hG h)
abbrev E_X10_hull (l : Launch) (g : GH) (P : PT) : ENV := mkE l g yX10_hull cX10_hull 3 (some .int) [] 9 1 6 P
set_option maxRecDepth 100000 in
set_option maxHeartbeats 4000000 in
theorem x_X10_hull {l : Launch} {g : GH} (hG : G0 l g) {n : Nat} {v1 : Int} {v2 : Int} {D : DT} {K : ((Int ⊕ Nat) × DT) → Prop} (h : ok (m_X10_hull v1 v2 D) K) : Px (E_X10_hull l g (PXw n K)) 0 [some (vR g 0), some (vI v1), some (vI v2)] [] (LF n) D 0 0 := by
  refine p_aload_n dX10_hull_0 rfl ?_
  refine p_iload_n dX10_hull_1 rfl ?_
  refine cV_Nr [vI v1] [] dX10_hull_2 yv_X10_needLevel ml_X10_193 (r := (RX10, TX10, 7)) rfl rfl (Nat.le_of_ble_eq_true rfl) rfl (Nat.le_of_ble_eq_true rfl) (Nat.le_of_ble_eq_true rfl) (Nat.le_of_ble_eq_true rfl) rfl h (fun K h => s_X10_needLevel hG h) (fun e n h => px_out (Nat.le_of_ble_eq_true rfl) (Nat.le_of_ble_eq_true rfl) (Or.inr ⟨_, _, rfl, rfl, h⟩)) (fun h => ?_)
  refine p_aload_n dX10_hull_5 rfl ?_
  refine p_iconst dX10_hull_6 ?_
  refine p_iload_n dX10_hull_7 rfl ?_
  refine p_iconst dX10_hull_8 ?_
  refine cV_Vw [vI 2, vI v1, vI 0] [] dX10_hull_9 yv_X10_bringPath ml_X10_287 (r := (RX10, TX10, 7)) rfl rfl (Nat.le_of_ble_eq_true rfl) rfl (Nat.le_of_ble_eq_true rfl) (Nat.le_of_ble_eq_true rfl) (Nat.le_of_ble_eq_true rfl) rfl h (fun K h => s_X10_bringPath hG h) (fun D9 h => ?_)
  refine p_aload_n dX10_hull_12 rfl ?_
  refine p_iload_n dX10_hull_13 rfl ?_
  refine cV_Ir [vI v2] [] dX10_hull_14 yv_X10_countOrStop ml_X10_290 (r := (RX10, TX10, 7)) rfl rfl (Nat.le_of_ble_eq_true rfl) rfl (Nat.le_of_ble_eq_true rfl) (Nat.le_of_ble_eq_true rfl) (Nat.le_of_ble_eq_true rfl) rfl h (fun K h => s_X10_countOrStop hG h) (fun r14 h => ?_)
  exact p_ireturn dX10_hull_17 (Nat.le_of_ble_eq_true rfl) (Nat.le_of_ble_eq_true rfl) (Or.inl ⟨_, rfl, rfl, ok_some h⟩)
theorem s_X10_hull {l : Launch} {g : GH} (hG : G0 l g) {n : Nat} {v1 : Int} {v2 : Int} {D : DT} {K : ((Int ⊕ Nat) × DT) → Prop} (h : ok (m_X10_hull v1 v2 D) K) : Sat l g yX10_hull cX10_hull 3 (some .int) 9 1 6 [vR g 0, vI v1, vI v2] (LF n) D (PXw n K) := Sat.of hG (by decide) (Nat.le_of_ble_eq_true rfl) (by simp [Value.category]) (x_X10_hull hG h)
abbrev E_X10_area (l : Launch) (g : GH) (P : PT) : ENV := mkE l g yX10_area cX10_area 2 (some .int) [] 9 1 6 P
set_option maxRecDepth 100000 in
set_option maxHeartbeats 4000000 in
theorem x_X10_area {l : Launch} {g : GH} (hG : G0 l g) {n : Nat} {v1 : Int} {D : DT} {K : ((Int ⊕ Nat) × DT) → Prop} (h : ok (m_X10_area v1 D) K) : Px (E_X10_area l g (PXw n K)) 0 [some (vR g 0), some (vI v1)] [] (LF n) D 0 0 := by
  refine p_aload_n dX10_area_0 rfl ?_
  refine p_iload_n dX10_area_1 rfl ?_
  refine cV_Nr [vI v1] [] dX10_area_2 yv_X10_needLevel ml_X10_193 (r := (RX10, TX10, 7)) rfl rfl (Nat.le_of_ble_eq_true rfl) rfl (Nat.le_of_ble_eq_true rfl) (Nat.le_of_ble_eq_true rfl) (Nat.le_of_ble_eq_true rfl) rfl h (fun K h => s_X10_needLevel hG h) (fun e n h => px_out (Nat.le_of_ble_eq_true rfl) (Nat.le_of_ble_eq_true rfl) (Or.inr ⟨_, _, rfl, rfl, h⟩)) (fun h => ?_)
  refine p_aload_n dX10_area_5 rfl ?_
  refine p_iconst dX10_area_6 ?_
  refine p_iload_n dX10_area_7 rfl ?_
  refine p_iconst dX10_area_8 ?_
  refine cV_Vw [vI 2, vI v1, vI 0] [] dX10_area_9 yv_X10_bringPath ml_X10_287 (r := (RX10, TX10, 7)) rfl rfl (Nat.le_of_ble_eq_true rfl) rfl (Nat.le_of_ble_eq_true rfl) (Nat.le_of_ble_eq_true rfl) (Nat.le_of_ble_eq_true rfl) rfl h (fun K h => s_X10_bringPath hG h) (fun D9 h => ?_)
  refine p_aload_n dX10_area_12 rfl ?_
  refine p_getr dX10_area_13 fl_X10_47 (fun _ _ _ => rfl) rfl rfl ?_
  refine p_aload_n dX10_area_16 rfl ?_
  refine p_getr dX10_area_17 fl_X10_10 (fun _ _ _ => rfl) rfl rfl ?_
  refine p_getr dX10_area_20 fl_X10_69 (fun _ _ _ => rfl) (wc_X5 wl_X5_1) (wf_X5_0 wl_X5_1) ?_
  refine cV_Ir [vR g 2] [] dX10_area_23 yv_X4_doubleArea ml_X10_296 (r := (RX4, TX4, 8)) rfl rfl (Nat.le_of_ble_eq_true rfl) rfl (Nat.le_of_ble_eq_true rfl) (Nat.le_of_ble_eq_true rfl) (Nat.le_of_ble_eq_true rfl) rfl h (fun K h => s_X4_doubleArea hG (wo_X5_0 wl_X5_1) h) (fun r23 h => ?_)
  exact p_ireturn dX10_area_26 (Nat.le_of_ble_eq_true rfl) (Nat.le_of_ble_eq_true rfl) (Or.inl ⟨_, rfl, rfl, ok_some h⟩)
theorem s_X10_area {l : Launch} {g : GH} (hG : G0 l g) {n : Nat} {v1 : Int} {D : DT} {K : ((Int ⊕ Nat) × DT) → Prop} (h : ok (m_X10_area v1 D) K) : Sat l g yX10_area cX10_area 2 (some .int) 9 1 6 [vR g 0, vI v1] (LF n) D (PXw n K) := Sat.of hG (by decide) (Nat.le_of_ble_eq_true rfl) (by simp [Value.category]) (x_X10_area hG h)
abbrev E_X10_middle (l : Launch) (g : GH) (P : PT) : ENV := mkE l g yX10_middle cX10_middle 3 (some .int) [] 10 2 12 P
set_option maxRecDepth 100000 in
set_option maxHeartbeats 4000000 in
theorem x_X10_middle {l : Launch} {g : GH} (hG : G0 l g) {n : Nat} {v1 : Int} {v2 : Int} {D : DT} {K : ((Int ⊕ Nat) × DT) → Prop} (h : ok (m_X10_middle v1 v2 D) K) : Px (E_X10_middle l g (PXw n K)) 0 [some (vR g 0), some (vI v1), some (vI v2)] [] (LF n) D 0 0 := by
  refine p_aload_n dX10_middle_0 rfl ?_
  refine p_iload_n dX10_middle_1 rfl ?_
  refine cV_Nr [vI v1] [] dX10_middle_2 yv_X10_needGroupOrNone ml_X10_206 (r := (RX10, TX10, 7)) rfl rfl (Nat.le_of_ble_eq_true rfl) rfl (Nat.le_of_ble_eq_true rfl) (Nat.le_of_ble_eq_true rfl) (Nat.le_of_ble_eq_true rfl) rfl h (fun K h => s_X10_needGroupOrNone hG h) (fun e n h => px_out (Nat.le_of_ble_eq_true rfl) (Nat.le_of_ble_eq_true rfl) (Or.inr ⟨_, _, rfl, rfl, h⟩)) (fun h => ?_)
  refine p_aload_n dX10_middle_5 rfl ?_
  refine p_iload_n dX10_middle_6 rfl ?_
  refine cV_Nr [vI v2] [] dX10_middle_7 yv_X10_needLevel ml_X10_193 (r := (RX10, TX10, 7)) rfl rfl (Nat.le_of_ble_eq_true rfl) rfl (Nat.le_of_ble_eq_true rfl) (Nat.le_of_ble_eq_true rfl) (Nat.le_of_ble_eq_true rfl) rfl h (fun K h => s_X10_needLevel hG h) (fun e n h => px_out (Nat.le_of_ble_eq_true rfl) (Nat.le_of_ble_eq_true rfl) (Or.inr ⟨_, _, rfl, rfl, h⟩)) (fun h => ?_)
  refine p_aload_n dX10_middle_10 rfl ?_
  refine p_getr dX10_middle_11 fl_X10_10 (fun _ _ _ => rfl) rfl rfl ?_
  refine p_iload_n dX10_middle_14 rfl ?_
  refine cV_Aw [vI v2] [] dX10_middle_15 yv_X5_crowded ml_X10_220 (r := (RX5, TX5, 6)) rfl rfl (Nat.le_of_ble_eq_true rfl) rfl (Nat.le_of_ble_eq_true rfl) (Nat.le_of_ble_eq_true rfl) (Nat.le_of_ble_eq_true rfl) (wc_X5 wl_X5_1) h (fun K h => s_X5_crowded hG wl_X5_1 h) (fun D15 h => ?_)
  refine p_aload_n dX10_middle_18 rfl ?_
  refine p_getr dX10_middle_19 fl_X10_10 (fun _ _ _ => rfl) rfl rfl ?_
  refine p_getr dX10_middle_22 fl_X10_69 (fun _ _ _ => rfl) (wc_X5 wl_X5_1) (wf_X5_0 wl_X5_1) ?_
  refine p_iload_n dX10_middle_25 rfl ?_
  refine cV_Iw [vR g 2, vI v1] [] dX10_middle_26 yv_X2_centralCell ml_X10_299 (r := (RX2, TX2, 7)) rfl rfl (Nat.le_of_ble_eq_true rfl) rfl (Nat.le_of_ble_eq_true rfl) (Nat.le_of_ble_eq_true rfl) (Nat.le_of_ble_eq_true rfl) (wc_X2 (wo_X5_5 wl_X5_1)) h (fun K h => s_X2_centralCell hG (wo_X5_5 wl_X5_1) (wo_X5_0 wl_X5_1) h) (fun r26 D26 h => ?_)
  exact p_ireturn dX10_middle_29 (Nat.le_of_ble_eq_true rfl) (Nat.le_of_ble_eq_true rfl) (Or.inl ⟨_, rfl, rfl, ok_some h⟩)
theorem s_X10_middle {l : Launch} {g : GH} (hG : G0 l g) {n : Nat} {v1 : Int} {v2 : Int} {D : DT} {K : ((Int ⊕ Nat) × DT) → Prop} (h : ok (m_X10_middle v1 v2 D) K) : Sat l g yX10_middle cX10_middle 3 (some .int) 10 2 12 [vR g 0, vI v1, vI v2] (LF n) D (PXw n K) := Sat.of hG (by decide) (Nat.le_of_ble_eq_true rfl) (by simp [Value.category]) (x_X10_middle hG h)
abbrev E_X10_line (l : Launch) (g : GH) (P : PT) : ENV := mkE l g yX10_line cX10_line 4 (some .int) [] 9 1 6 P
set_option maxRecDepth 100000 in
set_option maxHeartbeats 4000000 in
theorem x_X10_line_32 {l : Launch} {g : GH} (hG : G0 l g) {n : Nat} {v1 v2 v3 : Int} {x0 x1 : Int} {D : DT} {K : ((Int ⊕ Nat) × DT) → Prop} (h : ok (m_X10_line_32 v1 v2 v3 x0 x1 D) K) : Px (E_X10_line l g (PXw n K)) 32 [some (vR g 0), some (vI v1), some (vI v2), some (vI v3)] [vI x0, vI x1] (LF n) D 0 0 := by
  refine q_icmp_lt (tgt := 46) dX10_line_32 (by decide) h (fun h => ?_) (fun h => ?_)
  · refine p_aload_n dX10_line_46 rfl ?_
    refine p_iload_n dX10_line_47 rfl ?_
    refine cV_Nr [vI v3] [] dX10_line_48 yv_X10_needLevel ml_X10_193 (r := (RX10, TX10, 7)) rfl rfl (Nat.le_of_ble_eq_true rfl) rfl (Nat.le_of_ble_eq_true rfl) (Nat.le_of_ble_eq_true rfl) (Nat.le_of_ble_eq_true rfl) rfl h (fun K h => s_X10_needLevel hG h) (fun e n h => px_out (Nat.le_of_ble_eq_true rfl) (Nat.le_of_ble_eq_true rfl) (Or.inr ⟨_, _, rfl, rfl, h⟩)) (fun h => ?_)
    refine p_iload_n dX10_line_51 rfl ?_
    refine q_if_eq (tgt := 77) dX10_line_52 (by decide) h (fun h => ?_) (fun h => ?_)
    · refine p_aload_n dX10_line_77 rfl ?_
      refine p_getr dX10_line_78 fl_X10_10 (fun _ _ _ => rfl) rfl rfl ?_
      refine p_iload_n dX10_line_81 rfl ?_
      refine cV_Aw [vI v3] [] dX10_line_82 yv_X5_crowded ml_X10_220 (r := (RX5, TX5, 6)) rfl rfl (Nat.le_of_ble_eq_true rfl) rfl (Nat.le_of_ble_eq_true rfl) (Nat.le_of_ble_eq_true rfl) (Nat.le_of_ble_eq_true rfl) (wc_X5 wl_X5_1) h (fun K h => s_X5_crowded hG wl_X5_1 h) (fun D82 h => ?_)
      refine p_aload_n dX10_line_85 rfl ?_
      refine p_getr dX10_line_86 fl_X10_10 (fun _ _ _ => rfl) rfl rfl ?_
      refine p_getr dX10_line_89 fl_X10_69 (fun _ _ _ => rfl) (wc_X5 wl_X5_1) (wf_X5_0 wl_X5_1) ?_
      refine p_iload_n dX10_line_92 rfl ?_
      refine cV_Ir [vR g 2, vI v2] [] dX10_line_93 yv_X2_sumOfRow ml_X10_316 (r := (RX2, TX2, 7)) rfl rfl (Nat.le_of_ble_eq_true rfl) rfl (Nat.le_of_ble_eq_true rfl) (Nat.le_of_ble_eq_true rfl) (Nat.le_of_ble_eq_true rfl) (wc_X2 (wo_X5_5 wl_X5_1)) h (fun K h => s_X2_sumOfRow hG (wo_X5_5 wl_X5_1) (wo_X5_0 wl_X5_1) h) (fun r93 h => ?_)
      exact p_ireturn dX10_line_96 (Nat.le_of_ble_eq_true rfl) (Nat.le_of_ble_eq_true rfl) (Or.inl ⟨_, rfl, rfl, ok_some h⟩)
    · refine p_aload_n dX10_line_55 rfl ?_
      refine p_getr dX10_line_56 fl_X10_10 (fun _ _ _ => rfl) rfl rfl ?_
      refine p_iload_n dX10_line_59 rfl ?_
      refine cV_Aw [vI v3] [] dX10_line_60 yv_X5_crowded ml_X10_220 (r := (RX5, TX5, 6)) rfl rfl (Nat.le_of_ble_eq_true rfl) rfl (Nat.le_of_ble_eq_true rfl) (Nat.le_of_ble_eq_true rfl) (Nat.le_of_ble_eq_true rfl) (wc_X5 wl_X5_1) h (fun K h => s_X5_crowded hG wl_X5_1 h) (fun D60 h => ?_)
      refine p_aload_n dX10_line_63 rfl ?_
      refine p_getr dX10_line_64 fl_X10_10 (fun _ _ _ => rfl) rfl rfl ?_
      refine p_getr dX10_line_67 fl_X10_69 (fun _ _ _ => rfl) (wc_X5 wl_X5_1) (wf_X5_0 wl_X5_1) ?_
      refine p_iload_n dX10_line_70 rfl ?_
      refine cV_Ir [vR g 2, vI v2] [] dX10_line_71 yv_X2_sumOfColumn ml_X10_313 (r := (RX2, TX2, 7)) rfl rfl (Nat.le_of_ble_eq_true rfl) rfl (Nat.le_of_ble_eq_true rfl) (Nat.le_of_ble_eq_true rfl) (Nat.le_of_ble_eq_true rfl) (wc_X2 (wo_X5_5 wl_X5_1)) h (fun K h => s_X2_sumOfColumn hG (wo_X5_5 wl_X5_1) (wo_X5_0 wl_X5_1) h) (fun r71 h => ?_)
      refine p_goto (tgt := 96) dX10_line_74 (by decide) ?_
      exact p_ireturn dX10_line_96 (Nat.le_of_ble_eq_true rfl) (Nat.le_of_ble_eq_true rfl) (Or.inl ⟨_, rfl, rfl, ok_some h⟩)
  · exact p_throwW (e := 0) (i := 38) hG tw_0 (by decide) rfl rfl dX10_line_35 dX10_line_38 dX10_line_39 dX10_line_42 dX10_line_45 (Nat.le_of_ble_eq_true rfl) (Nat.le_of_ble_eq_true rfl) (Nat.le_of_ble_eq_true rfl) (Nat.le_of_ble_eq_true rfl) (fun n => Or.inr ⟨_, _, rfl, rfl, ok_some h⟩)
set_option maxRecDepth 100000 in
set_option maxHeartbeats 4000000 in
theorem x_X10_line {l : Launch} {g : GH} (hG : G0 l g) {n : Nat} {v1 : Int} {v2 : Int} {v3 : Int} {D : DT} {K : ((Int ⊕ Nat) × DT) → Prop} (h : ok (m_X10_line v1 v2 v3 D) K) : Px (E_X10_line l g (PXw n K)) 0 [some (vR g 0), some (vI v1), some (vI v2), some (vI v3)] [] (LF n) D 0 0 := by
  refine p_iload_n dX10_line_0 rfl ?_
  refine q_if_lt (tgt := 35) dX10_line_1 (by decide) h (fun h => ?_) (fun h => ?_)
  · exact p_throwW (e := 0) (i := 38) hG tw_0 (by decide) rfl rfl dX10_line_35 dX10_line_38 dX10_line_39 dX10_line_42 dX10_line_45 (Nat.le_of_ble_eq_true rfl) (Nat.le_of_ble_eq_true rfl) (Nat.le_of_ble_eq_true rfl) (Nat.le_of_ble_eq_true rfl) (fun n => Or.inr ⟨_, _, rfl, rfl, ok_some h⟩)
  · refine p_iload_n dX10_line_4 rfl ?_
    refine p_iload_n dX10_line_5 rfl ?_
    refine q_if_eq (tgt := 22) dX10_line_6 (by decide) h (fun h => ?_) (fun h => ?_)
    · refine p_aload_n dX10_line_22 rfl ?_
      refine p_getr dX10_line_23 fl_X10_10 (fun _ _ _ => rfl) rfl rfl ?_
      refine p_getr dX10_line_26 fl_X10_69 (fun _ _ _ => rfl) (wc_X5 wl_X5_1) (wf_X5_0 wl_X5_1) ?_
      refine p_geti dX10_line_29 fl_X10_305 (fun _ _ _ => rfl) (wc_X1 (wo_X5_0 wl_X5_1)) ?_
      exact p_weak (leL.same (leL.same (leL.same (leL.same leL.nil)))) (x_X10_line_32 hG h)
    · refine p_aload_n dX10_line_9 rfl ?_
      refine p_getr dX10_line_10 fl_X10_10 (fun _ _ _ => rfl) rfl rfl ?_
      refine p_getr dX10_line_13 fl_X10_69 (fun _ _ _ => rfl) (wc_X5 wl_X5_1) (wf_X5_0 wl_X5_1) ?_
      refine p_geti dX10_line_16 fl_X10_302 (fun _ _ _ => rfl) (wc_X1 (wo_X5_0 wl_X5_1)) ?_
      refine p_goto (tgt := 32) dX10_line_19 (by decide) ?_
      exact p_weak (leL.same (leL.same (leL.same (leL.same leL.nil)))) (x_X10_line_32 hG h)
theorem s_X10_line {l : Launch} {g : GH} (hG : G0 l g) {n : Nat} {v1 : Int} {v2 : Int} {v3 : Int} {D : DT} {K : ((Int ⊕ Nat) × DT) → Prop} (h : ok (m_X10_line v1 v2 v3 D) K) : Sat l g yX10_line cX10_line 4 (some .int) 9 1 6 [vR g 0, vI v1, vI v2, vI v3] (LF n) D (PXw n K) := Sat.of hG (by decide) (Nat.le_of_ble_eq_true rfl) (by simp [Value.category]) (x_X10_line hG h)
abbrev E_X10_joined (l : Launch) (g : GH) (P : PT) : ENV := mkE l g yX10_joined cX10_joined 4 (some .int) [] 9 4 24 P
set_option maxRecDepth 100000 in
set_option maxHeartbeats 4000000 in
theorem x_X10_joined {l : Launch} {g : GH} (hG : G0 l g) {n : Nat} {v1 : Int} {v2 : Int} {v3 : Int} {D : DT} {K : ((Int ⊕ Nat) × DT) → Prop} (h : ok (m_X10_joined v1 v2 v3 D) K) : Px (E_X10_joined l g (PXw n K)) 0 [some (vR g 0), some (vI v1), some (vI v2), some (vI v3)] [] (LF n) D 0 0 := by
  refine p_aload_n dX10_joined_0 rfl ?_
  refine p_iload_n dX10_joined_1 rfl ?_
  refine cV_Nr [vI v1] [] dX10_joined_2 yv_X10_needZone ml_X10_107 (r := (RX10, TX10, 7)) rfl rfl (Nat.le_of_ble_eq_true rfl) rfl (Nat.le_of_ble_eq_true rfl) (Nat.le_of_ble_eq_true rfl) (Nat.le_of_ble_eq_true rfl) rfl h (fun K h => s_X10_needZone hG h) (fun e n h => px_out (Nat.le_of_ble_eq_true rfl) (Nat.le_of_ble_eq_true rfl) (Or.inr ⟨_, _, rfl, rfl, h⟩)) (fun h => ?_)
  refine p_aload_n dX10_joined_5 rfl ?_
  refine p_iload_n dX10_joined_6 rfl ?_
  refine cV_Nr [vI v2] [] dX10_joined_7 yv_X10_needZone ml_X10_107 (r := (RX10, TX10, 7)) rfl rfl (Nat.le_of_ble_eq_true rfl) rfl (Nat.le_of_ble_eq_true rfl) (Nat.le_of_ble_eq_true rfl) (Nat.le_of_ble_eq_true rfl) rfl h (fun K h => s_X10_needZone hG h) (fun e n h => px_out (Nat.le_of_ble_eq_true rfl) (Nat.le_of_ble_eq_true rfl) (Or.inr ⟨_, _, rfl, rfl, h⟩)) (fun h => ?_)
  refine p_aload_n dX10_joined_10 rfl ?_
  refine p_iload_n dX10_joined_11 rfl ?_
  refine cV_Nr [vI v3] [] dX10_joined_12 yv_X10_needLevel ml_X10_193 (r := (RX10, TX10, 7)) rfl rfl (Nat.le_of_ble_eq_true rfl) rfl (Nat.le_of_ble_eq_true rfl) (Nat.le_of_ble_eq_true rfl) (Nat.le_of_ble_eq_true rfl) rfl h (fun K h => s_X10_needLevel hG h) (fun e n h => px_out (Nat.le_of_ble_eq_true rfl) (Nat.le_of_ble_eq_true rfl) (Or.inr ⟨_, _, rfl, rfl, h⟩)) (fun h => ?_)
  refine p_aload_n dX10_joined_15 rfl ?_
  refine p_iload_n dX10_joined_16 rfl ?_
  refine p_iload_n dX10_joined_17 rfl ?_
  refine cV_Nr [vI v1, vI v2] [] dX10_joined_18 yv_X10_needTwo ml_X10_319 (r := (RX10, TX10, 7)) rfl rfl (Nat.le_of_ble_eq_true rfl) rfl (Nat.le_of_ble_eq_true rfl) (Nat.le_of_ble_eq_true rfl) (Nat.le_of_ble_eq_true rfl) rfl h (fun K h => s_X10_needTwo hG h) (fun e n h => px_out (Nat.le_of_ble_eq_true rfl) (Nat.le_of_ble_eq_true rfl) (Or.inr ⟨_, _, rfl, rfl, h⟩)) (fun h => ?_)
  refine p_aload_n dX10_joined_21 rfl ?_
  refine p_getr dX10_joined_22 fl_X10_16 (fun _ _ _ => rfl) rfl rfl ?_
  refine p_aload_n dX10_joined_25 rfl ?_
  refine p_getr dX10_joined_26 fl_X10_10 (fun _ _ _ => rfl) rfl rfl ?_
  refine cV_Vw [vR g 1] [] dX10_joined_29 yv_X5_copyFrom ml_X10_244 (r := (RX5, TX5, 6)) rfl rfl (Nat.le_of_ble_eq_true rfl) rfl (Nat.le_of_ble_eq_true rfl) (Nat.le_of_ble_eq_true rfl) (Nat.le_of_ble_eq_true rfl) (wc_X5 wl_X5_28) h (fun K h => s_X5_copyFrom hG wl_X5_28 wl_X5_1 h) (fun D29 h => ?_)
  refine p_aload_n dX10_joined_32 rfl ?_
  refine p_getr dX10_joined_33 fl_X10_16 (fun _ _ _ => rfl) rfl rfl ?_
  refine p_getr dX10_joined_36 fl_X10_69 (fun _ _ _ => rfl) (wc_X5 wl_X5_28) (wf_X5_0 wl_X5_28) ?_
  refine p_iload_n dX10_joined_39 rfl ?_
  refine p_iload_n dX10_joined_40 rfl ?_
  refine cV_Vw [vI v1, vI v2] [] dX10_joined_41 yv_X1_join ml_X10_323 (r := (RX1, TX1, 11)) rfl rfl (Nat.le_of_ble_eq_true rfl) rfl (Nat.le_of_ble_eq_true rfl) (Nat.le_of_ble_eq_true rfl) (Nat.le_of_ble_eq_true rfl) (wc_X1 (wo_X5_0 wl_X5_28)) h (fun K h => s_X1_join hG (wo_X5_0 wl_X5_28) h) (fun D41 h => ?_)
  refine p_aload_n dX10_joined_44 rfl ?_
  refine p_getr dX10_joined_45 fl_X10_16 (fun _ _ _ => rfl) rfl rfl ?_
  refine p_iload_n dX10_joined_48 rfl ?_
  refine cV_Vw [vI v1] [] dX10_joined_49 yv_X5_landChanged ml_X10_247 (r := (RX5, TX5, 6)) rfl rfl (Nat.le_of_ble_eq_true rfl) rfl (Nat.le_of_ble_eq_true rfl) (Nat.le_of_ble_eq_true rfl) (Nat.le_of_ble_eq_true rfl) (wc_X5 wl_X5_28) h (fun K h => s_X5_landChanged hG wl_X5_28 h) (fun D49 h => ?_)
  refine p_aload_n dX10_joined_52 rfl ?_
  refine p_getr dX10_joined_53 fl_X10_16 (fun _ _ _ => rfl) rfl rfl ?_
  refine p_iload_n dX10_joined_56 rfl ?_
  refine cV_Vw [vI v2] [] dX10_joined_57 yv_X5_landChanged ml_X10_247 (r := (RX5, TX5, 6)) rfl rfl (Nat.le_of_ble_eq_true rfl) rfl (Nat.le_of_ble_eq_true rfl) (Nat.le_of_ble_eq_true rfl) (Nat.le_of_ble_eq_true rfl) (wc_X5 wl_X5_28) h (fun K h => s_X5_landChanged hG wl_X5_28 h) (fun D57 h => ?_)
  refine p_aload_n dX10_joined_60 rfl ?_
  refine p_getr dX10_joined_61 fl_X10_16 (fun _ _ _ => rfl) rfl rfl ?_
  refine cV_Aw [] [] dX10_joined_64 yv_X5_tallied ml_X10_172 (r := (RX5, TX5, 6)) rfl rfl (Nat.le_of_ble_eq_true rfl) rfl (Nat.le_of_ble_eq_true rfl) (Nat.le_of_ble_eq_true rfl) (Nat.le_of_ble_eq_true rfl) (wc_X5 wl_X5_28) h (fun K h => s_X5_tallied hG wl_X5_28 h) (fun D64 h => ?_)
  refine p_iload_n dX10_joined_67 rfl ?_
  refine p_iload_n dX10_joined_68 rfl ?_
  refine cV_Ir [vI v1, vI v3] [] dX10_joined_69 yv_X8_sumOfZone ml_X10_326 (r := (RX8, TX8, 7)) rfl rfl (Nat.le_of_ble_eq_true rfl) rfl (Nat.le_of_ble_eq_true rfl) (Nat.le_of_ble_eq_true rfl) (Nat.le_of_ble_eq_true rfl) (wc_X8 (wo_X5_3 wl_X5_28)) h (fun K h => s_X8_sumOfZone hG (wo_X5_3 wl_X5_28) h) (fun r69 h => ?_)
  exact p_ireturn dX10_joined_72 (Nat.le_of_ble_eq_true rfl) (Nat.le_of_ble_eq_true rfl) (Or.inl ⟨_, rfl, rfl, ok_some h⟩)
theorem s_X10_joined {l : Launch} {g : GH} (hG : G0 l g) {n : Nat} {v1 : Int} {v2 : Int} {v3 : Int} {D : DT} {K : ((Int ⊕ Nat) × DT) → Prop} (h : ok (m_X10_joined v1 v2 v3 D) K) : Sat l g yX10_joined cX10_joined 4 (some .int) 9 4 24 [vR g 0, vI v1, vI v2, vI v3] (LF n) D (PXw n K) := Sat.of hG (by decide) (Nat.le_of_ble_eq_true rfl) (by simp [Value.category]) (x_X10_joined hG h)
abbrev E_X10_fits (l : Launch) (g : GH) (P : PT) : ENV := mkE l g yX10_fits cX10_fits 7 (some .int) [] 5 0 0 P
abbrev P_X10_fits_38 (l : Launch) (g : GH) (n : Nat) (K : (Int × DT) → Prop) (v1 : Int) (D : DT) : (Int × Int × Int) → Prop := fun s => Px (E_X10_fits l g (PIw n K)) 38 [some (vR g 0), some (vI v1), some (vR g 10), some (vI s.1), some (vI s.2.1), some (vI s.2.2), none] [] (LF n) D 0 0
set_option maxRecDepth 100000 in
set_option maxHeartbeats 4000000 in
theorem x_X10_fits_38 {l : Launch} {g : GH} (hG : G0 l g) {n : Nat} {v1 : Int} {D : DT} {K : (Int × DT) → Prop} {s : (Int × Int × Int)} (h : ok (m_X10_fits_38 v1 D s) K) : Px (E_X10_fits l g (PIw n K)) 38 [some (vR g 0), some (vI v1), some (vR g 10), some (vI s.1), some (vI s.2.1), some (vI s.2.2), none] [] (LF n) D 0 0 := by
  refine ok_loop (P := (P_X10_fits_38 l g n K v1 D)) (fun s h => ?_) h
  refine p_iload_n dX10_fits_38 rfl ?_
  refine p_iload dX10_fits_39 rfl ?_
  refine q_icmp_ge (tgt := 95) dX10_fits_41 (by decide) h (fun h => ?_) (fun h => ?_)
  · have h := kl_inr h
    refine p_iload_n dX10_fits_95 rfl ?_
    exact p_ireturn dX10_fits_96 (Nat.le_of_ble_eq_true rfl) (Nat.le_of_ble_eq_true rfl) ⟨_, rfl, rfl, ok_some h⟩
  · refine p_iload dX10_fits_44 rfl ?_
    refine p_sipush dX10_fits_46 (by decide) ?_
    refine q_icmp_ge (tgt := 95) dX10_fits_49 (by decide) h (fun h => ?_) (fun h => ?_)
    · have h := kl_inr h
      refine p_iload_n dX10_fits_95 rfl ?_
      exact p_ireturn dX10_fits_96 (Nat.le_of_ble_eq_true rfl) (Nat.le_of_ble_eq_true rfl) ⟨_, rfl, rfl, ok_some h⟩
    · refine p_iload_n dX10_fits_52 rfl ?_
      refine p_iload dX10_fits_53 rfl ?_
      refine p_iadd dX10_fits_55 ?_
      refine p_iconst dX10_fits_56 ?_
      refine q_idiv dX10_fits_57 h (fun h => ?_)
      refine p_istore dX10_fits_58 (Nat.le_of_ble_eq_true rfl) rfl ?_
      refine p_aload_n dX10_fits_60 rfl ?_
      refine p_aload_n dX10_fits_61 rfl ?_
      refine p_getr dX10_fits_62 fl_X10_10 (fun _ _ _ => rfl) rfl rfl ?_
      refine p_getr dX10_fits_65 fl_X10_69 (fun _ _ _ => rfl) (wc_X5 wl_X5_1) (wf_X5_0 wl_X5_1) ?_
      refine p_iload dX10_fits_68 rfl ?_
      refine cV_Ir [vR g 2, vI ((s.1 + s.2.1) / 2)] [] dX10_fits_70 yv_X8_sumWithUnit ml_X10_329 (r := (RX8, TX8, 7)) rfl rfl (Nat.le_of_ble_eq_true rfl) rfl (Nat.le_of_ble_eq_true rfl) (Nat.le_of_ble_eq_true rfl) (Nat.le_of_ble_eq_true rfl) (wc_X8 (wo_X5_3 wl_X5_1)) h (fun K h => s_X8_sumWithUnit hG (wo_X5_3 wl_X5_1) (wo_X5_0 wl_X5_1) h) (fun r70 h => ?_)
      refine p_iload_n dX10_fits_73 rfl ?_
      refine q_icmp_le (tgt := 85) dX10_fits_74 (by decide) h (fun h => ?_) (fun h => ?_)
      · refine p_iload dX10_fits_85 rfl ?_
        refine p_istore dX10_fits_87 (Nat.le_of_ble_eq_true rfl) rfl ?_
        refine p_iinc dX10_fits_89 rfl (Nat.le_of_ble_eq_true rfl) rfl ?_
        refine p_goto (tgt := 38) dX10_fits_92 (by decide) ?_
        exact p_weak (leL.same (leL.same (leL.same (leL.same (leL.same (leL.same (leL.drop leL.nil))))))) (kl_inl (P := (P_X10_fits_38 l g n K v1 D)) h)
      · refine p_iload dX10_fits_77 rfl ?_
        refine p_iconst dX10_fits_79 ?_
        refine p_iadd dX10_fits_80 ?_
        refine p_istore_n dX10_fits_81 (Nat.le_of_ble_eq_true rfl) rfl ?_
        refine p_goto (tgt := 89) dX10_fits_82 (by decide) ?_
        refine p_iinc dX10_fits_89 rfl (Nat.le_of_ble_eq_true rfl) rfl ?_
        refine p_goto (tgt := 38) dX10_fits_92 (by decide) ?_
        exact p_weak (leL.same (leL.same (leL.same (leL.same (leL.same (leL.same (leL.drop leL.nil))))))) (kl_inl (P := (P_X10_fits_38 l g n K v1 D)) h)
set_option maxRecDepth 100000 in
set_option maxHeartbeats 4000000 in
theorem x_X10_fits {l : Launch} {g : GH} (hG : G0 l g) {n : Nat} {v1 : Int} {D : DT} {K : (Int × DT) → Prop} (h : ok (m_X10_fits v1 D) K) : Px (E_X10_fits l g (PIw n K)) 0 [some (vR g 0), some (vI v1), none, none, none, none, none] [] (LF n) D 0 0 := by
  refine p_aload_n dX10_fits_0 rfl ?_
  refine p_getr dX10_fits_1 fl_X10_10 (fun _ _ _ => rfl) rfl rfl ?_
  refine cV_Aw [] [] dX10_fits_4 yv_X5_tallied ml_X10_172 (r := (RX5, TX5, 6)) rfl rfl (Nat.le_of_ble_eq_true rfl) rfl (Nat.le_of_ble_eq_true rfl) (Nat.le_of_ble_eq_true rfl) (Nat.le_of_ble_eq_true rfl) (wc_X5 wl_X5_1) h (fun K h => s_X5_tallied hG wl_X5_1 h) (fun D4 h => ?_)
  refine p_astore_n dX10_fits_7 (Nat.le_of_ble_eq_true rfl) rfl ?_
  refine p_aload_n dX10_fits_8 rfl ?_
  refine p_aload_n dX10_fits_9 rfl ?_
  refine p_getr dX10_fits_10 fl_X10_10 (fun _ _ _ => rfl) rfl rfl ?_
  refine p_getr dX10_fits_13 fl_X10_69 (fun _ _ _ => rfl) (wc_X5 wl_X5_1) (wf_X5_0 wl_X5_1) ?_
  refine p_sipush dX10_fits_16 (by decide) ?_
  refine cV_Ir [vR g 2, vI 9999] [] dX10_fits_19 yv_X8_sumWithUnit ml_X10_329 (r := (RX8, TX8, 7)) rfl rfl (Nat.le_of_ble_eq_true rfl) rfl (Nat.le_of_ble_eq_true rfl) (Nat.le_of_ble_eq_true rfl) (Nat.le_of_ble_eq_true rfl) (wc_X8 (wo_X5_3 wl_X5_1)) h (fun K h => s_X8_sumWithUnit hG (wo_X5_3 wl_X5_1) (wo_X5_0 wl_X5_1) h) (fun r19 h => ?_)
  refine p_iload_n dX10_fits_22 rfl ?_
  refine q_icmp_le (tgt := 28) dX10_fits_23 (by decide) h (fun h => ?_) (fun h => ?_)
  · refine p_iconst dX10_fits_28 ?_
    refine p_istore_n dX10_fits_29 (Nat.le_of_ble_eq_true rfl) rfl ?_
    refine p_sipush dX10_fits_30 (by decide) ?_
    refine p_istore dX10_fits_33 (Nat.le_of_ble_eq_true rfl) rfl ?_
    refine p_iconst dX10_fits_35 ?_
    refine p_istore dX10_fits_36 (Nat.le_of_ble_eq_true rfl) rfl ?_
    exact p_weak (leL.same (leL.same (leL.same (leL.same (leL.same (leL.same (leL.drop leL.nil))))))) (x_X10_fits_38 hG h)
  · refine p_iconst dX10_fits_26 ?_
    exact p_ireturn dX10_fits_27 (Nat.le_of_ble_eq_true rfl) (Nat.le_of_ble_eq_true rfl) ⟨_, rfl, rfl, ok_some h⟩
theorem s_X10_fits {l : Launch} {g : GH} (hG : G0 l g) {n : Nat} {v1 : Int} {D : DT} {K : (Int × DT) → Prop} (h : ok (m_X10_fits v1 D) K) : Sat l g yX10_fits cX10_fits 7 (some .int) 5 0 0 [vR g 0, vI v1] (LF n) D (PIw n K) := Sat.of hG (by decide) (Nat.le_of_ble_eq_true rfl) (by simp [Value.category]) (x_X10_fits hG h)
abbrev E_X10_scale (l : Launch) (g : GH) (P : PT) : ENV := mkE l g yX10_scale cX10_scale 3 (some .int) [] 5 0 0 P
abbrev P_X10_scale_2 (l : Launch) (g : GH) (n : Nat) (K : (Int × DT) → Prop) (v1 : Int) : (Int × DT) → Prop := fun s => Px (E_X10_scale l g (PIw n K)) 2 [some (vR g 0), some (vI v1), some (vI s.1)] [] (LF n) s.2 0 0
set_option maxRecDepth 100000 in
set_option maxHeartbeats 4000000 in
theorem x_X10_scale_2 {l : Launch} {g : GH} (hG : G0 l g) {n : Nat} {v1 : Int} {K : (Int × DT) → Prop} {s : (Int × DT)} (h : ok (m_X10_scale_2 v1 s) K) : Px (E_X10_scale l g (PIw n K)) 2 [some (vR g 0), some (vI v1), some (vI s.1)] [] (LF n) s.2 0 0 := by
  refine ok_loop (P := (P_X10_scale_2 l g n K v1)) (fun s h => ?_) h
  refine p_iload_n dX10_scale_2 rfl ?_
  refine p_iconst dX10_scale_3 ?_
  refine q_icmp_ge (tgt := 30) dX10_scale_4 (by decide) h (fun h => ?_) (fun h => ?_)
  · have h := kl_inr h
    refine p_iconst dX10_scale_30 ?_
    exact p_ireturn dX10_scale_31 (Nat.le_of_ble_eq_true rfl) (Nat.le_of_ble_eq_true rfl) ⟨_, rfl, rfl, ok_some h⟩
  · refine p_aload_n dX10_scale_7 rfl ?_
    refine p_getr dX10_scale_8 fl_X10_10 (fun _ _ _ => rfl) rfl rfl ?_
    refine cV_Aw [] [] dX10_scale_11 yv_X5_tallied ml_X10_172 (r := (RX5, TX5, 6)) rfl rfl (Nat.le_of_ble_eq_true rfl) rfl (Nat.le_of_ble_eq_true rfl) (Nat.le_of_ble_eq_true rfl) (Nat.le_of_ble_eq_true rfl) (wc_X5 wl_X5_1) h (fun K h => s_X5_tallied hG wl_X5_1 h) (fun D11 h => ?_)
    refine p_iload_n dX10_scale_14 rfl ?_
    refine cV_Ir [vI s.1] [] dX10_scale_15 yv_X8_sumOfLevel ml_X10_209 (r := (RX8, TX8, 7)) rfl rfl (Nat.le_of_ble_eq_true rfl) rfl (Nat.le_of_ble_eq_true rfl) (Nat.le_of_ble_eq_true rfl) (Nat.le_of_ble_eq_true rfl) (wc_X8 (wo_X5_3 wl_X5_1)) h (fun K h => s_X8_sumOfLevel hG (wo_X5_3 wl_X5_1) h) (fun r15 h => ?_)
    refine p_iload_n dX10_scale_18 rfl ?_
    refine q_icmp_gt (tgt := 24) dX10_scale_19 (by decide) h (fun h => ?_) (fun h => ?_)
    · refine p_iinc dX10_scale_24 rfl (Nat.le_of_ble_eq_true rfl) rfl ?_
      refine p_goto (tgt := 2) dX10_scale_27 (by decide) ?_
      exact p_weak (leL.same (leL.same (leL.same leL.nil))) (kl_inl (P := (P_X10_scale_2 l g n K v1)) h)
    · have h := kl_inr h
      refine p_iload_n dX10_scale_22 rfl ?_
      exact p_ireturn dX10_scale_23 (Nat.le_of_ble_eq_true rfl) (Nat.le_of_ble_eq_true rfl) ⟨_, rfl, rfl, ok_some h⟩
set_option maxRecDepth 100000 in
set_option maxHeartbeats 4000000 in
theorem x_X10_scale {l : Launch} {g : GH} (hG : G0 l g) {n : Nat} {v1 : Int} {D : DT} {K : (Int × DT) → Prop} (h : ok (m_X10_scale v1 D) K) : Px (E_X10_scale l g (PIw n K)) 0 [some (vR g 0), some (vI v1), none] [] (LF n) D 0 0 := by
  refine p_iconst dX10_scale_0 ?_
  refine p_istore_n dX10_scale_1 (Nat.le_of_ble_eq_true rfl) rfl ?_
  exact p_weak (leL.same (leL.same (leL.same leL.nil))) (x_X10_scale_2 hG h)
theorem s_X10_scale {l : Launch} {g : GH} (hG : G0 l g) {n : Nat} {v1 : Int} {D : DT} {K : (Int × DT) → Prop} (h : ok (m_X10_scale v1 D) K) : Sat l g yX10_scale cX10_scale 3 (some .int) 5 0 0 [vR g 0, vI v1] (LF n) D (PIw n K) := Sat.of hG (by decide) (Nat.le_of_ble_eq_true rfl) (by simp [Value.category]) (x_X10_scale hG h)
abbrev E_X10_write (l : Launch) (g : GH) (P : PT) : ENV := mkE l g yX10_write cX10_write 2 (some .int) [] 9 1 6 P
set_option maxRecDepth 100000 in
set_option maxHeartbeats 4000000 in
theorem x_X10_write {l : Launch} {g : GH} (hG : G0 l g) {n : Nat} {v1 : Int} {D : DT} {K : ((Int ⊕ Nat) × DT) → Prop} (h : ok (m_X10_write v1 D) K) : Px (E_X10_write l g (PXw n K)) 0 [some (vR g 0), some (vI v1)] [] (LF n) D 0 0 := by
  refine p_aload_n dX10_write_0 rfl ?_
  refine p_iload_n dX10_write_1 rfl ?_
  refine cV_Nr [vI v1] [] dX10_write_2 yv_X10_needZone ml_X10_107 (r := (RX10, TX10, 7)) rfl rfl (Nat.le_of_ble_eq_true rfl) rfl (Nat.le_of_ble_eq_true rfl) (Nat.le_of_ble_eq_true rfl) (Nat.le_of_ble_eq_true rfl) rfl h (fun K h => s_X10_needZone hG h) (fun e n h => px_out (Nat.le_of_ble_eq_true rfl) (Nat.le_of_ble_eq_true rfl) (Or.inr ⟨_, _, rfl, rfl, h⟩)) (fun h => ?_)
  refine p_aload_n dX10_write_5 rfl ?_
  refine p_getr dX10_write_6 fl_X10_33 (fun _ _ _ => rfl) rfl rfl ?_
  refine p_aload_n dX10_write_9 rfl ?_
  refine p_getr dX10_write_10 fl_X10_10 (fun _ _ _ => rfl) rfl rfl ?_
  refine p_getr dX10_write_13 fl_X10_69 (fun _ _ _ => rfl) (wc_X5 wl_X5_1) (wf_X5_0 wl_X5_1) ?_
  refine p_iload_n dX10_write_16 rfl ?_
  refine cV_Vw [vR g 2, vI v1] [] dX10_write_17 yv_X7_writeZone ml_X10_332 (r := (RX7, TX7, 2)) rfl rfl (Nat.le_of_ble_eq_true rfl) rfl (Nat.le_of_ble_eq_true rfl) (Nat.le_of_ble_eq_true rfl) (Nat.le_of_ble_eq_true rfl) rfl h (fun K h => s_X7_writeZone hG (wo_X5_0 wl_X5_1) h) (fun D17 h => ?_)
  refine p_aload_n dX10_write_20 rfl ?_
  refine p_getr dX10_write_21 fl_X10_33 (fun _ _ _ => rfl) rfl rfl ?_
  refine p_geti dX10_write_24 fl_X10_335 (fun _ _ _ => rfl) rfl ?_
  exact p_ireturn dX10_write_27 (Nat.le_of_ble_eq_true rfl) (Nat.le_of_ble_eq_true rfl) (Or.inl ⟨_, rfl, rfl, ok_some h⟩)
theorem s_X10_write {l : Launch} {g : GH} (hG : G0 l g) {n : Nat} {v1 : Int} {D : DT} {K : ((Int ⊕ Nat) × DT) → Prop} (h : ok (m_X10_write v1 D) K) : Sat l g yX10_write cX10_write 2 (some .int) 9 1 6 [vR g 0, vI v1] (LF n) D (PXw n K) := Sat.of hG (by decide) (Nat.le_of_ble_eq_true rfl) (by simp [Value.category]) (x_X10_write hG h)
abbrev E_X10_octet (l : Launch) (g : GH) (P : PT) : ENV := mkE l g yX10_octet cX10_octet 2 (some .int) [] 0 0 0 P
set_option maxRecDepth 100000 in
set_option maxHeartbeats 4000000 in
theorem x_X10_octet {l : Launch} {g : GH} (hG : G0 l g) {n : Nat} {v1 : Int} {D : DT} {K : Int → Prop} (h : ok (m_X10_octet v1 D) K) : Px (E_X10_octet l g (PIr n D K)) 0 [some (vR g 0), some (vI v1)] [] (LF n) D 0 0 := by
  refine p_iload_n dX10_octet_0 rfl ?_
  refine q_if_lt (tgt := 27) dX10_octet_1 (by decide) h (fun h => ?_) (fun h => ?_)
  · refine p_iconst dX10_octet_27 ?_
    exact p_ireturn dX10_octet_28 (Nat.le_of_ble_eq_true rfl) (Nat.le_of_ble_eq_true rfl) ⟨_, rfl, rfl, rfl, ok_some h⟩
  · refine p_iload_n dX10_octet_4 rfl ?_
    refine p_aload_n dX10_octet_5 rfl ?_
    refine p_getr dX10_octet_6 fl_X10_33 (fun _ _ _ => rfl) rfl rfl ?_
    refine p_geti dX10_octet_9 fl_X10_335 (fun _ _ _ => rfl) rfl ?_
    refine q_icmp_ge (tgt := 27) dX10_octet_12 (by decide) h (fun h => ?_) (fun h => ?_)
    · refine p_iconst dX10_octet_27 ?_
      exact p_ireturn dX10_octet_28 (Nat.le_of_ble_eq_true rfl) (Nat.le_of_ble_eq_true rfl) ⟨_, rfl, rfl, rfl, ok_some h⟩
    · refine p_aload_n dX10_octet_15 rfl ?_
      refine p_getr dX10_octet_16 fl_X10_33 (fun _ _ _ => rfl) rfl rfl ?_
      refine p_getr dX10_octet_19 fl_X10_336 (fun _ _ _ => rfl) rfl rfl ?_
      refine p_iload_n dX10_octet_22 rfl ?_
      refine q_bald dX10_octet_23 rfl rfl h (fun h => ?_)
      refine p_goto (tgt := 28) dX10_octet_24 (by decide) ?_
      exact p_ireturn dX10_octet_28 (Nat.le_of_ble_eq_true rfl) (Nat.le_of_ble_eq_true rfl) ⟨_, rfl, rfl, rfl, ok_some h⟩
theorem s_X10_octet {l : Launch} {g : GH} (hG : G0 l g) {n : Nat} {v1 : Int} {D : DT} {K : Int → Prop} (h : ok (m_X10_octet v1 D) K) : Sat l g yX10_octet cX10_octet 2 (some .int) 0 0 0 [vR g 0, vI v1] (LF n) D (PIr n D K) := Sat.of hG (by decide) (Nat.le_of_ble_eq_true rfl) (by simp [Value.category]) (x_X10_octet hG h)
abbrev E_X10_count (l : Launch) (g : GH) (P : PT) : ENV := mkE l g yX10_count cX10_count 2 (some .int) [] 3 0 0 P
set_option maxRecDepth 100000 in
set_option maxHeartbeats 4000000 in
theorem x_X10_count {l : Launch} {g : GH} (hG : G0 l g) {n : Nat} {v1 : Int} {D : DT} {K : Int → Prop} (h : ok (m_X10_count v1 D) K) : Px (E_X10_count l g (PIr n D K)) 0 [some (vR g 0), some (vI v1)] [] (LF n) D 0 0 := by
  refine p_iload_n dX10_count_0 rfl ?_
  obtain ⟨hr, h⟩ := ok_gd h
  by_cases e0 : v1 = 0
  · have h := (ok_ite h).1 e0
    refine p_tableIn (tgt := 60) dX10_count_1 hr (by omega) (by omega) (by rw [e0]; try rfl) (by decide) ?_
    refine p_aload_n dX10_count_60 rfl ?_
    refine p_getr dX10_count_61 fl_X10_10 (fun _ _ _ => rfl) rfl rfl ?_
    refine p_getr dX10_count_64 fl_X10_69 (fun _ _ _ => rfl) (wc_X5 wl_X5_1) (wf_X5_0 wl_X5_1) ?_
    refine p_geti dX10_count_67 fl_X10_302 (fun _ _ _ => rfl) (wc_X1 (wo_X5_0 wl_X5_1)) ?_
    exact p_ireturn dX10_count_70 (Nat.le_of_ble_eq_true rfl) (Nat.le_of_ble_eq_true rfl) ⟨_, rfl, rfl, rfl, ok_some h⟩
  have h := (ok_ite h).2 e0
  by_cases e1 : v1 = 1
  · have h := (ok_ite h).1 e1
    refine p_tableIn (tgt := 71) dX10_count_1 hr (by omega) (by omega) (by rw [e1]; try rfl) (by decide) ?_
    refine p_aload_n dX10_count_71 rfl ?_
    refine p_getr dX10_count_72 fl_X10_10 (fun _ _ _ => rfl) rfl rfl ?_
    refine p_getr dX10_count_75 fl_X10_69 (fun _ _ _ => rfl) (wc_X5 wl_X5_1) (wf_X5_0 wl_X5_1) ?_
    refine p_geti dX10_count_78 fl_X10_305 (fun _ _ _ => rfl) (wc_X1 (wo_X5_0 wl_X5_1)) ?_
    exact p_ireturn dX10_count_81 (Nat.le_of_ble_eq_true rfl) (Nat.le_of_ble_eq_true rfl) ⟨_, rfl, rfl, rfl, ok_some h⟩
  have h := (ok_ite h).2 e1
  by_cases e2 : v1 = 2
  · have h := (ok_ite h).1 e2
    refine p_tableIn (tgt := 82) dX10_count_1 hr (by omega) (by omega) (by rw [e2]; try rfl) (by decide) ?_
    refine p_aload_n dX10_count_82 rfl ?_
    refine p_getr dX10_count_83 fl_X10_10 (fun _ _ _ => rfl) rfl rfl ?_
    refine p_getr dX10_count_86 fl_X10_69 (fun _ _ _ => rfl) (wc_X5 wl_X5_1) (wf_X5_0 wl_X5_1) ?_
    refine p_geti dX10_count_89 fl_X10_88 (fun _ _ _ => rfl) (wc_X1 (wo_X5_0 wl_X5_1)) ?_
    exact p_ireturn dX10_count_92 (Nat.le_of_ble_eq_true rfl) (Nat.le_of_ble_eq_true rfl) ⟨_, rfl, rfl, rfl, ok_some h⟩
  have h := (ok_ite h).2 e2
  by_cases e3 : v1 = 3
  · have h := (ok_ite h).1 e3
    refine p_tableIn (tgt := 93) dX10_count_1 hr (by omega) (by omega) (by rw [e3]; try rfl) (by decide) ?_
    refine p_aload_n dX10_count_93 rfl ?_
    refine p_getr dX10_count_94 fl_X10_10 (fun _ _ _ => rfl) rfl rfl ?_
    refine p_getr dX10_count_97 fl_X10_69 (fun _ _ _ => rfl) (wc_X5 wl_X5_1) (wf_X5_0 wl_X5_1) ?_
    refine p_geti dX10_count_100 fl_X10_217 (fun _ _ _ => rfl) (wc_X1 (wo_X5_0 wl_X5_1)) ?_
    exact p_ireturn dX10_count_103 (Nat.le_of_ble_eq_true rfl) (Nat.le_of_ble_eq_true rfl) ⟨_, rfl, rfl, rfl, ok_some h⟩
  have h := (ok_ite h).2 e3
  by_cases e4 : v1 = 4
  · have h := (ok_ite h).1 e4
    refine p_tableIn (tgt := 104) dX10_count_1 hr (by omega) (by omega) (by rw [e4]; try rfl) (by decide) ?_
    refine p_aload_n dX10_count_104 rfl ?_
    refine p_getr dX10_count_105 fl_X10_10 (fun _ _ _ => rfl) rfl rfl ?_
    refine p_getr dX10_count_108 fl_X10_69 (fun _ _ _ => rfl) (wc_X5 wl_X5_1) (wf_X5_0 wl_X5_1) ?_
    refine cV_Ir [] [] dX10_count_111 yv_X1_seaCells ml_X10_339 (r := (RX1, TX1, 11)) rfl rfl (Nat.le_of_ble_eq_true rfl) rfl (Nat.le_of_ble_eq_true rfl) (Nat.le_of_ble_eq_true rfl) (Nat.le_of_ble_eq_true rfl) (wc_X1 (wo_X5_0 wl_X5_1)) h (fun K h => s_X1_seaCells hG (wo_X5_0 wl_X5_1) h) (fun r111 h => ?_)
    exact p_ireturn dX10_count_114 (Nat.le_of_ble_eq_true rfl) (Nat.le_of_ble_eq_true rfl) ⟨_, rfl, rfl, rfl, ok_some h⟩
  have h := (ok_ite h).2 e4
  by_cases e5 : v1 = 5
  · have h := (ok_ite h).1 e5
    refine p_tableIn (tgt := 115) dX10_count_1 hr (by omega) (by omega) (by rw [e5]; try rfl) (by decide) ?_
    refine p_aload_n dX10_count_115 rfl ?_
    refine p_getr dX10_count_116 fl_X10_10 (fun _ _ _ => rfl) rfl rfl ?_
    refine p_getr dX10_count_119 fl_X10_69 (fun _ _ _ => rfl) (wc_X5 wl_X5_1) (wf_X5_0 wl_X5_1) ?_
    refine cV_Ir [] [] dX10_count_122 yv_X1_landCells ml_X10_342 (r := (RX1, TX1, 11)) rfl rfl (Nat.le_of_ble_eq_true rfl) rfl (Nat.le_of_ble_eq_true rfl) (Nat.le_of_ble_eq_true rfl) (Nat.le_of_ble_eq_true rfl) (wc_X1 (wo_X5_0 wl_X5_1)) h (fun K h => s_X1_landCells hG (wo_X5_0 wl_X5_1) h) (fun r122 h => ?_)
    exact p_ireturn dX10_count_125 (Nat.le_of_ble_eq_true rfl) (Nat.le_of_ble_eq_true rfl) ⟨_, rfl, rfl, rfl, ok_some h⟩
  have h := (ok_ite h).2 e5
  by_cases e6 : v1 = 6
  · have h := (ok_ite h).1 e6
    refine p_tableIn (tgt := 126) dX10_count_1 hr (by omega) (by omega) (by rw [e6]; try rfl) (by decide) ?_
    refine p_aload_n dX10_count_126 rfl ?_
    refine p_getr dX10_count_127 fl_X10_10 (fun _ _ _ => rfl) rfl rfl ?_
    refine p_getr dX10_count_130 fl_X10_69 (fun _ _ _ => rfl) (wc_X5 wl_X5_1) (wf_X5_0 wl_X5_1) ?_
    refine cV_Ir [] [] dX10_count_133 yv_X1_freeCells ml_X10_345 (r := (RX1, TX1, 11)) rfl rfl (Nat.le_of_ble_eq_true rfl) rfl (Nat.le_of_ble_eq_true rfl) (Nat.le_of_ble_eq_true rfl) (Nat.le_of_ble_eq_true rfl) (wc_X1 (wo_X5_0 wl_X5_1)) h (fun K h => s_X1_freeCells hG (wo_X5_0 wl_X5_1) h) (fun r133 h => ?_)
    exact p_ireturn dX10_count_136 (Nat.le_of_ble_eq_true rfl) (Nat.le_of_ble_eq_true rfl) ⟨_, rfl, rfl, rfl, ok_some h⟩
  have h := (ok_ite h).2 e6
  by_cases e7 : v1 = 7
  · have h := (ok_ite h).1 e7
    refine p_tableIn (tgt := 137) dX10_count_1 hr (by omega) (by omega) (by rw [e7]; try rfl) (by decide) ?_
    refine p_aload_n dX10_count_137 rfl ?_
    refine p_getr dX10_count_138 fl_X10_10 (fun _ _ _ => rfl) rfl rfl ?_
    refine p_geti dX10_count_141 fl_X10_164 (fun _ _ _ => rfl) (wc_X5 wl_X5_1) ?_
    exact p_ireturn dX10_count_144 (Nat.le_of_ble_eq_true rfl) (Nat.le_of_ble_eq_true rfl) ⟨_, rfl, rfl, rfl, ok_some h⟩
  have h := (ok_ite h).2 e7
  by_cases e8 : v1 = 8
  · have h := (ok_ite h).1 e8
    refine p_tableIn (tgt := 145) dX10_count_1 hr (by omega) (by omega) (by rw [e8]; try rfl) (by decide) ?_
    refine p_aload_n dX10_count_145 rfl ?_
    refine p_getr dX10_count_146 fl_X10_10 (fun _ _ _ => rfl) rfl rfl ?_
    refine p_geti dX10_count_149 fl_X10_169 (fun _ _ _ => rfl) (wc_X5 wl_X5_1) ?_
    exact p_ireturn dX10_count_152 (Nat.le_of_ble_eq_true rfl) (Nat.le_of_ble_eq_true rfl) ⟨_, rfl, rfl, rfl, ok_some h⟩
  have h := (ok_ite h).2 e8
  by_cases e9 : v1 = 9
  · have h := (ok_ite h).1 e9
    refine p_tableIn (tgt := 153) dX10_count_1 hr (by omega) (by omega) (by rw [e9]; try rfl) (by decide) ?_
    refine p_aload_n dX10_count_153 rfl ?_
    refine p_getr dX10_count_154 fl_X10_33 (fun _ _ _ => rfl) rfl rfl ?_
    refine p_geti dX10_count_157 fl_X10_335 (fun _ _ _ => rfl) rfl ?_
    exact p_ireturn dX10_count_160 (Nat.le_of_ble_eq_true rfl) (Nat.le_of_ble_eq_true rfl) ⟨_, rfl, rfl, rfl, ok_some h⟩
  have h := (ok_ite h).2 e9
  by_cases e10 : v1 = 10
  · have h := (ok_ite h).1 e10
    refine p_tableIn (tgt := 161) dX10_count_1 hr (by omega) (by omega) (by rw [e10]; try rfl) (by decide) ?_
    refine p_aload_n dX10_count_161 rfl ?_
    refine p_getr dX10_count_162 fl_X10_10 (fun _ _ _ => rfl) rfl rfl ?_
    refine p_getr dX10_count_165 fl_X10_69 (fun _ _ _ => rfl) (wc_X5 wl_X5_1) (wf_X5_0 wl_X5_1) ?_
    refine cV_Ir [] [] dX10_count_168 yv_X1_everybody ml_X10_348 (r := (RX1, TX1, 11)) rfl rfl (Nat.le_of_ble_eq_true rfl) rfl (Nat.le_of_ble_eq_true rfl) (Nat.le_of_ble_eq_true rfl) (Nat.le_of_ble_eq_true rfl) (wc_X1 (wo_X5_0 wl_X5_1)) h (fun K h => s_X1_everybody hG (wo_X5_0 wl_X5_1) h) (fun r168 h => ?_)
    exact p_ireturn dX10_count_171 (Nat.le_of_ble_eq_true rfl) (Nat.le_of_ble_eq_true rfl) ⟨_, rfl, rfl, rfl, ok_some h⟩
  have h := (ok_ite h).2 e10
  refine p_tableOut (tgt := 172) dX10_count_1 hr (by omega) (by decide) ?_
  refine p_iconst dX10_count_172 ?_
  exact p_ireturn dX10_count_173 (Nat.le_of_ble_eq_true rfl) (Nat.le_of_ble_eq_true rfl) ⟨_, rfl, rfl, rfl, ok_some h⟩
theorem s_X10_count {l : Launch} {g : GH} (hG : G0 l g) {n : Nat} {v1 : Int} {D : DT} {K : Int → Prop} (h : ok (m_X10_count v1 D) K) : Sat l g yX10_count cX10_count 2 (some .int) 3 0 0 [vR g 0, vI v1] (LF n) D (PIr n D K) := Sat.of hG (by decide) (Nat.le_of_ble_eq_true rfl) (by simp [Value.category]) (x_X10_count hG h)
abbrev E_X11_thrown (l : Launch) (g : GH) (P : PT) : ENV := mkE l g yX11_thrown cX11_thrown 1 (some .int) [] 0 0 0 P
set_option maxRecDepth 100000 in
set_option maxHeartbeats 4000000 in
theorem x_X11_thrown {l : Launch} {g : GH} (hG : G0 l g) {n : Nat} {D : DT} {K : Int → Prop} (h : ok (m_X11_thrown D) K) : Px (E_X11_thrown l g (PIr n D K)) 0 [some (vR g 73)] [] (LF n) D 0 0 := by
  refine p_aload_n dX11_thrown_0 rfl ?_
  refine p_geti dX11_thrown_1 fl_X11_106 (fun _ _ _ => rfl) rfl ?_
  exact p_ireturn dX11_thrown_4 (Nat.le_of_ble_eq_true rfl) (Nat.le_of_ble_eq_true rfl) ⟨_, rfl, rfl, rfl, ok_some h⟩
theorem s_X11_thrown {l : Launch} {g : GH} (hG : G0 l g) {n : Nat} {D : DT} {K : Int → Prop} (h : ok (m_X11_thrown D) K) : Sat l g yX11_thrown cX11_thrown 1 (some .int) 0 0 0 [vR g 73] (LF n) D (PIr n D K) := Sat.of hG (by decide) (Nat.le_of_ble_eq_true rfl) (by simp [Value.category]) (x_X11_thrown hG h)
abbrev E_X11_throwsIf (l : Launch) (g : GH) (P : PT) : ENV := mkE l g yX11_throwsIf cX11_throwsIf 3 (some .boolean) [] 0 0 0 P
set_option maxRecDepth 100000 in
set_option maxHeartbeats 4000000 in
theorem x_X11_throwsIf {l : Launch} {g : GH} (hG : G0 l g) {n : Nat} {v1 : Int} {v2 : Int} {D : DT} {K : (Int × DT) → Prop} (h : ok (m_X11_throwsIf v1 v2 D) K) : Px (E_X11_throwsIf l g (PIw n K)) 0 [some (vR g 73), some (vI v1), some (vI v2)] [] (LF n) D 0 0 := by
  refine p_iload_n dX11_throwsIf_0 rfl ?_
  refine q_if_eq (tgt := 9) dX11_throwsIf_1 (by decide) h (fun h => ?_) (fun h => ?_)
  · refine p_iload_n dX11_throwsIf_9 rfl ?_
    obtain ⟨hz, h⟩ := ok_gd h
    exact p_zreturn dX11_throwsIf_10 (Nat.le_of_ble_eq_true rfl) (Nat.le_of_ble_eq_true rfl) hz ⟨_, rfl, rfl, ok_some h⟩
  · refine p_aload_n dX11_throwsIf_4 rfl ?_
    refine p_iload_n dX11_throwsIf_5 rfl ?_
    refine q_puti dX11_throwsIf_6 fq_X11_106 rfl rfl h (fun D6 h => ?_)
    refine p_iload_n dX11_throwsIf_9 rfl ?_
    obtain ⟨hz, h⟩ := ok_gd h
    exact p_zreturn dX11_throwsIf_10 (Nat.le_of_ble_eq_true rfl) (Nat.le_of_ble_eq_true rfl) hz ⟨_, rfl, rfl, ok_some h⟩
theorem s_X11_throwsIf {l : Launch} {g : GH} (hG : G0 l g) {n : Nat} {v1 : Int} {v2 : Int} {D : DT} {K : (Int × DT) → Prop} (h : ok (m_X11_throwsIf v1 v2 D) K) : Sat l g yX11_throwsIf cX11_throwsIf 3 (some .boolean) 0 0 0 [vR g 73, vI v1, vI v2] (LF n) D (PIw n K) := Sat.of hG (by decide) (Nat.le_of_ble_eq_true rfl) (by simp [Value.category]) (x_X11_throwsIf hG h)
abbrev E_X11_in (l : Launch) (g : GH) (P : PT) : ENV := mkE l g yX11_in cX11_in 3 (some .boolean) [] 0 0 0 P
set_option maxRecDepth 100000 in
set_option maxHeartbeats 4000000 in
theorem x_X11_in {l : Launch} {g : GH} (hG : G0 l g) {n : Nat} {v0 : Int} {v1 : Int} {v2 : Int} {D : DT} {K : Int → Prop} (h : ok (m_X11_in v0 v1 v2 D) K) : Px (E_X11_in l g (PIr n D K)) 0 [some (vI v0), some (vI v1), some (vI v2)] [] (LF n) D 0 0 := by
  refine p_iload_n dX11_in_0 rfl ?_
  refine p_iload_n dX11_in_1 rfl ?_
  refine q_icmp_lt (tgt := 14) dX11_in_2 (by decide) h (fun h => ?_) (fun h => ?_)
  · refine p_iconst dX11_in_14 ?_
    exact p_zreturn dX11_in_15 (Nat.le_of_ble_eq_true rfl) (Nat.le_of_ble_eq_true rfl) (Or.inl rfl) ⟨_, rfl, rfl, rfl, ok_some h⟩
  · refine p_iload_n dX11_in_5 rfl ?_
    refine p_iload_n dX11_in_6 rfl ?_
    refine q_icmp_gt (tgt := 14) dX11_in_7 (by decide) h (fun h => ?_) (fun h => ?_)
    · refine p_iconst dX11_in_14 ?_
      exact p_zreturn dX11_in_15 (Nat.le_of_ble_eq_true rfl) (Nat.le_of_ble_eq_true rfl) (Or.inl rfl) ⟨_, rfl, rfl, rfl, ok_some h⟩
    · refine p_iconst dX11_in_10 ?_
      refine p_goto (tgt := 15) dX11_in_11 (by decide) ?_
      exact p_zreturn dX11_in_15 (Nat.le_of_ble_eq_true rfl) (Nat.le_of_ble_eq_true rfl) (Or.inr rfl) ⟨_, rfl, rfl, rfl, ok_some h⟩
theorem s_X11_in {l : Launch} {g : GH} (hG : G0 l g) {n : Nat} {v0 : Int} {v1 : Int} {v2 : Int} {D : DT} {K : Int → Prop} (h : ok (m_X11_in v0 v1 v2 D) K) : Sat l g yX11_in cX11_in 3 (some .boolean) 0 0 0 [vI v0, vI v1, vI v2] (LF n) D (PIr n D K) := Sat.of hG (by decide) (Nat.le_of_ble_eq_true rfl) (by simp [Value.category]) (x_X11_in hG h)
abbrev E_X11_feed (l : Launch) (g : GH) (P : PT) : ENV := mkE l g yX11_feed cX11_feed 7 (some .int) [] 0 0 0 P
abbrev P_X11_feed_60 (l : Launch) (g : GH) (n : Nat) (K : (Int × DT) → Prop) : (Int × DT) → Prop := fun s => Px (E_X11_feed l g (PIw n K)) 60 [some (vR g 73), none, none, none, none, none, some (vI s.1)] [] (LF n) s.2 0 0
set_option maxRecDepth 100000 in
set_option maxHeartbeats 4000000 in
theorem x_X11_feed_60 {l : Launch} {g : GH} (hG : G0 l g) {n : Nat} {K : (Int × DT) → Prop} {s : (Int × DT)} (h : ok (m_X11_feed_60 s) K) : Px (E_X11_feed l g (PIw n K)) 60 [some (vR g 73), none, none, none, none, none, some (vI s.1)] [] (LF n) s.2 0 0 := by
  refine ok_loop (P := (P_X11_feed_60 l g n K)) (fun s h => ?_) h
  refine p_iload dX11_feed_60 rfl ?_
  refine p_bipush dX11_feed_62 (by decide) ?_
  refine q_icmp_ge (tgt := 106) dX11_feed_64 (by decide) h (fun h => ?_) (fun h => ?_)
  · have h := kl_inr h
    refine p_aload_n dX11_feed_106 rfl ?_
    refine p_dup dX11_feed_107 rfl ?_
    refine p_geti dX11_feed_108 fl_X11_109 (fun _ _ _ => rfl) rfl ?_
    refine p_bipush dX11_feed_111 (by decide) ?_
    refine p_iadd dX11_feed_113 ?_
    refine q_puti dX11_feed_114 fq_X11_109 rfl rfl h (fun D114 h => ?_)
    refine p_aload_n dX11_feed_117 rfl ?_
    refine p_geti dX11_feed_118 fl_X11_109 (fun _ _ _ => rfl) rfl ?_
    exact p_ireturn dX11_feed_121 (Nat.le_of_ble_eq_true rfl) (Nat.le_of_ble_eq_true rfl) ⟨_, rfl, rfl, ok_some h⟩
  · refine p_aload_n dX11_feed_67 rfl ?_
    refine p_getr dX11_feed_68 fl_X11_9 (fun _ _ _ => rfl) rfl rfl ?_
    refine p_aload_n dX11_feed_71 rfl ?_
    refine p_geti dX11_feed_72 fl_X11_109 (fun _ _ _ => rfl) rfl ?_
    refine p_iload dX11_feed_75 rfl ?_
    refine p_iadd dX11_feed_77 ?_
    refine p_aload_n dX11_feed_78 rfl ?_
    refine p_getr dX11_feed_79 fl_X11_13 (fun _ _ _ => rfl) rfl rfl ?_
    refine p_iload dX11_feed_82 rfl ?_
    refine p_iconst dX11_feed_84 ?_
    refine q_idiv dX11_feed_85 h (fun h => ?_)
    refine q_iald dX11_feed_86 rfl rfl h (fun h => ?_)
    refine p_bipush dX11_feed_87 (by decide) ?_
    refine p_bipush dX11_feed_89 (by decide) ?_
    refine p_iload dX11_feed_91 rfl ?_
    refine p_iconst dX11_feed_93 ?_
    refine q_irem dX11_feed_94 h (fun h => ?_)
    refine p_imul dX11_feed_95 ?_
    refine p_isub dX11_feed_96 ?_
    refine p_ishr dX11_feed_97 ?_
    refine p_i2b dX11_feed_98 ?_
    refine q_bast dX11_feed_99 rfl rfl h (fun D99 h => ?_)
    refine p_iinc dX11_feed_100 rfl (Nat.le_of_ble_eq_true rfl) rfl ?_
    refine p_goto (tgt := 60) dX11_feed_103 (by decide) ?_
    exact p_weak (leL.same (leL.drop (leL.drop (leL.drop (leL.drop (leL.drop (leL.same leL.nil))))))) (kl_inl (P := (P_X11_feed_60 l g n K)) h)
set_option maxRecDepth 100000 in
set_option maxHeartbeats 4000000 in
theorem x_X11_feed {l : Launch} {g : GH} (hG : G0 l g) {n : Nat} {v1 : Int} {v2 : Int} {v3 : Int} {v4 : Int} {v5 : Int} {D : DT} {K : (Int × DT) → Prop} (h : ok (m_X11_feed v1 v2 v3 v4 v5 D) K) : Px (E_X11_feed l g (PIw n K)) 0 [some (vR g 73), some (vI v1), some (vI v2), some (vI v3), some (vI v4), some (vI v5), none] [] (LF n) D 0 0 := by
  refine p_aload_n dX11_feed_0 rfl ?_
  refine p_iconst dX11_feed_1 ?_
  refine q_puti dX11_feed_2 fq_X11_106 rfl rfl h (fun D2 h => ?_)
  refine p_aload_n dX11_feed_5 rfl ?_
  refine p_geti dX11_feed_6 fl_X11_109 (fun _ _ _ => rfl) rfl ?_
  refine p_bipush dX11_feed_9 (by decide) ?_
  refine p_iadd dX11_feed_11 ?_
  refine p_sipush dX11_feed_12 (by decide) ?_
  refine q_icmp_le (tgt := 20) dX11_feed_15 (by decide) h (fun h => ?_) (fun h => ?_)
  · refine p_aload_n dX11_feed_20 rfl ?_
    refine p_getr dX11_feed_21 fl_X11_13 (fun _ _ _ => rfl) rfl rfl ?_
    refine p_iconst dX11_feed_24 ?_
    refine p_iload_n dX11_feed_25 rfl ?_
    refine q_iast dX11_feed_26 rfl rfl h (fun D26 h => ?_)
    refine p_aload_n dX11_feed_27 rfl ?_
    refine p_getr dX11_feed_28 fl_X11_13 (fun _ _ _ => rfl) rfl rfl ?_
    refine p_iconst dX11_feed_31 ?_
    refine p_iload_n dX11_feed_32 rfl ?_
    refine q_iast dX11_feed_33 rfl rfl h (fun D33 h => ?_)
    refine p_aload_n dX11_feed_34 rfl ?_
    refine p_getr dX11_feed_35 fl_X11_13 (fun _ _ _ => rfl) rfl rfl ?_
    refine p_iconst dX11_feed_38 ?_
    refine p_iload_n dX11_feed_39 rfl ?_
    refine q_iast dX11_feed_40 rfl rfl h (fun D40 h => ?_)
    refine p_aload_n dX11_feed_41 rfl ?_
    refine p_getr dX11_feed_42 fl_X11_13 (fun _ _ _ => rfl) rfl rfl ?_
    refine p_iconst dX11_feed_45 ?_
    refine p_iload dX11_feed_46 rfl ?_
    refine q_iast dX11_feed_48 rfl rfl h (fun D48 h => ?_)
    refine p_aload_n dX11_feed_49 rfl ?_
    refine p_getr dX11_feed_50 fl_X11_13 (fun _ _ _ => rfl) rfl rfl ?_
    refine p_iconst dX11_feed_53 ?_
    refine p_iload dX11_feed_54 rfl ?_
    refine q_iast dX11_feed_56 rfl rfl h (fun D56 h => ?_)
    refine p_iconst dX11_feed_57 ?_
    refine p_istore dX11_feed_58 (Nat.le_of_ble_eq_true rfl) rfl ?_
    exact p_weak (leL.same (leL.drop (leL.drop (leL.drop (leL.drop (leL.drop (leL.same leL.nil))))))) (x_X11_feed_60 hG h)
  · refine p_iconst dX11_feed_18 ?_
    exact p_ireturn dX11_feed_19 (Nat.le_of_ble_eq_true rfl) (Nat.le_of_ble_eq_true rfl) ⟨_, rfl, rfl, ok_some h⟩
theorem s_X11_feed {l : Launch} {g : GH} (hG : G0 l g) {n : Nat} {v1 : Int} {v2 : Int} {v3 : Int} {v4 : Int} {v5 : Int} {D : DT} {K : (Int × DT) → Prop} (h : ok (m_X11_feed v1 v2 v3 v4 v5 D) K) : Sat l g yX11_feed cX11_feed 7 (some .int) 0 0 0 [vR g 73, vI v1, vI v2, vI v3, vI v4, vI v5] (LF n) D (PIw n K) := Sat.of hG (by decide) (Nat.le_of_ble_eq_true rfl) (by simp [Value.category]) (x_X11_feed hG h)
abbrev E_X11_end (l : Launch) (g : GH) (P : PT) : ENV := mkE l g yX11_end cX11_end 2 (some .boolean) [] 0 0 0 P
set_option maxRecDepth 100000 in
set_option maxHeartbeats 4000000 in
theorem x_X11_end {l : Launch} {g : GH} (hG : G0 l g) {n : Nat} {v1 : Int} {D : DT} {K : (Int × DT) → Prop} (h : ok (m_X11_end v1 D) K) : Px (E_X11_end l g (PIw n K)) 0 [some (vR g 73), some (vI v1)] [] (LF n) D 0 0 := by
  refine p_aload_n dX11_end_0 rfl ?_
  refine p_iconst dX11_end_1 ?_
  refine q_puti dX11_end_2 fq_X11_106 rfl rfl h (fun D2 h => ?_)
  refine p_iload_n dX11_end_5 rfl ?_
  refine q_if_lt (tgt := 17) dX11_end_6 (by decide) h (fun h => ?_) (fun h => ?_)
  · refine p_iconst dX11_end_17 ?_
    exact p_zreturn dX11_end_18 (Nat.le_of_ble_eq_true rfl) (Nat.le_of_ble_eq_true rfl) (Or.inl rfl) ⟨_, rfl, rfl, ok_some h⟩
  · refine p_iload_n dX11_end_9 rfl ?_
    refine p_aload_n dX11_end_10 rfl ?_
    refine p_geti dX11_end_11 fl_X11_109 (fun _ _ _ => rfl) rfl ?_
    refine q_icmp_le (tgt := 19) dX11_end_14 (by decide) h (fun h => ?_) (fun h => ?_)
    · refine p_aload_n dX11_end_19 rfl ?_
      refine p_iload_n dX11_end_20 rfl ?_
      refine q_puti dX11_end_21 fq_X11_109 rfl rfl h (fun D21 h => ?_)
      refine p_iconst dX11_end_24 ?_
      exact p_zreturn dX11_end_25 (Nat.le_of_ble_eq_true rfl) (Nat.le_of_ble_eq_true rfl) (Or.inr rfl) ⟨_, rfl, rfl, ok_some h⟩
    · refine p_iconst dX11_end_17 ?_
      exact p_zreturn dX11_end_18 (Nat.le_of_ble_eq_true rfl) (Nat.le_of_ble_eq_true rfl) (Or.inl rfl) ⟨_, rfl, rfl, ok_some h⟩
theorem s_X11_end {l : Launch} {g : GH} (hG : G0 l g) {n : Nat} {v1 : Int} {D : DT} {K : (Int × DT) → Prop} (h : ok (m_X11_end v1 D) K) : Sat l g yX11_end cX11_end 2 (some .boolean) 0 0 0 [vR g 73, vI v1] (LF n) D (PIw n K) := Sat.of hG (by decide) (Nat.le_of_ble_eq_true rfl) (by simp [Value.category]) (x_X11_end hG h)
abbrev E_X11_hasFailed (l : Launch) (g : GH) (P : PT) : ENV := mkE l g yX11_hasFailed cX11_hasFailed 1 (some .boolean) [] 0 0 0 P
set_option maxRecDepth 100000 in
set_option maxHeartbeats 4000000 in
theorem x_X11_hasFailed {l : Launch} {g : GH} (hG : G0 l g) {n : Nat} {D : DT} {K : Int → Prop} (h : ok (m_X11_hasFailed D) K) : Px (E_X11_hasFailed l g (PIr n D K)) 0 [some (vR g 73)] [] (LF n) D 0 0 := by
  refine p_aload_n dX11_hasFailed_0 rfl ?_
  refine p_geti dX11_hasFailed_1 fl_X11_112 (fun _ _ _ => rfl) rfl ?_
  refine p_iconst dX11_hasFailed_4 ?_
  refine q_icmp_eq (tgt := 12) dX11_hasFailed_5 (by decide) h (fun h => ?_) (fun h => ?_)
  · refine p_iconst dX11_hasFailed_12 ?_
    exact p_zreturn dX11_hasFailed_13 (Nat.le_of_ble_eq_true rfl) (Nat.le_of_ble_eq_true rfl) (Or.inl rfl) ⟨_, rfl, rfl, rfl, ok_some h⟩
  · refine p_iconst dX11_hasFailed_8 ?_
    refine p_goto (tgt := 13) dX11_hasFailed_9 (by decide) ?_
    exact p_zreturn dX11_hasFailed_13 (Nat.le_of_ble_eq_true rfl) (Nat.le_of_ble_eq_true rfl) (Or.inr rfl) ⟨_, rfl, rfl, rfl, ok_some h⟩
theorem s_X11_hasFailed {l : Launch} {g : GH} (hG : G0 l g) {n : Nat} {D : DT} {K : Int → Prop} (h : ok (m_X11_hasFailed D) K) : Sat l g yX11_hasFailed cX11_hasFailed 1 (some .boolean) 0 0 0 [vR g 73] (LF n) D (PIr n D K) := Sat.of hG (by decide) (Nat.le_of_ble_eq_true rfl) (by simp [Value.category]) (x_X11_hasFailed hG h)
abbrev E_X11_isAt (l : Launch) (g : GH) (P : PT) : ENV := mkE l g yX11_isAt cX11_isAt 3 (some .boolean) [] 0 0 0 P
set_option maxRecDepth 100000 in
set_option maxHeartbeats 4000000 in
theorem x_X11_isAt {l : Launch} {g : GH} (hG : G0 l g) {n : Nat} {v1 : Int} {v2 : Int} {D : DT} {K : Int → Prop} (h : ok (m_X11_isAt v1 v2 D) K) : Px (E_X11_isAt l g (PIr n D K)) 0 [some (vR g 73), some (vI v1), some (vI v2)] [] (LF n) D 0 0 := by
  refine p_aload_n dX11_isAt_0 rfl ?_
  refine p_geti dX11_isAt_1 fl_X11_115 (fun _ _ _ => rfl) rfl ?_
  refine p_aload_n dX11_isAt_4 rfl ?_
  refine p_geti dX11_isAt_5 fl_X11_118 (fun _ _ _ => rfl) rfl ?_
  refine q_icmp_ge (tgt := 41) dX11_isAt_8 (by decide) h (fun h => ?_) (fun h => ?_)
  · refine p_iconst dX11_isAt_41 ?_
    exact p_zreturn dX11_isAt_42 (Nat.le_of_ble_eq_true rfl) (Nat.le_of_ble_eq_true rfl) (Or.inl rfl) ⟨_, rfl, rfl, rfl, ok_some h⟩
  · refine p_aload_n dX11_isAt_11 rfl ?_
    refine p_getr dX11_isAt_12 fl_X11_9 (fun _ _ _ => rfl) rfl rfl ?_
    refine p_aload_n dX11_isAt_15 rfl ?_
    refine p_geti dX11_isAt_16 fl_X11_115 (fun _ _ _ => rfl) rfl ?_
    refine q_bald dX11_isAt_19 rfl rfl h (fun h => ?_)
    refine p_iload_n dX11_isAt_20 rfl ?_
    refine q_icmp_lt (tgt := 41) dX11_isAt_21 (by decide) h (fun h => ?_) (fun h => ?_)
    · refine p_iconst dX11_isAt_41 ?_
      exact p_zreturn dX11_isAt_42 (Nat.le_of_ble_eq_true rfl) (Nat.le_of_ble_eq_true rfl) (Or.inl rfl) ⟨_, rfl, rfl, rfl, ok_some h⟩
    · refine p_aload_n dX11_isAt_24 rfl ?_
      refine p_getr dX11_isAt_25 fl_X11_9 (fun _ _ _ => rfl) rfl rfl ?_
      refine p_aload_n dX11_isAt_28 rfl ?_
      refine p_geti dX11_isAt_29 fl_X11_115 (fun _ _ _ => rfl) rfl ?_
      refine q_bald dX11_isAt_32 rfl rfl h (fun h => ?_)
      refine p_iload_n dX11_isAt_33 rfl ?_
      refine q_icmp_gt (tgt := 41) dX11_isAt_34 (by decide) h (fun h => ?_) (fun h => ?_)
      · refine p_iconst dX11_isAt_41 ?_
        exact p_zreturn dX11_isAt_42 (Nat.le_of_ble_eq_true rfl) (Nat.le_of_ble_eq_true rfl) (Or.inl rfl) ⟨_, rfl, rfl, rfl, ok_some h⟩
      · refine p_iconst dX11_isAt_37 ?_
        refine p_goto (tgt := 42) dX11_isAt_38 (by decide) ?_
        exact p_zreturn dX11_isAt_42 (Nat.le_of_ble_eq_true rfl) (Nat.le_of_ble_eq_true rfl) (Or.inr rfl) ⟨_, rfl, rfl, rfl, ok_some h⟩
theorem s_X11_isAt {l : Launch} {g : GH} (hG : G0 l g) {n : Nat} {v1 : Int} {v2 : Int} {D : DT} {K : Int → Prop} (h : ok (m_X11_isAt v1 v2 D) K) : Sat l g yX11_isAt cX11_isAt 3 (some .boolean) 0 0 0 [vR g 73, vI v1, vI v2] (LF n) D (PIr n D K) := Sat.of hG (by decide) (Nat.le_of_ble_eq_true rfl) (by simp [Value.category]) (x_X11_isAt hG h)
abbrev E_X11_blanks (l : Launch) (g : GH) (P : PT) : ENV := mkE l g yX11_blanks cX11_blanks 1 none [] 1 0 0 P
abbrev P_X11_blanks_0 (l : Launch) (g : GH) (n : Nat) (K : DT → Prop) : DT → Prop := fun s => Px (E_X11_blanks l g (PVw n K)) 0 [some (vR g 73)] [] (LF n) s 0 0
set_option maxRecDepth 100000 in
set_option maxHeartbeats 4000000 in
theorem x_X11_blanks_0 {l : Launch} {g : GH} (hG : G0 l g) {n : Nat} {K : DT → Prop} {s : DT} (h : ok (m_X11_blanks_0 s) K) : Px (E_X11_blanks l g (PVw n K)) 0 [some (vR g 73)] [] (LF n) s 0 0 := by
  refine ok_loop (P := (P_X11_blanks_0 l g n K)) (fun s h => ?_) h
  refine p_aload_n dX11_blanks_0 rfl ?_
  refine p_bipush dX11_blanks_1 (by decide) ?_
  refine p_bipush dX11_blanks_3 (by decide) ?_
  refine cV_Ir [vI 9, vI 10] [] dX11_blanks_5 yv_X11_isAt ml_X11_121 (r := (RX11, TX11, 41)) rfl rfl (Nat.le_of_ble_eq_true rfl) rfl (Nat.le_of_ble_eq_true rfl) (Nat.le_of_ble_eq_true rfl) (Nat.le_of_ble_eq_true rfl) rfl h (fun K h => s_X11_isAt hG h) (fun r5 h => ?_)
  refine q_if_ne (tgt := 22) dX11_blanks_8 (by decide) h (fun h => ?_) (fun h => ?_)
  · refine p_aload_n dX11_blanks_22 rfl ?_
    refine p_dup dX11_blanks_23 rfl ?_
    refine p_geti dX11_blanks_24 fl_X11_115 (fun _ _ _ => rfl) rfl ?_
    refine p_iconst dX11_blanks_27 ?_
    refine p_iadd dX11_blanks_28 ?_
    refine q_puti dX11_blanks_29 fq_X11_115 rfl rfl h (fun D29 h => ?_)
    refine p_goto (tgt := 0) dX11_blanks_32 (by decide) ?_
    exact p_weak (leL.same leL.nil) (kl_inl (P := (P_X11_blanks_0 l g n K)) h)
  · refine p_aload_n dX11_blanks_11 rfl ?_
    refine p_bipush dX11_blanks_12 (by decide) ?_
    refine p_bipush dX11_blanks_14 (by decide) ?_
    refine cV_Ir [vI 32, vI 32] [] dX11_blanks_16 yv_X11_isAt ml_X11_121 (r := (RX11, TX11, 41)) rfl rfl (Nat.le_of_ble_eq_true rfl) rfl (Nat.le_of_ble_eq_true rfl) (Nat.le_of_ble_eq_true rfl) (Nat.le_of_ble_eq_true rfl) rfl h (fun K h => s_X11_isAt hG h) (fun r16 h => ?_)
    refine q_if_eq (tgt := 35) dX11_blanks_19 (by decide) h (fun h => ?_) (fun h => ?_)
    · have h := kl_inr h
      refine p_aload_n dX11_blanks_35 rfl ?_
      refine p_aload_n dX11_blanks_36 rfl ?_
      refine p_geti dX11_blanks_37 fl_X11_115 (fun _ _ _ => rfl) rfl ?_
      refine q_puti dX11_blanks_40 fq_X11_125 rfl rfl h (fun D40 h => ?_)
      exact p_return dX11_blanks_43 (Nat.le_of_ble_eq_true rfl) (Nat.le_of_ble_eq_true rfl) ⟨rfl, rfl, ok_some h⟩
    · refine p_aload_n dX11_blanks_22 rfl ?_
      refine p_dup dX11_blanks_23 rfl ?_
      refine p_geti dX11_blanks_24 fl_X11_115 (fun _ _ _ => rfl) rfl ?_
      refine p_iconst dX11_blanks_27 ?_
      refine p_iadd dX11_blanks_28 ?_
      refine q_puti dX11_blanks_29 fq_X11_115 rfl rfl h (fun D29 h => ?_)
      refine p_goto (tgt := 0) dX11_blanks_32 (by decide) ?_
      exact p_weak (leL.same leL.nil) (kl_inl (P := (P_X11_blanks_0 l g n K)) h)
set_option maxRecDepth 100000 in
set_option maxHeartbeats 4000000 in
theorem x_X11_blanks {l : Launch} {g : GH} (hG : G0 l g) {n : Nat} {D : DT} {K : DT → Prop} (h : ok (m_X11_blanks D) K) : Px (E_X11_blanks l g (PVw n K)) 0 [some (vR g 73)] [] (LF n) D 0 0 := by
  exact p_weak (leL.same leL.nil) (x_X11_blanks_0 hG h)
theorem s_X11_blanks {l : Launch} {g : GH} (hG : G0 l g) {n : Nat} {D : DT} {K : DT → Prop} (h : ok (m_X11_blanks D) K) : Sat l g yX11_blanks cX11_blanks 1 none 1 0 0 [vR g 73] (LF n) D (PVw n K) := Sat.of hG (by decide) (Nat.le_of_ble_eq_true rfl) (by simp [Value.category]) (x_X11_blanks hG h)
abbrev E_X11_failsAt (l : Launch) (g : GH) (P : PT) : ENV := mkE l g yX11_failsAt cX11_failsAt 2 none [] 0 0 0 P
set_option maxRecDepth 100000 in
set_option maxHeartbeats 4000000 in
theorem x_X11_failsAt {l : Launch} {g : GH} (hG : G0 l g) {n : Nat} {v1 : Int} {D : DT} {K : DT → Prop} (h : ok (m_X11_failsAt v1 D) K) : Px (E_X11_failsAt l g (PVw n K)) 0 [some (vR g 73), some (vI v1)] [] (LF n) D 0 0 := by
  refine p_aload_n dX11_failsAt_0 rfl ?_
  refine p_geti dX11_failsAt_1 fl_X11_112 (fun _ _ _ => rfl) rfl ?_
  refine p_iconst dX11_failsAt_4 ?_
  refine q_icmp_ne (tgt := 13) dX11_failsAt_5 (by decide) h (fun h => ?_) (fun h => ?_)
  · exact p_return dX11_failsAt_13 (Nat.le_of_ble_eq_true rfl) (Nat.le_of_ble_eq_true rfl) ⟨rfl, rfl, ok_some h⟩
  · refine p_aload_n dX11_failsAt_8 rfl ?_
    refine p_iload_n dX11_failsAt_9 rfl ?_
    refine q_puti dX11_failsAt_10 fq_X11_112 rfl rfl h (fun D10 h => ?_)
    exact p_return dX11_failsAt_13 (Nat.le_of_ble_eq_true rfl) (Nat.le_of_ble_eq_true rfl) ⟨rfl, rfl, ok_some h⟩
theorem s_X11_failsAt {l : Launch} {g : GH} (hG : G0 l g) {n : Nat} {v1 : Int} {D : DT} {K : DT → Prop} (h : ok (m_X11_failsAt v1 D) K) : Sat l g yX11_failsAt cX11_failsAt 2 none 0 0 0 [vR g 73, vI v1] (LF n) D (PVw n K) := Sat.of hG (by decide) (Nat.le_of_ble_eq_true rfl) (by simp [Value.category]) (x_X11_failsAt hG h)
abbrev E_X11_takes (l : Launch) (g : GH) (P : PT) : ENV := mkE l g yX11_takes cX11_takes 2 (some .boolean) [] 2 0 0 P
set_option maxRecDepth 100000 in
set_option maxHeartbeats 4000000 in
theorem x_X11_takes {l : Launch} {g : GH} (hG : G0 l g) {n : Nat} {v1 : Int} {D : DT} {K : (Int × DT) → Prop} (h : ok (m_X11_takes v1 D) K) : Px (E_X11_takes l g (PIw n K)) 0 [some (vR g 73), some (vI v1)] [] (LF n) D 0 0 := by
  refine p_aload_n dX11_takes_0 rfl ?_
  refine cV_Vw [] [] dX11_takes_1 yv_X11_blanks ml_X11_128 (r := (RX11, TX11, 41)) rfl rfl (Nat.le_of_ble_eq_true rfl) rfl (Nat.le_of_ble_eq_true rfl) (Nat.le_of_ble_eq_true rfl) (Nat.le_of_ble_eq_true rfl) rfl h (fun K h => s_X11_blanks hG h) (fun D1 h => ?_)
  refine p_aload_n dX11_takes_4 rfl ?_
  refine cV_Ir [] [] dX11_takes_5 yv_X11_hasFailed ml_X11_131 (r := (RX11, TX11, 41)) rfl rfl (Nat.le_of_ble_eq_true rfl) rfl (Nat.le_of_ble_eq_true rfl) (Nat.le_of_ble_eq_true rfl) (Nat.le_of_ble_eq_true rfl) rfl h (fun K h => s_X11_hasFailed hG h) (fun r5 h => ?_)
  refine q_if_ne (tgt := 20) dX11_takes_8 (by decide) h (fun h => ?_) (fun h => ?_)
  · refine p_iconst dX11_takes_20 ?_
    exact p_zreturn dX11_takes_21 (Nat.le_of_ble_eq_true rfl) (Nat.le_of_ble_eq_true rfl) (Or.inl rfl) ⟨_, rfl, rfl, ok_some h⟩
  · refine p_aload_n dX11_takes_11 rfl ?_
    refine p_iload_n dX11_takes_12 rfl ?_
    refine p_iload_n dX11_takes_13 rfl ?_
    refine cV_Ir [vI v1, vI v1] [] dX11_takes_14 yv_X11_isAt ml_X11_121 (r := (RX11, TX11, 41)) rfl rfl (Nat.le_of_ble_eq_true rfl) rfl (Nat.le_of_ble_eq_true rfl) (Nat.le_of_ble_eq_true rfl) (Nat.le_of_ble_eq_true rfl) rfl h (fun K h => s_X11_isAt hG h) (fun r14 h => ?_)
    refine q_if_ne (tgt := 22) dX11_takes_17 (by decide) h (fun h => ?_) (fun h => ?_)
    · refine p_aload_n dX11_takes_22 rfl ?_
      refine p_dup dX11_takes_23 rfl ?_
      refine p_geti dX11_takes_24 fl_X11_115 (fun _ _ _ => rfl) rfl ?_
      refine p_iconst dX11_takes_27 ?_
      refine p_iadd dX11_takes_28 ?_
      refine q_puti dX11_takes_29 fq_X11_115 rfl rfl h (fun D29 h => ?_)
      refine p_iconst dX11_takes_32 ?_
      exact p_zreturn dX11_takes_33 (Nat.le_of_ble_eq_true rfl) (Nat.le_of_ble_eq_true rfl) (Or.inr rfl) ⟨_, rfl, rfl, ok_some h⟩
    · refine p_iconst dX11_takes_20 ?_
      exact p_zreturn dX11_takes_21 (Nat.le_of_ble_eq_true rfl) (Nat.le_of_ble_eq_true rfl) (Or.inl rfl) ⟨_, rfl, rfl, ok_some h⟩
theorem s_X11_takes {l : Launch} {g : GH} (hG : G0 l g) {n : Nat} {v1 : Int} {D : DT} {K : (Int × DT) → Prop} (h : ok (m_X11_takes v1 D) K) : Sat l g yX11_takes cX11_takes 2 (some .boolean) 2 0 0 [vR g 73, vI v1] (LF n) D (PIw n K) := Sat.of hG (by decide) (Nat.le_of_ble_eq_true rfl) (by simp [Value.category]) (x_X11_takes hG h)
abbrev E_X11_asks (l : Launch) (g : GH) (P : PT) : ENV := mkE l g yX11_asks cX11_asks 2 none [] 3 0 0 P
set_option maxRecDepth 100000 in
set_option maxHeartbeats 4000000 in
theorem x_X11_asks {l : Launch} {g : GH} (hG : G0 l g) {n : Nat} {v1 : Int} {D : DT} {K : DT → Prop} (h : ok (m_X11_asks v1 D) K) : Px (E_X11_asks l g (PVw n K)) 0 [some (vR g 73), some (vI v1)] [] (LF n) D 0 0 := by
  refine p_aload_n dX11_asks_0 rfl ?_
  refine cV_Ir [] [] dX11_asks_1 yv_X11_hasFailed ml_X11_131 (r := (RX11, TX11, 41)) rfl rfl (Nat.le_of_ble_eq_true rfl) rfl (Nat.le_of_ble_eq_true rfl) (Nat.le_of_ble_eq_true rfl) (Nat.le_of_ble_eq_true rfl) rfl h (fun K h => s_X11_hasFailed hG h) (fun r1 h => ?_)
  refine q_if_ne (tgt := 23) dX11_asks_4 (by decide) h (fun h => ?_) (fun h => ?_)
  · exact p_return dX11_asks_23 (Nat.le_of_ble_eq_true rfl) (Nat.le_of_ble_eq_true rfl) ⟨rfl, rfl, ok_some h⟩
  · refine p_aload_n dX11_asks_7 rfl ?_
    refine p_iload_n dX11_asks_8 rfl ?_
    refine cV_Iw [vI v1] [] dX11_asks_9 yv_X11_takes ml_X11_135 (r := (RX11, TX11, 41)) rfl rfl (Nat.le_of_ble_eq_true rfl) rfl (Nat.le_of_ble_eq_true rfl) (Nat.le_of_ble_eq_true rfl) (Nat.le_of_ble_eq_true rfl) rfl h (fun K h => s_X11_takes hG h) (fun r9 D9 h => ?_)
    refine q_if_ne (tgt := 23) dX11_asks_12 (by decide) h (fun h => ?_) (fun h => ?_)
    · exact p_return dX11_asks_23 (Nat.le_of_ble_eq_true rfl) (Nat.le_of_ble_eq_true rfl) ⟨rfl, rfl, ok_some h⟩
    · refine p_aload_n dX11_asks_15 rfl ?_
      refine p_aload_n dX11_asks_16 rfl ?_
      refine p_geti dX11_asks_17 fl_X11_125 (fun _ _ _ => rfl) rfl ?_
      refine cV_Vw [vI (D9.1 73 17)] [] dX11_asks_20 yv_X11_failsAt ml_X11_139 (r := (RX11, TX11, 41)) rfl rfl (Nat.le_of_ble_eq_true rfl) rfl (Nat.le_of_ble_eq_true rfl) (Nat.le_of_ble_eq_true rfl) (Nat.le_of_ble_eq_true rfl) rfl h (fun K h => s_X11_failsAt hG h) (fun D20 h => ?_)
      exact p_return dX11_asks_23 (Nat.le_of_ble_eq_true rfl) (Nat.le_of_ble_eq_true rfl) ⟨rfl, rfl, ok_some h⟩
theorem s_X11_asks {l : Launch} {g : GH} (hG : G0 l g) {n : Nat} {v1 : Int} {D : DT} {K : DT → Prop} (h : ok (m_X11_asks v1 D) K) : Sat l g yX11_asks cX11_asks 2 none 3 0 0 [vR g 73, vI v1] (LF n) D (PVw n K) := Sat.of hG (by decide) (Nat.le_of_ble_eq_true rfl) (by simp [Value.category]) (x_X11_asks hG h)
abbrev E_X11_wordMany (l : Launch) (g : GH) (P : PT) : ENV := mkE l g yX11_wordMany cX11_wordMany 2 (some .int) [] 2 0 0 P
abbrev P_X11_wordMany_9 (l : Launch) (g : GH) (n : Nat) (K : (Int × DT) → Prop) (D : DT) : Int → Prop := fun s => Px (E_X11_wordMany l g (PIw n K)) 9 [some (vR g 73), some (vI s)] [] (LF n) D 0 0
set_option maxRecDepth 100000 in
set_option maxHeartbeats 4000000 in
theorem x_X11_wordMany_9 {l : Launch} {g : GH} (hG : G0 l g) {n : Nat} {D : DT} {K : (Int × DT) → Prop} {s : Int} (h : ok (m_X11_wordMany_9 D s) K) : Px (E_X11_wordMany l g (PIw n K)) 9 [some (vR g 73), some (vI s)] [] (LF n) D 0 0 := by
  refine ok_loop (P := (P_X11_wordMany_9 l g n K D)) (fun s h => ?_) h
  refine p_iload_n dX11_wordMany_9 rfl ?_
  refine p_aload_n dX11_wordMany_10 rfl ?_
  refine p_geti dX11_wordMany_11 fl_X11_118 (fun _ _ _ => rfl) rfl ?_
  refine q_icmp_ge (tgt := 45) dX11_wordMany_14 (by decide) h (fun h => ?_) (fun h => ?_)
  · have h := kl_inr h
    refine p_iload_n dX11_wordMany_45 rfl ?_
    refine p_aload_n dX11_wordMany_46 rfl ?_
    refine p_geti dX11_wordMany_47 fl_X11_115 (fun _ _ _ => rfl) rfl ?_
    refine p_isub dX11_wordMany_50 ?_
    exact p_ireturn dX11_wordMany_51 (Nat.le_of_ble_eq_true rfl) (Nat.le_of_ble_eq_true rfl) ⟨_, rfl, rfl, ok_some h⟩
  · refine p_aload_n dX11_wordMany_17 rfl ?_
    refine p_getr dX11_wordMany_18 fl_X11_9 (fun _ _ _ => rfl) rfl rfl ?_
    refine p_iload_n dX11_wordMany_21 rfl ?_
    refine q_bald dX11_wordMany_22 rfl rfl h (fun h => ?_)
    refine p_bipush dX11_wordMany_23 (by decide) ?_
    refine q_icmp_lt (tgt := 45) dX11_wordMany_25 (by decide) h (fun h => ?_) (fun h => ?_)
    · have h := kl_inr h
      refine p_iload_n dX11_wordMany_45 rfl ?_
      refine p_aload_n dX11_wordMany_46 rfl ?_
      refine p_geti dX11_wordMany_47 fl_X11_115 (fun _ _ _ => rfl) rfl ?_
      refine p_isub dX11_wordMany_50 ?_
      exact p_ireturn dX11_wordMany_51 (Nat.le_of_ble_eq_true rfl) (Nat.le_of_ble_eq_true rfl) ⟨_, rfl, rfl, ok_some h⟩
    · refine p_aload_n dX11_wordMany_28 rfl ?_
      refine p_getr dX11_wordMany_29 fl_X11_9 (fun _ _ _ => rfl) rfl rfl ?_
      refine p_iload_n dX11_wordMany_32 rfl ?_
      refine q_bald dX11_wordMany_33 rfl rfl h (fun h => ?_)
      refine p_bipush dX11_wordMany_34 (by decide) ?_
      refine q_icmp_gt (tgt := 45) dX11_wordMany_36 (by decide) h (fun h => ?_) (fun h => ?_)
      · have h := kl_inr h
        refine p_iload_n dX11_wordMany_45 rfl ?_
        refine p_aload_n dX11_wordMany_46 rfl ?_
        refine p_geti dX11_wordMany_47 fl_X11_115 (fun _ _ _ => rfl) rfl ?_
        refine p_isub dX11_wordMany_50 ?_
        exact p_ireturn dX11_wordMany_51 (Nat.le_of_ble_eq_true rfl) (Nat.le_of_ble_eq_true rfl) ⟨_, rfl, rfl, ok_some h⟩
      · refine p_iinc dX11_wordMany_39 rfl (Nat.le_of_ble_eq_true rfl) rfl ?_
        refine p_goto (tgt := 9) dX11_wordMany_42 (by decide) ?_
        exact p_weak (leL.same (leL.same leL.nil)) (kl_inl (P := (P_X11_wordMany_9 l g n K D)) h)
set_option maxRecDepth 100000 in
set_option maxHeartbeats 4000000 in
theorem x_X11_wordMany {l : Launch} {g : GH} (hG : G0 l g) {n : Nat} {D : DT} {K : (Int × DT) → Prop} (h : ok (m_X11_wordMany D) K) : Px (E_X11_wordMany l g (PIw n K)) 0 [some (vR g 73), none] [] (LF n) D 0 0 := by
  refine p_aload_n dX11_wordMany_0 rfl ?_
  refine cV_Vw [] [] dX11_wordMany_1 yv_X11_blanks ml_X11_128 (r := (RX11, TX11, 41)) rfl rfl (Nat.le_of_ble_eq_true rfl) rfl (Nat.le_of_ble_eq_true rfl) (Nat.le_of_ble_eq_true rfl) (Nat.le_of_ble_eq_true rfl) rfl h (fun K h => s_X11_blanks hG h) (fun D1 h => ?_)
  refine p_aload_n dX11_wordMany_4 rfl ?_
  refine p_geti dX11_wordMany_5 fl_X11_115 (fun _ _ _ => rfl) rfl ?_
  refine p_istore_n dX11_wordMany_8 (Nat.le_of_ble_eq_true rfl) rfl ?_
  exact p_weak (leL.same (leL.same leL.nil)) (x_X11_wordMany_9 hG h)
theorem s_X11_wordMany {l : Launch} {g : GH} (hG : G0 l g) {n : Nat} {D : DT} {K : (Int × DT) → Prop} (h : ok (m_X11_wordMany D) K) : Sat l g yX11_wordMany cX11_wordMany 2 (some .int) 2 0 0 [vR g 73] (LF n) D (PIw n K) := Sat.of hG (by decide) (Nat.le_of_ble_eq_true rfl) (by simp [Value.category]) (x_X11_wordMany hG h)
abbrev E_X11_isWord (l : Launch) (g : GH) (P : PT) : ENV := mkE l g yX11_isWord cX11_isWord 4 (some .boolean) [] 6 0 0 P
abbrev P_X11_isWord_26 (l : Launch) (g : GH) (n : Nat) (K : (Int × DT) → Prop) (t1 : Nat) (D : DT) : (Int × Int) → Prop := fun s => Px (E_X11_isWord l g (PIw n K)) 26 [some (vR g 73), some (vS g t1), some (vI s.1), some (vI s.2)] [] (LF n) D 0 0
set_option maxRecDepth 100000 in
set_option maxHeartbeats 4000000 in
theorem x_X11_isWord_26 {l : Launch} {g : GH} (hG : G0 l g) {n : Nat} {t1 : Nat} (w1 : t1 < 22) {D : DT} {K : (Int × DT) → Prop} {s : (Int × Int)} (h : ok (m_X11_isWord_26 t1 D s) K) : Px (E_X11_isWord l g (PIw n K)) 26 [some (vR g 73), some (vS g t1), some (vI s.1), some (vI s.2)] [] (LF n) D 0 0 := by
  refine ok_loop (P := (P_X11_isWord_26 l g n K t1 D)) (fun s h => ?_) h
  refine p_iload_n dX11_isWord_26 rfl ?_
  refine q_if_eq (tgt := 69) dX11_isWord_27 (by decide) h (fun h => ?_) (fun h => ?_)
  · have h := kl_inr h
    refine p_iload_n dX11_isWord_69 rfl ?_
    obtain ⟨hz, h⟩ := ok_gd h
    exact p_zreturn dX11_isWord_70 (Nat.le_of_ble_eq_true rfl) (Nat.le_of_ble_eq_true rfl) hz ⟨_, rfl, rfl, ok_some h⟩
  · refine p_iload_n dX11_isWord_30 rfl ?_
    refine p_aload_n dX11_isWord_31 rfl ?_
    refine q_slen [vI s.2] hG dX11_isWord_32 w1 ml_X11_147 (Nat.le_of_ble_eq_true rfl) (Nat.le_of_ble_eq_true rfl) (Nat.le_of_ble_eq_true rfl) (Nat.le_of_ble_eq_true rfl) ?_
    refine q_icmp_ge (tgt := 69) dX11_isWord_35 (by decide) h (fun h => ?_) (fun h => ?_)
    · have h := kl_inr h
      refine p_iload_n dX11_isWord_69 rfl ?_
      obtain ⟨hz, h⟩ := ok_gd h
      exact p_zreturn dX11_isWord_70 (Nat.le_of_ble_eq_true rfl) (Nat.le_of_ble_eq_true rfl) hz ⟨_, rfl, rfl, ok_some h⟩
    · refine p_aload_n dX11_isWord_38 rfl ?_
      refine p_getr dX11_isWord_39 fl_X11_9 (fun _ _ _ => rfl) rfl rfl ?_
      refine p_aload_n dX11_isWord_42 rfl ?_
      refine p_geti dX11_isWord_43 fl_X11_115 (fun _ _ _ => rfl) rfl ?_
      refine p_iload_n dX11_isWord_46 rfl ?_
      refine p_iadd dX11_isWord_47 ?_
      refine q_bald dX11_isWord_48 rfl rfl h (fun h => ?_)
      refine p_aload_n dX11_isWord_49 rfl ?_
      refine p_iload_n dX11_isWord_50 rfl ?_
      refine q_schar [vI (D.2 74 (Int.toNat ((D.1 73 16) + s.2)))] hG dX11_isWord_51 w1 ml_X11_152 (Nat.le_of_ble_eq_true rfl) (Nat.le_of_ble_eq_true rfl) (Nat.le_of_ble_eq_true rfl) (Nat.le_of_ble_eq_true rfl) h (fun h => ?_)
      refine q_icmp_ne (tgt := 61) dX11_isWord_54 (by decide) h (fun h => ?_) (fun h => ?_)
      · refine p_iconst dX11_isWord_61 ?_
        refine p_istore_n dX11_isWord_62 (Nat.le_of_ble_eq_true rfl) rfl ?_
        refine p_iinc dX11_isWord_63 rfl (Nat.le_of_ble_eq_true rfl) rfl ?_
        refine p_goto (tgt := 26) dX11_isWord_66 (by decide) ?_
        exact p_weak (leL.same (leL.same (leL.same (leL.same leL.nil)))) (kl_inl (P := (P_X11_isWord_26 l g n K t1 D)) h)
      · refine p_iconst dX11_isWord_57 ?_
        refine p_goto (tgt := 62) dX11_isWord_58 (by decide) ?_
        refine p_istore_n dX11_isWord_62 (Nat.le_of_ble_eq_true rfl) rfl ?_
        refine p_iinc dX11_isWord_63 rfl (Nat.le_of_ble_eq_true rfl) rfl ?_
        refine p_goto (tgt := 26) dX11_isWord_66 (by decide) ?_
        exact p_weak (leL.same (leL.same (leL.same (leL.same leL.nil)))) (kl_inl (P := (P_X11_isWord_26 l g n K t1 D)) h)
set_option maxRecDepth 100000 in
set_option maxHeartbeats 4000000 in
theorem x_X11_isWord {l : Launch} {g : GH} (hG : G0 l g) {n : Nat} {t1 : Nat} (w1 : t1 < 22) {D : DT} {K : (Int × DT) → Prop} (h : ok (m_X11_isWord t1 D) K) : Px (E_X11_isWord l g (PIw n K)) 0 [some (vR g 73), some (vS g t1), none, none] [] (LF n) D 0 0 := by
  refine p_aload_n dX11_isWord_0 rfl ?_
  refine cV_Ir [] [] dX11_isWord_1 yv_X11_hasFailed ml_X11_131 (r := (RX11, TX11, 41)) rfl rfl (Nat.le_of_ble_eq_true rfl) rfl (Nat.le_of_ble_eq_true rfl) (Nat.le_of_ble_eq_true rfl) (Nat.le_of_ble_eq_true rfl) rfl h (fun K h => s_X11_hasFailed hG h) (fun r1 h => ?_)
  refine q_if_ne (tgt := 22) dX11_isWord_4 (by decide) h (fun h => ?_) (fun h => ?_)
  · refine p_iconst dX11_isWord_22 ?_
    refine p_istore_n dX11_isWord_23 (Nat.le_of_ble_eq_true rfl) rfl ?_
    refine p_iconst dX11_isWord_24 ?_
    refine p_istore_n dX11_isWord_25 (Nat.le_of_ble_eq_true rfl) rfl ?_
    exact p_weak (leL.same (leL.same (leL.same (leL.same leL.nil)))) (x_X11_isWord_26 hG w1 h)
  · refine p_aload_n dX11_isWord_7 rfl ?_
    refine cV_Iw [] [] dX11_isWord_8 yv_X11_wordMany ml_X11_143 (r := (RX11, TX11, 41)) rfl rfl (Nat.le_of_ble_eq_true rfl) rfl (Nat.le_of_ble_eq_true rfl) (Nat.le_of_ble_eq_true rfl) (Nat.le_of_ble_eq_true rfl) rfl h (fun K h => s_X11_wordMany hG h) (fun r8 D8 h => ?_)
    refine p_aload_n dX11_isWord_11 rfl ?_
    refine q_slen [vI r8] hG dX11_isWord_12 w1 ml_X11_147 (Nat.le_of_ble_eq_true rfl) (Nat.le_of_ble_eq_true rfl) (Nat.le_of_ble_eq_true rfl) (Nat.le_of_ble_eq_true rfl) ?_
    refine q_icmp_ne (tgt := 22) dX11_isWord_15 (by decide) h (fun h => ?_) (fun h => ?_)
    · refine p_iconst dX11_isWord_22 ?_
      refine p_istore_n dX11_isWord_23 (Nat.le_of_ble_eq_true rfl) rfl ?_
      refine p_iconst dX11_isWord_24 ?_
      refine p_istore_n dX11_isWord_25 (Nat.le_of_ble_eq_true rfl) rfl ?_
      exact p_weak (leL.same (leL.same (leL.same (leL.same leL.nil)))) (x_X11_isWord_26 hG w1 h)
    · refine p_iconst dX11_isWord_18 ?_
      refine p_goto (tgt := 23) dX11_isWord_19 (by decide) ?_
      refine p_istore_n dX11_isWord_23 (Nat.le_of_ble_eq_true rfl) rfl ?_
      refine p_iconst dX11_isWord_24 ?_
      refine p_istore_n dX11_isWord_25 (Nat.le_of_ble_eq_true rfl) rfl ?_
      exact p_weak (leL.same (leL.same (leL.same (leL.same leL.nil)))) (x_X11_isWord_26 hG w1 h)
theorem s_X11_isWord {l : Launch} {g : GH} (hG : G0 l g) {n : Nat} {t1 : Nat} (w1 : t1 < 22) {D : DT} {K : (Int × DT) → Prop} (h : ok (m_X11_isWord t1 D) K) : Sat l g yX11_isWord cX11_isWord 4 (some .boolean) 6 0 0 [vR g 73, vS g t1] (LF n) D (PIw n K) := Sat.of hG (by decide) (Nat.le_of_ble_eq_true rfl) (by simp [Value.category]) (x_X11_isWord hG w1 h)
abbrev E_X11_asksWord (l : Launch) (g : GH) (P : PT) : ENV := mkE l g yX11_asksWord cX11_asksWord 2 none [] 7 0 0 P
set_option maxRecDepth 100000 in
set_option maxHeartbeats 4000000 in
theorem x_X11_asksWord {l : Launch} {g : GH} (hG : G0 l g) {n : Nat} {t1 : Nat} (w1 : t1 < 22) {D : DT} {K : DT → Prop} (h : ok (m_X11_asksWord t1 D) K) : Px (E_X11_asksWord l g (PVw n K)) 0 [some (vR g 73), some (vS g t1)] [] (LF n) D 0 0 := by
  refine p_aload_n dX11_asksWord_0 rfl ?_
  refine cV_Ir [] [] dX11_asksWord_1 yv_X11_hasFailed ml_X11_131 (r := (RX11, TX11, 41)) rfl rfl (Nat.le_of_ble_eq_true rfl) rfl (Nat.le_of_ble_eq_true rfl) (Nat.le_of_ble_eq_true rfl) (Nat.le_of_ble_eq_true rfl) rfl h (fun K h => s_X11_hasFailed hG h) (fun r1 h => ?_)
  refine q_if_eq (tgt := 8) dX11_asksWord_4 (by decide) h (fun h => ?_) (fun h => ?_)
  · refine p_aload_n dX11_asksWord_8 rfl ?_
    refine p_aload_n dX11_asksWord_9 rfl ?_
    refine cV_Iw [vS g t1] [] dX11_asksWord_10 yv_X11_isWord ml_X11_156 (r := (RX11, TX11, 41)) rfl rfl (Nat.le_of_ble_eq_true rfl) rfl (Nat.le_of_ble_eq_true rfl) (Nat.le_of_ble_eq_true rfl) (Nat.le_of_ble_eq_true rfl) rfl h (fun K h => s_X11_isWord hG w1 h) (fun r10 D10 h => ?_)
    refine q_if_eq (tgt := 32) dX11_asksWord_13 (by decide) h (fun h => ?_) (fun h => ?_)
    · refine p_aload_n dX11_asksWord_32 rfl ?_
      refine p_aload_n dX11_asksWord_33 rfl ?_
      refine p_geti dX11_asksWord_34 fl_X11_125 (fun _ _ _ => rfl) rfl ?_
      refine cV_Vw [vI (D10.1 73 17)] [] dX11_asksWord_37 yv_X11_failsAt ml_X11_139 (r := (RX11, TX11, 41)) rfl rfl (Nat.le_of_ble_eq_true rfl) rfl (Nat.le_of_ble_eq_true rfl) (Nat.le_of_ble_eq_true rfl) (Nat.le_of_ble_eq_true rfl) rfl h (fun K h => s_X11_failsAt hG h) (fun D37 h => ?_)
      exact p_return dX11_asksWord_40 (Nat.le_of_ble_eq_true rfl) (Nat.le_of_ble_eq_true rfl) ⟨rfl, rfl, ok_some h⟩
    · refine p_aload_n dX11_asksWord_16 rfl ?_
      refine p_dup dX11_asksWord_17 rfl ?_
      refine p_geti dX11_asksWord_18 fl_X11_115 (fun _ _ _ => rfl) rfl ?_
      refine p_aload_n dX11_asksWord_21 rfl ?_
      refine q_slen [vI (D10.1 73 16), vR g 73] hG dX11_asksWord_22 w1 ml_X11_147 (Nat.le_of_ble_eq_true rfl) (Nat.le_of_ble_eq_true rfl) (Nat.le_of_ble_eq_true rfl) (Nat.le_of_ble_eq_true rfl) ?_
      refine p_iadd dX11_asksWord_25 ?_
      refine q_puti dX11_asksWord_26 fq_X11_115 rfl rfl h (fun D26 h => ?_)
      refine p_goto (tgt := 40) dX11_asksWord_29 (by decide) ?_
      exact p_return dX11_asksWord_40 (Nat.le_of_ble_eq_true rfl) (Nat.le_of_ble_eq_true rfl) ⟨rfl, rfl, ok_some h⟩
  · exact p_return dX11_asksWord_7 (Nat.le_of_ble_eq_true rfl) (Nat.le_of_ble_eq_true rfl) ⟨rfl, rfl, ok_some h⟩
theorem s_X11_asksWord {l : Launch} {g : GH} (hG : G0 l g) {n : Nat} {t1 : Nat} (w1 : t1 < 22) {D : DT} {K : DT → Prop} (h : ok (m_X11_asksWord t1 D) K) : Sat l g yX11_asksWord cX11_asksWord 2 none 7 0 0 [vR g 73, vS g t1] (LF n) D (PVw n K) := Sat.of hG (by decide) (Nat.le_of_ble_eq_true rfl) (by simp [Value.category]) (x_X11_asksWord hG w1 h)
abbrev E_X11_isName (l : Launch) (g : GH) (P : PT) : ENV := mkE l g yX11_isName cX11_isName 2 (some .boolean) [] 7 0 0 P
set_option maxRecDepth 100000 in
set_option maxHeartbeats 4000000 in
theorem x_X11_isName_80 {l : Launch} {g : GH} (hG : G0 l g) {n : Nat} {D : DT} {K : (Int × DT) → Prop} (h : ok (m_X11_isName_80 D) K) : Px (E_X11_isName l g (PIw n K)) 80 [none, none] [] (LF n) D 0 0 := by
  refine p_iconst dX11_isName_80 ?_
  exact p_zreturn dX11_isName_81 (Nat.le_of_ble_eq_true rfl) (Nat.le_of_ble_eq_true rfl) (Or.inl rfl) ⟨_, rfl, rfl, ok_some h⟩
set_option maxRecDepth 100000 in
set_option maxHeartbeats 4000000 in
theorem x_X11_isName {l : Launch} {g : GH} (hG : G0 l g) {n : Nat} {D : DT} {K : (Int × DT) → Prop} (h : ok (m_X11_isName D) K) : Px (E_X11_isName l g (PIw n K)) 0 [some (vR g 73), none] [] (LF n) D 0 0 := by
  refine p_aload_n dX11_isName_0 rfl ?_
  refine cV_Iw [] [] dX11_isName_1 yv_X11_wordMany ml_X11_143 (r := (RX11, TX11, 41)) rfl rfl (Nat.le_of_ble_eq_true rfl) rfl (Nat.le_of_ble_eq_true rfl) (Nat.le_of_ble_eq_true rfl) (Nat.le_of_ble_eq_true rfl) rfl h (fun K h => s_X11_wordMany hG h) (fun r1 D1 h => ?_)
  refine p_istore_n dX11_isName_4 (Nat.le_of_ble_eq_true rfl) rfl ?_
  refine p_aload_n dX11_isName_5 rfl ?_
  refine cV_Ir [] [] dX11_isName_6 yv_X11_hasFailed ml_X11_131 (r := (RX11, TX11, 41)) rfl rfl (Nat.le_of_ble_eq_true rfl) rfl (Nat.le_of_ble_eq_true rfl) (Nat.le_of_ble_eq_true rfl) (Nat.le_of_ble_eq_true rfl) rfl h (fun K h => s_X11_hasFailed hG h) (fun r6 h => ?_)
  refine q_if_ne (tgt := 80) dX11_isName_9 (by decide) h (fun h => ?_) (fun h => ?_)
  · exact p_weak (leL.drop (leL.drop leL.nil)) (x_X11_isName_80 hG h)
  · refine p_iload_n dX11_isName_12 rfl ?_
    refine q_if_le (tgt := 80) dX11_isName_13 (by decide) h (fun h => ?_) (fun h => ?_)
    · exact p_weak (leL.drop (leL.drop leL.nil)) (x_X11_isName_80 hG h)
    · refine p_iload_n dX11_isName_16 rfl ?_
      refine p_bipush dX11_isName_17 (by decide) ?_
      refine q_icmp_gt (tgt := 80) dX11_isName_19 (by decide) h (fun h => ?_) (fun h => ?_)
      · exact p_weak (leL.drop (leL.drop leL.nil)) (x_X11_isName_80 hG h)
      · refine p_aload_n dX11_isName_22 rfl ?_
        refine p_ldcS (i := 13) hG dX11_isName_23 (by decide) rfl rfl ?_
        refine cV_Iw [vS g 13] [] dX11_isName_25 yv_X11_isWord ml_X11_156 (r := (RX11, TX11, 41)) rfl rfl (Nat.le_of_ble_eq_true rfl) rfl (Nat.le_of_ble_eq_true rfl) (Nat.le_of_ble_eq_true rfl) (Nat.le_of_ble_eq_true rfl) rfl h (fun K h => s_X11_isWord hG (by decide) h) (fun r25 D25 h => ?_)
        refine q_if_ne (tgt := 80) dX11_isName_28 (by decide) h (fun h => ?_) (fun h => ?_)
        · exact p_weak (leL.drop (leL.drop leL.nil)) (x_X11_isName_80 hG h)
        · refine p_aload_n dX11_isName_31 rfl ?_
          refine p_ldcS (i := 14) hG dX11_isName_32 (by decide) rfl rfl ?_
          refine cV_Iw [vS g 14] [] dX11_isName_34 yv_X11_isWord ml_X11_156 (r := (RX11, TX11, 41)) rfl rfl (Nat.le_of_ble_eq_true rfl) rfl (Nat.le_of_ble_eq_true rfl) (Nat.le_of_ble_eq_true rfl) (Nat.le_of_ble_eq_true rfl) rfl h (fun K h => s_X11_isWord hG (by decide) h) (fun r34 D34 h => ?_)
          refine q_if_ne (tgt := 80) dX11_isName_37 (by decide) h (fun h => ?_) (fun h => ?_)
          · exact p_weak (leL.drop (leL.drop leL.nil)) (x_X11_isName_80 hG h)
          · refine p_aload_n dX11_isName_40 rfl ?_
            refine p_ldcS (i := 15) hG dX11_isName_41 (by decide) rfl rfl ?_
            refine cV_Iw [vS g 15] [] dX11_isName_43 yv_X11_isWord ml_X11_156 (r := (RX11, TX11, 41)) rfl rfl (Nat.le_of_ble_eq_true rfl) rfl (Nat.le_of_ble_eq_true rfl) (Nat.le_of_ble_eq_true rfl) (Nat.le_of_ble_eq_true rfl) rfl h (fun K h => s_X11_isWord hG (by decide) h) (fun r43 D43 h => ?_)
            refine q_if_ne (tgt := 80) dX11_isName_46 (by decide) h (fun h => ?_) (fun h => ?_)
            · exact p_weak (leL.drop (leL.drop leL.nil)) (x_X11_isName_80 hG h)
            · refine p_aload_n dX11_isName_49 rfl ?_
              refine p_ldcS (i := 16) hG dX11_isName_50 (by decide) rfl rfl ?_
              refine cV_Iw [vS g 16] [] dX11_isName_52 yv_X11_isWord ml_X11_156 (r := (RX11, TX11, 41)) rfl rfl (Nat.le_of_ble_eq_true rfl) rfl (Nat.le_of_ble_eq_true rfl) (Nat.le_of_ble_eq_true rfl) (Nat.le_of_ble_eq_true rfl) rfl h (fun K h => s_X11_isWord hG (by decide) h) (fun r52 D52 h => ?_)
              refine q_if_ne (tgt := 80) dX11_isName_55 (by decide) h (fun h => ?_) (fun h => ?_)
              · exact p_weak (leL.drop (leL.drop leL.nil)) (x_X11_isName_80 hG h)
              · refine p_aload_n dX11_isName_58 rfl ?_
                refine p_ldcS (i := 17) hG dX11_isName_59 (by decide) rfl rfl ?_
                refine cV_Iw [vS g 17] [] dX11_isName_61 yv_X11_isWord ml_X11_156 (r := (RX11, TX11, 41)) rfl rfl (Nat.le_of_ble_eq_true rfl) rfl (Nat.le_of_ble_eq_true rfl) (Nat.le_of_ble_eq_true rfl) (Nat.le_of_ble_eq_true rfl) rfl h (fun K h => s_X11_isWord hG (by decide) h) (fun r61 D61 h => ?_)
                refine q_if_ne (tgt := 80) dX11_isName_64 (by decide) h (fun h => ?_) (fun h => ?_)
                · exact p_weak (leL.drop (leL.drop leL.nil)) (x_X11_isName_80 hG h)
                · refine p_aload_n dX11_isName_67 rfl ?_
                  refine p_ldcS (i := 18) hG dX11_isName_68 (by decide) rfl rfl ?_
                  refine cV_Iw [vS g 18] [] dX11_isName_70 yv_X11_isWord ml_X11_156 (r := (RX11, TX11, 41)) rfl rfl (Nat.le_of_ble_eq_true rfl) rfl (Nat.le_of_ble_eq_true rfl) (Nat.le_of_ble_eq_true rfl) (Nat.le_of_ble_eq_true rfl) rfl h (fun K h => s_X11_isWord hG (by decide) h) (fun r70 D70 h => ?_)
                  refine q_if_ne (tgt := 80) dX11_isName_73 (by decide) h (fun h => ?_) (fun h => ?_)
                  · exact p_weak (leL.drop (leL.drop leL.nil)) (x_X11_isName_80 hG h)
                  · refine p_iconst dX11_isName_76 ?_
                    refine p_goto (tgt := 81) dX11_isName_77 (by decide) ?_
                    exact p_zreturn dX11_isName_81 (Nat.le_of_ble_eq_true rfl) (Nat.le_of_ble_eq_true rfl) (Or.inr rfl) ⟨_, rfl, rfl, ok_some h⟩
theorem s_X11_isName {l : Launch} {g : GH} (hG : G0 l g) {n : Nat} {D : DT} {K : (Int × DT) → Prop} (h : ok (m_X11_isName D) K) : Sat l g yX11_isName cX11_isName 2 (some .boolean) 7 0 0 [vR g 73] (LF n) D (PIw n K) := Sat.of hG (by decide) (Nat.le_of_ble_eq_true rfl) (by simp [Value.category]) (x_X11_isName hG h)
abbrev E_X11_told (l : Launch) (g : GH) (P : PT) : ENV := mkE l g yX11_told cX11_told 5 (some .int) [] 3 0 0 P
abbrev P_X11_told_7 (l : Launch) (g : GH) (n : Nat) (K : (Int × DT) → Prop) (v1 : Int) (D : DT) : Int → Prop := fun s => Px (E_X11_told l g (PIw n K)) 7 [some (vR g 73), some (vI v1), some (vI s), none, none] [] (LF n) D 0 0
abbrev P_X11_told_22 (l : Launch) (g : GH) (n : Nat) (K : (Int × DT) → Prop) (v1 : Int) (v2 : Int) (D : DT) : (Int × Int) → Prop := fun s => Px (E_X11_told l g (PIw n K)) 22 [some (vR g 73), some (vI v1), some (vI v2), some (vI s.1), some (vI s.2)] [] (LF n) D 0 0
set_option maxRecDepth 100000 in
set_option maxHeartbeats 4000000 in
theorem x_X11_told_22 {l : Launch} {g : GH} (hG : G0 l g) {n : Nat} {v1 v2 : Int} {D : DT} {K : (Int × DT) → Prop} {s : (Int × Int)} (h : ok (m_X11_told_22 v1 v2 D s) (KL (P_X11_told_7 l g n K v1 D) K)) : Px (E_X11_told l g (PIw n K)) 22 [some (vR g 73), some (vI v1), some (vI v2), some (vI s.1), some (vI s.2)] [] (LF n) D 0 0 := by
  refine ok_loop (P := (P_X11_told_22 l g n K v1 v2 D)) (fun s h => ?_) h
  refine p_iload dX11_told_22 rfl ?_
  refine p_bipush dX11_told_24 (by decide) ?_
  refine q_icmp_ge (tgt := 82) dX11_told_26 (by decide) h (fun h => ?_) (fun h => ?_)
  · have h := kl_inr h
    refine p_iload_n dX11_told_82 rfl ?_
    refine q_if_eq (tgt := 88) dX11_told_83 (by decide) h (fun h => ?_) (fun h => ?_)
    · refine p_iinc dX11_told_88 rfl (Nat.le_of_ble_eq_true rfl) rfl ?_
      refine p_goto (tgt := 7) dX11_told_91 (by decide) ?_
      exact p_weak (leL.same (leL.same (leL.same (leL.drop (leL.drop leL.nil))))) (kl_inl (P := (P_X11_told_7 l g n K v1 D)) h)
    · have h := kl_inr h
      refine p_iload_n dX11_told_86 rfl ?_
      exact p_ireturn dX11_told_87 (Nat.le_of_ble_eq_true rfl) (Nat.le_of_ble_eq_true rfl) ⟨_, rfl, rfl, ok_some h⟩
  · refine p_iload_n dX11_told_29 rfl ?_
    refine q_if_eq (tgt := 82) dX11_told_30 (by decide) h (fun h => ?_) (fun h => ?_)
    · have h := kl_inr h
      refine p_iload_n dX11_told_82 rfl ?_
      refine q_if_eq (tgt := 88) dX11_told_83 (by decide) h (fun h => ?_) (fun h => ?_)
      · refine p_iinc dX11_told_88 rfl (Nat.le_of_ble_eq_true rfl) rfl ?_
        refine p_goto (tgt := 7) dX11_told_91 (by decide) ?_
        exact p_weak (leL.same (leL.same (leL.same (leL.drop (leL.drop leL.nil))))) (kl_inl (P := (P_X11_told_7 l g n K v1 D)) h)
      · have h := kl_inr h
        refine p_iload_n dX11_told_86 rfl ?_
        exact p_ireturn dX11_told_87 (Nat.le_of_ble_eq_true rfl) (Nat.le_of_ble_eq_true rfl) ⟨_, rfl, rfl, ok_some h⟩
    · refine p_aload_n dX11_told_33 rfl ?_
      refine p_getr dX11_told_34 fl_X11_45 (fun _ _ _ => rfl) rfl rfl ?_
      refine p_bipush dX11_told_37 (by decide) ?_
      refine p_iload_n dX11_told_39 rfl ?_
      refine p_imul dX11_told_40 ?_
      refine p_iload dX11_told_41 rfl ?_
      refine p_iadd dX11_told_43 ?_
      refine q_bald dX11_told_44 rfl rfl h (fun h => ?_)
      refine p_iload dX11_told_45 rfl ?_
      refine p_iload_n dX11_told_47 rfl ?_
      refine q_icmp_ge (tgt := 66) dX11_told_48 (by decide) h (fun h => ?_) (fun h => ?_)
      · refine p_iconst dX11_told_66 ?_
        refine q_icmp_ne (tgt := 74) dX11_told_67 (by decide) h (fun h => ?_) (fun h => ?_)
        · refine p_iconst dX11_told_74 ?_
          refine p_istore_n dX11_told_75 (Nat.le_of_ble_eq_true rfl) rfl ?_
          refine p_iinc dX11_told_76 rfl (Nat.le_of_ble_eq_true rfl) rfl ?_
          refine p_goto (tgt := 22) dX11_told_79 (by decide) ?_
          exact p_weak (leL.same (leL.same (leL.same (leL.same (leL.same leL.nil))))) (kl_inl (P := (P_X11_told_22 l g n K v1 v2 D)) h)
        · refine p_iconst dX11_told_70 ?_
          refine p_goto (tgt := 75) dX11_told_71 (by decide) ?_
          refine p_istore_n dX11_told_75 (Nat.le_of_ble_eq_true rfl) rfl ?_
          refine p_iinc dX11_told_76 rfl (Nat.le_of_ble_eq_true rfl) rfl ?_
          refine p_goto (tgt := 22) dX11_told_79 (by decide) ?_
          exact p_weak (leL.same (leL.same (leL.same (leL.same (leL.same leL.nil))))) (kl_inl (P := (P_X11_told_22 l g n K v1 v2 D)) h)
      · refine p_aload_n dX11_told_51 rfl ?_
        refine p_getr dX11_told_52 fl_X11_9 (fun _ _ _ => rfl) rfl rfl ?_
        refine p_aload_n dX11_told_55 rfl ?_
        refine p_geti dX11_told_56 fl_X11_115 (fun _ _ _ => rfl) rfl ?_
        refine p_iload dX11_told_59 rfl ?_
        refine p_iadd dX11_told_61 ?_
        refine q_bald dX11_told_62 rfl rfl h (fun h => ?_)
        refine p_goto (tgt := 67) dX11_told_63 (by decide) ?_
        refine q_icmp_ne (tgt := 74) dX11_told_67 (by decide) h (fun h => ?_) (fun h => ?_)
        · refine p_iconst dX11_told_74 ?_
          refine p_istore_n dX11_told_75 (Nat.le_of_ble_eq_true rfl) rfl ?_
          refine p_iinc dX11_told_76 rfl (Nat.le_of_ble_eq_true rfl) rfl ?_
          refine p_goto (tgt := 22) dX11_told_79 (by decide) ?_
          exact p_weak (leL.same (leL.same (leL.same (leL.same (leL.same leL.nil))))) (kl_inl (P := (P_X11_told_22 l g n K v1 v2 D)) h)
        · refine p_iconst dX11_told_70 ?_
          refine p_goto (tgt := 75) dX11_told_71 (by decide) ?_
          refine p_istore_n dX11_told_75 (Nat.le_of_ble_eq_true rfl) rfl ?_
          refine p_iinc dX11_told_76 rfl (Nat.le_of_ble_eq_true rfl) rfl ?_
          refine p_goto (tgt := 22) dX11_told_79 (by decide) ?_
          exact p_weak (leL.same (leL.same (leL.same (leL.same (leL.same leL.nil))))) (kl_inl (P := (P_X11_told_22 l g n K v1 v2 D)) h)
set_option maxRecDepth 100000 in
set_option maxHeartbeats 4000000 in
theorem x_X11_told_7 {l : Launch} {g : GH} (hG : G0 l g) {n : Nat} {v1 : Int} {D : DT} {K : (Int × DT) → Prop} {s : Int} (h : ok (m_X11_told_7 v1 D s) K) : Px (E_X11_told l g (PIw n K)) 7 [some (vR g 73), some (vI v1), some (vI s), none, none] [] (LF n) D 0 0 := by
  refine ok_loop (P := (P_X11_told_7 l g n K v1 D)) (fun s h => ?_) h
  refine p_iload_n dX11_told_7 rfl ?_
  refine p_aload_n dX11_told_8 rfl ?_
  refine p_getr dX11_told_9 fl_X11_20 (fun _ _ _ => rfl) rfl rfl ?_
  refine p_iconst dX11_told_12 ?_
  refine q_iald dX11_told_13 rfl rfl h (fun h => ?_)
  refine q_icmp_ge (tgt := 94) dX11_told_14 (by decide) h (fun h => ?_) (fun h => ?_)
  · have h := kl_inr h
    refine p_iconst dX11_told_94 ?_
    exact p_ireturn dX11_told_95 (Nat.le_of_ble_eq_true rfl) (Nat.le_of_ble_eq_true rfl) ⟨_, rfl, rfl, ok_some h⟩
  · refine p_iconst dX11_told_17 ?_
    refine p_istore_n dX11_told_18 (Nat.le_of_ble_eq_true rfl) rfl ?_
    refine p_iconst dX11_told_19 ?_
    refine p_istore dX11_told_20 (Nat.le_of_ble_eq_true rfl) rfl ?_
    exact p_weak (leL.same (leL.same (leL.same (leL.same (leL.same leL.nil))))) (x_X11_told_22 hG h)
set_option maxRecDepth 100000 in
set_option maxHeartbeats 4000000 in
theorem x_X11_told {l : Launch} {g : GH} (hG : G0 l g) {n : Nat} {D : DT} {K : (Int × DT) → Prop} (h : ok (m_X11_told D) K) : Px (E_X11_told l g (PIw n K)) 0 [some (vR g 73), none, none, none, none] [] (LF n) D 0 0 := by
  refine p_aload_n dX11_told_0 rfl ?_
  refine cV_Iw [] [] dX11_told_1 yv_X11_wordMany ml_X11_143 (r := (RX11, TX11, 41)) rfl rfl (Nat.le_of_ble_eq_true rfl) rfl (Nat.le_of_ble_eq_true rfl) (Nat.le_of_ble_eq_true rfl) (Nat.le_of_ble_eq_true rfl) rfl h (fun K h => s_X11_wordMany hG h) (fun r1 D1 h => ?_)
  refine p_istore_n dX11_told_4 (Nat.le_of_ble_eq_true rfl) rfl ?_
  refine p_iconst dX11_told_5 ?_
  refine p_istore_n dX11_told_6 (Nat.le_of_ble_eq_true rfl) rfl ?_
  exact p_weak (leL.same (leL.same (leL.same (leL.drop (leL.drop leL.nil))))) (x_X11_told_7 hG h)
theorem s_X11_told {l : Launch} {g : GH} (hG : G0 l g) {n : Nat} {D : DT} {K : (Int × DT) → Prop} (h : ok (m_X11_told D) K) : Sat l g yX11_told cX11_told 5 (some .int) 3 0 0 [vR g 73] (LF n) D (PIw n K) := Sat.of hG (by decide) (Nat.le_of_ble_eq_true rfl) (by simp [Value.category]) (x_X11_told hG h)
abbrev E_X11_number (l : Launch) (g : GH) (P : PT) : ENV := mkE l g yX11_number cX11_number 5 (some .int) [] 2 0 0 P
abbrev P_X11_number_15 (l : Launch) (g : GH) (n : Nat) (K : (Int × DT) → Prop) (v1 : Int) (v2 : Int) : (Int × DT) → Prop := fun s => Px (E_X11_number l g (PIw n K)) 15 [some (vR g 73), some (vI v1), some (vI v2), some (vI s.1), none] [] (LF n) s.2 0 0
set_option maxRecDepth 100000 in
set_option maxHeartbeats 4000000 in
theorem x_X11_number_15 {l : Launch} {g : GH} (hG : G0 l g) {n : Nat} {v1 v2 : Int} {K : (Int × DT) → Prop} {s : (Int × DT)} (h : ok (m_X11_number_15 v1 v2 s) K) : Px (E_X11_number l g (PIw n K)) 15 [some (vR g 73), some (vI v1), some (vI v2), some (vI s.1), none] [] (LF n) s.2 0 0 := by
  refine ok_loop (P := (P_X11_number_15 l g n K v1 v2)) (fun s h => ?_) h
  refine p_aload_n dX11_number_15 rfl ?_
  refine p_bipush dX11_number_16 (by decide) ?_
  refine p_bipush dX11_number_18 (by decide) ?_
  refine cV_Ir [vI 48, vI 57] [] dX11_number_20 yv_X11_isAt ml_X11_121 (r := (RX11, TX11, 41)) rfl rfl (Nat.le_of_ble_eq_true rfl) rfl (Nat.le_of_ble_eq_true rfl) (Nat.le_of_ble_eq_true rfl) (Nat.le_of_ble_eq_true rfl) rfl h (fun K h => s_X11_isAt hG h) (fun r20 h => ?_)
  refine q_if_eq (tgt := 70) dX11_number_23 (by decide) h (fun h => ?_) (fun h => ?_)
  · have h := kl_inr h
    refine p_aload_n dX11_number_70 rfl ?_
    refine p_geti dX11_number_71 fl_X11_115 (fun _ _ _ => rfl) rfl ?_
    refine p_aload_n dX11_number_74 rfl ?_
    refine p_geti dX11_number_75 fl_X11_125 (fun _ _ _ => rfl) rfl ?_
    refine p_isub dX11_number_78 ?_
    refine p_istore dX11_number_79 (Nat.le_of_ble_eq_true rfl) rfl ?_
    refine p_iload dX11_number_81 rfl ?_
    refine q_if_eq (tgt := 101) dX11_number_83 (by decide) h (fun h => ?_) (fun h => ?_)
    · refine p_aload_n dX11_number_101 rfl ?_
      refine p_aload_n dX11_number_102 rfl ?_
      refine p_geti dX11_number_103 fl_X11_125 (fun _ _ _ => rfl) rfl ?_
      refine cV_Vw [vI (s.2.1 73 17)] [] dX11_number_106 yv_X11_failsAt ml_X11_139 (r := (RX11, TX11, 41)) rfl rfl (Nat.le_of_ble_eq_true rfl) rfl (Nat.le_of_ble_eq_true rfl) (Nat.le_of_ble_eq_true rfl) (Nat.le_of_ble_eq_true rfl) rfl h (fun K h => s_X11_failsAt hG h) (fun D106 h => ?_)
      refine p_iload_n dX11_number_109 rfl ?_
      exact p_ireturn dX11_number_110 (Nat.le_of_ble_eq_true rfl) (Nat.le_of_ble_eq_true rfl) ⟨_, rfl, rfl, ok_some h⟩
    · refine p_iload dX11_number_86 rfl ?_
      refine p_iconst dX11_number_88 ?_
      refine q_icmp_gt (tgt := 101) dX11_number_89 (by decide) h (fun h => ?_) (fun h => ?_)
      · refine p_aload_n dX11_number_101 rfl ?_
        refine p_aload_n dX11_number_102 rfl ?_
        refine p_geti dX11_number_103 fl_X11_125 (fun _ _ _ => rfl) rfl ?_
        refine cV_Vw [vI (s.2.1 73 17)] [] dX11_number_106 yv_X11_failsAt ml_X11_139 (r := (RX11, TX11, 41)) rfl rfl (Nat.le_of_ble_eq_true rfl) rfl (Nat.le_of_ble_eq_true rfl) (Nat.le_of_ble_eq_true rfl) (Nat.le_of_ble_eq_true rfl) rfl h (fun K h => s_X11_failsAt hG h) (fun D106 h => ?_)
        refine p_iload_n dX11_number_109 rfl ?_
        exact p_ireturn dX11_number_110 (Nat.le_of_ble_eq_true rfl) (Nat.le_of_ble_eq_true rfl) ⟨_, rfl, rfl, ok_some h⟩
      · refine p_iload_n dX11_number_92 rfl ?_
        refine p_iload_n dX11_number_93 rfl ?_
        refine p_iload_n dX11_number_94 rfl ?_
        refine cS_Ir [vI s.1, vI v1, vI v2] [] dX11_number_95 ys_X11_in ml_X11_169 (Nat.le_of_ble_eq_true rfl) rfl (Nat.le_of_ble_eq_true rfl) (Nat.le_of_ble_eq_true rfl) (Nat.le_of_ble_eq_true rfl) h (fun K h => s_X11_in hG h) (fun r95 h => ?_)
        refine q_if_ne (tgt := 109) dX11_number_98 (by decide) h (fun h => ?_) (fun h => ?_)
        · refine p_iload_n dX11_number_109 rfl ?_
          exact p_ireturn dX11_number_110 (Nat.le_of_ble_eq_true rfl) (Nat.le_of_ble_eq_true rfl) ⟨_, rfl, rfl, ok_some h⟩
        · refine p_aload_n dX11_number_101 rfl ?_
          refine p_aload_n dX11_number_102 rfl ?_
          refine p_geti dX11_number_103 fl_X11_125 (fun _ _ _ => rfl) rfl ?_
          refine cV_Vw [vI (s.2.1 73 17)] [] dX11_number_106 yv_X11_failsAt ml_X11_139 (r := (RX11, TX11, 41)) rfl rfl (Nat.le_of_ble_eq_true rfl) rfl (Nat.le_of_ble_eq_true rfl) (Nat.le_of_ble_eq_true rfl) (Nat.le_of_ble_eq_true rfl) rfl h (fun K h => s_X11_failsAt hG h) (fun D106 h => ?_)
          refine p_iload_n dX11_number_109 rfl ?_
          exact p_ireturn dX11_number_110 (Nat.le_of_ble_eq_true rfl) (Nat.le_of_ble_eq_true rfl) ⟨_, rfl, rfl, ok_some h⟩
  · refine p_aload_n dX11_number_26 rfl ?_
    refine p_geti dX11_number_27 fl_X11_115 (fun _ _ _ => rfl) rfl ?_
    refine p_aload_n dX11_number_30 rfl ?_
    refine p_geti dX11_number_31 fl_X11_125 (fun _ _ _ => rfl) rfl ?_
    refine p_isub dX11_number_34 ?_
    refine p_iconst dX11_number_35 ?_
    refine q_icmp_ge (tgt := 57) dX11_number_36 (by decide) h (fun h => ?_) (fun h => ?_)
    · refine p_aload_n dX11_number_57 rfl ?_
      refine p_dup dX11_number_58 rfl ?_
      refine p_geti dX11_number_59 fl_X11_115 (fun _ _ _ => rfl) rfl ?_
      refine p_iconst dX11_number_62 ?_
      refine p_iadd dX11_number_63 ?_
      refine q_puti dX11_number_64 fq_X11_115 rfl rfl h (fun D64 h => ?_)
      refine p_goto (tgt := 15) dX11_number_67 (by decide) ?_
      exact p_weak (leL.same (leL.same (leL.same (leL.same (leL.drop leL.nil))))) (kl_inl (P := (P_X11_number_15 l g n K v1 v2)) h)
    · refine p_bipush dX11_number_39 (by decide) ?_
      refine p_iload_n dX11_number_41 rfl ?_
      refine p_imul dX11_number_42 ?_
      refine p_aload_n dX11_number_43 rfl ?_
      refine p_getr dX11_number_44 fl_X11_9 (fun _ _ _ => rfl) rfl rfl ?_
      refine p_aload_n dX11_number_47 rfl ?_
      refine p_geti dX11_number_48 fl_X11_115 (fun _ _ _ => rfl) rfl ?_
      refine q_bald dX11_number_51 rfl rfl h (fun h => ?_)
      refine p_iadd dX11_number_52 ?_
      refine p_bipush dX11_number_53 (by decide) ?_
      refine p_isub dX11_number_55 ?_
      refine p_istore_n dX11_number_56 (Nat.le_of_ble_eq_true rfl) rfl ?_
      refine p_aload_n dX11_number_57 rfl ?_
      refine p_dup dX11_number_58 rfl ?_
      refine p_geti dX11_number_59 fl_X11_115 (fun _ _ _ => rfl) rfl ?_
      refine p_iconst dX11_number_62 ?_
      refine p_iadd dX11_number_63 ?_
      refine q_puti dX11_number_64 fq_X11_115 rfl rfl h (fun D64 h => ?_)
      refine p_goto (tgt := 15) dX11_number_67 (by decide) ?_
      exact p_weak (leL.same (leL.same (leL.same (leL.same (leL.drop leL.nil))))) (kl_inl (P := (P_X11_number_15 l g n K v1 v2)) h)
set_option maxRecDepth 100000 in
set_option maxHeartbeats 4000000 in
theorem x_X11_number {l : Launch} {g : GH} (hG : G0 l g) {n : Nat} {v1 : Int} {v2 : Int} {D : DT} {K : (Int × DT) → Prop} (h : ok (m_X11_number v1 v2 D) K) : Px (E_X11_number l g (PIw n K)) 0 [some (vR g 73), some (vI v1), some (vI v2), none, none] [] (LF n) D 0 0 := by
  refine p_aload_n dX11_number_0 rfl ?_
  refine cV_Ir [] [] dX11_number_1 yv_X11_hasFailed ml_X11_131 (r := (RX11, TX11, 41)) rfl rfl (Nat.le_of_ble_eq_true rfl) rfl (Nat.le_of_ble_eq_true rfl) (Nat.le_of_ble_eq_true rfl) (Nat.le_of_ble_eq_true rfl) rfl h (fun K h => s_X11_hasFailed hG h) (fun r1 h => ?_)
  refine q_if_eq (tgt := 9) dX11_number_4 (by decide) h (fun h => ?_) (fun h => ?_)
  · refine p_aload_n dX11_number_9 rfl ?_
    refine cV_Vw [] [] dX11_number_10 yv_X11_blanks ml_X11_128 (r := (RX11, TX11, 41)) rfl rfl (Nat.le_of_ble_eq_true rfl) rfl (Nat.le_of_ble_eq_true rfl) (Nat.le_of_ble_eq_true rfl) (Nat.le_of_ble_eq_true rfl) rfl h (fun K h => s_X11_blanks hG h) (fun D10 h => ?_)
    refine p_iconst dX11_number_13 ?_
    refine p_istore_n dX11_number_14 (Nat.le_of_ble_eq_true rfl) rfl ?_
    exact p_weak (leL.same (leL.same (leL.same (leL.same (leL.drop leL.nil))))) (x_X11_number_15 hG h)
  · refine p_iconst dX11_number_7 ?_
    exact p_ireturn dX11_number_8 (Nat.le_of_ble_eq_true rfl) (Nat.le_of_ble_eq_true rfl) ⟨_, rfl, rfl, ok_some h⟩
theorem s_X11_number {l : Launch} {g : GH} (hG : G0 l g) {n : Nat} {v1 : Int} {v2 : Int} {D : DT} {K : (Int × DT) → Prop} (h : ok (m_X11_number v1 v2 D) K) : Sat l g yX11_number cX11_number 5 (some .int) 2 0 0 [vR g 73, vI v1, vI v2] (LF n) D (PIw n K) := Sat.of hG (by decide) (Nat.le_of_ble_eq_true rfl) (by simp [Value.category]) (x_X11_number hG h)
abbrev E_X11_sizeLine (l : Launch) (g : GH) (P : PT) : ENV := mkE l g yX11_sizeLine cX11_sizeLine 1 none [] 8 0 0 P
set_option maxRecDepth 100000 in
set_option maxHeartbeats 4000000 in
theorem x_X11_sizeLine {l : Launch} {g : GH} (hG : G0 l g) {n : Nat} {D : DT} {K : DT → Prop} (h : ok (m_X11_sizeLine D) K) : Px (E_X11_sizeLine l g (PVw n K)) 0 [some (vR g 73)] [] (LF n) D 0 0 := by
  refine p_aload_n dX11_sizeLine_0 rfl ?_
  refine p_ldcS (i := 13) hG dX11_sizeLine_1 (by decide) rfl rfl ?_
  refine cV_Vw [vS g 13] [] dX11_sizeLine_3 yv_X11_asksWord ml_X11_173 (r := (RX11, TX11, 41)) rfl rfl (Nat.le_of_ble_eq_true rfl) rfl (Nat.le_of_ble_eq_true rfl) (Nat.le_of_ble_eq_true rfl) (Nat.le_of_ble_eq_true rfl) rfl h (fun K h => s_X11_asksWord hG (by decide) h) (fun D3 h => ?_)
  refine p_aload_n dX11_sizeLine_6 rfl ?_
  refine p_getr dX11_sizeLine_7 fl_X11_20 (fun _ _ _ => rfl) rfl rfl ?_
  refine p_iconst dX11_sizeLine_10 ?_
  refine p_aload_n dX11_sizeLine_11 rfl ?_
  refine p_iconst dX11_sizeLine_12 ?_
  refine p_bipush dX11_sizeLine_13 (by decide) ?_
  refine cV_Iw [vI 2, vI 24] [vI 0, vR g 77] dX11_sizeLine_15 yv_X11_number ml_X11_177 (r := (RX11, TX11, 41)) rfl rfl (Nat.le_of_ble_eq_true rfl) rfl (Nat.le_of_ble_eq_true rfl) (Nat.le_of_ble_eq_true rfl) (Nat.le_of_ble_eq_true rfl) rfl h (fun K h => s_X11_number hG h) (fun r15 D15 h => ?_)
  refine q_iast dX11_sizeLine_18 rfl rfl h (fun D18 h => ?_)
  refine p_aload_n dX11_sizeLine_19 rfl ?_
  refine p_getr dX11_sizeLine_20 fl_X11_20 (fun _ _ _ => rfl) rfl rfl ?_
  refine p_iconst dX11_sizeLine_23 ?_
  refine p_aload_n dX11_sizeLine_24 rfl ?_
  refine p_iconst dX11_sizeLine_25 ?_
  refine p_bipush dX11_sizeLine_26 (by decide) ?_
  refine cV_Iw [vI 2, vI 16] [vI 1, vR g 77] dX11_sizeLine_28 yv_X11_number ml_X11_177 (r := (RX11, TX11, 41)) rfl rfl (Nat.le_of_ble_eq_true rfl) rfl (Nat.le_of_ble_eq_true rfl) (Nat.le_of_ble_eq_true rfl) (Nat.le_of_ble_eq_true rfl) rfl h (fun K h => s_X11_number hG h) (fun r28 D28 h => ?_)
  refine q_iast dX11_sizeLine_31 rfl rfl h (fun D31 h => ?_)
  refine p_aload_n dX11_sizeLine_32 rfl ?_
  refine p_bipush dX11_sizeLine_33 (by decide) ?_
  refine cV_Vw [vI 59] [] dX11_sizeLine_35 yv_X11_asks ml_X11_181 (r := (RX11, TX11, 41)) rfl rfl (Nat.le_of_ble_eq_true rfl) rfl (Nat.le_of_ble_eq_true rfl) (Nat.le_of_ble_eq_true rfl) (Nat.le_of_ble_eq_true rfl) rfl h (fun K h => s_X11_asks hG h) (fun D35 h => ?_)
  exact p_return dX11_sizeLine_38 (Nat.le_of_ble_eq_true rfl) (Nat.le_of_ble_eq_true rfl) ⟨rfl, rfl, ok_some h⟩
theorem s_X11_sizeLine {l : Launch} {g : GH} (hG : G0 l g) {n : Nat} {D : DT} {K : DT → Prop} (h : ok (m_X11_sizeLine D) K) : Sat l g yX11_sizeLine cX11_sizeLine 1 none 8 0 0 [vR g 73] (LF n) D (PVw n K) := Sat.of hG (by decide) (Nat.le_of_ble_eq_true rfl) (by simp [Value.category]) (x_X11_sizeLine hG h)
abbrev E_X11_groupsLine (l : Launch) (g : GH) (P : PT) : ENV := mkE l g yX11_groupsLine cX11_groupsLine 1 none [] 8 0 0 P
set_option maxRecDepth 100000 in
set_option maxHeartbeats 4000000 in
theorem x_X11_groupsLine {l : Launch} {g : GH} (hG : G0 l g) {n : Nat} {D : DT} {K : DT → Prop} (h : ok (m_X11_groupsLine D) K) : Px (E_X11_groupsLine l g (PVw n K)) 0 [some (vR g 73)] [] (LF n) D 0 0 := by
  refine p_aload_n dX11_groupsLine_0 rfl ?_
  refine p_geti dX11_groupsLine_1 fl_X11_184 (fun _ _ _ => rfl) rfl ?_
  refine q_if_ne (tgt := 16) dX11_groupsLine_4 (by decide) h (fun h => ?_) (fun h => ?_)
  · refine p_aload_n dX11_groupsLine_16 rfl ?_
    refine p_aload_n dX11_groupsLine_17 rfl ?_
    refine p_geti dX11_groupsLine_18 fl_X11_125 (fun _ _ _ => rfl) rfl ?_
    refine cV_Vw [vI (D.1 73 17)] [] dX11_groupsLine_21 yv_X11_failsAt ml_X11_139 (r := (RX11, TX11, 41)) rfl rfl (Nat.le_of_ble_eq_true rfl) rfl (Nat.le_of_ble_eq_true rfl) (Nat.le_of_ble_eq_true rfl) (Nat.le_of_ble_eq_true rfl) rfl h (fun K h => s_X11_failsAt hG h) (fun D21 h => ?_)
    exact p_return dX11_groupsLine_24 (Nat.le_of_ble_eq_true rfl) (Nat.le_of_ble_eq_true rfl) ⟨rfl, rfl, ok_some h⟩
  · refine p_aload_n dX11_groupsLine_7 rfl ?_
    refine p_getr dX11_groupsLine_8 fl_X11_20 (fun _ _ _ => rfl) rfl rfl ?_
    refine p_iconst dX11_groupsLine_11 ?_
    refine q_iald dX11_groupsLine_12 rfl rfl h (fun h => ?_)
    refine q_if_le (tgt := 25) dX11_groupsLine_13 (by decide) h (fun h => ?_) (fun h => ?_)
    · refine p_aload_n dX11_groupsLine_25 rfl ?_
      refine p_iconst dX11_groupsLine_26 ?_
      refine q_putz0 dX11_groupsLine_27 fq_X11_184 rfl (by decide) rfl h (fun D27 h => ?_)
      refine p_aload_n dX11_groupsLine_30 rfl ?_
      refine p_ldcS (i := 14) hG dX11_groupsLine_31 (by decide) rfl rfl ?_
      refine cV_Vw [vS g 14] [] dX11_groupsLine_33 yv_X11_asksWord ml_X11_173 (r := (RX11, TX11, 41)) rfl rfl (Nat.le_of_ble_eq_true rfl) rfl (Nat.le_of_ble_eq_true rfl) (Nat.le_of_ble_eq_true rfl) (Nat.le_of_ble_eq_true rfl) rfl h (fun K h => s_X11_asksWord hG (by decide) h) (fun D33 h => ?_)
      refine p_aload_n dX11_groupsLine_36 rfl ?_
      refine p_getr dX11_groupsLine_37 fl_X11_20 (fun _ _ _ => rfl) rfl rfl ?_
      refine p_iconst dX11_groupsLine_40 ?_
      refine p_aload_n dX11_groupsLine_41 rfl ?_
      refine p_iconst dX11_groupsLine_42 ?_
      refine p_iconst dX11_groupsLine_43 ?_
      refine cV_Iw [vI 1, vI 3] [vI 3, vR g 77] dX11_groupsLine_44 yv_X11_number ml_X11_177 (r := (RX11, TX11, 41)) rfl rfl (Nat.le_of_ble_eq_true rfl) rfl (Nat.le_of_ble_eq_true rfl) (Nat.le_of_ble_eq_true rfl) (Nat.le_of_ble_eq_true rfl) rfl h (fun K h => s_X11_number hG h) (fun r44 D44 h => ?_)
      refine q_iast dX11_groupsLine_47 rfl rfl h (fun D47 h => ?_)
      exact p_return dX11_groupsLine_48 (Nat.le_of_ble_eq_true rfl) (Nat.le_of_ble_eq_true rfl) ⟨rfl, rfl, ok_some h⟩
    · refine p_aload_n dX11_groupsLine_16 rfl ?_
      refine p_aload_n dX11_groupsLine_17 rfl ?_
      refine p_geti dX11_groupsLine_18 fl_X11_125 (fun _ _ _ => rfl) rfl ?_
      refine cV_Vw [vI (D.1 73 17)] [] dX11_groupsLine_21 yv_X11_failsAt ml_X11_139 (r := (RX11, TX11, 41)) rfl rfl (Nat.le_of_ble_eq_true rfl) rfl (Nat.le_of_ble_eq_true rfl) (Nat.le_of_ble_eq_true rfl) (Nat.le_of_ble_eq_true rfl) rfl h (fun K h => s_X11_failsAt hG h) (fun D21 h => ?_)
      exact p_return dX11_groupsLine_24 (Nat.le_of_ble_eq_true rfl) (Nat.le_of_ble_eq_true rfl) ⟨rfl, rfl, ok_some h⟩
theorem s_X11_groupsLine {l : Launch} {g : GH} (hG : G0 l g) {n : Nat} {D : DT} {K : DT → Prop} (h : ok (m_X11_groupsLine D) K) : Sat l g yX11_groupsLine cX11_groupsLine 1 none 8 0 0 [vR g 73] (LF n) D (PVw n K) := Sat.of hG (by decide) (Nat.le_of_ble_eq_true rfl) (by simp [Value.category]) (x_X11_groupsLine hG h)
abbrev E_X11_zoneLine (l : Launch) (g : GH) (P : PT) : ENV := mkE l g yX11_zoneLine cX11_zoneLine 4 none [] 8 0 0 P
abbrev P_X11_zoneLine_59 (l : Launch) (g : GH) (n : Nat) (K : DT → Prop) (v1 : Int) (v2 : Int) : (Int × DT) → Prop := fun s => Px (E_X11_zoneLine l g (PVw n K)) 59 [some (vR g 73), some (vI v1), some (vI v2), some (vI s.1)] [] (LF n) s.2 0 0
abbrev P_X11_zoneLine_120 (l : Launch) (g : GH) (n : Nat) (K : DT → Prop) (v1 : Int) : (Int × DT) → Prop := fun s => Px (E_X11_zoneLine l g (PVw n K)) 120 [some (vR g 73), some (vI v1), none, some (vI s.1)] [] (LF n) s.2 0 0
set_option maxRecDepth 100000 in
set_option maxHeartbeats 4000000 in
theorem x_X11_zoneLine_140 {l : Launch} {g : GH} (hG : G0 l g) {n : Nat} {v1 v3 : Int} {D : DT} {K : DT → Prop} (h : ok (m_X11_zoneLine_140 v1 v3 D) (KL (P_X11_zoneLine_120 l g n K v1) K)) : Px (E_X11_zoneLine l g (PVw n K)) 140 [some (vR g 73), some (vI v1), none, some (vI v3)] [] (LF n) D 0 0 := by
  refine p_aload_n dX11_zoneLine_140 rfl ?_
  refine p_getr dX11_zoneLine_141 fl_X11_39 (fun _ _ _ => rfl) rfl rfl ?_
  refine p_iconst dX11_zoneLine_144 ?_
  refine p_iload_n dX11_zoneLine_145 rfl ?_
  refine p_imul dX11_zoneLine_146 ?_
  refine p_iload_n dX11_zoneLine_147 rfl ?_
  refine p_iadd dX11_zoneLine_148 ?_
  refine p_aload_n dX11_zoneLine_149 rfl ?_
  refine p_iconst dX11_zoneLine_150 ?_
  refine p_ldc (v := 99999) dX11_zoneLine_151 cw_X11_194 ?_
  refine cV_Iw [vI 0, vI 99999] [vI ((3 * v1) + v3), vR g 83] dX11_zoneLine_153 yv_X11_number ml_X11_177 (r := (RX11, TX11, 41)) rfl rfl (Nat.le_of_ble_eq_true rfl) rfl (Nat.le_of_ble_eq_true rfl) (Nat.le_of_ble_eq_true rfl) (Nat.le_of_ble_eq_true rfl) rfl h (fun K h => s_X11_number hG h) (fun r153 D153 h => ?_)
  refine q_iast dX11_zoneLine_156 rfl rfl h (fun D156 h => ?_)
  refine p_iinc dX11_zoneLine_157 rfl (Nat.le_of_ble_eq_true rfl) rfl ?_
  refine p_goto (tgt := 120) dX11_zoneLine_160 (by decide) ?_
  exact p_weak (leL.same (leL.same (leL.drop (leL.same leL.nil)))) (kl_inl (P := (P_X11_zoneLine_120 l g n K v1)) h)
set_option maxRecDepth 100000 in
set_option maxHeartbeats 4000000 in
theorem x_X11_zoneLine_120 {l : Launch} {g : GH} (hG : G0 l g) {n : Nat} {v1 : Int} {K : DT → Prop} {s : (Int × DT)} (h : ok (m_X11_zoneLine_120 v1 s) K) : Px (E_X11_zoneLine l g (PVw n K)) 120 [some (vR g 73), some (vI v1), none, some (vI s.1)] [] (LF n) s.2 0 0 := by
  refine ok_loop (P := (P_X11_zoneLine_120 l g n K v1)) (fun s h => ?_) h
  refine p_iload_n dX11_zoneLine_120 rfl ?_
  refine p_aload_n dX11_zoneLine_121 rfl ?_
  refine p_getr dX11_zoneLine_122 fl_X11_20 (fun _ _ _ => rfl) rfl rfl ?_
  refine p_iconst dX11_zoneLine_125 ?_
  refine q_iald dX11_zoneLine_126 rfl rfl h (fun h => ?_)
  refine q_icmp_ge (tgt := 163) dX11_zoneLine_127 (by decide) h (fun h => ?_) (fun h => ?_)
  · have h := kl_inr h
    refine p_aload_n dX11_zoneLine_163 rfl ?_
    refine p_getr dX11_zoneLine_164 fl_X11_20 (fun _ _ _ => rfl) rfl rfl ?_
    refine p_iconst dX11_zoneLine_167 ?_
    refine p_dup2 dX11_zoneLine_168 rfl rfl ?_
    refine q_iald dX11_zoneLine_169 rfl rfl h (fun h => ?_)
    refine p_iconst dX11_zoneLine_170 ?_
    refine p_iadd dX11_zoneLine_171 ?_
    refine q_iast dX11_zoneLine_172 rfl rfl h (fun D172 h => ?_)
    exact p_return dX11_zoneLine_173 (Nat.le_of_ble_eq_true rfl) (Nat.le_of_ble_eq_true rfl) ⟨rfl, rfl, ok_some h⟩
  · refine p_iload_n dX11_zoneLine_130 rfl ?_
    refine q_if_le (tgt := 140) dX11_zoneLine_131 (by decide) h (fun h => ?_) (fun h => ?_)
    · exact p_weak (leL.same (leL.same (leL.drop (leL.same leL.nil)))) (x_X11_zoneLine_140 hG h)
    · refine p_aload_n dX11_zoneLine_134 rfl ?_
      refine p_bipush dX11_zoneLine_135 (by decide) ?_
      refine cV_Vw [vI 44] [] dX11_zoneLine_137 yv_X11_asks ml_X11_181 (r := (RX11, TX11, 41)) rfl rfl (Nat.le_of_ble_eq_true rfl) rfl (Nat.le_of_ble_eq_true rfl) (Nat.le_of_ble_eq_true rfl) (Nat.le_of_ble_eq_true rfl) rfl h (fun K h => s_X11_asks hG h) (fun D137 h => ?_)
      exact p_weak (leL.same (leL.same (leL.drop (leL.same leL.nil)))) (x_X11_zoneLine_140 hG h)
set_option maxRecDepth 100000 in
set_option maxHeartbeats 4000000 in
theorem x_X11_zoneLine_59 {l : Launch} {g : GH} (hG : G0 l g) {n : Nat} {v1 v2 : Int} {K : DT → Prop} {s : (Int × DT)} (h : ok (m_X11_zoneLine_59 v1 v2 s) K) : Px (E_X11_zoneLine l g (PVw n K)) 59 [some (vR g 73), some (vI v1), some (vI v2), some (vI s.1)] [] (LF n) s.2 0 0 := by
  refine ok_loop (P := (P_X11_zoneLine_59 l g n K v1 v2)) (fun s h => ?_) h
  refine p_iload_n dX11_zoneLine_59 rfl ?_
  refine p_bipush dX11_zoneLine_60 (by decide) ?_
  refine q_icmp_ge (tgt := 102) dX11_zoneLine_62 (by decide) h (fun h => ?_) (fun h => ?_)
  · have h := kl_inr h
    refine p_aload_n dX11_zoneLine_102 rfl ?_
    refine p_dup dX11_zoneLine_103 rfl ?_
    refine p_geti dX11_zoneLine_104 fl_X11_115 (fun _ _ _ => rfl) rfl ?_
    refine p_iload_n dX11_zoneLine_107 rfl ?_
    refine p_iadd dX11_zoneLine_108 ?_
    refine q_puti dX11_zoneLine_109 fq_X11_115 rfl rfl h (fun D109 h => ?_)
    refine p_aload_n dX11_zoneLine_112 rfl ?_
    refine p_ldcS (i := 16) hG dX11_zoneLine_113 (by decide) rfl rfl ?_
    refine cV_Vw [vS g 16] [] dX11_zoneLine_115 yv_X11_asksWord ml_X11_173 (r := (RX11, TX11, 41)) rfl rfl (Nat.le_of_ble_eq_true rfl) rfl (Nat.le_of_ble_eq_true rfl) (Nat.le_of_ble_eq_true rfl) (Nat.le_of_ble_eq_true rfl) rfl h (fun K h => s_X11_asksWord hG (by decide) h) (fun D115 h => ?_)
    refine p_iconst dX11_zoneLine_118 ?_
    refine p_istore_n dX11_zoneLine_119 (Nat.le_of_ble_eq_true rfl) rfl ?_
    exact p_weak (leL.same (leL.same (leL.drop (leL.same leL.nil)))) (x_X11_zoneLine_120 hG h)
  · refine p_aload_n dX11_zoneLine_65 rfl ?_
    refine p_getr dX11_zoneLine_66 fl_X11_45 (fun _ _ _ => rfl) rfl rfl ?_
    refine p_bipush dX11_zoneLine_69 (by decide) ?_
    refine p_iload_n dX11_zoneLine_71 rfl ?_
    refine p_imul dX11_zoneLine_72 ?_
    refine p_iload_n dX11_zoneLine_73 rfl ?_
    refine p_iadd dX11_zoneLine_74 ?_
    refine p_iload_n dX11_zoneLine_75 rfl ?_
    refine p_iload_n dX11_zoneLine_76 rfl ?_
    refine q_icmp_ge (tgt := 94) dX11_zoneLine_77 (by decide) h (fun h => ?_) (fun h => ?_)
    · refine p_iconst dX11_zoneLine_94 ?_
      refine q_bast dX11_zoneLine_95 rfl rfl h (fun D95 h => ?_)
      refine p_iinc dX11_zoneLine_96 rfl (Nat.le_of_ble_eq_true rfl) rfl ?_
      refine p_goto (tgt := 59) dX11_zoneLine_99 (by decide) ?_
      exact p_weak (leL.same (leL.same (leL.same (leL.same leL.nil)))) (kl_inl (P := (P_X11_zoneLine_59 l g n K v1 v2)) h)
    · refine p_aload_n dX11_zoneLine_80 rfl ?_
      refine p_getr dX11_zoneLine_81 fl_X11_9 (fun _ _ _ => rfl) rfl rfl ?_
      refine p_aload_n dX11_zoneLine_84 rfl ?_
      refine p_geti dX11_zoneLine_85 fl_X11_115 (fun _ _ _ => rfl) rfl ?_
      refine p_iload_n dX11_zoneLine_88 rfl ?_
      refine p_iadd dX11_zoneLine_89 ?_
      refine q_bald dX11_zoneLine_90 rfl rfl h (fun h => ?_)
      refine p_goto (tgt := 95) dX11_zoneLine_91 (by decide) ?_
      refine q_bast dX11_zoneLine_95 rfl rfl h (fun D95 h => ?_)
      refine p_iinc dX11_zoneLine_96 rfl (Nat.le_of_ble_eq_true rfl) rfl ?_
      refine p_goto (tgt := 59) dX11_zoneLine_99 (by decide) ?_
      exact p_weak (leL.same (leL.same (leL.same (leL.same leL.nil)))) (kl_inl (P := (P_X11_zoneLine_59 l g n K v1 v2)) h)
set_option maxRecDepth 100000 in
set_option maxHeartbeats 4000000 in
theorem x_X11_zoneLine {l : Launch} {g : GH} (hG : G0 l g) {n : Nat} {D : DT} {K : DT → Prop} (h : ok (m_X11_zoneLine D) K) : Px (E_X11_zoneLine l g (PVw n K)) 0 [some (vR g 73), none, none, none] [] (LF n) D 0 0 := by
  refine p_aload_n dX11_zoneLine_0 rfl ?_
  refine p_getr dX11_zoneLine_1 fl_X11_20 (fun _ _ _ => rfl) rfl rfl ?_
  refine p_iconst dX11_zoneLine_4 ?_
  refine q_iald dX11_zoneLine_5 rfl rfl h (fun h => ?_)
  refine p_istore_n dX11_zoneLine_6 (Nat.le_of_ble_eq_true rfl) rfl ?_
  refine p_iload_n dX11_zoneLine_7 rfl ?_
  refine p_bipush dX11_zoneLine_8 (by decide) ?_
  refine q_icmp_ne (tgt := 22) dX11_zoneLine_10 (by decide) h (fun h => ?_) (fun h => ?_)
  · refine p_aload_n dX11_zoneLine_22 rfl ?_
    refine p_ldcS (i := 15) hG dX11_zoneLine_23 (by decide) rfl rfl ?_
    refine cV_Vw [vS g 15] [] dX11_zoneLine_25 yv_X11_asksWord ml_X11_173 (r := (RX11, TX11, 41)) rfl rfl (Nat.le_of_ble_eq_true rfl) rfl (Nat.le_of_ble_eq_true rfl) (Nat.le_of_ble_eq_true rfl) (Nat.le_of_ble_eq_true rfl) rfl h (fun K h => s_X11_asksWord hG (by decide) h) (fun D25 h => ?_)
    refine p_aload_n dX11_zoneLine_28 rfl ?_
    refine cV_Iw [] [] dX11_zoneLine_29 yv_X11_isName ml_X11_188 (r := (RX11, TX11, 41)) rfl rfl (Nat.le_of_ble_eq_true rfl) rfl (Nat.le_of_ble_eq_true rfl) (Nat.le_of_ble_eq_true rfl) (Nat.le_of_ble_eq_true rfl) rfl h (fun K h => s_X11_isName hG h) (fun r29 D29 h => ?_)
    refine q_if_eq (tgt := 43) dX11_zoneLine_32 (by decide) h (fun h => ?_) (fun h => ?_)
    · refine p_aload_n dX11_zoneLine_43 rfl ?_
      refine p_aload_n dX11_zoneLine_44 rfl ?_
      refine p_geti dX11_zoneLine_45 fl_X11_125 (fun _ _ _ => rfl) rfl ?_
      refine cV_Vw [vI (D29.1 73 17)] [] dX11_zoneLine_48 yv_X11_failsAt ml_X11_139 (r := (RX11, TX11, 41)) rfl rfl (Nat.le_of_ble_eq_true rfl) rfl (Nat.le_of_ble_eq_true rfl) (Nat.le_of_ble_eq_true rfl) (Nat.le_of_ble_eq_true rfl) rfl h (fun K h => s_X11_failsAt hG h) (fun D48 h => ?_)
      exact p_return dX11_zoneLine_51 (Nat.le_of_ble_eq_true rfl) (Nat.le_of_ble_eq_true rfl) ⟨rfl, rfl, ok_some h⟩
    · refine p_aload_n dX11_zoneLine_35 rfl ?_
      refine cV_Iw [] [] dX11_zoneLine_36 yv_X11_told ml_X11_191 (r := (RX11, TX11, 41)) rfl rfl (Nat.le_of_ble_eq_true rfl) rfl (Nat.le_of_ble_eq_true rfl) (Nat.le_of_ble_eq_true rfl) (Nat.le_of_ble_eq_true rfl) rfl h (fun K h => s_X11_told hG h) (fun r36 D36 h => ?_)
      refine p_iconst dX11_zoneLine_39 ?_
      refine q_icmp_eq (tgt := 52) dX11_zoneLine_40 (by decide) h (fun h => ?_) (fun h => ?_)
      · refine p_aload_n dX11_zoneLine_52 rfl ?_
        refine cV_Iw [] [] dX11_zoneLine_53 yv_X11_wordMany ml_X11_143 (r := (RX11, TX11, 41)) rfl rfl (Nat.le_of_ble_eq_true rfl) rfl (Nat.le_of_ble_eq_true rfl) (Nat.le_of_ble_eq_true rfl) (Nat.le_of_ble_eq_true rfl) rfl h (fun K h => s_X11_wordMany hG h) (fun r53 D53 h => ?_)
        refine p_istore_n dX11_zoneLine_56 (Nat.le_of_ble_eq_true rfl) rfl ?_
        refine p_iconst dX11_zoneLine_57 ?_
        refine p_istore_n dX11_zoneLine_58 (Nat.le_of_ble_eq_true rfl) rfl ?_
        exact p_weak (leL.same (leL.same (leL.same (leL.same leL.nil)))) (x_X11_zoneLine_59 hG h)
      · refine p_aload_n dX11_zoneLine_43 rfl ?_
        refine p_aload_n dX11_zoneLine_44 rfl ?_
        refine p_geti dX11_zoneLine_45 fl_X11_125 (fun _ _ _ => rfl) rfl ?_
        refine cV_Vw [vI (D36.1 73 17)] [] dX11_zoneLine_48 yv_X11_failsAt ml_X11_139 (r := (RX11, TX11, 41)) rfl rfl (Nat.le_of_ble_eq_true rfl) rfl (Nat.le_of_ble_eq_true rfl) (Nat.le_of_ble_eq_true rfl) (Nat.le_of_ble_eq_true rfl) rfl h (fun K h => s_X11_failsAt hG h) (fun D48 h => ?_)
        exact p_return dX11_zoneLine_51 (Nat.le_of_ble_eq_true rfl) (Nat.le_of_ble_eq_true rfl) ⟨rfl, rfl, ok_some h⟩
  · refine p_aload_n dX11_zoneLine_13 rfl ?_
    refine p_aload_n dX11_zoneLine_14 rfl ?_
    refine p_geti dX11_zoneLine_15 fl_X11_125 (fun _ _ _ => rfl) rfl ?_
    refine cV_Vw [vI (D.1 73 17)] [] dX11_zoneLine_18 yv_X11_failsAt ml_X11_139 (r := (RX11, TX11, 41)) rfl rfl (Nat.le_of_ble_eq_true rfl) rfl (Nat.le_of_ble_eq_true rfl) (Nat.le_of_ble_eq_true rfl) (Nat.le_of_ble_eq_true rfl) rfl h (fun K h => s_X11_failsAt hG h) (fun D18 h => ?_)
    exact p_return dX11_zoneLine_21 (Nat.le_of_ble_eq_true rfl) (Nat.le_of_ble_eq_true rfl) ⟨rfl, rfl, ok_some h⟩
theorem s_X11_zoneLine {l : Launch} {g : GH} (hG : G0 l g) {n : Nat} {D : DT} {K : DT → Prop} (h : ok (m_X11_zoneLine D) K) : Sat l g yX11_zoneLine cX11_zoneLine 4 none 8 0 0 [vR g 73] (LF n) D (PVw n K) := Sat.of hG (by decide) (Nat.le_of_ble_eq_true rfl) (by simp [Value.category]) (x_X11_zoneLine hG h)
abbrev E_X11_isOther (l : Launch) (g : GH) (P : PT) : ENV := mkE l g yX11_isOther cX11_isOther 3 (some .boolean) [] 0 0 0 P
set_option maxRecDepth 100000 in
set_option maxHeartbeats 4000000 in
theorem x_X11_isOther {l : Launch} {g : GH} (hG : G0 l g) {n : Nat} {v1 : Int} {v2 : Int} {D : DT} {K : Int → Prop} (h : ok (m_X11_isOther v1 v2 D) K) : Px (E_X11_isOther l g (PIr n D K)) 0 [some (vR g 73), some (vI v1), some (vI v2)] [] (LF n) D 0 0 := by
  refine p_iload_n dX11_isOther_0 rfl ?_
  refine p_iconst dX11_isOther_1 ?_
  refine q_icmp_eq (tgt := 29) dX11_isOther_2 (by decide) h (fun h => ?_) (fun h => ?_)
  · refine p_iconst dX11_isOther_29 ?_
    exact p_zreturn dX11_isOther_30 (Nat.le_of_ble_eq_true rfl) (Nat.le_of_ble_eq_true rfl) (Or.inl rfl) ⟨_, rfl, rfl, rfl, ok_some h⟩
  · refine p_aload_n dX11_isOther_5 rfl ?_
    refine p_getr dX11_isOther_6 fl_X11_26 (fun _ _ _ => rfl) rfl rfl ?_
    refine p_iload_n dX11_isOther_9 rfl ?_
    refine q_iald dX11_isOther_10 rfl rfl h (fun h => ?_)
    refine p_iconst dX11_isOther_11 ?_
    refine q_icmp_eq (tgt := 29) dX11_isOther_12 (by decide) h (fun h => ?_) (fun h => ?_)
    · refine p_iconst dX11_isOther_29 ?_
      exact p_zreturn dX11_isOther_30 (Nat.le_of_ble_eq_true rfl) (Nat.le_of_ble_eq_true rfl) (Or.inl rfl) ⟨_, rfl, rfl, rfl, ok_some h⟩
    · refine p_aload_n dX11_isOther_15 rfl ?_
      refine p_getr dX11_isOther_16 fl_X11_26 (fun _ _ _ => rfl) rfl rfl ?_
      refine p_iload_n dX11_isOther_19 rfl ?_
      refine q_iald dX11_isOther_20 rfl rfl h (fun h => ?_)
      refine p_iload_n dX11_isOther_21 rfl ?_
      refine q_icmp_eq (tgt := 29) dX11_isOther_22 (by decide) h (fun h => ?_) (fun h => ?_)
      · refine p_iconst dX11_isOther_29 ?_
        exact p_zreturn dX11_isOther_30 (Nat.le_of_ble_eq_true rfl) (Nat.le_of_ble_eq_true rfl) (Or.inl rfl) ⟨_, rfl, rfl, rfl, ok_some h⟩
      · refine p_iconst dX11_isOther_25 ?_
        refine p_goto (tgt := 30) dX11_isOther_26 (by decide) ?_
        exact p_zreturn dX11_isOther_30 (Nat.le_of_ble_eq_true rfl) (Nat.le_of_ble_eq_true rfl) (Or.inr rfl) ⟨_, rfl, rfl, rfl, ok_some h⟩
theorem s_X11_isOther {l : Launch} {g : GH} (hG : G0 l g) {n : Nat} {v1 : Int} {v2 : Int} {D : DT} {K : Int → Prop} (h : ok (m_X11_isOther v1 v2 D) K) : Sat l g yX11_isOther cX11_isOther 3 (some .boolean) 0 0 0 [vR g 73, vI v1, vI v2] (LF n) D (PIr n D K) := Sat.of hG (by decide) (Nat.le_of_ble_eq_true rfl) (by simp [Value.category]) (x_X11_isOther hG h)
abbrev E_X11_runs (l : Launch) (g : GH) (P : PT) : ENV := mkE l g yX11_runs cX11_runs 7 none [] 4 0 0 P
abbrev P_X11_runs_27 (l : Launch) (g : GH) (n : Nat) (K : DT → Prop) (v1 : Int) (v2 : Int) : DT → Prop := fun s => Px (E_X11_runs l g (PVw n K)) 27 [some (vR g 73), some (vI v1), some (vI v2), none, none, none, none] [] (LF n) s 0 0
abbrev P_X11_runs_101 (l : Launch) (g : GH) (n : Nat) (K : DT → Prop) (v1 : Int) (v2 : Int) (v3 : Int) (v4 : Int) (v5 : Int) : (Int × DT) → Prop := fun s => Px (E_X11_runs l g (PVw n K)) 101 [some (vR g 73), some (vI v1), some (vI v2), some (vI v3), some (vI v4), some (vI v5), some (vI s.1)] [] (LF n) s.2 0 0
abbrev P_X11_runs_142 (l : Launch) (g : GH) (n : Nat) (K : DT → Prop) (v1 : Int) (v2 : Int) (v5 : Int) : (Int × DT) → Prop := fun s => Px (E_X11_runs l g (PVw n K)) 142 [some (vR g 73), some (vI v1), some (vI v2), none, none, some (vI v5), some (vI s.1)] [] (LF n) s.2 0 0
set_option maxRecDepth 100000 in
set_option maxHeartbeats 4000000 in
theorem x_X11_runs_142 {l : Launch} {g : GH} (hG : G0 l g) {n : Nat} {v1 v2 v5 : Int} {K : DT → Prop} {s : (Int × DT)} (h : ok (m_X11_runs_142 v1 v2 v5 s) (KL (P_X11_runs_27 l g n K v1 v2) K)) : Px (E_X11_runs l g (PVw n K)) 142 [some (vR g 73), some (vI v1), some (vI v2), none, none, some (vI v5), some (vI s.1)] [] (LF n) s.2 0 0 := by
  refine ok_loop (P := (P_X11_runs_142 l g n K v1 v2 v5)) (fun s h => ?_) h
  refine p_iload dX11_runs_142 rfl ?_
  refine p_iload dX11_runs_144 rfl ?_
  refine q_icmp_gt (tgt := 190) dX11_runs_146 (by decide) h (fun h => ?_) (fun h => ?_)
  · have h := kl_inr h
    refine p_aload_n dX11_runs_190 rfl ?_
    refine p_bipush dX11_runs_191 (by decide) ?_
    refine cV_Iw [vI 44] [] dX11_runs_193 yv_X11_takes ml_X11_135 (r := (RX11, TX11, 41)) rfl rfl (Nat.le_of_ble_eq_true rfl) rfl (Nat.le_of_ble_eq_true rfl) (Nat.le_of_ble_eq_true rfl) (Nat.le_of_ble_eq_true rfl) rfl h (fun K h => s_X11_takes hG h) (fun r193 D193 h => ?_)
    refine q_if_ne (tgt := 27) dX11_runs_196 (by decide) h (fun h => ?_) (fun h => ?_)
    · exact p_weak (leL.same (leL.same (leL.same (leL.drop (leL.drop (leL.drop (leL.drop leL.nil))))))) (kl_inl (P := (P_X11_runs_27 l g n K v1 v2)) h)
    · have h := kl_inr h
      exact p_return dX11_runs_199 (Nat.le_of_ble_eq_true rfl) (Nat.le_of_ble_eq_true rfl) ⟨rfl, rfl, ok_some h⟩
  · refine p_aload_n dX11_runs_149 rfl ?_
    refine cV_Ir [] [] dX11_runs_150 yv_X11_hasFailed ml_X11_131 (r := (RX11, TX11, 41)) rfl rfl (Nat.le_of_ble_eq_true rfl) rfl (Nat.le_of_ble_eq_true rfl) (Nat.le_of_ble_eq_true rfl) (Nat.le_of_ble_eq_true rfl) rfl h (fun K h => s_X11_hasFailed hG h) (fun r150 h => ?_)
    refine q_if_ne (tgt := 190) dX11_runs_153 (by decide) h (fun h => ?_) (fun h => ?_)
    · have h := kl_inr h
      refine p_aload_n dX11_runs_190 rfl ?_
      refine p_bipush dX11_runs_191 (by decide) ?_
      refine cV_Iw [vI 44] [] dX11_runs_193 yv_X11_takes ml_X11_135 (r := (RX11, TX11, 41)) rfl rfl (Nat.le_of_ble_eq_true rfl) rfl (Nat.le_of_ble_eq_true rfl) (Nat.le_of_ble_eq_true rfl) (Nat.le_of_ble_eq_true rfl) rfl h (fun K h => s_X11_takes hG h) (fun r193 D193 h => ?_)
      refine q_if_ne (tgt := 27) dX11_runs_196 (by decide) h (fun h => ?_) (fun h => ?_)
      · exact p_weak (leL.same (leL.same (leL.same (leL.drop (leL.drop (leL.drop (leL.drop leL.nil))))))) (kl_inl (P := (P_X11_runs_27 l g n K v1 v2)) h)
      · have h := kl_inr h
        exact p_return dX11_runs_199 (Nat.le_of_ble_eq_true rfl) (Nat.le_of_ble_eq_true rfl) ⟨rfl, rfl, ok_some h⟩
    · refine p_iload_n dX11_runs_156 rfl ?_
      refine p_iconst dX11_runs_157 ?_
      refine q_icmp_ne (tgt := 174) dX11_runs_158 (by decide) h (fun h => ?_) (fun h => ?_)
      · refine p_aload_n dX11_runs_174 rfl ?_
        refine p_getr dX11_runs_175 fl_X11_26 (fun _ _ _ => rfl) rfl rfl ?_
        refine p_iload_n dX11_runs_178 rfl ?_
        refine p_iload dX11_runs_179 rfl ?_
        refine p_iadd dX11_runs_181 ?_
        refine p_iload_n dX11_runs_182 rfl ?_
        refine q_iast dX11_runs_183 rfl rfl h (fun D183 h => ?_)
        refine p_iinc dX11_runs_184 rfl (Nat.le_of_ble_eq_true rfl) rfl ?_
        refine p_goto (tgt := 142) dX11_runs_187 (by decide) ?_
        exact p_weak (leL.same (leL.same (leL.same (leL.drop (leL.drop (leL.same (leL.same leL.nil))))))) (kl_inl (P := (P_X11_runs_142 l g n K v1 v2 v5)) h)
      · refine p_aload_n dX11_runs_161 rfl ?_
        refine p_getr dX11_runs_162 fl_X11_33 (fun _ _ _ => rfl) rfl rfl ?_
        refine p_iload_n dX11_runs_165 rfl ?_
        refine p_iload dX11_runs_166 rfl ?_
        refine p_iadd dX11_runs_168 ?_
        refine p_iconst dX11_runs_169 ?_
        refine q_zast dX11_runs_170 rfl rfl h (fun D170 h => ?_)
        refine p_goto (tgt := 184) dX11_runs_171 (by decide) ?_
        refine p_iinc dX11_runs_184 rfl (Nat.le_of_ble_eq_true rfl) rfl ?_
        refine p_goto (tgt := 142) dX11_runs_187 (by decide) ?_
        exact p_weak (leL.same (leL.same (leL.same (leL.drop (leL.drop (leL.same (leL.same leL.nil))))))) (kl_inl (P := (P_X11_runs_142 l g n K v1 v2 v5)) h)
set_option maxRecDepth 100000 in
set_option maxHeartbeats 4000000 in
theorem x_X11_runs_101 {l : Launch} {g : GH} (hG : G0 l g) {n : Nat} {v1 v2 v3 v4 v5 : Int} {K : DT → Prop} {s : (Int × DT)} (h : ok (m_X11_runs_101 v1 v2 v3 v4 v5 s) (KL (P_X11_runs_27 l g n K v1 v2) K)) : Px (E_X11_runs l g (PVw n K)) 101 [some (vR g 73), some (vI v1), some (vI v2), some (vI v3), some (vI v4), some (vI v5), some (vI s.1)] [] (LF n) s.2 0 0 := by
  refine ok_loop (P := (P_X11_runs_101 l g n K v1 v2 v3 v4 v5)) (fun s h => ?_) h
  refine p_iload dX11_runs_101 rfl ?_
  refine p_iload dX11_runs_103 rfl ?_
  refine q_icmp_gt (tgt := 138) dX11_runs_105 (by decide) h (fun h => ?_) (fun h => ?_)
  · have h := kl_inr h
    refine p_iload dX11_runs_138 rfl ?_
    refine p_istore dX11_runs_140 (Nat.le_of_ble_eq_true rfl) rfl ?_
    exact p_weak (leL.same (leL.same (leL.same (leL.drop (leL.drop (leL.same (leL.same leL.nil))))))) (x_X11_runs_142 hG h)
  · refine p_aload_n dX11_runs_108 rfl ?_
    refine cV_Ir [] [] dX11_runs_109 yv_X11_hasFailed ml_X11_131 (r := (RX11, TX11, 41)) rfl rfl (Nat.le_of_ble_eq_true rfl) rfl (Nat.le_of_ble_eq_true rfl) (Nat.le_of_ble_eq_true rfl) (Nat.le_of_ble_eq_true rfl) rfl h (fun K h => s_X11_hasFailed hG h) (fun r109 h => ?_)
    refine q_if_ne (tgt := 138) dX11_runs_112 (by decide) h (fun h => ?_) (fun h => ?_)
    · have h := kl_inr h
      refine p_iload dX11_runs_138 rfl ?_
      refine p_istore dX11_runs_140 (Nat.le_of_ble_eq_true rfl) rfl ?_
      exact p_weak (leL.same (leL.same (leL.same (leL.drop (leL.drop (leL.same (leL.same leL.nil))))))) (x_X11_runs_142 hG h)
    · refine p_aload_n dX11_runs_115 rfl ?_
      refine p_iload_n dX11_runs_116 rfl ?_
      refine p_iload dX11_runs_117 rfl ?_
      refine p_iadd dX11_runs_119 ?_
      refine p_iload_n dX11_runs_120 rfl ?_
      refine cV_Ir [vI (v2 + s.1), vI v1] [] dX11_runs_121 yv_X11_isOther ml_X11_195 (r := (RX11, TX11, 41)) rfl rfl (Nat.le_of_ble_eq_true rfl) rfl (Nat.le_of_ble_eq_true rfl) (Nat.le_of_ble_eq_true rfl) (Nat.le_of_ble_eq_true rfl) rfl h (fun K h => s_X11_isOther hG h) (fun r121 h => ?_)
      refine q_if_eq (tgt := 132) dX11_runs_124 (by decide) h (fun h => ?_) (fun h => ?_)
      · refine p_iinc dX11_runs_132 rfl (Nat.le_of_ble_eq_true rfl) rfl ?_
        refine p_goto (tgt := 101) dX11_runs_135 (by decide) ?_
        exact p_weak (leL.same (leL.same (leL.same (leL.same (leL.same (leL.same (leL.same leL.nil))))))) (kl_inl (P := (P_X11_runs_101 l g n K v1 v2 v3 v4 v5)) h)
      · refine p_aload_n dX11_runs_127 rfl ?_
        refine p_iload_n dX11_runs_128 rfl ?_
        refine cV_Vw [vI v3] [] dX11_runs_129 yv_X11_failsAt ml_X11_139 (r := (RX11, TX11, 41)) rfl rfl (Nat.le_of_ble_eq_true rfl) rfl (Nat.le_of_ble_eq_true rfl) (Nat.le_of_ble_eq_true rfl) (Nat.le_of_ble_eq_true rfl) rfl h (fun K h => s_X11_failsAt hG h) (fun D129 h => ?_)
        refine p_iinc dX11_runs_132 rfl (Nat.le_of_ble_eq_true rfl) rfl ?_
        refine p_goto (tgt := 101) dX11_runs_135 (by decide) ?_
        exact p_weak (leL.same (leL.same (leL.same (leL.same (leL.same (leL.same (leL.same leL.nil))))))) (kl_inl (P := (P_X11_runs_101 l g n K v1 v2 v3 v4 v5)) h)
set_option maxRecDepth 100000 in
set_option maxHeartbeats 4000000 in
theorem x_X11_runs_75 {l : Launch} {g : GH} (hG : G0 l g) {n : Nat} {v1 v2 v3 v4 : Int} {D : DT} {K : DT → Prop} (h : ok (m_X11_runs_75 v1 v2 v3 v4 D) (KL (P_X11_runs_27 l g n K v1 v2) K)) : Px (E_X11_runs l g (PVw n K)) 75 [some (vR g 73), some (vI v1), some (vI v2), some (vI v3), some (vI v4), none, none] [] (LF n) D 0 0 := by
  refine p_aload_n dX11_runs_75 rfl ?_
  refine p_bipush dX11_runs_76 (by decide) ?_
  refine cV_Vw [vI 45] [] dX11_runs_78 yv_X11_asks ml_X11_181 (r := (RX11, TX11, 41)) rfl rfl (Nat.le_of_ble_eq_true rfl) rfl (Nat.le_of_ble_eq_true rfl) (Nat.le_of_ble_eq_true rfl) (Nat.le_of_ble_eq_true rfl) rfl h (fun K h => s_X11_asks hG h) (fun D78 h => ?_)
  refine p_aload_n dX11_runs_81 rfl ?_
  refine p_iload dX11_runs_82 rfl ?_
  refine p_aload_n dX11_runs_84 rfl ?_
  refine p_getr dX11_runs_85 fl_X11_20 (fun _ _ _ => rfl) rfl rfl ?_
  refine p_iconst dX11_runs_88 ?_
  refine q_iald dX11_runs_89 rfl rfl h (fun h => ?_)
  refine p_iconst dX11_runs_90 ?_
  refine p_isub dX11_runs_91 ?_
  refine cV_Iw [vI v4, vI ((D78.2 77 (Int.toNat 0)) - 1)] [] dX11_runs_92 yv_X11_number ml_X11_177 (r := (RX11, TX11, 41)) rfl rfl (Nat.le_of_ble_eq_true rfl) rfl (Nat.le_of_ble_eq_true rfl) (Nat.le_of_ble_eq_true rfl) (Nat.le_of_ble_eq_true rfl) rfl h (fun K h => s_X11_number hG h) (fun r92 D92 h => ?_)
  refine p_istore dX11_runs_95 (Nat.le_of_ble_eq_true rfl) rfl ?_
  refine p_iload dX11_runs_97 rfl ?_
  refine p_istore dX11_runs_99 (Nat.le_of_ble_eq_true rfl) rfl ?_
  exact p_weak (leL.same (leL.same (leL.same (leL.same (leL.same (leL.same (leL.same leL.nil))))))) (x_X11_runs_101 hG h)
set_option maxRecDepth 100000 in
set_option maxHeartbeats 4000000 in
theorem x_X11_runs_27 {l : Launch} {g : GH} (hG : G0 l g) {n : Nat} {v1 v2 : Int} {K : DT → Prop} {s : DT} (h : ok (m_X11_runs_27 v1 v2 s) K) : Px (E_X11_runs l g (PVw n K)) 27 [some (vR g 73), some (vI v1), some (vI v2), none, none, none, none] [] (LF n) s 0 0 := by
  refine ok_loop (P := (P_X11_runs_27 l g n K v1 v2)) (fun s h => ?_) h
  refine p_aload_n dX11_runs_27 rfl ?_
  refine cV_Vw [] [] dX11_runs_28 yv_X11_blanks ml_X11_128 (r := (RX11, TX11, 41)) rfl rfl (Nat.le_of_ble_eq_true rfl) rfl (Nat.le_of_ble_eq_true rfl) (Nat.le_of_ble_eq_true rfl) (Nat.le_of_ble_eq_true rfl) rfl h (fun K h => s_X11_blanks hG h) (fun D28 h => ?_)
  refine p_aload_n dX11_runs_31 rfl ?_
  refine p_geti dX11_runs_32 fl_X11_125 (fun _ _ _ => rfl) rfl ?_
  refine p_istore_n dX11_runs_35 (Nat.le_of_ble_eq_true rfl) rfl ?_
  refine p_aload_n dX11_runs_36 rfl ?_
  refine p_iconst dX11_runs_37 ?_
  refine p_aload_n dX11_runs_38 rfl ?_
  refine p_getr dX11_runs_39 fl_X11_20 (fun _ _ _ => rfl) rfl rfl ?_
  refine p_iconst dX11_runs_42 ?_
  refine q_iald dX11_runs_43 rfl rfl h (fun h => ?_)
  refine p_iconst dX11_runs_44 ?_
  refine p_isub dX11_runs_45 ?_
  refine cV_Iw [vI 0, vI ((D28.2 77 (Int.toNat 0)) - 1)] [] dX11_runs_46 yv_X11_number ml_X11_177 (r := (RX11, TX11, 41)) rfl rfl (Nat.le_of_ble_eq_true rfl) rfl (Nat.le_of_ble_eq_true rfl) (Nat.le_of_ble_eq_true rfl) (Nat.le_of_ble_eq_true rfl) rfl h (fun K h => s_X11_number hG h) (fun r46 D46 h => ?_)
  refine p_istore dX11_runs_49 (Nat.le_of_ble_eq_true rfl) rfl ?_
  refine p_aload_n dX11_runs_51 rfl ?_
  refine cV_Ir [] [] dX11_runs_52 yv_X11_hasFailed ml_X11_131 (r := (RX11, TX11, 41)) rfl rfl (Nat.le_of_ble_eq_true rfl) rfl (Nat.le_of_ble_eq_true rfl) (Nat.le_of_ble_eq_true rfl) (Nat.le_of_ble_eq_true rfl) rfl h (fun K h => s_X11_hasFailed hG h) (fun r52 h => ?_)
  refine q_if_ne (tgt := 75) dX11_runs_55 (by decide) h (fun h => ?_) (fun h => ?_)
  · exact p_weak (leL.same (leL.same (leL.same (leL.same (leL.same (leL.drop (leL.drop leL.nil))))))) (x_X11_runs_75 hG h)
  · refine p_aload_n dX11_runs_58 rfl ?_
    refine p_iload_n dX11_runs_59 rfl ?_
    refine p_iload dX11_runs_60 rfl ?_
    refine p_iadd dX11_runs_62 ?_
    refine p_iload_n dX11_runs_63 rfl ?_
    refine cV_Ir [vI (v2 + r46), vI v1] [] dX11_runs_64 yv_X11_isOther ml_X11_195 (r := (RX11, TX11, 41)) rfl rfl (Nat.le_of_ble_eq_true rfl) rfl (Nat.le_of_ble_eq_true rfl) (Nat.le_of_ble_eq_true rfl) (Nat.le_of_ble_eq_true rfl) rfl h (fun K h => s_X11_isOther hG h) (fun r64 h => ?_)
    refine q_if_eq (tgt := 75) dX11_runs_67 (by decide) h (fun h => ?_) (fun h => ?_)
    · exact p_weak (leL.same (leL.same (leL.same (leL.same (leL.same (leL.drop (leL.drop leL.nil))))))) (x_X11_runs_75 hG h)
    · refine p_aload_n dX11_runs_70 rfl ?_
      refine p_iload_n dX11_runs_71 rfl ?_
      refine cV_Vw [vI (D28.1 73 17)] [] dX11_runs_72 yv_X11_failsAt ml_X11_139 (r := (RX11, TX11, 41)) rfl rfl (Nat.le_of_ble_eq_true rfl) rfl (Nat.le_of_ble_eq_true rfl) (Nat.le_of_ble_eq_true rfl) (Nat.le_of_ble_eq_true rfl) rfl h (fun K h => s_X11_failsAt hG h) (fun D72 h => ?_)
      exact p_weak (leL.same (leL.same (leL.same (leL.same (leL.same (leL.drop (leL.drop leL.nil))))))) (x_X11_runs_75 hG h)
set_option maxRecDepth 100000 in
set_option maxHeartbeats 4000000 in
theorem x_X11_runs {l : Launch} {g : GH} (hG : G0 l g) {n : Nat} {v1 : Int} {D : DT} {K : DT → Prop} (h : ok (m_X11_runs v1 D) K) : Px (E_X11_runs l g (PVw n K)) 0 [some (vR g 73), some (vI v1), none, none, none, none, none] [] (LF n) D 0 0 := by
  refine p_aload_n dX11_runs_0 rfl ?_
  refine p_iconst dX11_runs_1 ?_
  refine p_aload_n dX11_runs_2 rfl ?_
  refine p_getr dX11_runs_3 fl_X11_20 (fun _ _ _ => rfl) rfl rfl ?_
  refine p_iconst dX11_runs_6 ?_
  refine q_iald dX11_runs_7 rfl rfl h (fun h => ?_)
  refine p_iconst dX11_runs_8 ?_
  refine p_isub dX11_runs_9 ?_
  refine cV_Iw [vI 0, vI ((D.2 77 (Int.toNat 1)) - 1)] [] dX11_runs_10 yv_X11_number ml_X11_177 (r := (RX11, TX11, 41)) rfl rfl (Nat.le_of_ble_eq_true rfl) rfl (Nat.le_of_ble_eq_true rfl) (Nat.le_of_ble_eq_true rfl) (Nat.le_of_ble_eq_true rfl) rfl h (fun K h => s_X11_number hG h) (fun r10 D10 h => ?_)
  refine p_aload_n dX11_runs_13 rfl ?_
  refine p_getr dX11_runs_14 fl_X11_20 (fun _ _ _ => rfl) rfl rfl ?_
  refine p_iconst dX11_runs_17 ?_
  refine q_iald dX11_runs_18 rfl rfl h (fun h => ?_)
  refine p_imul dX11_runs_19 ?_
  refine p_istore_n dX11_runs_20 (Nat.le_of_ble_eq_true rfl) rfl ?_
  refine p_aload_n dX11_runs_21 rfl ?_
  refine p_bipush dX11_runs_22 (by decide) ?_
  refine cV_Vw [vI 58] [] dX11_runs_24 yv_X11_asks ml_X11_181 (r := (RX11, TX11, 41)) rfl rfl (Nat.le_of_ble_eq_true rfl) rfl (Nat.le_of_ble_eq_true rfl) (Nat.le_of_ble_eq_true rfl) (Nat.le_of_ble_eq_true rfl) rfl h (fun K h => s_X11_asks hG h) (fun D24 h => ?_)
  exact p_weak (leL.same (leL.same (leL.same (leL.drop (leL.drop (leL.drop (leL.drop leL.nil))))))) (x_X11_runs_27 hG h)
theorem s_X11_runs {l : Launch} {g : GH} (hG : G0 l g) {n : Nat} {v1 : Int} {D : DT} {K : DT → Prop} (h : ok (m_X11_runs v1 D) K) : Sat l g yX11_runs cX11_runs 7 none 4 0 0 [vR g 73, vI v1] (LF n) D (PVw n K) := Sat.of hG (by decide) (Nat.le_of_ble_eq_true rfl) (by simp [Value.category]) (x_X11_runs hG h)
abbrev E_X11_rowLine (l : Launch) (g : GH) (P : PT) : ENV := mkE l g yX11_rowLine cX11_rowLine 2 none [] 8 0 0 P
set_option maxRecDepth 100000 in
set_option maxHeartbeats 4000000 in
theorem x_X11_rowLine_21 {l : Launch} {g : GH} (hG : G0 l g) {n : Nat} {x0 : Int} {D : DT} {K : DT → Prop} (h : ok (m_X11_rowLine_21 x0 D) K) : Px (E_X11_rowLine l g (PVw n K)) 21 [some (vR g 73), none] [vI x0] (LF n) D 0 0 := by
  refine p_istore_n dX11_rowLine_21 (Nat.le_of_ble_eq_true rfl) rfl ?_
  refine p_iload_n dX11_rowLine_22 rfl ?_
  refine p_iconst dX11_rowLine_23 ?_
  refine q_icmp_ne (tgt := 36) dX11_rowLine_24 (by decide) h (fun h => ?_) (fun h => ?_)
  · refine p_aload_n dX11_rowLine_36 rfl ?_
    refine p_dup dX11_rowLine_37 rfl ?_
    refine p_geti dX11_rowLine_38 fl_X11_115 (fun _ _ _ => rfl) rfl ?_
    refine p_aload_n dX11_rowLine_41 rfl ?_
    refine cV_Iw [] [vI (D.1 73 16), vR g 73] dX11_rowLine_42 yv_X11_wordMany ml_X11_143 (r := (RX11, TX11, 41)) rfl rfl (Nat.le_of_ble_eq_true rfl) rfl (Nat.le_of_ble_eq_true rfl) (Nat.le_of_ble_eq_true rfl) (Nat.le_of_ble_eq_true rfl) rfl h (fun K h => s_X11_wordMany hG h) (fun r42 D42 h => ?_)
    refine p_iadd dX11_rowLine_45 ?_
    refine q_puti dX11_rowLine_46 fq_X11_115 rfl rfl h (fun D46 h => ?_)
    refine p_aload_n dX11_rowLine_49 rfl ?_
    refine p_iload_n dX11_rowLine_50 rfl ?_
    refine cV_Vw [vI x0] [] dX11_rowLine_51 yv_X11_runs ml_X11_198 (r := (RX11, TX11, 41)) rfl rfl (Nat.le_of_ble_eq_true rfl) rfl (Nat.le_of_ble_eq_true rfl) (Nat.le_of_ble_eq_true rfl) (Nat.le_of_ble_eq_true rfl) rfl h (fun K h => s_X11_runs hG h) (fun D51 h => ?_)
    exact p_return dX11_rowLine_54 (Nat.le_of_ble_eq_true rfl) (Nat.le_of_ble_eq_true rfl) ⟨rfl, rfl, ok_some h⟩
  · refine p_aload_n dX11_rowLine_27 rfl ?_
    refine p_aload_n dX11_rowLine_28 rfl ?_
    refine p_geti dX11_rowLine_29 fl_X11_125 (fun _ _ _ => rfl) rfl ?_
    refine cV_Vw [vI (D.1 73 17)] [] dX11_rowLine_32 yv_X11_failsAt ml_X11_139 (r := (RX11, TX11, 41)) rfl rfl (Nat.le_of_ble_eq_true rfl) rfl (Nat.le_of_ble_eq_true rfl) (Nat.le_of_ble_eq_true rfl) (Nat.le_of_ble_eq_true rfl) rfl h (fun K h => s_X11_failsAt hG h) (fun D32 h => ?_)
    exact p_return dX11_rowLine_35 (Nat.le_of_ble_eq_true rfl) (Nat.le_of_ble_eq_true rfl) ⟨rfl, rfl, ok_some h⟩
set_option maxRecDepth 100000 in
set_option maxHeartbeats 4000000 in
theorem x_X11_rowLine {l : Launch} {g : GH} (hG : G0 l g) {n : Nat} {D : DT} {K : DT → Prop} (h : ok (m_X11_rowLine D) K) : Px (E_X11_rowLine l g (PVw n K)) 0 [some (vR g 73), none] [] (LF n) D 0 0 := by
  refine p_aload_n dX11_rowLine_0 rfl ?_
  refine p_ldcS (i := 17) hG dX11_rowLine_1 (by decide) rfl rfl ?_
  refine cV_Vw [vS g 17] [] dX11_rowLine_3 yv_X11_asksWord ml_X11_173 (r := (RX11, TX11, 41)) rfl rfl (Nat.le_of_ble_eq_true rfl) rfl (Nat.le_of_ble_eq_true rfl) (Nat.le_of_ble_eq_true rfl) (Nat.le_of_ble_eq_true rfl) rfl h (fun K h => s_X11_asksWord hG (by decide) h) (fun D3 h => ?_)
  refine p_aload_n dX11_rowLine_6 rfl ?_
  refine cV_Iw [] [] dX11_rowLine_7 yv_X11_isName ml_X11_188 (r := (RX11, TX11, 41)) rfl rfl (Nat.le_of_ble_eq_true rfl) rfl (Nat.le_of_ble_eq_true rfl) (Nat.le_of_ble_eq_true rfl) (Nat.le_of_ble_eq_true rfl) rfl h (fun K h => s_X11_isName hG h) (fun r7 D7 h => ?_)
  refine q_if_eq (tgt := 20) dX11_rowLine_10 (by decide) h (fun h => ?_) (fun h => ?_)
  · refine p_iconst dX11_rowLine_20 ?_
    exact p_weak (leL.same (leL.drop leL.nil)) (x_X11_rowLine_21 hG h)
  · refine p_aload_n dX11_rowLine_13 rfl ?_
    refine cV_Iw [] [] dX11_rowLine_14 yv_X11_told ml_X11_191 (r := (RX11, TX11, 41)) rfl rfl (Nat.le_of_ble_eq_true rfl) rfl (Nat.le_of_ble_eq_true rfl) (Nat.le_of_ble_eq_true rfl) (Nat.le_of_ble_eq_true rfl) rfl h (fun K h => s_X11_told hG h) (fun r14 D14 h => ?_)
    refine p_goto (tgt := 21) dX11_rowLine_17 (by decide) ?_
    exact p_weak (leL.same (leL.drop leL.nil)) (x_X11_rowLine_21 hG h)
theorem s_X11_rowLine {l : Launch} {g : GH} (hG : G0 l g) {n : Nat} {D : DT} {K : DT → Prop} (h : ok (m_X11_rowLine D) K) : Sat l g yX11_rowLine cX11_rowLine 2 none 8 0 0 [vR g 73] (LF n) D (PVw n K) := Sat.of hG (by decide) (Nat.le_of_ble_eq_true rfl) (by simp [Value.category]) (x_X11_rowLine hG h)
abbrev E_X11_line (l : Launch) (g : GH) (P : PT) : ENV := mkE l g yX11_line cX11_line 1 none [] 9 0 0 P
set_option maxRecDepth 100000 in
set_option maxHeartbeats 4000000 in
theorem x_X11_line_83 {l : Launch} {g : GH} (hG : G0 l g) {n : Nat} {D : DT} {K : DT → Prop} (h : ok (m_X11_line_83 D) K) : Px (E_X11_line l g (PVw n K)) 83 [some (vR g 73)] [] (LF n) D 0 0 := by
  refine p_aload_n dX11_line_83 rfl ?_
  refine p_bipush dX11_line_84 (by decide) ?_
  refine cV_Vw [vI 59] [] dX11_line_86 yv_X11_asks ml_X11_181 (r := (RX11, TX11, 41)) rfl rfl (Nat.le_of_ble_eq_true rfl) rfl (Nat.le_of_ble_eq_true rfl) (Nat.le_of_ble_eq_true rfl) (Nat.le_of_ble_eq_true rfl) rfl h (fun K h => s_X11_asks hG h) (fun D86 h => ?_)
  exact p_return dX11_line_89 (Nat.le_of_ble_eq_true rfl) (Nat.le_of_ble_eq_true rfl) ⟨rfl, rfl, ok_some h⟩
set_option maxRecDepth 100000 in
set_option maxHeartbeats 4000000 in
theorem x_X11_line {l : Launch} {g : GH} (hG : G0 l g) {n : Nat} {D : DT} {K : DT → Prop} (h : ok (m_X11_line D) K) : Px (E_X11_line l g (PVw n K)) 0 [some (vR g 73)] [] (LF n) D 0 0 := by
  refine p_aload_n dX11_line_0 rfl ?_
  refine cV_Vw [] [] dX11_line_1 yv_X11_blanks ml_X11_128 (r := (RX11, TX11, 41)) rfl rfl (Nat.le_of_ble_eq_true rfl) rfl (Nat.le_of_ble_eq_true rfl) (Nat.le_of_ble_eq_true rfl) (Nat.le_of_ble_eq_true rfl) rfl h (fun K h => s_X11_blanks hG h) (fun D1 h => ?_)
  refine p_aload_n dX11_line_4 rfl ?_
  refine p_ldcS (i := 14) hG dX11_line_5 (by decide) rfl rfl ?_
  refine cV_Iw [vS g 14] [] dX11_line_7 yv_X11_isWord ml_X11_156 (r := (RX11, TX11, 41)) rfl rfl (Nat.le_of_ble_eq_true rfl) rfl (Nat.le_of_ble_eq_true rfl) (Nat.le_of_ble_eq_true rfl) (Nat.le_of_ble_eq_true rfl) rfl h (fun K h => s_X11_isWord hG (by decide) h) (fun r7 D7 h => ?_)
  refine q_if_eq (tgt := 20) dX11_line_10 (by decide) h (fun h => ?_) (fun h => ?_)
  · refine p_aload_n dX11_line_20 rfl ?_
    refine p_ldcS (i := 15) hG dX11_line_21 (by decide) rfl rfl ?_
    refine cV_Iw [vS g 15] [] dX11_line_23 yv_X11_isWord ml_X11_156 (r := (RX11, TX11, 41)) rfl rfl (Nat.le_of_ble_eq_true rfl) rfl (Nat.le_of_ble_eq_true rfl) (Nat.le_of_ble_eq_true rfl) (Nat.le_of_ble_eq_true rfl) rfl h (fun K h => s_X11_isWord hG (by decide) h) (fun r23 D23 h => ?_)
    refine q_if_eq (tgt := 36) dX11_line_26 (by decide) h (fun h => ?_) (fun h => ?_)
    · refine p_aload_n dX11_line_36 rfl ?_
      refine p_ldcS (i := 17) hG dX11_line_37 (by decide) rfl rfl ?_
      refine cV_Iw [vS g 17] [] dX11_line_39 yv_X11_isWord ml_X11_156 (r := (RX11, TX11, 41)) rfl rfl (Nat.le_of_ble_eq_true rfl) rfl (Nat.le_of_ble_eq_true rfl) (Nat.le_of_ble_eq_true rfl) (Nat.le_of_ble_eq_true rfl) rfl h (fun K h => s_X11_isWord hG (by decide) h) (fun r39 D39 h => ?_)
      refine q_if_eq (tgt := 52) dX11_line_42 (by decide) h (fun h => ?_) (fun h => ?_)
      · refine p_aload_n dX11_line_52 rfl ?_
        refine p_ldcS (i := 18) hG dX11_line_53 (by decide) rfl rfl ?_
        refine cV_Iw [vS g 18] [] dX11_line_55 yv_X11_isWord ml_X11_156 (r := (RX11, TX11, 41)) rfl rfl (Nat.le_of_ble_eq_true rfl) rfl (Nat.le_of_ble_eq_true rfl) (Nat.le_of_ble_eq_true rfl) (Nat.le_of_ble_eq_true rfl) rfl h (fun K h => s_X11_isWord hG (by decide) h) (fun r55 D55 h => ?_)
        refine q_if_eq (tgt := 75) dX11_line_58 (by decide) h (fun h => ?_) (fun h => ?_)
        · refine p_aload_n dX11_line_75 rfl ?_
          refine p_aload_n dX11_line_76 rfl ?_
          refine p_geti dX11_line_77 fl_X11_125 (fun _ _ _ => rfl) rfl ?_
          refine cV_Vw [vI (D55.1 73 17)] [] dX11_line_80 yv_X11_failsAt ml_X11_139 (r := (RX11, TX11, 41)) rfl rfl (Nat.le_of_ble_eq_true rfl) rfl (Nat.le_of_ble_eq_true rfl) (Nat.le_of_ble_eq_true rfl) (Nat.le_of_ble_eq_true rfl) rfl h (fun K h => s_X11_failsAt hG h) (fun D80 h => ?_)
          exact p_weak (leL.same leL.nil) (x_X11_line_83 hG h)
        · refine p_aload_n dX11_line_61 rfl ?_
          refine p_ldcS (i := 18) hG dX11_line_62 (by decide) rfl rfl ?_
          refine cV_Vw [vS g 18] [] dX11_line_64 yv_X11_asksWord ml_X11_173 (r := (RX11, TX11, 41)) rfl rfl (Nat.le_of_ble_eq_true rfl) rfl (Nat.le_of_ble_eq_true rfl) (Nat.le_of_ble_eq_true rfl) (Nat.le_of_ble_eq_true rfl) rfl h (fun K h => s_X11_asksWord hG (by decide) h) (fun D64 h => ?_)
          refine p_aload_n dX11_line_67 rfl ?_
          refine p_iconst dX11_line_68 ?_
          refine cV_Vw [vI (-1)] [] dX11_line_69 yv_X11_runs ml_X11_198 (r := (RX11, TX11, 41)) rfl rfl (Nat.le_of_ble_eq_true rfl) rfl (Nat.le_of_ble_eq_true rfl) (Nat.le_of_ble_eq_true rfl) (Nat.le_of_ble_eq_true rfl) rfl h (fun K h => s_X11_runs hG h) (fun D69 h => ?_)
          refine p_goto (tgt := 83) dX11_line_72 (by decide) ?_
          exact p_weak (leL.same leL.nil) (x_X11_line_83 hG h)
      · refine p_aload_n dX11_line_45 rfl ?_
        refine cV_Vw [] [] dX11_line_46 yv_X11_rowLine ml_X11_207 (r := (RX11, TX11, 41)) rfl rfl (Nat.le_of_ble_eq_true rfl) rfl (Nat.le_of_ble_eq_true rfl) (Nat.le_of_ble_eq_true rfl) (Nat.le_of_ble_eq_true rfl) rfl h (fun K h => s_X11_rowLine hG h) (fun D46 h => ?_)
        refine p_goto (tgt := 83) dX11_line_49 (by decide) ?_
        exact p_weak (leL.same leL.nil) (x_X11_line_83 hG h)
    · refine p_aload_n dX11_line_29 rfl ?_
      refine cV_Vw [] [] dX11_line_30 yv_X11_zoneLine ml_X11_204 (r := (RX11, TX11, 41)) rfl rfl (Nat.le_of_ble_eq_true rfl) rfl (Nat.le_of_ble_eq_true rfl) (Nat.le_of_ble_eq_true rfl) (Nat.le_of_ble_eq_true rfl) rfl h (fun K h => s_X11_zoneLine hG h) (fun D30 h => ?_)
      refine p_goto (tgt := 83) dX11_line_33 (by decide) ?_
      exact p_weak (leL.same leL.nil) (x_X11_line_83 hG h)
  · refine p_aload_n dX11_line_13 rfl ?_
    refine cV_Vw [] [] dX11_line_14 yv_X11_groupsLine ml_X11_201 (r := (RX11, TX11, 41)) rfl rfl (Nat.le_of_ble_eq_true rfl) rfl (Nat.le_of_ble_eq_true rfl) (Nat.le_of_ble_eq_true rfl) (Nat.le_of_ble_eq_true rfl) rfl h (fun K h => s_X11_groupsLine hG h) (fun D14 h => ?_)
    refine p_goto (tgt := 83) dX11_line_17 (by decide) ?_
    exact p_weak (leL.same leL.nil) (x_X11_line_83 hG h)
theorem s_X11_line {l : Launch} {g : GH} (hG : G0 l g) {n : Nat} {D : DT} {K : DT → Prop} (h : ok (m_X11_line D) K) : Sat l g yX11_line cX11_line 1 none 9 0 0 [vR g 73] (LF n) D (PVw n K) := Sat.of hG (by decide) (Nat.le_of_ble_eq_true rfl) (by simp [Value.category]) (x_X11_line hG h)
abbrev E_X11_zones (l : Launch) (g : GH) (P : PT) : ENV := mkE l g yX11_zones cX11_zones 1 (some .int) [] 0 0 0 P
set_option maxRecDepth 100000 in
set_option maxHeartbeats 4000000 in
theorem x_X11_zones {l : Launch} {g : GH} (hG : G0 l g) {n : Nat} {D : DT} {K : Int → Prop} (h : ok (m_X11_zones D) K) : Px (E_X11_zones l g (PIr n D K)) 0 [some (vR g 73)] [] (LF n) D 0 0 := by
  refine p_aload_n dX11_zones_0 rfl ?_
  refine p_getr dX11_zones_1 fl_X11_17 (fun _ _ _ => rfl) rfl rfl ?_
  refine p_iconst dX11_zones_4 ?_
  refine q_iald dX11_zones_5 rfl rfl h (fun h => ?_)
  exact p_ireturn dX11_zones_6 (Nat.le_of_ble_eq_true rfl) (Nat.le_of_ble_eq_true rfl) ⟨_, rfl, rfl, rfl, ok_some h⟩
theorem s_X11_zones {l : Launch} {g : GH} (hG : G0 l g) {n : Nat} {D : DT} {K : Int → Prop} (h : ok (m_X11_zones D) K) : Sat l g yX11_zones cX11_zones 1 (some .int) 0 0 0 [vR g 73] (LF n) D (PIr n D K) := Sat.of hG (by decide) (Nat.le_of_ble_eq_true rfl) (by simp [Value.category]) (x_X11_zones hG h)
abbrev E_X11_cells (l : Launch) (g : GH) (P : PT) : ENV := mkE l g yX11_cells cX11_cells 1 (some .int) [] 0 0 0 P
set_option maxRecDepth 100000 in
set_option maxHeartbeats 4000000 in
theorem x_X11_cells {l : Launch} {g : GH} (hG : G0 l g) {n : Nat} {D : DT} {K : Int → Prop} (h : ok (m_X11_cells D) K) : Px (E_X11_cells l g (PIr n D K)) 0 [some (vR g 73)] [] (LF n) D 0 0 := by
  refine p_aload_n dX11_cells_0 rfl ?_
  refine p_getr dX11_cells_1 fl_X11_17 (fun _ _ _ => rfl) rfl rfl ?_
  refine p_iconst dX11_cells_4 ?_
  refine q_iald dX11_cells_5 rfl rfl h (fun h => ?_)
  refine p_aload_n dX11_cells_6 rfl ?_
  refine p_getr dX11_cells_7 fl_X11_17 (fun _ _ _ => rfl) rfl rfl ?_
  refine p_iconst dX11_cells_10 ?_
  refine q_iald dX11_cells_11 rfl rfl h (fun h => ?_)
  refine p_imul dX11_cells_12 ?_
  exact p_ireturn dX11_cells_13 (Nat.le_of_ble_eq_true rfl) (Nat.le_of_ble_eq_true rfl) ⟨_, rfl, rfl, rfl, ok_some h⟩
theorem s_X11_cells {l : Launch} {g : GH} (hG : G0 l g) {n : Nat} {D : DT} {K : Int → Prop} (h : ok (m_X11_cells D) K) : Sat l g yX11_cells cX11_cells 1 (some .int) 0 0 0 [vR g 73] (LF n) D (PIr n D K) := Sat.of hG (by decide) (Nat.le_of_ble_eq_true rfl) (by simp [Value.category]) (x_X11_cells hG h)
abbrev E_X11_isLandOf (l : Launch) (g : GH) (P : PT) : ENV := mkE l g yX11_isLandOf cX11_isLandOf 3 (some .boolean) [] 0 0 0 P
set_option maxRecDepth 100000 in
set_option maxHeartbeats 4000000 in
theorem x_X11_isLandOf {l : Launch} {g : GH} (hG : G0 l g) {n : Nat} {v1 : Int} {v2 : Int} {D : DT} {K : Int → Prop} (h : ok (m_X11_isLandOf v1 v2 D) K) : Px (E_X11_isLandOf l g (PIr n D K)) 0 [some (vR g 73), some (vI v1), some (vI v2)] [] (LF n) D 0 0 := by
  refine p_aload_n dX11_isLandOf_0 rfl ?_
  refine p_getr dX11_isLandOf_1 fl_X11_23 (fun _ _ _ => rfl) rfl rfl ?_
  refine p_iload_n dX11_isLandOf_4 rfl ?_
  refine q_iald dX11_isLandOf_5 rfl rfl h (fun h => ?_)
  refine p_iload_n dX11_isLandOf_6 rfl ?_
  refine q_icmp_ne (tgt := 23) dX11_isLandOf_7 (by decide) h (fun h => ?_) (fun h => ?_)
  · refine p_iconst dX11_isLandOf_23 ?_
    exact p_zreturn dX11_isLandOf_24 (Nat.le_of_ble_eq_true rfl) (Nat.le_of_ble_eq_true rfl) (Or.inl rfl) ⟨_, rfl, rfl, rfl, ok_some h⟩
  · refine p_aload_n dX11_isLandOf_10 rfl ?_
    refine p_getr dX11_isLandOf_11 fl_X11_29 (fun _ _ _ => rfl) rfl rfl ?_
    refine p_iload_n dX11_isLandOf_14 rfl ?_
    refine q_zald dX11_isLandOf_15 rfl rfl h (fun h => ?_)
    refine q_if_ne (tgt := 23) dX11_isLandOf_16 (by decide) h (fun h => ?_) (fun h => ?_)
    · refine p_iconst dX11_isLandOf_23 ?_
      exact p_zreturn dX11_isLandOf_24 (Nat.le_of_ble_eq_true rfl) (Nat.le_of_ble_eq_true rfl) (Or.inl rfl) ⟨_, rfl, rfl, rfl, ok_some h⟩
    · refine p_iconst dX11_isLandOf_19 ?_
      refine p_goto (tgt := 24) dX11_isLandOf_20 (by decide) ?_
      exact p_zreturn dX11_isLandOf_24 (Nat.le_of_ble_eq_true rfl) (Nat.le_of_ble_eq_true rfl) (Or.inr rfl) ⟨_, rfl, rfl, rfl, ok_some h⟩
theorem s_X11_isLandOf {l : Launch} {g : GH} (hG : G0 l g) {n : Nat} {v1 : Int} {v2 : Int} {D : DT} {K : Int → Prop} (h : ok (m_X11_isLandOf v1 v2 D) K) : Sat l g yX11_isLandOf cX11_isLandOf 3 (some .boolean) 0 0 0 [vR g 73, vI v1, vI v2] (LF n) D (PIr n D K) := Sat.of hG (by decide) (Nat.le_of_ble_eq_true rfl) (by simp [Value.category]) (x_X11_isLandOf hG h)
abbrev E_X11_far (l : Launch) (g : GH) (P : PT) : ENV := mkE l g yX11_far cX11_far 5 (some .int) [] 0 0 0 P
set_option maxRecDepth 100000 in
set_option maxHeartbeats 4000000 in
theorem x_X11_far {l : Launch} {g : GH} (hG : G0 l g) {n : Nat} {v1 : Int} {v2 : Int} {D : DT} {K : Int → Prop} (h : ok (m_X11_far v1 v2 D) K) : Px (E_X11_far l g (PIr n D K)) 0 [some (vR g 73), some (vI v1), some (vI v2), none, none] [] (LF n) D 0 0 := by
  refine p_iload_n dX11_far_0 rfl ?_
  refine p_aload_n dX11_far_1 rfl ?_
  refine p_getr dX11_far_2 fl_X11_17 (fun _ _ _ => rfl) rfl rfl ?_
  refine p_iconst dX11_far_5 ?_
  refine q_iald dX11_far_6 rfl rfl h (fun h => ?_)
  refine q_irem dX11_far_7 h (fun h => ?_)
  refine p_iload_n dX11_far_8 rfl ?_
  refine p_aload_n dX11_far_9 rfl ?_
  refine p_getr dX11_far_10 fl_X11_17 (fun _ _ _ => rfl) rfl rfl ?_
  refine p_iconst dX11_far_13 ?_
  refine q_iald dX11_far_14 rfl rfl h (fun h => ?_)
  refine q_irem dX11_far_15 h (fun h => ?_)
  refine p_isub dX11_far_16 ?_
  refine p_istore_n dX11_far_17 (Nat.le_of_ble_eq_true rfl) rfl ?_
  refine p_iload_n dX11_far_18 rfl ?_
  refine p_aload_n dX11_far_19 rfl ?_
  refine p_getr dX11_far_20 fl_X11_17 (fun _ _ _ => rfl) rfl rfl ?_
  refine p_iconst dX11_far_23 ?_
  refine q_iald dX11_far_24 rfl rfl h (fun h => ?_)
  refine q_idiv dX11_far_25 h (fun h => ?_)
  refine p_iload_n dX11_far_26 rfl ?_
  refine p_aload_n dX11_far_27 rfl ?_
  refine p_getr dX11_far_28 fl_X11_17 (fun _ _ _ => rfl) rfl rfl ?_
  refine p_iconst dX11_far_31 ?_
  refine q_iald dX11_far_32 rfl rfl h (fun h => ?_)
  refine q_idiv dX11_far_33 h (fun h => ?_)
  refine p_isub dX11_far_34 ?_
  refine p_istore dX11_far_35 (Nat.le_of_ble_eq_true rfl) rfl ?_
  refine p_iload_n dX11_far_37 rfl ?_
  refine p_iload_n dX11_far_38 rfl ?_
  refine p_imul dX11_far_39 ?_
  refine p_iload dX11_far_40 rfl ?_
  refine p_iload dX11_far_42 rfl ?_
  refine p_imul dX11_far_44 ?_
  refine p_iadd dX11_far_45 ?_
  exact p_ireturn dX11_far_46 (Nat.le_of_ble_eq_true rfl) (Nat.le_of_ble_eq_true rfl) ⟨_, rfl, rfl, rfl, ok_some h⟩
theorem s_X11_far {l : Launch} {g : GH} (hG : G0 l g) {n : Nat} {v1 : Int} {v2 : Int} {D : DT} {K : Int → Prop} (h : ok (m_X11_far v1 v2 D) K) : Sat l g yX11_far cX11_far 5 (some .int) 0 0 0 [vR g 73, vI v1, vI v2] (LF n) D (PIr n D K) := Sat.of hG (by decide) (Nat.le_of_ble_eq_true rfl) (by simp [Value.category]) (x_X11_far hG h)
abbrev E_X11_middleOf (l : Launch) (g : GH) (P : PT) : ENV := mkE l g yX11_middleOf cX11_middleOf 7 (some .int) [] 1 0 0 P
abbrev P_X11_middleOf_7 (l : Launch) (g : GH) (n : Nat) (K : Int → Prop) (v1 : Int) (D : DT) : (Int × Int × Int) → Prop := fun s => Px (E_X11_middleOf l g (PIr n D K)) 7 [some (vR g 73), some (vI v1), some (vI s.1), some (vI s.2.1), some (vI s.2.2), none, none] [] (LF n) D 0 0
abbrev P_X11_middleOf_35 (l : Launch) (g : GH) (n : Nat) (K : Int → Prop) (v1 : Int) (v2 : Int) (v3 : Int) (v4 : Int) (D : DT) : (Int × Int) → Prop := fun s => Px (E_X11_middleOf l g (PIr n D K)) 35 [some (vR g 73), some (vI v1), some (vI v2), some (vI v3), some (vI v4), some (vI s.1), some (vI s.2)] [] (LF n) D 0 0
set_option maxRecDepth 100000 in
set_option maxHeartbeats 4000000 in
theorem x_X11_middleOf_35 {l : Launch} {g : GH} (hG : G0 l g) {n : Nat} {v1 v2 v3 v4 : Int} {D : DT} {K : Int → Prop} {s : (Int × Int)} (h : ok (m_X11_middleOf_35 v1 v2 v3 v4 D s) (KL (P_X11_middleOf_7 l g n K v1 D) K)) : Px (E_X11_middleOf l g (PIr n D K)) 35 [some (vR g 73), some (vI v1), some (vI v2), some (vI v3), some (vI v4), some (vI s.1), some (vI s.2)] [] (LF n) D 0 0 := by
  refine ok_loop (P := (P_X11_middleOf_35 l g n K v1 v2 v3 v4 D)) (fun s h => ?_) h
  refine p_iload dX11_middleOf_35 rfl ?_
  refine p_aload_n dX11_middleOf_37 rfl ?_
  refine cV_Ir [] [vI s.2] dX11_middleOf_38 yv_X11_cells ml_X11_229 (r := (RX11, TX11, 41)) rfl rfl (Nat.le_of_ble_eq_true rfl) rfl (Nat.le_of_ble_eq_true rfl) (Nat.le_of_ble_eq_true rfl) (Nat.le_of_ble_eq_true rfl) rfl h (fun K h => s_X11_cells hG h) (fun r38 h => ?_)
  refine q_icmp_ge (tgt := 77) dX11_middleOf_41 (by decide) h (fun h => ?_) (fun h => ?_)
  · have h := kl_inr h
    refine p_iload_n dX11_middleOf_77 rfl ?_
    refine p_iconst dX11_middleOf_78 ?_
    refine q_icmp_eq (tgt := 91) dX11_middleOf_79 (by decide) h (fun h => ?_) (fun h => ?_)
    · refine p_iload dX11_middleOf_91 rfl ?_
      refine p_istore_n dX11_middleOf_93 (Nat.le_of_ble_eq_true rfl) rfl ?_
      refine p_iload dX11_middleOf_94 rfl ?_
      refine p_istore_n dX11_middleOf_96 (Nat.le_of_ble_eq_true rfl) rfl ?_
      refine p_iinc dX11_middleOf_97 rfl (Nat.le_of_ble_eq_true rfl) rfl ?_
      refine p_goto (tgt := 7) dX11_middleOf_100 (by decide) ?_
      exact p_weak (leL.same (leL.same (leL.same (leL.same (leL.same (leL.drop (leL.drop leL.nil))))))) (kl_inl (P := (P_X11_middleOf_7 l g n K v1 D)) h)
    · refine p_iload dX11_middleOf_82 rfl ?_
      refine p_iload_n dX11_middleOf_84 rfl ?_
      refine q_icmp_lt (tgt := 91) dX11_middleOf_85 (by decide) h (fun h => ?_) (fun h => ?_)
      · refine p_iload dX11_middleOf_91 rfl ?_
        refine p_istore_n dX11_middleOf_93 (Nat.le_of_ble_eq_true rfl) rfl ?_
        refine p_iload dX11_middleOf_94 rfl ?_
        refine p_istore_n dX11_middleOf_96 (Nat.le_of_ble_eq_true rfl) rfl ?_
        refine p_iinc dX11_middleOf_97 rfl (Nat.le_of_ble_eq_true rfl) rfl ?_
        refine p_goto (tgt := 7) dX11_middleOf_100 (by decide) ?_
        exact p_weak (leL.same (leL.same (leL.same (leL.same (leL.same (leL.drop (leL.drop leL.nil))))))) (kl_inl (P := (P_X11_middleOf_7 l g n K v1 D)) h)
      · refine p_goto (tgt := 97) dX11_middleOf_88 (by decide) ?_
        refine p_iinc dX11_middleOf_97 rfl (Nat.le_of_ble_eq_true rfl) rfl ?_
        refine p_goto (tgt := 7) dX11_middleOf_100 (by decide) ?_
        exact p_weak (leL.same (leL.same (leL.same (leL.same (leL.same (leL.drop (leL.drop leL.nil))))))) (kl_inl (P := (P_X11_middleOf_7 l g n K v1 D)) h)
  · refine p_iload dX11_middleOf_44 rfl ?_
    refine p_aload_n dX11_middleOf_46 rfl ?_
    refine p_iload dX11_middleOf_47 rfl ?_
    refine p_iload_n dX11_middleOf_49 rfl ?_
    refine cV_Ir [vI s.2, vI v1] [vI s.1] dX11_middleOf_50 yv_X11_isLandOf ml_X11_233 (r := (RX11, TX11, 41)) rfl rfl (Nat.le_of_ble_eq_true rfl) rfl (Nat.le_of_ble_eq_true rfl) (Nat.le_of_ble_eq_true rfl) (Nat.le_of_ble_eq_true rfl) rfl h (fun K h => s_X11_isLandOf hG h) (fun r50 h => ?_)
    refine q_if_eq (tgt := 67) dX11_middleOf_53 (by decide) h (fun h => ?_) (fun h => ?_)
    · refine p_iconst dX11_middleOf_67 ?_
      refine p_iadd dX11_middleOf_68 ?_
      refine p_istore dX11_middleOf_69 (Nat.le_of_ble_eq_true rfl) rfl ?_
      refine p_iinc dX11_middleOf_71 rfl (Nat.le_of_ble_eq_true rfl) rfl ?_
      refine p_goto (tgt := 35) dX11_middleOf_74 (by decide) ?_
      exact p_weak (leL.same (leL.same (leL.same (leL.same (leL.same (leL.same (leL.same leL.nil))))))) (kl_inl (P := (P_X11_middleOf_35 l g n K v1 v2 v3 v4 D)) h)
    · refine p_aload_n dX11_middleOf_56 rfl ?_
      refine p_iload dX11_middleOf_57 rfl ?_
      refine p_iload dX11_middleOf_59 rfl ?_
      refine cV_Ir [vI v4, vI s.2] [vI s.1] dX11_middleOf_61 yv_X11_far ml_X11_236 (r := (RX11, TX11, 41)) rfl rfl (Nat.le_of_ble_eq_true rfl) rfl (Nat.le_of_ble_eq_true rfl) (Nat.le_of_ble_eq_true rfl) (Nat.le_of_ble_eq_true rfl) rfl h (fun K h => s_X11_far hG h) (fun r61 h => ?_)
      refine p_goto (tgt := 68) dX11_middleOf_64 (by decide) ?_
      refine p_iadd dX11_middleOf_68 ?_
      refine p_istore dX11_middleOf_69 (Nat.le_of_ble_eq_true rfl) rfl ?_
      refine p_iinc dX11_middleOf_71 rfl (Nat.le_of_ble_eq_true rfl) rfl ?_
      refine p_goto (tgt := 35) dX11_middleOf_74 (by decide) ?_
      exact p_weak (leL.same (leL.same (leL.same (leL.same (leL.same (leL.same (leL.same leL.nil))))))) (kl_inl (P := (P_X11_middleOf_35 l g n K v1 v2 v3 v4 D)) h)
set_option maxRecDepth 100000 in
set_option maxHeartbeats 4000000 in
theorem x_X11_middleOf_7 {l : Launch} {g : GH} (hG : G0 l g) {n : Nat} {v1 : Int} {D : DT} {K : Int → Prop} {s : (Int × Int × Int)} (h : ok (m_X11_middleOf_7 v1 D s) K) : Px (E_X11_middleOf l g (PIr n D K)) 7 [some (vR g 73), some (vI v1), some (vI s.1), some (vI s.2.1), some (vI s.2.2), none, none] [] (LF n) D 0 0 := by
  refine ok_loop (P := (P_X11_middleOf_7 l g n K v1 D)) (fun s h => ?_) h
  refine p_iload dX11_middleOf_7 rfl ?_
  refine p_aload_n dX11_middleOf_9 rfl ?_
  refine cV_Ir [] [vI s.2.2] dX11_middleOf_10 yv_X11_cells ml_X11_229 (r := (RX11, TX11, 41)) rfl rfl (Nat.le_of_ble_eq_true rfl) rfl (Nat.le_of_ble_eq_true rfl) (Nat.le_of_ble_eq_true rfl) (Nat.le_of_ble_eq_true rfl) rfl h (fun K h => s_X11_cells hG h) (fun r10 h => ?_)
  refine q_icmp_ge (tgt := 103) dX11_middleOf_13 (by decide) h (fun h => ?_) (fun h => ?_)
  · have h := kl_inr h
    refine p_iload_n dX11_middleOf_103 rfl ?_
    exact p_ireturn dX11_middleOf_104 (Nat.le_of_ble_eq_true rfl) (Nat.le_of_ble_eq_true rfl) ⟨_, rfl, rfl, rfl, ok_some h⟩
  · refine p_aload_n dX11_middleOf_16 rfl ?_
    refine p_iload dX11_middleOf_17 rfl ?_
    refine p_iload_n dX11_middleOf_19 rfl ?_
    refine cV_Ir [vI s.2.2, vI v1] [] dX11_middleOf_20 yv_X11_isLandOf ml_X11_233 (r := (RX11, TX11, 41)) rfl rfl (Nat.le_of_ble_eq_true rfl) rfl (Nat.le_of_ble_eq_true rfl) (Nat.le_of_ble_eq_true rfl) (Nat.le_of_ble_eq_true rfl) rfl h (fun K h => s_X11_isLandOf hG h) (fun r20 h => ?_)
    refine q_if_ne (tgt := 29) dX11_middleOf_23 (by decide) h (fun h => ?_) (fun h => ?_)
    · refine p_iconst dX11_middleOf_29 ?_
      refine p_istore dX11_middleOf_30 (Nat.le_of_ble_eq_true rfl) rfl ?_
      refine p_iconst dX11_middleOf_32 ?_
      refine p_istore dX11_middleOf_33 (Nat.le_of_ble_eq_true rfl) rfl ?_
      exact p_weak (leL.same (leL.same (leL.same (leL.same (leL.same (leL.same (leL.same leL.nil))))))) (x_X11_middleOf_35 hG h)
    · refine p_goto (tgt := 97) dX11_middleOf_26 (by decide) ?_
      refine p_iinc dX11_middleOf_97 rfl (Nat.le_of_ble_eq_true rfl) rfl ?_
      refine p_goto (tgt := 7) dX11_middleOf_100 (by decide) ?_
      exact p_weak (leL.same (leL.same (leL.same (leL.same (leL.same (leL.drop (leL.drop leL.nil))))))) (kl_inl (P := (P_X11_middleOf_7 l g n K v1 D)) h)
set_option maxRecDepth 100000 in
set_option maxHeartbeats 4000000 in
theorem x_X11_middleOf {l : Launch} {g : GH} (hG : G0 l g) {n : Nat} {v1 : Int} {D : DT} {K : Int → Prop} (h : ok (m_X11_middleOf v1 D) K) : Px (E_X11_middleOf l g (PIr n D K)) 0 [some (vR g 73), some (vI v1), none, none, none, none, none] [] (LF n) D 0 0 := by
  refine p_iconst dX11_middleOf_0 ?_
  refine p_istore_n dX11_middleOf_1 (Nat.le_of_ble_eq_true rfl) rfl ?_
  refine p_iconst dX11_middleOf_2 ?_
  refine p_istore_n dX11_middleOf_3 (Nat.le_of_ble_eq_true rfl) rfl ?_
  refine p_iconst dX11_middleOf_4 ?_
  refine p_istore dX11_middleOf_5 (Nat.le_of_ble_eq_true rfl) rfl ?_
  exact p_weak (leL.same (leL.same (leL.same (leL.same (leL.same (leL.drop (leL.drop leL.nil))))))) (x_X11_middleOf_7 hG h)
theorem s_X11_middleOf {l : Launch} {g : GH} (hG : G0 l g) {n : Nat} {v1 : Int} {D : DT} {K : Int → Prop} (h : ok (m_X11_middleOf v1 D) K) : Sat l g yX11_middleOf cX11_middleOf 7 (some .int) 1 0 0 [vR g 73, vI v1] (LF n) D (PIr n D K) := Sat.of hG (by decide) (Nat.le_of_ble_eq_true rfl) (by simp [Value.category]) (x_X11_middleOf hG h)
abbrev E_X11_laysOrders (l : Launch) (g : GH) (P : PT) : ENV := mkE l g yX11_laysOrders cX11_laysOrders 7 none [] 2 0 0 P
abbrev P_X11_laysOrders_2 (l : Launch) (g : GH) (n : Nat) (K : DT → Prop) : (Int × DT) → Prop := fun s => Px (E_X11_laysOrders l g (PVw n K)) 2 [some (vR g 73), some (vI s.1), none, none, none, none, none] [] (LF n) s.2 0 0
abbrev P_X11_laysOrders_31 (l : Launch) (g : GH) (n : Nat) (K : DT → Prop) : (Int × DT) → Prop := fun s => Px (E_X11_laysOrders l g (PVw n K)) 31 [some (vR g 73), some (vI s.1), none, none, none, none, none] [] (LF n) s.2 0 0
abbrev P_X11_laysOrders_50 (l : Launch) (g : GH) (n : Nat) (K : DT → Prop) (v1 : Int) (v2 : Int) (v3 : Int) : (Int × DT) → Prop := fun s => Px (E_X11_laysOrders l g (PVw n K)) 50 [some (vR g 73), some (vI v1), some (vI v2), some (vI v3), some (vI s.1), none, none] [] (LF n) s.2 0 0
abbrev P_X11_laysOrders_74 (l : Launch) (g : GH) (n : Nat) (K : DT → Prop) (v1 : Int) : (Int × Int × DT) → Prop := fun s => Px (E_X11_laysOrders l g (PVw n K)) 74 [some (vR g 73), some (vI v1), some (vI s.1), some (vI s.2.1), none, none, none] [] (LF n) s.2.2 0 0
abbrev P_X11_laysOrders_109 (l : Launch) (g : GH) (n : Nat) (K : DT → Prop) (v1 : Int) (v2 : Int) (v3 : Int) : (Int × Int × DT) → Prop := fun s => Px (E_X11_laysOrders l g (PVw n K)) 109 [some (vR g 73), some (vI v1), some (vI v2), some (vI v3), some (vI s.1), some (vI s.2.1), none] [] (LF n) s.2.2 0 0
set_option maxRecDepth 100000 in
set_option maxHeartbeats 4000000 in
theorem x_X11_laysOrders_172 {l : Launch} {g : GH} (hG : G0 l g) {n : Nat} {v1 v2 v3 v4 v5 : Int} {D : DT} {K : DT → Prop} (h : ok (m_X11_laysOrders_172 v1 v2 v3 v4 v5 D) (KL (P_X11_laysOrders_109 l g n K v1 v2 v3) (KL (P_X11_laysOrders_74 l g n K v1) (KL (P_X11_laysOrders_31 l g n K) K)))) : Px (E_X11_laysOrders l g (PVw n K)) 172 [some (vR g 73), some (vI v1), some (vI v2), some (vI v3), some (vI v4), some (vI v5), none] [] (LF n) D 0 0 := by
  refine p_iload dX11_laysOrders_172 rfl ?_
  refine p_iconst dX11_laysOrders_174 ?_
  refine q_icmp_eq (tgt := 195) dX11_laysOrders_175 (by decide) h (fun h => ?_) (fun h => ?_)
  · refine p_iload dX11_laysOrders_195 rfl ?_
    refine p_istore dX11_laysOrders_197 (Nat.le_of_ble_eq_true rfl) rfl ?_
    refine p_iinc dX11_laysOrders_199 rfl (Nat.le_of_ble_eq_true rfl) rfl ?_
    refine p_goto (tgt := 109) dX11_laysOrders_202 (by decide) ?_
    exact p_weak (leL.same (leL.same (leL.same (leL.same (leL.same (leL.same (leL.drop leL.nil))))))) (kl_inl (P := (P_X11_laysOrders_109 l g n K v1 v2 v3)) h)
  · refine p_aload_n dX11_laysOrders_178 rfl ?_
    refine p_getr dX11_laysOrders_179 fl_X11_67 (fun _ _ _ => rfl) rfl rfl ?_
    refine p_iload dX11_laysOrders_182 rfl ?_
    refine q_iald dX11_laysOrders_184 rfl rfl h (fun h => ?_)
    refine p_aload_n dX11_laysOrders_185 rfl ?_
    refine p_getr dX11_laysOrders_186 fl_X11_67 (fun _ _ _ => rfl) rfl rfl ?_
    refine p_iload dX11_laysOrders_189 rfl ?_
    refine q_iald dX11_laysOrders_191 rfl rfl h (fun h => ?_)
    refine q_icmp_le (tgt := 199) dX11_laysOrders_192 (by decide) h (fun h => ?_) (fun h => ?_)
    · refine p_iinc dX11_laysOrders_199 rfl (Nat.le_of_ble_eq_true rfl) rfl ?_
      refine p_goto (tgt := 109) dX11_laysOrders_202 (by decide) ?_
      exact p_weak (leL.same (leL.same (leL.same (leL.same (leL.same (leL.same (leL.drop leL.nil))))))) (kl_inl (P := (P_X11_laysOrders_109 l g n K v1 v2 v3)) h)
    · refine p_iload dX11_laysOrders_195 rfl ?_
      refine p_istore dX11_laysOrders_197 (Nat.le_of_ble_eq_true rfl) rfl ?_
      refine p_iinc dX11_laysOrders_199 rfl (Nat.le_of_ble_eq_true rfl) rfl ?_
      refine p_goto (tgt := 109) dX11_laysOrders_202 (by decide) ?_
      exact p_weak (leL.same (leL.same (leL.same (leL.same (leL.same (leL.same (leL.drop leL.nil))))))) (kl_inl (P := (P_X11_laysOrders_109 l g n K v1 v2 v3)) h)
set_option maxRecDepth 100000 in
set_option maxHeartbeats 4000000 in
theorem x_X11_laysOrders_109 {l : Launch} {g : GH} (hG : G0 l g) {n : Nat} {v1 v2 v3 : Int} {K : DT → Prop} {s : (Int × Int × DT)} (h : ok (m_X11_laysOrders_109 v1 v2 v3 s) (KL (P_X11_laysOrders_74 l g n K v1) (KL (P_X11_laysOrders_31 l g n K) K))) : Px (E_X11_laysOrders l g (PVw n K)) 109 [some (vR g 73), some (vI v1), some (vI v2), some (vI v3), some (vI s.1), some (vI s.2.1), none] [] (LF n) s.2.2 0 0 := by
  refine ok_loop (P := (P_X11_laysOrders_109 l g n K v1 v2 v3)) (fun s h => ?_) h
  refine p_iload dX11_laysOrders_109 rfl ?_
  refine p_aload_n dX11_laysOrders_111 rfl ?_
  refine cV_Ir [] [vI s.2.1] dX11_laysOrders_112 yv_X11_cells ml_X11_229 (r := (RX11, TX11, 41)) rfl rfl (Nat.le_of_ble_eq_true rfl) rfl (Nat.le_of_ble_eq_true rfl) (Nat.le_of_ble_eq_true rfl) (Nat.le_of_ble_eq_true rfl) rfl h (fun K h => s_X11_cells hG h) (fun r112 h => ?_)
  refine q_icmp_ge (tgt := 205) dX11_laysOrders_115 (by decide) h (fun h => ?_) (fun h => ?_)
  · have h := kl_inr h
    refine p_iload dX11_laysOrders_205 rfl ?_
    refine p_istore_n dX11_laysOrders_207 (Nat.le_of_ble_eq_true rfl) rfl ?_
    refine p_goto (tgt := 74) dX11_laysOrders_208 (by decide) ?_
    exact p_weak (leL.same (leL.same (leL.same (leL.same (leL.drop (leL.drop (leL.drop leL.nil))))))) (kl_inl (P := (P_X11_laysOrders_74 l g n K v1)) h)
  · refine p_aload_n dX11_laysOrders_118 rfl ?_
    refine p_iload dX11_laysOrders_119 rfl ?_
    refine p_iload_n dX11_laysOrders_121 rfl ?_
    refine cV_Ir [vI s.2.1, vI v1] [] dX11_laysOrders_122 yv_X11_isLandOf ml_X11_233 (r := (RX11, TX11, 41)) rfl rfl (Nat.le_of_ble_eq_true rfl) rfl (Nat.le_of_ble_eq_true rfl) (Nat.le_of_ble_eq_true rfl) (Nat.le_of_ble_eq_true rfl) rfl h (fun K h => s_X11_isLandOf hG h) (fun r122 h => ?_)
    refine q_if_eq (tgt := 199) dX11_laysOrders_125 (by decide) h (fun h => ?_) (fun h => ?_)
    · refine p_iinc dX11_laysOrders_199 rfl (Nat.le_of_ble_eq_true rfl) rfl ?_
      refine p_goto (tgt := 109) dX11_laysOrders_202 (by decide) ?_
      exact p_weak (leL.same (leL.same (leL.same (leL.same (leL.same (leL.same (leL.drop leL.nil))))))) (kl_inl (P := (P_X11_laysOrders_109 l g n K v1 v2 v3)) h)
    · refine p_aload_n dX11_laysOrders_128 rfl ?_
      refine p_getr dX11_laysOrders_129 fl_X11_64 (fun _ _ _ => rfl) rfl rfl ?_
      refine p_iload dX11_laysOrders_132 rfl ?_
      refine q_iald dX11_laysOrders_134 rfl rfl h (fun h => ?_)
      refine p_iconst dX11_laysOrders_135 ?_
      refine q_icmp_eq (tgt := 142) dX11_laysOrders_136 (by decide) h (fun h => ?_) (fun h => ?_)
      · refine p_aload_n dX11_laysOrders_142 rfl ?_
        refine p_iload dX11_laysOrders_143 rfl ?_
        refine p_iload_n dX11_laysOrders_145 rfl ?_
        refine cV_Ir [vI s.2.1, vI v3] [] dX11_laysOrders_146 yv_X11_far ml_X11_236 (r := (RX11, TX11, 41)) rfl rfl (Nat.le_of_ble_eq_true rfl) rfl (Nat.le_of_ble_eq_true rfl) (Nat.le_of_ble_eq_true rfl) (Nat.le_of_ble_eq_true rfl) rfl h (fun K h => s_X11_far hG h) (fun r146 h => ?_)
        refine p_istore dX11_laysOrders_149 (Nat.le_of_ble_eq_true rfl) rfl ?_
        refine p_iload dX11_laysOrders_151 rfl ?_
        refine p_aload_n dX11_laysOrders_153 rfl ?_
        refine p_getr dX11_laysOrders_154 fl_X11_67 (fun _ _ _ => rfl) rfl rfl ?_
        refine p_iload dX11_laysOrders_157 rfl ?_
        refine q_iald dX11_laysOrders_159 rfl rfl h (fun h => ?_)
        refine q_icmp_ge (tgt := 172) dX11_laysOrders_160 (by decide) h (fun h => ?_) (fun h => ?_)
        · exact p_weak (leL.same (leL.same (leL.same (leL.same (leL.same (leL.same (leL.drop leL.nil))))))) (x_X11_laysOrders_172 hG h)
        · refine p_aload_n dX11_laysOrders_163 rfl ?_
          refine p_getr dX11_laysOrders_164 fl_X11_67 (fun _ _ _ => rfl) rfl rfl ?_
          refine p_iload dX11_laysOrders_167 rfl ?_
          refine p_iload dX11_laysOrders_169 rfl ?_
          refine q_iast dX11_laysOrders_171 rfl rfl h (fun D171 h => ?_)
          exact p_weak (leL.same (leL.same (leL.same (leL.same (leL.same (leL.same (leL.drop leL.nil))))))) (x_X11_laysOrders_172 hG h)
      · refine p_goto (tgt := 199) dX11_laysOrders_139 (by decide) ?_
        refine p_iinc dX11_laysOrders_199 rfl (Nat.le_of_ble_eq_true rfl) rfl ?_
        refine p_goto (tgt := 109) dX11_laysOrders_202 (by decide) ?_
        exact p_weak (leL.same (leL.same (leL.same (leL.same (leL.same (leL.same (leL.drop leL.nil))))))) (kl_inl (P := (P_X11_laysOrders_109 l g n K v1 v2 v3)) h)
set_option maxRecDepth 100000 in
set_option maxHeartbeats 4000000 in
theorem x_X11_laysOrders_74 {l : Launch} {g : GH} (hG : G0 l g) {n : Nat} {v1 : Int} {K : DT → Prop} {s : (Int × Int × DT)} (h : ok (m_X11_laysOrders_74 v1 s) (KL (P_X11_laysOrders_31 l g n K) K)) : Px (E_X11_laysOrders l g (PVw n K)) 74 [some (vR g 73), some (vI v1), some (vI s.1), some (vI s.2.1), none, none, none] [] (LF n) s.2.2 0 0 := by
  refine ok_loop (P := (P_X11_laysOrders_74 l g n K v1)) (fun s h => ?_) h
  refine p_iload_n dX11_laysOrders_74 rfl ?_
  refine p_iconst dX11_laysOrders_75 ?_
  refine q_icmp_eq (tgt := 211) dX11_laysOrders_76 (by decide) h (fun h => ?_) (fun h => ?_)
  · have h := kl_inr h
    refine p_aload_n dX11_laysOrders_211 rfl ?_
    refine p_getr dX11_laysOrders_212 fl_X11_61 (fun _ _ _ => rfl) rfl rfl ?_
    refine p_iload_n dX11_laysOrders_215 rfl ?_
    refine p_iconst dX11_laysOrders_216 ?_
    refine p_iadd dX11_laysOrders_217 ?_
    refine p_aload_n dX11_laysOrders_218 rfl ?_
    refine p_getr dX11_laysOrders_219 fl_X11_61 (fun _ _ _ => rfl) rfl rfl ?_
    refine p_iload_n dX11_laysOrders_222 rfl ?_
    refine q_iald dX11_laysOrders_223 rfl rfl h (fun h => ?_)
    refine p_iload_n dX11_laysOrders_224 rfl ?_
    refine p_iadd dX11_laysOrders_225 ?_
    refine q_iast dX11_laysOrders_226 rfl rfl h (fun D226 h => ?_)
    refine p_iinc dX11_laysOrders_227 rfl (Nat.le_of_ble_eq_true rfl) rfl ?_
    refine p_goto (tgt := 31) dX11_laysOrders_230 (by decide) ?_
    exact p_weak (leL.same (leL.same (leL.drop (leL.drop (leL.drop (leL.drop (leL.drop leL.nil))))))) (kl_inl (P := (P_X11_laysOrders_31 l g n K)) h)
  · refine p_aload_n dX11_laysOrders_79 rfl ?_
    refine p_getr dX11_laysOrders_80 fl_X11_58 (fun _ _ _ => rfl) rfl rfl ?_
    refine p_aload_n dX11_laysOrders_83 rfl ?_
    refine p_getr dX11_laysOrders_84 fl_X11_61 (fun _ _ _ => rfl) rfl rfl ?_
    refine p_iload_n dX11_laysOrders_87 rfl ?_
    refine q_iald dX11_laysOrders_88 rfl rfl h (fun h => ?_)
    refine p_iload_n dX11_laysOrders_89 rfl ?_
    refine p_iadd dX11_laysOrders_90 ?_
    refine p_iload_n dX11_laysOrders_91 rfl ?_
    refine q_iast dX11_laysOrders_92 rfl rfl h (fun D92 h => ?_)
    refine p_aload_n dX11_laysOrders_93 rfl ?_
    refine p_getr dX11_laysOrders_94 fl_X11_64 (fun _ _ _ => rfl) rfl rfl ?_
    refine p_iload_n dX11_laysOrders_97 rfl ?_
    refine p_iload_n dX11_laysOrders_98 rfl ?_
    refine q_iast dX11_laysOrders_99 rfl rfl h (fun D99 h => ?_)
    refine p_iinc dX11_laysOrders_100 rfl (Nat.le_of_ble_eq_true rfl) rfl ?_
    refine p_iconst dX11_laysOrders_103 ?_
    refine p_istore dX11_laysOrders_104 (Nat.le_of_ble_eq_true rfl) rfl ?_
    refine p_iconst dX11_laysOrders_106 ?_
    refine p_istore dX11_laysOrders_107 (Nat.le_of_ble_eq_true rfl) rfl ?_
    exact p_weak (leL.same (leL.same (leL.same (leL.same (leL.same (leL.same (leL.drop leL.nil))))))) (x_X11_laysOrders_109 hG h)
set_option maxRecDepth 100000 in
set_option maxHeartbeats 4000000 in
theorem x_X11_laysOrders_50 {l : Launch} {g : GH} (hG : G0 l g) {n : Nat} {v1 v2 v3 : Int} {K : DT → Prop} {s : (Int × DT)} (h : ok (m_X11_laysOrders_50 v1 v2 v3 s) (KL (P_X11_laysOrders_31 l g n K) K)) : Px (E_X11_laysOrders l g (PVw n K)) 50 [some (vR g 73), some (vI v1), some (vI v2), some (vI v3), some (vI s.1), none, none] [] (LF n) s.2 0 0 := by
  refine ok_loop (P := (P_X11_laysOrders_50 l g n K v1 v2 v3)) (fun s h => ?_) h
  refine p_iload dX11_laysOrders_50 rfl ?_
  refine p_aload_n dX11_laysOrders_52 rfl ?_
  refine cV_Ir [] [vI s.1] dX11_laysOrders_53 yv_X11_cells ml_X11_229 (r := (RX11, TX11, 41)) rfl rfl (Nat.le_of_ble_eq_true rfl) rfl (Nat.le_of_ble_eq_true rfl) (Nat.le_of_ble_eq_true rfl) (Nat.le_of_ble_eq_true rfl) rfl h (fun K h => s_X11_cells hG h) (fun r53 h => ?_)
  refine q_icmp_ge (tgt := 74) dX11_laysOrders_56 (by decide) h (fun h => ?_) (fun h => ?_)
  · have h := kl_inr h
    exact p_weak (leL.same (leL.same (leL.same (leL.same (leL.drop (leL.drop (leL.drop leL.nil))))))) (x_X11_laysOrders_74 hG h)
  · refine p_aload_n dX11_laysOrders_59 rfl ?_
    refine p_getr dX11_laysOrders_60 fl_X11_67 (fun _ _ _ => rfl) rfl rfl ?_
    refine p_iload dX11_laysOrders_63 rfl ?_
    refine p_ldc (v := 268435456) dX11_laysOrders_65 cw_X11_232 ?_
    refine q_iast dX11_laysOrders_67 rfl rfl h (fun D67 h => ?_)
    refine p_iinc dX11_laysOrders_68 rfl (Nat.le_of_ble_eq_true rfl) rfl ?_
    refine p_goto (tgt := 50) dX11_laysOrders_71 (by decide) ?_
    exact p_weak (leL.same (leL.same (leL.same (leL.same (leL.same (leL.drop (leL.drop leL.nil))))))) (kl_inl (P := (P_X11_laysOrders_50 l g n K v1 v2 v3)) h)
set_option maxRecDepth 100000 in
set_option maxHeartbeats 4000000 in
theorem x_X11_laysOrders_31 {l : Launch} {g : GH} (hG : G0 l g) {n : Nat} {K : DT → Prop} {s : (Int × DT)} (h : ok (m_X11_laysOrders_31 s) K) : Px (E_X11_laysOrders l g (PVw n K)) 31 [some (vR g 73), some (vI s.1), none, none, none, none, none] [] (LF n) s.2 0 0 := by
  refine ok_loop (P := (P_X11_laysOrders_31 l g n K)) (fun s h => ?_) h
  refine p_iload_n dX11_laysOrders_31 rfl ?_
  refine p_aload_n dX11_laysOrders_32 rfl ?_
  refine cV_Ir [] [vI s.1] dX11_laysOrders_33 yv_X11_zones ml_X11_222 (r := (RX11, TX11, 41)) rfl rfl (Nat.le_of_ble_eq_true rfl) rfl (Nat.le_of_ble_eq_true rfl) (Nat.le_of_ble_eq_true rfl) (Nat.le_of_ble_eq_true rfl) rfl h (fun K h => s_X11_zones hG h) (fun r33 h => ?_)
  refine q_icmp_ge (tgt := 233) dX11_laysOrders_36 (by decide) h (fun h => ?_) (fun h => ?_)
  · have h := kl_inr h
    exact p_return dX11_laysOrders_233 (Nat.le_of_ble_eq_true rfl) (Nat.le_of_ble_eq_true rfl) ⟨rfl, rfl, ok_some h⟩
  · refine p_iconst dX11_laysOrders_39 ?_
    refine p_istore_n dX11_laysOrders_40 (Nat.le_of_ble_eq_true rfl) rfl ?_
    refine p_aload_n dX11_laysOrders_41 rfl ?_
    refine p_iload_n dX11_laysOrders_42 rfl ?_
    refine cV_Ir [vI s.1] [] dX11_laysOrders_43 yv_X11_middleOf ml_X11_225 (r := (RX11, TX11, 41)) rfl rfl (Nat.le_of_ble_eq_true rfl) rfl (Nat.le_of_ble_eq_true rfl) (Nat.le_of_ble_eq_true rfl) (Nat.le_of_ble_eq_true rfl) rfl h (fun K h => s_X11_middleOf hG h) (fun r43 h => ?_)
    refine p_istore_n dX11_laysOrders_46 (Nat.le_of_ble_eq_true rfl) rfl ?_
    refine p_iconst dX11_laysOrders_47 ?_
    refine p_istore dX11_laysOrders_48 (Nat.le_of_ble_eq_true rfl) rfl ?_
    exact p_weak (leL.same (leL.same (leL.same (leL.same (leL.same (leL.drop (leL.drop leL.nil))))))) (x_X11_laysOrders_50 hG h)
set_option maxRecDepth 100000 in
set_option maxHeartbeats 4000000 in
theorem x_X11_laysOrders_2 {l : Launch} {g : GH} (hG : G0 l g) {n : Nat} {K : DT → Prop} {s : (Int × DT)} (h : ok (m_X11_laysOrders_2 s) K) : Px (E_X11_laysOrders l g (PVw n K)) 2 [some (vR g 73), some (vI s.1), none, none, none, none, none] [] (LF n) s.2 0 0 := by
  refine ok_loop (P := (P_X11_laysOrders_2 l g n K)) (fun s h => ?_) h
  refine p_iload_n dX11_laysOrders_2 rfl ?_
  refine p_sipush dX11_laysOrders_3 (by decide) ?_
  refine q_icmp_ge (tgt := 22) dX11_laysOrders_6 (by decide) h (fun h => ?_) (fun h => ?_)
  · have h := kl_inr h
    refine p_aload_n dX11_laysOrders_22 rfl ?_
    refine p_getr dX11_laysOrders_23 fl_X11_61 (fun _ _ _ => rfl) rfl rfl ?_
    refine p_iconst dX11_laysOrders_26 ?_
    refine p_iconst dX11_laysOrders_27 ?_
    refine q_iast dX11_laysOrders_28 rfl rfl h (fun D28 h => ?_)
    refine p_iconst dX11_laysOrders_29 ?_
    refine p_istore_n dX11_laysOrders_30 (Nat.le_of_ble_eq_true rfl) rfl ?_
    exact p_weak (leL.same (leL.same (leL.drop (leL.drop (leL.drop (leL.drop (leL.drop leL.nil))))))) (x_X11_laysOrders_31 hG h)
  · refine p_aload_n dX11_laysOrders_9 rfl ?_
    refine p_getr dX11_laysOrders_10 fl_X11_64 (fun _ _ _ => rfl) rfl rfl ?_
    refine p_iload_n dX11_laysOrders_13 rfl ?_
    refine p_iconst dX11_laysOrders_14 ?_
    refine q_iast dX11_laysOrders_15 rfl rfl h (fun D15 h => ?_)
    refine p_iinc dX11_laysOrders_16 rfl (Nat.le_of_ble_eq_true rfl) rfl ?_
    refine p_goto (tgt := 2) dX11_laysOrders_19 (by decide) ?_
    exact p_weak (leL.same (leL.same (leL.drop (leL.drop (leL.drop (leL.drop (leL.drop leL.nil))))))) (kl_inl (P := (P_X11_laysOrders_2 l g n K)) h)
set_option maxRecDepth 100000 in
set_option maxHeartbeats 4000000 in
theorem x_X11_laysOrders {l : Launch} {g : GH} (hG : G0 l g) {n : Nat} {D : DT} {K : DT → Prop} (h : ok (m_X11_laysOrders D) K) : Px (E_X11_laysOrders l g (PVw n K)) 0 [some (vR g 73), none, none, none, none, none, none] [] (LF n) D 0 0 := by
  refine p_iconst dX11_laysOrders_0 ?_
  refine p_istore_n dX11_laysOrders_1 (Nat.le_of_ble_eq_true rfl) rfl ?_
  exact p_weak (leL.same (leL.same (leL.drop (leL.drop (leL.drop (leL.drop (leL.drop leL.nil))))))) (x_X11_laysOrders_2 hG h)
theorem s_X11_laysOrders {l : Launch} {g : GH} (hG : G0 l g) {n : Nat} {D : DT} {K : DT → Prop} (h : ok (m_X11_laysOrders D) K) : Sat l g yX11_laysOrders cX11_laysOrders 7 none 2 0 0 [vR g 73] (LF n) D (PVw n K) := Sat.of hG (by decide) (Nat.le_of_ble_eq_true rfl) (by simp [Value.category]) (x_X11_laysOrders hG h)
abbrev E_X11_read (l : Launch) (g : GH) (P : PT) : ENV := mkE l g yX11_read cX11_read 2 (some .int) [] 10 0 0 P
abbrev P_X11_read_49 (l : Launch) (g : GH) (n : Nat) (K : (Int × DT) → Prop) : (Int × DT) → Prop := fun s => Px (E_X11_read l g (PIw n K)) 49 [some (vR g 73), some (vI s.1)] [] (LF n) s.2 0 0
abbrev P_X11_read_78 (l : Launch) (g : GH) (n : Nat) (K : (Int × DT) → Prop) : (Int × DT) → Prop := fun s => Px (E_X11_read l g (PIw n K)) 78 [some (vR g 73), some (vI s.1)] [] (LF n) s.2 0 0
abbrev P_X11_read_105 (l : Launch) (g : GH) (n : Nat) (K : (Int × DT) → Prop) : DT → Prop := fun s => Px (E_X11_read l g (PIw n K)) 105 [some (vR g 73), none] [] (LF n) s 0 0
abbrev P_X11_read_158 (l : Launch) (g : GH) (n : Nat) (K : (Int × DT) → Prop) : (Int × DT) → Prop := fun s => Px (E_X11_read l g (PIw n K)) 158 [some (vR g 73), some (vI s.1)] [] (LF n) s.2 0 0
abbrev P_X11_read_183 (l : Launch) (g : GH) (n : Nat) (K : (Int × DT) → Prop) : (Int × DT) → Prop := fun s => Px (E_X11_read l g (PIw n K)) 183 [some (vR g 73), some (vI s.1)] [] (LF n) s.2 0 0
abbrev P_X11_read_222 (l : Launch) (g : GH) (n : Nat) (K : (Int × DT) → Prop) : (Int × DT) → Prop := fun s => Px (E_X11_read l g (PIw n K)) 222 [some (vR g 73), some (vI s.1)] [] (LF n) s.2 0 0
abbrev P_X11_read_248 (l : Launch) (g : GH) (n : Nat) (K : (Int × DT) → Prop) : (Int × DT) → Prop := fun s => Px (E_X11_read l g (PIw n K)) 248 [some (vR g 73), some (vI s.1)] [] (LF n) s.2 0 0
set_option maxRecDepth 100000 in
set_option maxHeartbeats 4000000 in
theorem x_X11_read_248 {l : Launch} {g : GH} (hG : G0 l g) {n : Nat} {K : (Int × DT) → Prop} {s : (Int × DT)} (h : ok (m_X11_read_248 s) K) : Px (E_X11_read l g (PIw n K)) 248 [some (vR g 73), some (vI s.1)] [] (LF n) s.2 0 0 := by
  refine ok_loop (P := (P_X11_read_248 l g n K)) (fun s h => ?_) h
  refine p_iload_n dX11_read_248 rfl ?_
  refine p_bipush dX11_read_249 (by decide) ?_
  refine q_icmp_ge (tgt := 272) dX11_read_251 (by decide) h (fun h => ?_) (fun h => ?_)
  · have h := kl_inr h
    refine p_aload_n dX11_read_272 rfl ?_
    refine cV_Vw [] [] dX11_read_273 yv_X11_laysOrders ml_X11_219 (r := (RX11, TX11, 41)) rfl rfl (Nat.le_of_ble_eq_true rfl) rfl (Nat.le_of_ble_eq_true rfl) (Nat.le_of_ble_eq_true rfl) (Nat.le_of_ble_eq_true rfl) rfl h (fun K h => s_X11_laysOrders hG h) (fun D273 h => ?_)
    refine p_aload_n dX11_read_276 rfl ?_
    refine p_getr dX11_read_277 fl_X11_17 (fun _ _ _ => rfl) rfl rfl ?_
    refine p_iconst dX11_read_280 ?_
    refine q_iald dX11_read_281 rfl rfl h (fun h => ?_)
    exact p_ireturn dX11_read_282 (Nat.le_of_ble_eq_true rfl) (Nat.le_of_ble_eq_true rfl) ⟨_, rfl, rfl, ok_some h⟩
  · refine p_aload_n dX11_read_254 rfl ?_
    refine p_getr dX11_read_255 fl_X11_42 (fun _ _ _ => rfl) rfl rfl ?_
    refine p_iload_n dX11_read_258 rfl ?_
    refine p_aload_n dX11_read_259 rfl ?_
    refine p_getr dX11_read_260 fl_X11_45 (fun _ _ _ => rfl) rfl rfl ?_
    refine p_iload_n dX11_read_263 rfl ?_
    refine q_bald dX11_read_264 rfl rfl h (fun h => ?_)
    refine q_bast dX11_read_265 rfl rfl h (fun D265 h => ?_)
    refine p_iinc dX11_read_266 rfl (Nat.le_of_ble_eq_true rfl) rfl ?_
    refine p_goto (tgt := 248) dX11_read_269 (by decide) ?_
    exact p_weak (leL.same (leL.same leL.nil)) (kl_inl (P := (P_X11_read_248 l g n K)) h)
set_option maxRecDepth 100000 in
set_option maxHeartbeats 4000000 in
theorem x_X11_read_222 {l : Launch} {g : GH} (hG : G0 l g) {n : Nat} {K : (Int × DT) → Prop} {s : (Int × DT)} (h : ok (m_X11_read_222 s) K) : Px (E_X11_read l g (PIw n K)) 222 [some (vR g 73), some (vI s.1)] [] (LF n) s.2 0 0 := by
  refine ok_loop (P := (P_X11_read_222 l g n K)) (fun s h => ?_) h
  refine p_iload_n dX11_read_222 rfl ?_
  refine p_bipush dX11_read_223 (by decide) ?_
  refine q_icmp_ge (tgt := 246) dX11_read_225 (by decide) h (fun h => ?_) (fun h => ?_)
  · have h := kl_inr h
    refine p_iconst dX11_read_246 ?_
    refine p_istore_n dX11_read_247 (Nat.le_of_ble_eq_true rfl) rfl ?_
    exact p_weak (leL.same (leL.same leL.nil)) (x_X11_read_248 hG h)
  · refine p_aload_n dX11_read_228 rfl ?_
    refine p_getr dX11_read_229 fl_X11_36 (fun _ _ _ => rfl) rfl rfl ?_
    refine p_iload_n dX11_read_232 rfl ?_
    refine p_aload_n dX11_read_233 rfl ?_
    refine p_getr dX11_read_234 fl_X11_39 (fun _ _ _ => rfl) rfl rfl ?_
    refine p_iload_n dX11_read_237 rfl ?_
    refine q_iald dX11_read_238 rfl rfl h (fun h => ?_)
    refine q_iast dX11_read_239 rfl rfl h (fun D239 h => ?_)
    refine p_iinc dX11_read_240 rfl (Nat.le_of_ble_eq_true rfl) rfl ?_
    refine p_goto (tgt := 222) dX11_read_243 (by decide) ?_
    exact p_weak (leL.same (leL.same leL.nil)) (kl_inl (P := (P_X11_read_222 l g n K)) h)
set_option maxRecDepth 100000 in
set_option maxHeartbeats 4000000 in
theorem x_X11_read_183 {l : Launch} {g : GH} (hG : G0 l g) {n : Nat} {K : (Int × DT) → Prop} {s : (Int × DT)} (h : ok (m_X11_read_183 s) K) : Px (E_X11_read l g (PIw n K)) 183 [some (vR g 73), some (vI s.1)] [] (LF n) s.2 0 0 := by
  refine ok_loop (P := (P_X11_read_183 l g n K)) (fun s h => ?_) h
  refine p_iload_n dX11_read_183 rfl ?_
  refine p_sipush dX11_read_184 (by decide) ?_
  refine q_icmp_ge (tgt := 220) dX11_read_187 (by decide) h (fun h => ?_) (fun h => ?_)
  · have h := kl_inr h
    refine p_iconst dX11_read_220 ?_
    refine p_istore_n dX11_read_221 (Nat.le_of_ble_eq_true rfl) rfl ?_
    exact p_weak (leL.same (leL.same leL.nil)) (x_X11_read_222 hG h)
  · refine p_aload_n dX11_read_190 rfl ?_
    refine p_getr dX11_read_191 fl_X11_23 (fun _ _ _ => rfl) rfl rfl ?_
    refine p_iload_n dX11_read_194 rfl ?_
    refine p_aload_n dX11_read_195 rfl ?_
    refine p_getr dX11_read_196 fl_X11_26 (fun _ _ _ => rfl) rfl rfl ?_
    refine p_iload_n dX11_read_199 rfl ?_
    refine q_iald dX11_read_200 rfl rfl h (fun h => ?_)
    refine q_iast dX11_read_201 rfl rfl h (fun D201 h => ?_)
    refine p_aload_n dX11_read_202 rfl ?_
    refine p_getr dX11_read_203 fl_X11_29 (fun _ _ _ => rfl) rfl rfl ?_
    refine p_iload_n dX11_read_206 rfl ?_
    refine p_aload_n dX11_read_207 rfl ?_
    refine p_getr dX11_read_208 fl_X11_33 (fun _ _ _ => rfl) rfl rfl ?_
    refine p_iload_n dX11_read_211 rfl ?_
    refine q_zald dX11_read_212 rfl rfl h (fun h => ?_)
    refine q_zast dX11_read_213 rfl rfl h (fun D213 h => ?_)
    refine p_iinc dX11_read_214 rfl (Nat.le_of_ble_eq_true rfl) rfl ?_
    refine p_goto (tgt := 183) dX11_read_217 (by decide) ?_
    exact p_weak (leL.same (leL.same leL.nil)) (kl_inl (P := (P_X11_read_183 l g n K)) h)
set_option maxRecDepth 100000 in
set_option maxHeartbeats 4000000 in
theorem x_X11_read_158 {l : Launch} {g : GH} (hG : G0 l g) {n : Nat} {K : (Int × DT) → Prop} {s : (Int × DT)} (h : ok (m_X11_read_158 s) K) : Px (E_X11_read l g (PIw n K)) 158 [some (vR g 73), some (vI s.1)] [] (LF n) s.2 0 0 := by
  refine ok_loop (P := (P_X11_read_158 l g n K)) (fun s h => ?_) h
  refine p_iload_n dX11_read_158 rfl ?_
  refine p_iconst dX11_read_159 ?_
  refine q_icmp_ge (tgt := 181) dX11_read_160 (by decide) h (fun h => ?_) (fun h => ?_)
  · have h := kl_inr h
    refine p_iconst dX11_read_181 ?_
    refine p_istore_n dX11_read_182 (Nat.le_of_ble_eq_true rfl) rfl ?_
    exact p_weak (leL.same (leL.same leL.nil)) (x_X11_read_183 hG h)
  · refine p_aload_n dX11_read_163 rfl ?_
    refine p_getr dX11_read_164 fl_X11_17 (fun _ _ _ => rfl) rfl rfl ?_
    refine p_iload_n dX11_read_167 rfl ?_
    refine p_aload_n dX11_read_168 rfl ?_
    refine p_getr dX11_read_169 fl_X11_20 (fun _ _ _ => rfl) rfl rfl ?_
    refine p_iload_n dX11_read_172 rfl ?_
    refine q_iald dX11_read_173 rfl rfl h (fun h => ?_)
    refine q_iast dX11_read_174 rfl rfl h (fun D174 h => ?_)
    refine p_iinc dX11_read_175 rfl (Nat.le_of_ble_eq_true rfl) rfl ?_
    refine p_goto (tgt := 158) dX11_read_178 (by decide) ?_
    exact p_weak (leL.same (leL.same leL.nil)) (kl_inl (P := (P_X11_read_158 l g n K)) h)
set_option maxRecDepth 100000 in
set_option maxHeartbeats 4000000 in
theorem x_X11_read_134 {l : Launch} {g : GH} (hG : G0 l g) {n : Nat} {D : DT} {K : (Int × DT) → Prop} (h : ok (m_X11_read_134 D) K) : Px (E_X11_read l g (PIw n K)) 134 [some (vR g 73), none] [] (LF n) D 0 0 := by
  refine p_aload_n dX11_read_134 rfl ?_
  refine p_aload_n dX11_read_135 rfl ?_
  refine p_geti dX11_read_136 fl_X11_112 (fun _ _ _ => rfl) rfl ?_
  refine q_puti dX11_read_139 fq_X11_55 rfl rfl h (fun D139 h => ?_)
  refine p_aload_n dX11_read_142 rfl ?_
  refine p_aload_n dX11_read_143 rfl ?_
  refine cV_Ir [] [vR g 73] dX11_read_144 yv_X11_hasFailed ml_X11_131 (r := (RX11, TX11, 41)) rfl rfl (Nat.le_of_ble_eq_true rfl) rfl (Nat.le_of_ble_eq_true rfl) (Nat.le_of_ble_eq_true rfl) (Nat.le_of_ble_eq_true rfl) rfl h (fun K h => s_X11_hasFailed hG h) (fun r144 h => ?_)
  refine p_iconst dX11_read_147 ?_
  refine cV_Iw [vI r144, vI 1] [] dX11_read_148 yv_X11_throwsIf ml_X11_215 (r := (RX11, TX11, 41)) rfl rfl (Nat.le_of_ble_eq_true rfl) rfl (Nat.le_of_ble_eq_true rfl) (Nat.le_of_ble_eq_true rfl) (Nat.le_of_ble_eq_true rfl) rfl h (fun K h => s_X11_throwsIf hG h) (fun r148 D148 h => ?_)
  refine q_if_eq (tgt := 156) dX11_read_151 (by decide) h (fun h => ?_) (fun h => ?_)
  · refine p_iconst dX11_read_156 ?_
    refine p_istore_n dX11_read_157 (Nat.le_of_ble_eq_true rfl) rfl ?_
    exact p_weak (leL.same (leL.same leL.nil)) (x_X11_read_158 hG h)
  · refine p_iconst dX11_read_154 ?_
    exact p_ireturn dX11_read_155 (Nat.le_of_ble_eq_true rfl) (Nat.le_of_ble_eq_true rfl) ⟨_, rfl, rfl, ok_some h⟩
set_option maxRecDepth 100000 in
set_option maxHeartbeats 4000000 in
theorem x_X11_read_105 {l : Launch} {g : GH} (hG : G0 l g) {n : Nat} {K : (Int × DT) → Prop} {s : DT} (h : ok (m_X11_read_105 s) K) : Px (E_X11_read l g (PIw n K)) 105 [some (vR g 73), none] [] (LF n) s 0 0 := by
  refine ok_loop (P := (P_X11_read_105 l g n K)) (fun s h => ?_) h
  refine p_aload_n dX11_read_105 rfl ?_
  refine cV_Ir [] [] dX11_read_106 yv_X11_hasFailed ml_X11_131 (r := (RX11, TX11, 41)) rfl rfl (Nat.le_of_ble_eq_true rfl) rfl (Nat.le_of_ble_eq_true rfl) (Nat.le_of_ble_eq_true rfl) (Nat.le_of_ble_eq_true rfl) rfl h (fun K h => s_X11_hasFailed hG h) (fun r106 h => ?_)
  refine q_if_ne (tgt := 134) dX11_read_109 (by decide) h (fun h => ?_) (fun h => ?_)
  · have h := kl_inr h
    exact p_weak (leL.same (leL.drop leL.nil)) (x_X11_read_134 hG h)
  · refine p_aload_n dX11_read_112 rfl ?_
    refine p_geti dX11_read_113 fl_X11_115 (fun _ _ _ => rfl) rfl ?_
    refine p_aload_n dX11_read_116 rfl ?_
    refine p_geti dX11_read_117 fl_X11_118 (fun _ _ _ => rfl) rfl ?_
    refine q_icmp_ge (tgt := 134) dX11_read_120 (by decide) h (fun h => ?_) (fun h => ?_)
    · have h := kl_inr h
      exact p_weak (leL.same (leL.drop leL.nil)) (x_X11_read_134 hG h)
    · refine p_aload_n dX11_read_123 rfl ?_
      refine cV_Vw [] [] dX11_read_124 yv_X11_line ml_X11_213 (r := (RX11, TX11, 41)) rfl rfl (Nat.le_of_ble_eq_true rfl) rfl (Nat.le_of_ble_eq_true rfl) (Nat.le_of_ble_eq_true rfl) (Nat.le_of_ble_eq_true rfl) rfl h (fun K h => s_X11_line hG h) (fun D124 h => ?_)
      refine p_aload_n dX11_read_127 rfl ?_
      refine cV_Vw [] [] dX11_read_128 yv_X11_blanks ml_X11_128 (r := (RX11, TX11, 41)) rfl rfl (Nat.le_of_ble_eq_true rfl) rfl (Nat.le_of_ble_eq_true rfl) (Nat.le_of_ble_eq_true rfl) (Nat.le_of_ble_eq_true rfl) rfl h (fun K h => s_X11_blanks hG h) (fun D128 h => ?_)
      refine p_goto (tgt := 105) dX11_read_131 (by decide) ?_
      exact p_weak (leL.same (leL.drop leL.nil)) (kl_inl (P := (P_X11_read_105 l g n K)) h)
set_option maxRecDepth 100000 in
set_option maxHeartbeats 4000000 in
theorem x_X11_read_78 {l : Launch} {g : GH} (hG : G0 l g) {n : Nat} {K : (Int × DT) → Prop} {s : (Int × DT)} (h : ok (m_X11_read_78 s) K) : Px (E_X11_read l g (PIw n K)) 78 [some (vR g 73), some (vI s.1)] [] (LF n) s.2 0 0 := by
  refine ok_loop (P := (P_X11_read_78 l g n K)) (fun s h => ?_) h
  refine p_iload_n dX11_read_78 rfl ?_
  refine p_bipush dX11_read_79 (by decide) ?_
  refine q_icmp_ge (tgt := 97) dX11_read_81 (by decide) h (fun h => ?_) (fun h => ?_)
  · have h := kl_inr h
    refine p_aload_n dX11_read_97 rfl ?_
    refine cV_Vw [] [] dX11_read_98 yv_X11_sizeLine ml_X11_210 (r := (RX11, TX11, 41)) rfl rfl (Nat.le_of_ble_eq_true rfl) rfl (Nat.le_of_ble_eq_true rfl) (Nat.le_of_ble_eq_true rfl) (Nat.le_of_ble_eq_true rfl) rfl h (fun K h => s_X11_sizeLine hG h) (fun D98 h => ?_)
    refine p_aload_n dX11_read_101 rfl ?_
    refine cV_Vw [] [] dX11_read_102 yv_X11_blanks ml_X11_128 (r := (RX11, TX11, 41)) rfl rfl (Nat.le_of_ble_eq_true rfl) rfl (Nat.le_of_ble_eq_true rfl) (Nat.le_of_ble_eq_true rfl) (Nat.le_of_ble_eq_true rfl) rfl h (fun K h => s_X11_blanks hG h) (fun D102 h => ?_)
    exact p_weak (leL.same (leL.drop leL.nil)) (x_X11_read_105 hG h)
  · refine p_aload_n dX11_read_84 rfl ?_
    refine p_getr dX11_read_85 fl_X11_39 (fun _ _ _ => rfl) rfl rfl ?_
    refine p_iload_n dX11_read_88 rfl ?_
    refine p_iconst dX11_read_89 ?_
    refine q_iast dX11_read_90 rfl rfl h (fun D90 h => ?_)
    refine p_iinc dX11_read_91 rfl (Nat.le_of_ble_eq_true rfl) rfl ?_
    refine p_goto (tgt := 78) dX11_read_94 (by decide) ?_
    exact p_weak (leL.same (leL.same leL.nil)) (kl_inl (P := (P_X11_read_78 l g n K)) h)
set_option maxRecDepth 100000 in
set_option maxHeartbeats 4000000 in
theorem x_X11_read_49 {l : Launch} {g : GH} (hG : G0 l g) {n : Nat} {K : (Int × DT) → Prop} {s : (Int × DT)} (h : ok (m_X11_read_49 s) K) : Px (E_X11_read l g (PIw n K)) 49 [some (vR g 73), some (vI s.1)] [] (LF n) s.2 0 0 := by
  refine ok_loop (P := (P_X11_read_49 l g n K)) (fun s h => ?_) h
  refine p_iload_n dX11_read_49 rfl ?_
  refine p_sipush dX11_read_50 (by decide) ?_
  refine q_icmp_ge (tgt := 76) dX11_read_53 (by decide) h (fun h => ?_) (fun h => ?_)
  · have h := kl_inr h
    refine p_iconst dX11_read_76 ?_
    refine p_istore_n dX11_read_77 (Nat.le_of_ble_eq_true rfl) rfl ?_
    exact p_weak (leL.same (leL.same leL.nil)) (x_X11_read_78 hG h)
  · refine p_aload_n dX11_read_56 rfl ?_
    refine p_getr dX11_read_57 fl_X11_26 (fun _ _ _ => rfl) rfl rfl ?_
    refine p_iload_n dX11_read_60 rfl ?_
    refine p_iconst dX11_read_61 ?_
    refine q_iast dX11_read_62 rfl rfl h (fun D62 h => ?_)
    refine p_aload_n dX11_read_63 rfl ?_
    refine p_getr dX11_read_64 fl_X11_33 (fun _ _ _ => rfl) rfl rfl ?_
    refine p_iload_n dX11_read_67 rfl ?_
    refine p_iconst dX11_read_68 ?_
    refine q_zast dX11_read_69 rfl rfl h (fun D69 h => ?_)
    refine p_iinc dX11_read_70 rfl (Nat.le_of_ble_eq_true rfl) rfl ?_
    refine p_goto (tgt := 49) dX11_read_73 (by decide) ?_
    exact p_weak (leL.same (leL.same leL.nil)) (kl_inl (P := (P_X11_read_49 l g n K)) h)
set_option maxRecDepth 100000 in
set_option maxHeartbeats 4000000 in
theorem x_X11_read {l : Launch} {g : GH} (hG : G0 l g) {n : Nat} {D : DT} {K : (Int × DT) → Prop} (h : ok (m_X11_read D) K) : Px (E_X11_read l g (PIw n K)) 0 [some (vR g 73), none] [] (LF n) D 0 0 := by
  refine p_aload_n dX11_read_0 rfl ?_
  refine p_iconst dX11_read_1 ?_
  refine q_puti dX11_read_2 fq_X11_106 rfl rfl h (fun D2 h => ?_)
  refine p_aload_n dX11_read_5 rfl ?_
  refine p_aload_n dX11_read_6 rfl ?_
  refine p_geti dX11_read_7 fl_X11_109 (fun _ _ _ => rfl) rfl ?_
  refine q_puti dX11_read_10 fq_X11_118 rfl rfl h (fun D10 h => ?_)
  refine p_aload_n dX11_read_13 rfl ?_
  refine p_iconst dX11_read_14 ?_
  refine q_puti dX11_read_15 fq_X11_109 rfl rfl h (fun D15 h => ?_)
  refine p_aload_n dX11_read_18 rfl ?_
  refine p_iconst dX11_read_19 ?_
  refine q_puti dX11_read_20 fq_X11_115 rfl rfl h (fun D20 h => ?_)
  refine p_aload_n dX11_read_23 rfl ?_
  refine p_iconst dX11_read_24 ?_
  refine q_puti dX11_read_25 fq_X11_112 rfl rfl h (fun D25 h => ?_)
  refine p_aload_n dX11_read_28 rfl ?_
  refine p_iconst dX11_read_29 ?_
  refine q_putz0 dX11_read_30 fq_X11_184 rfl (by decide) rfl h (fun D30 h => ?_)
  refine p_aload_n dX11_read_33 rfl ?_
  refine p_getr dX11_read_34 fl_X11_20 (fun _ _ _ => rfl) rfl rfl ?_
  refine p_iconst dX11_read_37 ?_
  refine p_iconst dX11_read_38 ?_
  refine q_iast dX11_read_39 rfl rfl h (fun D39 h => ?_)
  refine p_aload_n dX11_read_40 rfl ?_
  refine p_getr dX11_read_41 fl_X11_20 (fun _ _ _ => rfl) rfl rfl ?_
  refine p_iconst dX11_read_44 ?_
  refine p_iconst dX11_read_45 ?_
  refine q_iast dX11_read_46 rfl rfl h (fun D46 h => ?_)
  refine p_iconst dX11_read_47 ?_
  refine p_istore_n dX11_read_48 (Nat.le_of_ble_eq_true rfl) rfl ?_
  exact p_weak (leL.same (leL.same leL.nil)) (x_X11_read_49 hG h)
theorem s_X11_read {l : Launch} {g : GH} (hG : G0 l g) {n : Nat} {D : DT} {K : (Int × DT) → Prop} (h : ok (m_X11_read D) K) : Sat l g yX11_read cX11_read 2 (some .int) 10 0 0 [vR g 73] (LF n) D (PIw n K) := Sat.of hG (by decide) (Nat.le_of_ble_eq_true rfl) (by simp [Value.category]) (x_X11_read hG h)
abbrev E_X11_fault (l : Launch) (g : GH) (P : PT) : ENV := mkE l g yX11_fault cX11_fault 1 (some .int) [] 0 0 0 P
set_option maxRecDepth 100000 in
set_option maxHeartbeats 4000000 in
theorem x_X11_fault {l : Launch} {g : GH} (hG : G0 l g) {n : Nat} {D : DT} {K : (Int × DT) → Prop} (h : ok (m_X11_fault D) K) : Px (E_X11_fault l g (PIw n K)) 0 [some (vR g 73)] [] (LF n) D 0 0 := by
  refine p_aload_n dX11_fault_0 rfl ?_
  refine p_iconst dX11_fault_1 ?_
  refine q_puti dX11_fault_2 fq_X11_106 rfl rfl h (fun D2 h => ?_)
  refine p_aload_n dX11_fault_5 rfl ?_
  refine p_geti dX11_fault_6 fl_X11_55 (fun _ _ _ => rfl) rfl ?_
  exact p_ireturn dX11_fault_9 (Nat.le_of_ble_eq_true rfl) (Nat.le_of_ble_eq_true rfl) ⟨_, rfl, rfl, ok_some h⟩
theorem s_X11_fault {l : Launch} {g : GH} (hG : G0 l g) {n : Nat} {D : DT} {K : (Int × DT) → Prop} (h : ok (m_X11_fault D) K) : Sat l g yX11_fault cX11_fault 1 (some .int) 0 0 0 [vR g 73] (LF n) D (PIw n K) := Sat.of hG (by decide) (Nat.le_of_ble_eq_true rfl) (by simp [Value.category]) (x_X11_fault hG h)
abbrev E_X11_isLand (l : Launch) (g : GH) (P : PT) : ENV := mkE l g yX11_isLand cX11_isLand 2 (some .boolean) [] 0 0 0 P
set_option maxRecDepth 100000 in
set_option maxHeartbeats 4000000 in
theorem x_X11_isLand {l : Launch} {g : GH} (hG : G0 l g) {n : Nat} {v1 : Int} {D : DT} {K : Int → Prop} (h : ok (m_X11_isLand v1 D) K) : Px (E_X11_isLand l g (PIr n D K)) 0 [some (vR g 73), some (vI v1)] [] (LF n) D 0 0 := by
  refine p_aload_n dX11_isLand_0 rfl ?_
  refine p_getr dX11_isLand_1 fl_X11_23 (fun _ _ _ => rfl) rfl rfl ?_
  refine p_iload_n dX11_isLand_4 rfl ?_
  refine q_iald dX11_isLand_5 rfl rfl h (fun h => ?_)
  refine p_iconst dX11_isLand_6 ?_
  refine q_icmp_eq (tgt := 23) dX11_isLand_7 (by decide) h (fun h => ?_) (fun h => ?_)
  · refine p_iconst dX11_isLand_23 ?_
    exact p_zreturn dX11_isLand_24 (Nat.le_of_ble_eq_true rfl) (Nat.le_of_ble_eq_true rfl) (Or.inl rfl) ⟨_, rfl, rfl, rfl, ok_some h⟩
  · refine p_aload_n dX11_isLand_10 rfl ?_
    refine p_getr dX11_isLand_11 fl_X11_29 (fun _ _ _ => rfl) rfl rfl ?_
    refine p_iload_n dX11_isLand_14 rfl ?_
    refine q_zald dX11_isLand_15 rfl rfl h (fun h => ?_)
    refine q_if_ne (tgt := 23) dX11_isLand_16 (by decide) h (fun h => ?_) (fun h => ?_)
    · refine p_iconst dX11_isLand_23 ?_
      exact p_zreturn dX11_isLand_24 (Nat.le_of_ble_eq_true rfl) (Nat.le_of_ble_eq_true rfl) (Or.inl rfl) ⟨_, rfl, rfl, rfl, ok_some h⟩
    · refine p_iconst dX11_isLand_19 ?_
      refine p_goto (tgt := 24) dX11_isLand_20 (by decide) ?_
      exact p_zreturn dX11_isLand_24 (Nat.le_of_ble_eq_true rfl) (Nat.le_of_ble_eq_true rfl) (Or.inr rfl) ⟨_, rfl, rfl, rfl, ok_some h⟩
theorem s_X11_isLand {l : Launch} {g : GH} (hG : G0 l g) {n : Nat} {v1 : Int} {D : DT} {K : Int → Prop} (h : ok (m_X11_isLand v1 D) K) : Sat l g yX11_isLand cX11_isLand 2 (some .boolean) 0 0 0 [vR g 73, vI v1] (LF n) D (PIr n D K) := Sat.of hG (by decide) (Nat.le_of_ble_eq_true rfl) (by simp [Value.category]) (x_X11_isLand hG h)
abbrev E_X11_land (l : Launch) (g : GH) (P : PT) : ENV := mkE l g yX11_land cX11_land 2 (some .int) [] 0 0 0 P
set_option maxRecDepth 100000 in
set_option maxHeartbeats 4000000 in
theorem x_X11_land {l : Launch} {g : GH} (hG : G0 l g) {n : Nat} {v1 : Int} {D : DT} {K : Int → Prop} (h : ok (m_X11_land v1 D) K) : Px (E_X11_land l g (PIr n D K)) 0 [some (vR g 73), some (vI v1)] [] (LF n) D 0 0 := by
  refine p_aload_n dX11_land_0 rfl ?_
  refine p_getr dX11_land_1 fl_X11_61 (fun _ _ _ => rfl) rfl rfl ?_
  refine p_iload_n dX11_land_4 rfl ?_
  refine p_iconst dX11_land_5 ?_
  refine p_iadd dX11_land_6 ?_
  refine q_iald dX11_land_7 rfl rfl h (fun h => ?_)
  refine p_aload_n dX11_land_8 rfl ?_
  refine p_getr dX11_land_9 fl_X11_61 (fun _ _ _ => rfl) rfl rfl ?_
  refine p_iload_n dX11_land_12 rfl ?_
  refine q_iald dX11_land_13 rfl rfl h (fun h => ?_)
  refine p_isub dX11_land_14 ?_
  exact p_ireturn dX11_land_15 (Nat.le_of_ble_eq_true rfl) (Nat.le_of_ble_eq_true rfl) ⟨_, rfl, rfl, rfl, ok_some h⟩
theorem s_X11_land {l : Launch} {g : GH} (hG : G0 l g) {n : Nat} {v1 : Int} {D : DT} {K : Int → Prop} (h : ok (m_X11_land v1 D) K) : Sat l g yX11_land cX11_land 2 (some .int) 0 0 0 [vR g 73, vI v1] (LF n) D (PIr n D K) := Sat.of hG (by decide) (Nat.le_of_ble_eq_true rfl) (by simp [Value.category]) (x_X11_land hG h)
abbrev E_X11_dotsAt (l : Launch) (g : GH) (P : PT) : ENV := mkE l g yX11_dotsAt cX11_dotsAt 3 (some .int) [] 0 0 0 P
set_option maxRecDepth 100000 in
set_option maxHeartbeats 4000000 in
theorem x_X11_dotsAt {l : Launch} {g : GH} (hG : G0 l g) {n : Nat} {v0 : Int} {v1 : Int} {v2 : Int} {D : DT} {K : Int → Prop} (h : ok (m_X11_dotsAt v0 v1 v2 D) K) : Px (E_X11_dotsAt l g (PIr n D K)) 0 [some (vI v0), some (vI v1), some (vI v2)] [] (LF n) D 0 0 := by
  refine p_iconst dX11_dotsAt_0 ?_
  refine p_bipush dX11_dotsAt_1 (by decide) ?_
  refine p_iload_n dX11_dotsAt_3 rfl ?_
  refine p_imul dX11_dotsAt_4 ?_
  refine p_iload_n dX11_dotsAt_5 rfl ?_
  refine p_iadd dX11_dotsAt_6 ?_
  refine p_imul dX11_dotsAt_7 ?_
  refine p_iload_n dX11_dotsAt_8 rfl ?_
  refine p_iadd dX11_dotsAt_9 ?_
  exact p_ireturn dX11_dotsAt_10 (Nat.le_of_ble_eq_true rfl) (Nat.le_of_ble_eq_true rfl) ⟨_, rfl, rfl, rfl, ok_some h⟩
theorem s_X11_dotsAt {l : Launch} {g : GH} (hG : G0 l g) {n : Nat} {v0 : Int} {v1 : Int} {v2 : Int} {D : DT} {K : Int → Prop} (h : ok (m_X11_dotsAt v0 v1 v2 D) K) : Sat l g yX11_dotsAt cX11_dotsAt 3 (some .int) 0 0 0 [vI v0, vI v1, vI v2] (LF n) D (PIr n D K) := Sat.of hG (by decide) (Nat.le_of_ble_eq_true rfl) (by simp [Value.category]) (x_X11_dotsAt hG h)
abbrev E_X11_laysDots (l : Launch) (g : GH) (P : PT) : ENV := mkE l g yX11_laysDots cX11_laysDots 9 none [] 1 0 0 P
abbrev P_X11_laysDots_2 (l : Launch) (g : GH) (n : Nat) (K : DT → Prop) (v1 : Int) : (Int × DT) → Prop := fun s => Px (E_X11_laysDots l g (PVw n K)) 2 [some (vR g 73), some (vI v1), some (vI s.1), none, none, none, none, none, none] [] (LF n) s.2 0 0
abbrev P_X11_laysDots_9 (l : Launch) (g : GH) (n : Nat) (K : DT → Prop) (v1 : Int) (v2 : Int) : (Int × DT) → Prop := fun s => Px (E_X11_laysDots l g (PVw n K)) 9 [some (vR g 73), some (vI v1), some (vI v2), some (vI s.1), none, none, none, none, none] [] (LF n) s.2 0 0
abbrev P_X11_laysDots_25 (l : Launch) (g : GH) (n : Nat) (K : DT → Prop) (v1 : Int) (v2 : Int) (v3 : Int) : (Int × Int × DT) → Prop := fun s => Px (E_X11_laysDots l g (PVw n K)) 25 [some (vR g 73), some (vI v1), some (vI v2), some (vI v3), some (vI s.1), some (vI s.2.1), none, none, none] [] (LF n) s.2.2 0 0
set_option maxRecDepth 100000 in
set_option maxHeartbeats 4000000 in
theorem x_X11_laysDots_127 {l : Launch} {g : GH} (hG : G0 l g) {n : Nat} {v1 v2 v3 v5 v7 v8 : Int} {x0 x1 : Int} {D : DT} {K : DT → Prop} (h : ok (m_X11_laysDots_127 v1 v2 v3 v5 v7 v8 x0 x1 D) (KL (P_X11_laysDots_25 l g n K v1 v2 v3) (KL (P_X11_laysDots_9 l g n K v1 v2) (KL (P_X11_laysDots_2 l g n K v1) K)))) : Px (E_X11_laysDots l g (PVw n K)) 127 [some (vR g 73), some (vI v1), some (vI v2), some (vI v3), none, some (vI v5), none, some (vI v7), some (vI v8)] [vI x0, vI x1, vR g 90] (LF n) D 0 0 := by
  refine q_iast dX11_laysDots_127 rfl rfl h (fun D127 h => ?_)
  refine p_aload_n dX11_laysDots_128 rfl ?_
  refine p_iload dX11_laysDots_129 rfl ?_
  refine cV_Ir [vI v5] [] dX11_laysDots_131 yv_X11_land ml_X11_243 (r := (RX11, TX11, 41)) rfl rfl (Nat.le_of_ble_eq_true rfl) rfl (Nat.le_of_ble_eq_true rfl) (Nat.le_of_ble_eq_true rfl) (Nat.le_of_ble_eq_true rfl) rfl h (fun K h => s_X11_land hG h) (fun r131 h => ?_)
  refine q_if_ne (tgt := 142) dX11_laysDots_134 (by decide) h (fun h => ?_) (fun h => ?_)
  · refine p_iload dX11_laysDots_142 rfl ?_
    refine p_iload dX11_laysDots_144 rfl ?_
    refine q_irem dX11_laysDots_146 h (fun h => ?_)
    refine p_istore dX11_laysDots_147 (Nat.le_of_ble_eq_true rfl) rfl ?_
    refine p_iinc dX11_laysDots_149 rfl (Nat.le_of_ble_eq_true rfl) rfl ?_
    refine p_goto (tgt := 25) dX11_laysDots_152 (by decide) ?_
    exact p_weak (leL.same (leL.same (leL.same (leL.same (leL.same (leL.same (leL.drop (leL.drop (leL.drop leL.nil))))))))) (kl_inl (P := (P_X11_laysDots_25 l g n K v1 v2 v3)) h)
  · refine p_iload dX11_laysDots_137 rfl ?_
    refine p_goto (tgt := 147) dX11_laysDots_139 (by decide) ?_
    refine p_istore dX11_laysDots_147 (Nat.le_of_ble_eq_true rfl) rfl ?_
    refine p_iinc dX11_laysDots_149 rfl (Nat.le_of_ble_eq_true rfl) rfl ?_
    refine p_goto (tgt := 25) dX11_laysDots_152 (by decide) ?_
    exact p_weak (leL.same (leL.same (leL.same (leL.same (leL.same (leL.same (leL.drop (leL.drop (leL.drop leL.nil))))))))) (kl_inl (P := (P_X11_laysDots_25 l g n K v1 v2 v3)) h)
set_option maxRecDepth 100000 in
set_option maxHeartbeats 4000000 in
theorem x_X11_laysDots_101 {l : Launch} {g : GH} (hG : G0 l g) {n : Nat} {v1 v2 v3 v5 v6 v7 : Int} {x0 : Int} {D : DT} {K : DT → Prop} (h : ok (m_X11_laysDots_101 v1 v2 v3 v5 v6 v7 x0 D) (KL (P_X11_laysDots_25 l g n K v1 v2 v3) (KL (P_X11_laysDots_9 l g n K v1 v2) (KL (P_X11_laysDots_2 l g n K v1) K)))) : Px (E_X11_laysDots l g (PVw n K)) 101 [some (vR g 73), some (vI v1), some (vI v2), some (vI v3), none, some (vI v5), some (vI v6), some (vI v7), none] [vI x0] (LF n) D 0 0 := by
  refine p_istore dX11_laysDots_101 (Nat.le_of_ble_eq_true rfl) rfl ?_
  refine p_aload_n dX11_laysDots_103 rfl ?_
  refine p_getr dX11_laysDots_104 fl_X11_70 (fun _ _ _ => rfl) rfl rfl ?_
  refine p_iload dX11_laysDots_107 rfl ?_
  refine p_aload_n dX11_laysDots_109 rfl ?_
  refine p_iload dX11_laysDots_110 rfl ?_
  refine cV_Ir [vI v5] [vI v6, vR g 90] dX11_laysDots_112 yv_X11_land ml_X11_243 (r := (RX11, TX11, 41)) rfl rfl (Nat.le_of_ble_eq_true rfl) rfl (Nat.le_of_ble_eq_true rfl) (Nat.le_of_ble_eq_true rfl) (Nat.le_of_ble_eq_true rfl) rfl h (fun K h => s_X11_land hG h) (fun r112 h => ?_)
  refine q_if_ne (tgt := 122) dX11_laysDots_115 (by decide) h (fun h => ?_) (fun h => ?_)
  · refine p_iload dX11_laysDots_122 rfl ?_
    refine p_iload dX11_laysDots_124 rfl ?_
    refine q_idiv dX11_laysDots_126 h (fun h => ?_)
    exact p_weak (leL.same (leL.same (leL.same (leL.same (leL.drop (leL.same (leL.drop (leL.same (leL.same leL.nil))))))))) (x_X11_laysDots_127 hG h)
  · refine p_iconst dX11_laysDots_118 ?_
    refine p_goto (tgt := 127) dX11_laysDots_119 (by decide) ?_
    exact p_weak (leL.same (leL.same (leL.same (leL.same (leL.drop (leL.same (leL.drop (leL.same (leL.same leL.nil))))))))) (x_X11_laysDots_127 hG h)
set_option maxRecDepth 100000 in
set_option maxHeartbeats 4000000 in
theorem x_X11_laysDots_25 {l : Launch} {g : GH} (hG : G0 l g) {n : Nat} {v1 v2 v3 : Int} {K : DT → Prop} {s : (Int × Int × DT)} (h : ok (m_X11_laysDots_25 v1 v2 v3 s) (KL (P_X11_laysDots_9 l g n K v1 v2) (KL (P_X11_laysDots_2 l g n K v1) K))) : Px (E_X11_laysDots l g (PVw n K)) 25 [some (vR g 73), some (vI v1), some (vI v2), some (vI v3), some (vI s.1), some (vI s.2.1), none, none, none] [] (LF n) s.2.2 0 0 := by
  refine ok_loop (P := (P_X11_laysDots_25 l g n K v1 v2 v3)) (fun s h => ?_) h
  refine p_iload dX11_laysDots_25 rfl ?_
  refine p_aload_n dX11_laysDots_27 rfl ?_
  refine cV_Ir [] [vI s.2.1] dX11_laysDots_28 yv_X11_zones ml_X11_222 (r := (RX11, TX11, 41)) rfl rfl (Nat.le_of_ble_eq_true rfl) rfl (Nat.le_of_ble_eq_true rfl) (Nat.le_of_ble_eq_true rfl) (Nat.le_of_ble_eq_true rfl) rfl h (fun K h => s_X11_zones hG h) (fun r28 h => ?_)
  refine q_icmp_ge (tgt := 155) dX11_laysDots_31 (by decide) h (fun h => ?_) (fun h => ?_)
  · have h := kl_inr h
    refine p_aload_n dX11_laysDots_155 rfl ?_
    refine p_getr dX11_laysDots_156 fl_X11_76 (fun _ _ _ => rfl) rfl rfl ?_
    refine p_iconst dX11_laysDots_159 ?_
    refine p_iload_n dX11_laysDots_160 rfl ?_
    refine p_imul dX11_laysDots_161 ?_
    refine p_iload_n dX11_laysDots_162 rfl ?_
    refine p_iadd dX11_laysDots_163 ?_
    refine p_iload dX11_laysDots_164 rfl ?_
    refine q_iast dX11_laysDots_166 rfl rfl h (fun D166 h => ?_)
    refine p_iinc dX11_laysDots_167 rfl (Nat.le_of_ble_eq_true rfl) rfl ?_
    refine p_goto (tgt := 9) dX11_laysDots_170 (by decide) ?_
    exact p_weak (leL.same (leL.same (leL.same (leL.same (leL.drop (leL.drop (leL.drop (leL.drop (leL.drop leL.nil))))))))) (kl_inl (P := (P_X11_laysDots_9 l g n K v1 v2)) h)
  · refine p_iload_n dX11_laysDots_34 rfl ?_
    refine p_iload dX11_laysDots_35 rfl ?_
    refine p_iload_n dX11_laysDots_37 rfl ?_
    refine cS_Ir [vI v2, vI s.2.1, vI v3] [] dX11_laysDots_38 ys_X11_dotsAt ml_X11_239 (Nat.le_of_ble_eq_true rfl) rfl (Nat.le_of_ble_eq_true rfl) (Nat.le_of_ble_eq_true rfl) (Nat.le_of_ble_eq_true rfl) h (fun K h => s_X11_dotsAt hG h) (fun r38 h => ?_)
    refine p_istore dX11_laysDots_41 (Nat.le_of_ble_eq_true rfl) rfl ?_
    refine p_aload_n dX11_laysDots_43 rfl ?_
    refine p_getr dX11_laysDots_44 fl_X11_73 (fun _ _ _ => rfl) rfl rfl ?_
    refine p_iload dX11_laysDots_47 rfl ?_
    refine p_iload dX11_laysDots_49 rfl ?_
    refine q_iast dX11_laysDots_51 rfl rfl h (fun D51 h => ?_)
    refine p_iload dX11_laysDots_52 rfl ?_
    refine p_iload_n dX11_laysDots_54 rfl ?_
    refine q_if_ne (tgt := 72) dX11_laysDots_55 (by decide) h (fun h => ?_) (fun h => ?_)
    · refine p_aload_n dX11_laysDots_72 rfl ?_
      refine p_getr dX11_laysDots_73 fl_X11_70 (fun _ _ _ => rfl) rfl rfl ?_
      refine p_iload_n dX11_laysDots_76 rfl ?_
      refine p_iconst dX11_laysDots_77 ?_
      refine p_isub dX11_laysDots_78 ?_
      refine p_iload dX11_laysDots_79 rfl ?_
      refine p_iload_n dX11_laysDots_81 rfl ?_
      refine cS_Ir [vI (v2 - 1), vI s.2.1, vI v3] [vR g 90, vI s.1] dX11_laysDots_82 ys_X11_dotsAt ml_X11_239 (Nat.le_of_ble_eq_true rfl) rfl (Nat.le_of_ble_eq_true rfl) (Nat.le_of_ble_eq_true rfl) (Nat.le_of_ble_eq_true rfl) h (fun K h => s_X11_dotsAt hG h) (fun r82 h => ?_)
      refine q_iald dX11_laysDots_85 rfl rfl h (fun h => ?_)
      refine p_iadd dX11_laysDots_86 ?_
      refine p_istore dX11_laysDots_87 (Nat.le_of_ble_eq_true rfl) rfl ?_
      refine p_iload_n dX11_laysDots_89 rfl ?_
      refine q_if_ne (tgt := 97) dX11_laysDots_90 (by decide) h (fun h => ?_) (fun h => ?_)
      · refine p_aload_n dX11_laysDots_97 rfl ?_
        refine p_geti dX11_laysDots_98 fl_X11_52 (fun _ _ _ => rfl) rfl ?_
        exact p_weak (leL.same (leL.same (leL.same (leL.same (leL.drop (leL.same (leL.same (leL.same (leL.drop leL.nil))))))))) (x_X11_laysDots_101 hG h)
      · refine p_iload_n dX11_laysDots_93 rfl ?_
        refine p_goto (tgt := 101) dX11_laysDots_94 (by decide) ?_
        exact p_weak (leL.same (leL.same (leL.same (leL.same (leL.drop (leL.same (leL.same (leL.same (leL.drop leL.nil))))))))) (x_X11_laysDots_101 hG h)
    · refine p_aload_n dX11_laysDots_58 rfl ?_
      refine p_getr dX11_laysDots_59 fl_X11_36 (fun _ _ _ => rfl) rfl rfl ?_
      refine p_iconst dX11_laysDots_62 ?_
      refine p_iload dX11_laysDots_63 rfl ?_
      refine p_imul dX11_laysDots_65 ?_
      refine p_iload_n dX11_laysDots_66 rfl ?_
      refine p_iadd dX11_laysDots_67 ?_
      refine q_iald dX11_laysDots_68 rfl rfl h (fun h => ?_)
      refine p_goto (tgt := 86) dX11_laysDots_69 (by decide) ?_
      refine p_iadd dX11_laysDots_86 ?_
      refine p_istore dX11_laysDots_87 (Nat.le_of_ble_eq_true rfl) rfl ?_
      refine p_iload_n dX11_laysDots_89 rfl ?_
      refine q_if_ne (tgt := 97) dX11_laysDots_90 (by decide) h (fun h => ?_) (fun h => ?_)
      · refine p_aload_n dX11_laysDots_97 rfl ?_
        refine p_geti dX11_laysDots_98 fl_X11_52 (fun _ _ _ => rfl) rfl ?_
        exact p_weak (leL.same (leL.same (leL.same (leL.same (leL.drop (leL.same (leL.same (leL.same (leL.drop leL.nil))))))))) (x_X11_laysDots_101 hG h)
      · refine p_iload_n dX11_laysDots_93 rfl ?_
        refine p_goto (tgt := 101) dX11_laysDots_94 (by decide) ?_
        exact p_weak (leL.same (leL.same (leL.same (leL.same (leL.drop (leL.same (leL.same (leL.same (leL.drop leL.nil))))))))) (x_X11_laysDots_101 hG h)
set_option maxRecDepth 100000 in
set_option maxHeartbeats 4000000 in
theorem x_X11_laysDots_9 {l : Launch} {g : GH} (hG : G0 l g) {n : Nat} {v1 v2 : Int} {K : DT → Prop} {s : (Int × DT)} (h : ok (m_X11_laysDots_9 v1 v2 s) (KL (P_X11_laysDots_2 l g n K v1) K)) : Px (E_X11_laysDots l g (PVw n K)) 9 [some (vR g 73), some (vI v1), some (vI v2), some (vI s.1), none, none, none, none, none] [] (LF n) s.2 0 0 := by
  refine ok_loop (P := (P_X11_laysDots_9 l g n K v1 v2)) (fun s h => ?_) h
  refine p_iload_n dX11_laysDots_9 rfl ?_
  refine p_aload_n dX11_laysDots_10 rfl ?_
  refine p_getr dX11_laysDots_11 fl_X11_17 (fun _ _ _ => rfl) rfl rfl ?_
  refine p_iconst dX11_laysDots_14 ?_
  refine q_iald dX11_laysDots_15 rfl rfl h (fun h => ?_)
  refine q_icmp_ge (tgt := 173) dX11_laysDots_16 (by decide) h (fun h => ?_) (fun h => ?_)
  · have h := kl_inr h
    refine p_iinc dX11_laysDots_173 rfl (Nat.le_of_ble_eq_true rfl) rfl ?_
    refine p_goto (tgt := 2) dX11_laysDots_176 (by decide) ?_
    exact p_weak (leL.same (leL.same (leL.same (leL.drop (leL.drop (leL.drop (leL.drop (leL.drop (leL.drop leL.nil))))))))) (kl_inl (P := (P_X11_laysDots_2 l g n K v1)) h)
  · refine p_iconst dX11_laysDots_19 ?_
    refine p_istore dX11_laysDots_20 (Nat.le_of_ble_eq_true rfl) rfl ?_
    refine p_iconst dX11_laysDots_22 ?_
    refine p_istore dX11_laysDots_23 (Nat.le_of_ble_eq_true rfl) rfl ?_
    exact p_weak (leL.same (leL.same (leL.same (leL.same (leL.same (leL.same (leL.drop (leL.drop (leL.drop leL.nil))))))))) (x_X11_laysDots_25 hG h)
set_option maxRecDepth 100000 in
set_option maxHeartbeats 4000000 in
theorem x_X11_laysDots_2 {l : Launch} {g : GH} (hG : G0 l g) {n : Nat} {v1 : Int} {K : DT → Prop} {s : (Int × DT)} (h : ok (m_X11_laysDots_2 v1 s) K) : Px (E_X11_laysDots l g (PVw n K)) 2 [some (vR g 73), some (vI v1), some (vI s.1), none, none, none, none, none, none] [] (LF n) s.2 0 0 := by
  refine ok_loop (P := (P_X11_laysDots_2 l g n K v1)) (fun s h => ?_) h
  refine p_iload_n dX11_laysDots_2 rfl ?_
  refine p_iconst dX11_laysDots_3 ?_
  refine q_icmp_ge (tgt := 179) dX11_laysDots_4 (by decide) h (fun h => ?_) (fun h => ?_)
  · have h := kl_inr h
    exact p_return dX11_laysDots_179 (Nat.le_of_ble_eq_true rfl) (Nat.le_of_ble_eq_true rfl) ⟨rfl, rfl, ok_some h⟩
  · refine p_iconst dX11_laysDots_7 ?_
    refine p_istore_n dX11_laysDots_8 (Nat.le_of_ble_eq_true rfl) rfl ?_
    exact p_weak (leL.same (leL.same (leL.same (leL.same (leL.drop (leL.drop (leL.drop (leL.drop (leL.drop leL.nil))))))))) (x_X11_laysDots_9 hG h)
set_option maxRecDepth 100000 in
set_option maxHeartbeats 4000000 in
theorem x_X11_laysDots {l : Launch} {g : GH} (hG : G0 l g) {n : Nat} {v1 : Int} {D : DT} {K : DT → Prop} (h : ok (m_X11_laysDots v1 D) K) : Px (E_X11_laysDots l g (PVw n K)) 0 [some (vR g 73), some (vI v1), none, none, none, none, none, none, none] [] (LF n) D 0 0 := by
  refine p_iconst dX11_laysDots_0 ?_
  refine p_istore_n dX11_laysDots_1 (Nat.le_of_ble_eq_true rfl) rfl ?_
  exact p_weak (leL.same (leL.same (leL.same (leL.drop (leL.drop (leL.drop (leL.drop (leL.drop (leL.drop leL.nil))))))))) (x_X11_laysDots_2 hG h)
theorem s_X11_laysDots {l : Launch} {g : GH} (hG : G0 l g) {n : Nat} {v1 : Int} {D : DT} {K : DT → Prop} (h : ok (m_X11_laysDots v1 D) K) : Sat l g yX11_laysDots cX11_laysDots 9 none 1 0 0 [vR g 73, vI v1] (LF n) D (PVw n K) := Sat.of hG (by decide) (Nat.le_of_ble_eq_true rfl) (by simp [Value.category]) (x_X11_laysDots hG h)
