abbrev E_X0_clear (l : Launch) (g : GH) (P : PT) : ENV := mkE l g yX0_clear cX0_clear 1 none [] 0 0 0 P
set_option maxRecDepth 100000 in
set_option maxHeartbeats 4000000 in
theorem x_X0_clear {l : Launch} {g : GH} (hG : G0 l g) {n : Nat} {h0 : Nat} (w0 : WX0 h0) {D : DT} {K : DT → Prop} (h : ok (m_X0_clear h0 D) K) : Px (E_X0_clear l g (PVw n K)) 0 [some (vR g h0)] [] (LF n) D 0 0 := by
  refine p_aload_n dX0_clear_0 rfl ?_
  refine p_lconst 0 dX0_clear_1 (by decide) ?_
  refine q_putj dX0_clear_2 fq_X0_7 rfl (wc_X0 w0) h (fun D2 h => ?_)
  refine p_aload_n dX0_clear_5 rfl ?_
  refine p_lconst 0 dX0_clear_6 (by decide) ?_
  refine q_putj dX0_clear_7 fq_X0_13 rfl (wc_X0 w0) h (fun D7 h => ?_)
  refine p_aload_n dX0_clear_10 rfl ?_
  refine p_lconst 0 dX0_clear_11 (by decide) ?_
  refine q_putj dX0_clear_12 fq_X0_16 rfl (wc_X0 w0) h (fun D12 h => ?_)
  exact p_return dX0_clear_15 (Nat.le_of_ble_eq_true rfl) (Nat.le_of_ble_eq_true rfl) ⟨rfl, rfl, ok_some h⟩
theorem s_X0_clear {l : Launch} {g : GH} (hG : G0 l g) {n : Nat} {h0 : Nat} (w0 : WX0 h0) {D : DT} {K : DT → Prop} (h : ok (m_X0_clear h0 D) K) : Sat l g yX0_clear cX0_clear 1 none 0 0 0 [vR g h0] (LF n) D (PVw n K) := Sat.of hG (by decide) (Nat.le_of_ble_eq_true rfl) (by simp [Value.category]) (x_X0_clear hG w0 h)
abbrev E_X0_add (l : Launch) (g : GH) (P : PT) : ENV := mkE l g yX0_add cX0_add 4 none [] 0 0 0 P
set_option maxRecDepth 100000 in
set_option maxHeartbeats 4000000 in
theorem x_X0_add {l : Launch} {g : GH} (hG : G0 l g) {n : Nat} {h0 : Nat} {h1 : Nat} {v2 : Int} {v3 : Int} (w0 : WX0 h0) (w1 : WX1 h1) {D : DT} {K : DT → Prop} (h : ok (m_X0_add h0 h1 v2 v3 D) K) : Px (E_X0_add l g (PVw n K)) 0 [some (vR g h0), some (vR g h1), some (vI v2), some (vI v3)] [] (LF n) D 0 0 := by
  refine p_aload_n dX0_add_0 rfl ?_
  refine p_dup dX0_add_1 rfl ?_
  refine p_getj dX0_add_2 fl_X0_7 (fun _ _ _ => rfl) (wc_X0 w0) ?_
  refine p_iload_n dX0_add_5 rfl ?_
  refine q_i2l dX0_add_6 h (fun h => ?_)
  refine p_ladd dX0_add_7 ?_
  refine q_putj dX0_add_8 fq_X0_7 rfl (wc_X0 w0) h (fun D8 h => ?_)
  refine p_aload_n dX0_add_11 rfl ?_
  refine p_dup dX0_add_12 rfl ?_
  refine p_getj dX0_add_13 fl_X0_13 (fun _ _ _ => rfl) (wc_X0 w0) ?_
  refine p_iload_n dX0_add_16 rfl ?_
  refine q_i2l dX0_add_17 h (fun h => ?_)
  refine p_aload_n dX0_add_18 rfl ?_
  refine p_getr dX0_add_19 fl_X0_19 (fun _ _ _ => rfl) (wc_X1 w1) (wf_X1_6 w1) ?_
  refine p_iload_n dX0_add_22 rfl ?_
  refine q_iald dX0_add_23 (wa_X1_6 w1) rfl h (fun h => ?_)
  refine q_i2l dX0_add_24 h (fun h => ?_)
  refine p_lmul dX0_add_25 ?_
  refine p_ladd dX0_add_26 ?_
  refine q_putj dX0_add_27 fq_X0_13 rfl (wc_X0 w0) h (fun D27 h => ?_)
  refine p_aload_n dX0_add_30 rfl ?_
  refine p_dup dX0_add_31 rfl ?_
  refine p_getj dX0_add_32 fl_X0_16 (fun _ _ _ => rfl) (wc_X0 w0) ?_
  refine p_iload_n dX0_add_35 rfl ?_
  refine q_i2l dX0_add_36 h (fun h => ?_)
  refine p_aload_n dX0_add_37 rfl ?_
  refine p_getr dX0_add_38 fl_X0_25 (fun _ _ _ => rfl) (wc_X1 w1) (wf_X1_7 w1) ?_
  refine p_iload_n dX0_add_41 rfl ?_
  refine q_iald dX0_add_42 (wa_X1_7 w1) rfl h (fun h => ?_)
  refine q_i2l dX0_add_43 h (fun h => ?_)
  refine p_lmul dX0_add_44 ?_
  refine p_ladd dX0_add_45 ?_
  refine q_putj dX0_add_46 fq_X0_16 rfl (wc_X0 w0) h (fun D46 h => ?_)
  exact p_return dX0_add_49 (Nat.le_of_ble_eq_true rfl) (Nat.le_of_ble_eq_true rfl) ⟨rfl, rfl, ok_some h⟩
theorem s_X0_add {l : Launch} {g : GH} (hG : G0 l g) {n : Nat} {h0 : Nat} {h1 : Nat} {v2 : Int} {v3 : Int} (w0 : WX0 h0) (w1 : WX1 h1) {D : DT} {K : DT → Prop} (h : ok (m_X0_add h0 h1 v2 v3 D) K) : Sat l g yX0_add cX0_add 4 none 0 0 0 [vR g h0, vR g h1, vI v2, vI v3] (LF n) D (PVw n K) := Sat.of hG (by decide) (Nat.le_of_ble_eq_true rfl) (by simp [Value.category]) (x_X0_add hG w0 w1 h)
abbrev E_X0_isEmpty (l : Launch) (g : GH) (P : PT) : ENV := mkE l g yX0_isEmpty cX0_isEmpty 1 (some .boolean) [] 0 0 0 P
set_option maxRecDepth 100000 in
set_option maxHeartbeats 4000000 in
theorem x_X0_isEmpty {l : Launch} {g : GH} (hG : G0 l g) {n : Nat} {h0 : Nat} (w0 : WX0 h0) {D : DT} {K : Int → Prop} (h : ok (m_X0_isEmpty h0 D) K) : Px (E_X0_isEmpty l g (PIr n D K)) 0 [some (vR g h0)] [] (LF n) D 0 0 := by
  refine p_aload_n dX0_isEmpty_0 rfl ?_
  refine p_getj dX0_isEmpty_1 fl_X0_7 (fun _ _ _ => rfl) (wc_X0 w0) ?_
  refine p_lconst 0 dX0_isEmpty_4 (by decide) ?_
  refine q_lcmp_ne (tgt := 13) dX0_isEmpty_5 dX0_isEmpty_6 (by decide) h (fun h => ?_) (fun h => ?_)
  · refine p_iconst dX0_isEmpty_13 ?_
    exact p_zreturn dX0_isEmpty_14 (Nat.le_of_ble_eq_true rfl) (Nat.le_of_ble_eq_true rfl) (Or.inl rfl) ⟨_, rfl, rfl, rfl, ok_some h⟩
  · refine p_iconst dX0_isEmpty_9 ?_
    refine p_goto (tgt := 14) dX0_isEmpty_10 (by decide) ?_
    exact p_zreturn dX0_isEmpty_14 (Nat.le_of_ble_eq_true rfl) (Nat.le_of_ble_eq_true rfl) (Or.inr rfl) ⟨_, rfl, rfl, rfl, ok_some h⟩
theorem s_X0_isEmpty {l : Launch} {g : GH} (hG : G0 l g) {n : Nat} {h0 : Nat} (w0 : WX0 h0) {D : DT} {K : Int → Prop} (h : ok (m_X0_isEmpty h0 D) K) : Sat l g yX0_isEmpty cX0_isEmpty 1 (some .boolean) 0 0 0 [vR g h0] (LF n) D (PIr n D K) := Sat.of hG (by decide) (Nat.le_of_ble_eq_true rfl) (by simp [Value.category]) (x_X0_isEmpty hG w0 h)
abbrev E_X0_pullFrom (l : Launch) (g : GH) (P : PT) : ENV := mkE l g yX0_pullFrom cX0_pullFrom 7 (some .long) [] 0 0 0 P
set_option maxRecDepth 100000 in
set_option maxHeartbeats 4000000 in
theorem x_X0_pullFrom {l : Launch} {g : GH} (hG : G0 l g) {n : Nat} {h0 : Nat} {h1 : Nat} {v2 : Int} (w0 : WX0 h0) (w1 : WX1 h1) {D : DT} {K : Int → Prop} (h : ok (m_X0_pullFrom h0 h1 v2 D) K) : Px (E_X0_pullFrom l g (PJr n D K)) 0 [some (vR g h0), some (vR g h1), some (vI v2), none, none, none, none] [] (LF n) D 0 0 := by
  refine p_aload_n dX0_pullFrom_0 rfl ?_
  refine p_getr dX0_pullFrom_1 fl_X0_19 (fun _ _ _ => rfl) (wc_X1 w1) (wf_X1_6 w1) ?_
  refine p_iload_n dX0_pullFrom_4 rfl ?_
  refine q_iald dX0_pullFrom_5 (wa_X1_6 w1) rfl h (fun h => ?_)
  refine q_i2l dX0_pullFrom_6 h (fun h => ?_)
  refine p_lstore_n dX0_pullFrom_7 (Nat.le_of_ble_eq_true rfl) rfl ?_
  refine p_aload_n dX0_pullFrom_8 rfl ?_
  refine p_getr dX0_pullFrom_9 fl_X0_25 (fun _ _ _ => rfl) (wc_X1 w1) (wf_X1_7 w1) ?_
  refine p_iload_n dX0_pullFrom_12 rfl ?_
  refine q_iald dX0_pullFrom_13 (wa_X1_7 w1) rfl h (fun h => ?_)
  refine q_i2l dX0_pullFrom_14 h (fun h => ?_)
  refine p_lstore dX0_pullFrom_15 (Nat.le_of_ble_eq_true rfl) rfl ?_
  refine p_aload_n dX0_pullFrom_17 rfl ?_
  refine p_getj dX0_pullFrom_18 fl_X0_7 (fun _ _ _ => rfl) (wc_X0 w0) ?_
  refine p_lload_n dX0_pullFrom_21 rfl ?_
  refine p_lload_n dX0_pullFrom_22 rfl ?_
  refine p_lmul dX0_pullFrom_23 ?_
  refine p_lload dX0_pullFrom_24 rfl ?_
  refine p_lload dX0_pullFrom_26 rfl ?_
  refine p_lmul dX0_pullFrom_28 ?_
  refine p_ladd dX0_pullFrom_29 ?_
  refine p_lmul dX0_pullFrom_30 ?_
  refine p_ldc2 (v := 2) dX0_pullFrom_31 cl_X0_28 ?_
  refine p_lload_n dX0_pullFrom_34 rfl ?_
  refine p_lmul dX0_pullFrom_35 ?_
  refine p_aload_n dX0_pullFrom_36 rfl ?_
  refine p_getj dX0_pullFrom_37 fl_X0_13 (fun _ _ _ => rfl) (wc_X0 w0) ?_
  refine p_lmul dX0_pullFrom_40 ?_
  refine p_lsub dX0_pullFrom_41 ?_
  refine p_ldc2 (v := 2) dX0_pullFrom_42 cl_X0_28 ?_
  refine p_lload dX0_pullFrom_45 rfl ?_
  refine p_lmul dX0_pullFrom_47 ?_
  refine p_aload_n dX0_pullFrom_48 rfl ?_
  refine p_getj dX0_pullFrom_49 fl_X0_16 (fun _ _ _ => rfl) (wc_X0 w0) ?_
  refine p_lmul dX0_pullFrom_52 ?_
  refine p_lsub dX0_pullFrom_53 ?_
  exact p_lreturn dX0_pullFrom_54 (Nat.le_of_ble_eq_true rfl) (Nat.le_of_ble_eq_true rfl) ⟨_, rfl, rfl, rfl, ok_some h⟩
theorem s_X0_pullFrom {l : Launch} {g : GH} (hG : G0 l g) {n : Nat} {h0 : Nat} {h1 : Nat} {v2 : Int} (w0 : WX0 h0) (w1 : WX1 h1) {D : DT} {K : Int → Prop} (h : ok (m_X0_pullFrom h0 h1 v2 D) K) : Sat l g yX0_pullFrom cX0_pullFrom 7 (some .long) 0 0 0 [vR g h0, vR g h1, vI v2] (LF n) D (PJr n D K) := Sat.of hG (by decide) (Nat.le_of_ble_eq_true rfl) (by simp [Value.category]) (x_X0_pullFrom hG w0 w1 h)
abbrev E_X1_cells (l : Launch) (g : GH) (P : PT) : ENV := mkE l g yX1_cells cX1_cells 1 (some .int) [] 0 0 0 P
set_option maxRecDepth 100000 in
set_option maxHeartbeats 4000000 in
theorem x_X1_cells {l : Launch} {g : GH} (hG : G0 l g) {n : Nat} {h0 : Nat} (w0 : WX1 h0) {D : DT} {K : Int → Prop} (h : ok (m_X1_cells h0 D) K) : Px (E_X1_cells l g (PIr n D K)) 0 [some (vR g h0)] [] (LF n) D 0 0 := by
  refine p_aload_n dX1_cells_0 rfl ?_
  refine p_geti dX1_cells_1 fl_X1_9 (fun _ _ _ => rfl) (wc_X1 w0) ?_
  refine p_aload_n dX1_cells_4 rfl ?_
  refine p_geti dX1_cells_5 fl_X1_15 (fun _ _ _ => rfl) (wc_X1 w0) ?_
  refine p_imul dX1_cells_8 ?_
  exact p_ireturn dX1_cells_9 (Nat.le_of_ble_eq_true rfl) (Nat.le_of_ble_eq_true rfl) ⟨_, rfl, rfl, rfl, ok_some h⟩
theorem s_X1_cells {l : Launch} {g : GH} (hG : G0 l g) {n : Nat} {h0 : Nat} (w0 : WX1 h0) {D : DT} {K : Int → Prop} (h : ok (m_X1_cells h0 D) K) : Sat l g yX1_cells cX1_cells 1 (some .int) 0 0 0 [vR g h0] (LF n) D (PIr n D K) := Sat.of hG (by decide) (Nat.le_of_ble_eq_true rfl) (by simp [Value.category]) (x_X1_cells hG w0 h)
abbrev E_X1_clear (l : Launch) (g : GH) (P : PT) : ENV := mkE l g yX1_clear cX1_clear 1 none [] 0 0 0 P
set_option maxRecDepth 100000 in
set_option maxHeartbeats 4000000 in
theorem x_X1_clear {l : Launch} {g : GH} (hG : G0 l g) {n : Nat} {h0 : Nat} (w0 : WX1 h0) {D : DT} {K : DT → Prop} (h : ok (m_X1_clear h0 D) K) : Px (E_X1_clear l g (PVw n K)) 0 [some (vR g h0)] [] (LF n) D 0 0 := by
  refine p_aload_n dX1_clear_0 rfl ?_
  refine p_iconst dX1_clear_1 ?_
  refine q_puti dX1_clear_2 fq_X1_9 rfl (wc_X1 w0) h (fun D2 h => ?_)
  refine p_aload_n dX1_clear_5 rfl ?_
  refine p_iconst dX1_clear_6 ?_
  refine q_puti dX1_clear_7 fq_X1_15 rfl (wc_X1 w0) h (fun D7 h => ?_)
  refine p_aload_n dX1_clear_10 rfl ?_
  refine p_iconst dX1_clear_11 ?_
  refine q_puti dX1_clear_12 fq_X1_18 rfl (wc_X1 w0) h (fun D12 h => ?_)
  refine p_aload_n dX1_clear_15 rfl ?_
  refine p_iconst dX1_clear_16 ?_
  refine q_puti dX1_clear_17 fq_X1_21 rfl (wc_X1 w0) h (fun D17 h => ?_)
  exact p_return dX1_clear_20 (Nat.le_of_ble_eq_true rfl) (Nat.le_of_ble_eq_true rfl) ⟨rfl, rfl, ok_some h⟩
theorem s_X1_clear {l : Launch} {g : GH} (hG : G0 l g) {n : Nat} {h0 : Nat} (w0 : WX1 h0) {D : DT} {K : DT → Prop} (h : ok (m_X1_clear h0 D) K) : Sat l g yX1_clear cX1_clear 1 none 0 0 0 [vR g h0] (LF n) D (PVw n K) := Sat.of hG (by decide) (Nat.le_of_ble_eq_true rfl) (by simp [Value.category]) (x_X1_clear hG w0 h)
abbrev E_X1_shape (l : Launch) (g : GH) (P : PT) : ENV := mkE l g yX1_shape cX1_shape 6 none [] 0 0 0 P
abbrev P_X1_shape_12 (l : Launch) (g : GH) (n : Nat) (K : DT → Prop) (h0 : Nat) : (Int × DT) → Prop := fun s => Px (E_X1_shape l g (PVw n K)) 12 [some (vR g h0), none, none, some (vI s.1), none, none] [] (LF n) s.2 0 0
abbrev P_X1_shape_23 (l : Launch) (g : GH) (n : Nat) (K : DT → Prop) (h0 : Nat) (v3 : Int) : (Int × DT) → Prop := fun s => Px (E_X1_shape l g (PVw n K)) 23 [some (vR g h0), none, none, some (vI v3), some (vI s.1), none] [] (LF n) s.2 0 0
set_option maxRecDepth 100000 in
set_option maxHeartbeats 4000000 in
theorem x_X1_shape_23 {l : Launch} {g : GH} (hG : G0 l g) {n : Nat} {h0 : Nat} {v3 : Int} (w0 : WX1 h0) {K : DT → Prop} {s : (Int × DT)} (h : ok (m_X1_shape_23 h0 v3 s) (KL (P_X1_shape_12 l g n K h0) K)) : Px (E_X1_shape l g (PVw n K)) 23 [some (vR g h0), none, none, some (vI v3), some (vI s.1), none] [] (LF n) s.2 0 0 := by
  refine ok_loop (P := (P_X1_shape_23 l g n K h0 v3)) (fun s h => ?_) h
  refine p_iload dX1_shape_23 rfl ?_
  refine p_aload_n dX1_shape_25 rfl ?_
  refine p_geti dX1_shape_26 fl_X1_9 (fun _ _ _ => rfl) (wc_X1 w0) ?_
  refine q_icmp_ge (tgt := 82) dX1_shape_29 (by decide) h (fun h => ?_) (fun h => ?_)
  · have h := kl_inr h
    refine p_iinc dX1_shape_82 rfl (Nat.le_of_ble_eq_true rfl) rfl ?_
    refine p_goto (tgt := 12) dX1_shape_85 (by decide) ?_
    exact p_weak (leL.same (leL.drop (leL.drop (leL.same (leL.drop (leL.drop leL.nil)))))) (kl_inl (P := (P_X1_shape_12 l g n K h0)) h)
  · refine p_iload_n dX1_shape_32 rfl ?_
    refine p_aload_n dX1_shape_33 rfl ?_
    refine p_geti dX1_shape_34 fl_X1_9 (fun _ _ _ => rfl) (wc_X1 w0) ?_
    refine p_imul dX1_shape_37 ?_
    refine p_iload dX1_shape_38 rfl ?_
    refine p_iadd dX1_shape_40 ?_
    refine p_istore dX1_shape_41 (Nat.le_of_ble_eq_true rfl) rfl ?_
    refine p_aload_n dX1_shape_43 rfl ?_
    refine p_getr dX1_shape_44 fl_X1_24 (fun _ _ _ => rfl) (wc_X1 w0) (wf_X1_4 w0) ?_
    refine p_iload dX1_shape_47 rfl ?_
    refine p_iconst dX1_shape_49 ?_
    refine q_iast dX1_shape_50 (wa_X1_4 w0) rfl h (fun D50 h => ?_)
    refine p_aload_n dX1_shape_51 rfl ?_
    refine p_getr dX1_shape_52 fl_X1_28 (fun _ _ _ => rfl) (wc_X1 w0) (wf_X1_5 w0) ?_
    refine p_iload dX1_shape_55 rfl ?_
    refine p_iconst dX1_shape_57 ?_
    refine q_zast dX1_shape_58 (wa_X1_5 w0) rfl h (fun D58 h => ?_)
    refine p_aload_n dX1_shape_59 rfl ?_
    refine p_getr dX1_shape_60 fl_X1_32 (fun _ _ _ => rfl) (wc_X1 w0) (wf_X1_6 w0) ?_
    refine p_iload dX1_shape_63 rfl ?_
    refine p_iload dX1_shape_65 rfl ?_
    refine q_iast dX1_shape_67 (wa_X1_6 w0) rfl h (fun D67 h => ?_)
    refine p_aload_n dX1_shape_68 rfl ?_
    refine p_getr dX1_shape_69 fl_X1_35 (fun _ _ _ => rfl) (wc_X1 w0) (wf_X1_7 w0) ?_
    refine p_iload dX1_shape_72 rfl ?_
    refine p_iload_n dX1_shape_74 rfl ?_
    refine q_iast dX1_shape_75 (wa_X1_7 w0) rfl h (fun D75 h => ?_)
    refine p_iinc dX1_shape_76 rfl (Nat.le_of_ble_eq_true rfl) rfl ?_
    refine p_goto (tgt := 23) dX1_shape_79 (by decide) ?_
    exact p_weak (leL.same (leL.drop (leL.drop (leL.same (leL.same (leL.drop leL.nil)))))) (kl_inl (P := (P_X1_shape_23 l g n K h0 v3)) h)
set_option maxRecDepth 100000 in
set_option maxHeartbeats 4000000 in
theorem x_X1_shape_12 {l : Launch} {g : GH} (hG : G0 l g) {n : Nat} {h0 : Nat} (w0 : WX1 h0) {K : DT → Prop} {s : (Int × DT)} (h : ok (m_X1_shape_12 h0 s) K) : Px (E_X1_shape l g (PVw n K)) 12 [some (vR g h0), none, none, some (vI s.1), none, none] [] (LF n) s.2 0 0 := by
  refine ok_loop (P := (P_X1_shape_12 l g n K h0)) (fun s h => ?_) h
  refine p_iload_n dX1_shape_12 rfl ?_
  refine p_aload_n dX1_shape_13 rfl ?_
  refine p_geti dX1_shape_14 fl_X1_15 (fun _ _ _ => rfl) (wc_X1 w0) ?_
  refine q_icmp_ge (tgt := 88) dX1_shape_17 (by decide) h (fun h => ?_) (fun h => ?_)
  · have h := kl_inr h
    exact p_return dX1_shape_88 (Nat.le_of_ble_eq_true rfl) (Nat.le_of_ble_eq_true rfl) ⟨rfl, rfl, ok_some h⟩
  · refine p_iconst dX1_shape_20 ?_
    refine p_istore dX1_shape_21 (Nat.le_of_ble_eq_true rfl) rfl ?_
    exact p_weak (leL.same (leL.drop (leL.drop (leL.same (leL.same (leL.drop leL.nil)))))) (x_X1_shape_23 hG w0 h)
set_option maxRecDepth 100000 in
set_option maxHeartbeats 4000000 in
theorem x_X1_shape {l : Launch} {g : GH} (hG : G0 l g) {n : Nat} {h0 : Nat} {v1 : Int} {v2 : Int} (w0 : WX1 h0) {D : DT} {K : DT → Prop} (h : ok (m_X1_shape h0 v1 v2 D) K) : Px (E_X1_shape l g (PVw n K)) 0 [some (vR g h0), some (vI v1), some (vI v2), none, none, none] [] (LF n) D 0 0 := by
  refine p_aload_n dX1_shape_0 rfl ?_
  refine p_iload_n dX1_shape_1 rfl ?_
  refine q_puti dX1_shape_2 fq_X1_9 rfl (wc_X1 w0) h (fun D2 h => ?_)
  refine p_aload_n dX1_shape_5 rfl ?_
  refine p_iload_n dX1_shape_6 rfl ?_
  refine q_puti dX1_shape_7 fq_X1_15 rfl (wc_X1 w0) h (fun D7 h => ?_)
  refine p_iconst dX1_shape_10 ?_
  refine p_istore_n dX1_shape_11 (Nat.le_of_ble_eq_true rfl) rfl ?_
  exact p_weak (leL.same (leL.drop (leL.drop (leL.same (leL.drop (leL.drop leL.nil)))))) (x_X1_shape_12 hG w0 h)
theorem s_X1_shape {l : Launch} {g : GH} (hG : G0 l g) {n : Nat} {h0 : Nat} {v1 : Int} {v2 : Int} (w0 : WX1 h0) {D : DT} {K : DT → Prop} (h : ok (m_X1_shape h0 v1 v2 D) K) : Sat l g yX1_shape cX1_shape 6 none 0 0 0 [vR g h0, vI v1, vI v2] (LF n) D (PVw n K) := Sat.of hG (by decide) (Nat.le_of_ble_eq_true rfl) (by simp [Value.category]) (x_X1_shape hG w0 h)
abbrev E_X1_copyFrom (l : Launch) (g : GH) (P : PT) : ENV := mkE l g yX1_copyFrom cX1_copyFrom 3 none [] 1 0 0 P
abbrev P_X1_copyFrom_127 (l : Launch) (g : GH) (n : Nat) (K : DT → Prop) (h0 : Nat) (h1 : Nat) : (Int × DT) → Prop := fun s => Px (E_X1_copyFrom l g (PVw n K)) 127 [some (vR g h0), some (vR g h1), some (vI s.1)] [] (LF n) s.2 0 0
set_option maxRecDepth 100000 in
set_option maxHeartbeats 4000000 in
theorem x_X1_copyFrom_127 {l : Launch} {g : GH} (hG : G0 l g) {n : Nat} {h0 h1 : Nat} (w0 : WX1 h0) (w1 : WX1 h1) {K : DT → Prop} {s : (Int × DT)} (h : ok (m_X1_copyFrom_127 h0 h1 s) K) : Px (E_X1_copyFrom l g (PVw n K)) 127 [some (vR g h0), some (vR g h1), some (vI s.1)] [] (LF n) s.2 0 0 := by
  refine ok_loop (P := (P_X1_copyFrom_127 l g n K h0 h1)) (fun s h => ?_) h
  refine p_iload_n dX1_copyFrom_127 rfl ?_
  refine p_sipush dX1_copyFrom_128 (by decide) ?_
  refine q_icmp_ge (tgt := 152) dX1_copyFrom_131 (by decide) h (fun h => ?_) (fun h => ?_)
  · have h := kl_inr h
    exact p_return dX1_copyFrom_152 (Nat.le_of_ble_eq_true rfl) (Nat.le_of_ble_eq_true rfl) ⟨rfl, rfl, ok_some h⟩
  · refine p_aload_n dX1_copyFrom_134 rfl ?_
    refine p_getr dX1_copyFrom_135 fl_X1_28 (fun _ _ _ => rfl) (wc_X1 w0) (wf_X1_5 w0) ?_
    refine p_iload_n dX1_copyFrom_138 rfl ?_
    refine p_aload_n dX1_copyFrom_139 rfl ?_
    refine p_getr dX1_copyFrom_140 fl_X1_28 (fun _ _ _ => rfl) (wc_X1 w1) (wf_X1_5 w1) ?_
    refine p_iload_n dX1_copyFrom_143 rfl ?_
    refine q_zald dX1_copyFrom_144 (wa_X1_5 w1) rfl h (fun h => ?_)
    refine q_zast dX1_copyFrom_145 (wa_X1_5 w0) rfl h (fun D145 h => ?_)
    refine p_iinc dX1_copyFrom_146 rfl (Nat.le_of_ble_eq_true rfl) rfl ?_
    refine p_goto (tgt := 127) dX1_copyFrom_149 (by decide) ?_
    exact p_weak (leL.same (leL.same (leL.same leL.nil))) (kl_inl (P := (P_X1_copyFrom_127 l g n K h0 h1)) h)
set_option maxRecDepth 100000 in
set_option maxHeartbeats 4000000 in
theorem x_X1_copyFrom {l : Launch} {g : GH} (hG : G0 l g) {n : Nat} {h0 : Nat} {h1 : Nat} (w0 : WX1 h0) (w1 : WX1 h1) {D : DT} {K : DT → Prop} (h : ok (m_X1_copyFrom h0 h1 D) K) : Px (E_X1_copyFrom l g (PVw n K)) 0 [some (vR g h0), some (vR g h1), none] [] (LF n) D 0 0 := by
  refine p_aload_n dX1_copyFrom_0 rfl ?_
  refine p_aload_n dX1_copyFrom_1 rfl ?_
  refine p_geti dX1_copyFrom_2 fl_X1_9 (fun _ _ _ => rfl) (wc_X1 w1) ?_
  refine q_puti dX1_copyFrom_5 fq_X1_9 rfl (wc_X1 w0) h (fun D5 h => ?_)
  refine p_aload_n dX1_copyFrom_8 rfl ?_
  refine p_aload_n dX1_copyFrom_9 rfl ?_
  refine p_geti dX1_copyFrom_10 fl_X1_15 (fun _ _ _ => rfl) (wc_X1 w1) ?_
  refine q_puti dX1_copyFrom_13 fq_X1_15 rfl (wc_X1 w0) h (fun D13 h => ?_)
  refine p_aload_n dX1_copyFrom_16 rfl ?_
  refine p_aload_n dX1_copyFrom_17 rfl ?_
  refine p_geti dX1_copyFrom_18 fl_X1_18 (fun _ _ _ => rfl) (wc_X1 w1) ?_
  refine q_puti dX1_copyFrom_21 fq_X1_18 rfl (wc_X1 w0) h (fun D21 h => ?_)
  refine p_aload_n dX1_copyFrom_24 rfl ?_
  refine p_aload_n dX1_copyFrom_25 rfl ?_
  refine p_geti dX1_copyFrom_26 fl_X1_21 (fun _ _ _ => rfl) (wc_X1 w1) ?_
  refine q_puti dX1_copyFrom_29 fq_X1_21 rfl (wc_X1 w0) h (fun D29 h => ?_)
  refine p_aload_n dX1_copyFrom_32 rfl ?_
  refine p_getr dX1_copyFrom_33 fl_X1_24 (fun _ _ _ => rfl) (wc_X1 w1) (wf_X1_4 w1) ?_
  refine p_iconst dX1_copyFrom_36 ?_
  refine p_aload_n dX1_copyFrom_37 rfl ?_
  refine p_getr dX1_copyFrom_38 fl_X1_24 (fun _ _ _ => rfl) (wc_X1 w0) (wf_X1_4 w0) ?_
  refine p_iconst dX1_copyFrom_41 ?_
  refine p_sipush dX1_copyFrom_42 (by decide) ?_
  refine q_copyi [] dX1_copyFrom_45 (wa_X1_4 w1) (wa_X1_4 w0) ml_X1_48 acw (Nat.le_of_ble_eq_true rfl) (Nat.le_of_ble_eq_true rfl) rfl rfl h (fun D45 h => ?_)
  refine p_aload_n dX1_copyFrom_48 rfl ?_
  refine p_getr dX1_copyFrom_49 fl_X1_32 (fun _ _ _ => rfl) (wc_X1 w1) (wf_X1_6 w1) ?_
  refine p_iconst dX1_copyFrom_52 ?_
  refine p_aload_n dX1_copyFrom_53 rfl ?_
  refine p_getr dX1_copyFrom_54 fl_X1_32 (fun _ _ _ => rfl) (wc_X1 w0) (wf_X1_6 w0) ?_
  refine p_iconst dX1_copyFrom_57 ?_
  refine p_sipush dX1_copyFrom_58 (by decide) ?_
  refine q_copyi [] dX1_copyFrom_61 (wa_X1_6 w1) (wa_X1_6 w0) ml_X1_48 acw (Nat.le_of_ble_eq_true rfl) (Nat.le_of_ble_eq_true rfl) rfl rfl h (fun D61 h => ?_)
  refine p_aload_n dX1_copyFrom_64 rfl ?_
  refine p_getr dX1_copyFrom_65 fl_X1_35 (fun _ _ _ => rfl) (wc_X1 w1) (wf_X1_7 w1) ?_
  refine p_iconst dX1_copyFrom_68 ?_
  refine p_aload_n dX1_copyFrom_69 rfl ?_
  refine p_getr dX1_copyFrom_70 fl_X1_35 (fun _ _ _ => rfl) (wc_X1 w0) (wf_X1_7 w0) ?_
  refine p_iconst dX1_copyFrom_73 ?_
  refine p_sipush dX1_copyFrom_74 (by decide) ?_
  refine q_copyi [] dX1_copyFrom_77 (wa_X1_7 w1) (wa_X1_7 w0) ml_X1_48 acw (Nat.le_of_ble_eq_true rfl) (Nat.le_of_ble_eq_true rfl) rfl rfl h (fun D77 h => ?_)
  refine p_aload_n dX1_copyFrom_80 rfl ?_
  refine p_getr dX1_copyFrom_81 fl_X1_38 (fun _ _ _ => rfl) (wc_X1 w1) (wf_X1_8 w1) ?_
  refine p_iconst dX1_copyFrom_84 ?_
  refine p_aload_n dX1_copyFrom_85 rfl ?_
  refine p_getr dX1_copyFrom_86 fl_X1_38 (fun _ _ _ => rfl) (wc_X1 w0) (wf_X1_8 w0) ?_
  refine p_iconst dX1_copyFrom_89 ?_
  refine p_bipush dX1_copyFrom_90 (by decide) ?_
  refine q_copyi [] dX1_copyFrom_92 (wa_X1_8 w1) (wa_X1_8 w0) ml_X1_48 acw (Nat.le_of_ble_eq_true rfl) (Nat.le_of_ble_eq_true rfl) rfl rfl h (fun D92 h => ?_)
  refine p_aload_n dX1_copyFrom_95 rfl ?_
  refine p_getr dX1_copyFrom_96 fl_X1_41 (fun _ _ _ => rfl) (wc_X1 w1) (wf_X1_9 w1) ?_
  refine p_iconst dX1_copyFrom_99 ?_
  refine p_aload_n dX1_copyFrom_100 rfl ?_
  refine p_getr dX1_copyFrom_101 fl_X1_41 (fun _ _ _ => rfl) (wc_X1 w0) (wf_X1_9 w0) ?_
  refine p_iconst dX1_copyFrom_104 ?_
  refine p_bipush dX1_copyFrom_105 (by decide) ?_
  refine q_copyb [] dX1_copyFrom_107 (wa_X1_9 w1) (wa_X1_9 w0) ml_X1_48 acw (Nat.le_of_ble_eq_true rfl) (Nat.le_of_ble_eq_true rfl) rfl rfl h (fun D107 h => ?_)
  refine p_aload_n dX1_copyFrom_110 rfl ?_
  refine p_getr dX1_copyFrom_111 fl_X1_45 (fun _ _ _ => rfl) (wc_X1 w1) (wf_X1_10 w1) ?_
  refine p_iconst dX1_copyFrom_114 ?_
  refine p_aload_n dX1_copyFrom_115 rfl ?_
  refine p_getr dX1_copyFrom_116 fl_X1_45 (fun _ _ _ => rfl) (wc_X1 w0) (wf_X1_10 w0) ?_
  refine p_iconst dX1_copyFrom_119 ?_
  refine p_bipush dX1_copyFrom_120 (by decide) ?_
  refine q_copyi [] dX1_copyFrom_122 (wa_X1_10 w1) (wa_X1_10 w0) ml_X1_48 acw (Nat.le_of_ble_eq_true rfl) (Nat.le_of_ble_eq_true rfl) rfl rfl h (fun D122 h => ?_)
  refine p_iconst dX1_copyFrom_125 ?_
  refine p_istore_n dX1_copyFrom_126 (Nat.le_of_ble_eq_true rfl) rfl ?_
  exact p_weak (leL.same (leL.same (leL.same leL.nil))) (x_X1_copyFrom_127 hG w0 w1 h)
theorem s_X1_copyFrom {l : Launch} {g : GH} (hG : G0 l g) {n : Nat} {h0 : Nat} {h1 : Nat} (w0 : WX1 h0) (w1 : WX1 h1) {D : DT} {K : DT → Prop} (h : ok (m_X1_copyFrom h0 h1 D) K) : Sat l g yX1_copyFrom cX1_copyFrom 3 none 1 0 0 [vR g h0, vR g h1] (LF n) D (PVw n K) := Sat.of hG (by decide) (Nat.le_of_ble_eq_true rfl) (by simp [Value.category]) (x_X1_copyFrom hG w0 w1 h)
abbrev E_X1_far (l : Launch) (g : GH) (P : PT) : ENV := mkE l g yX1_far cX1_far 5 (some .int) [] 0 0 0 P
set_option maxRecDepth 100000 in
set_option maxHeartbeats 4000000 in
theorem x_X1_far {l : Launch} {g : GH} (hG : G0 l g) {n : Nat} {h0 : Nat} {v1 : Int} {v2 : Int} (w0 : WX1 h0) {D : DT} {K : Int → Prop} (h : ok (m_X1_far h0 v1 v2 D) K) : Px (E_X1_far l g (PIr n D K)) 0 [some (vR g h0), some (vI v1), some (vI v2), none, none] [] (LF n) D 0 0 := by
  refine p_aload_n dX1_far_0 rfl ?_
  refine p_getr dX1_far_1 fl_X1_32 (fun _ _ _ => rfl) (wc_X1 w0) (wf_X1_6 w0) ?_
  refine p_iload_n dX1_far_4 rfl ?_
  refine q_iald dX1_far_5 (wa_X1_6 w0) rfl h (fun h => ?_)
  refine p_aload_n dX1_far_6 rfl ?_
  refine p_getr dX1_far_7 fl_X1_32 (fun _ _ _ => rfl) (wc_X1 w0) (wf_X1_6 w0) ?_
  refine p_iload_n dX1_far_10 rfl ?_
  refine q_iald dX1_far_11 (wa_X1_6 w0) rfl h (fun h => ?_)
  refine p_isub dX1_far_12 ?_
  refine p_istore_n dX1_far_13 (Nat.le_of_ble_eq_true rfl) rfl ?_
  refine p_aload_n dX1_far_14 rfl ?_
  refine p_getr dX1_far_15 fl_X1_35 (fun _ _ _ => rfl) (wc_X1 w0) (wf_X1_7 w0) ?_
  refine p_iload_n dX1_far_18 rfl ?_
  refine q_iald dX1_far_19 (wa_X1_7 w0) rfl h (fun h => ?_)
  refine p_aload_n dX1_far_20 rfl ?_
  refine p_getr dX1_far_21 fl_X1_35 (fun _ _ _ => rfl) (wc_X1 w0) (wf_X1_7 w0) ?_
  refine p_iload_n dX1_far_24 rfl ?_
  refine q_iald dX1_far_25 (wa_X1_7 w0) rfl h (fun h => ?_)
  refine p_isub dX1_far_26 ?_
  refine p_istore dX1_far_27 (Nat.le_of_ble_eq_true rfl) rfl ?_
  refine p_iload_n dX1_far_29 rfl ?_
  refine p_iload_n dX1_far_30 rfl ?_
  refine p_imul dX1_far_31 ?_
  refine p_iload dX1_far_32 rfl ?_
  refine p_iload dX1_far_34 rfl ?_
  refine p_imul dX1_far_36 ?_
  refine p_iadd dX1_far_37 ?_
  exact p_ireturn dX1_far_38 (Nat.le_of_ble_eq_true rfl) (Nat.le_of_ble_eq_true rfl) ⟨_, rfl, rfl, rfl, ok_some h⟩
theorem s_X1_far {l : Launch} {g : GH} (hG : G0 l g) {n : Nat} {h0 : Nat} {v1 : Int} {v2 : Int} (w0 : WX1 h0) {D : DT} {K : Int → Prop} (h : ok (m_X1_far h0 v1 v2 D) K) : Sat l g yX1_far cX1_far 5 (some .int) 0 0 0 [vR g h0, vI v1, vI v2] (LF n) D (PIr n D K) := Sat.of hG (by decide) (Nat.le_of_ble_eq_true rfl) (by simp [Value.category]) (x_X1_far hG w0 h)
abbrev E_X1_beside (l : Launch) (g : GH) (P : PT) : ENV := mkE l g yX1_beside cX1_beside 5 (some .int) [] 0 0 0 P
set_option maxRecDepth 100000 in
set_option maxHeartbeats 4000000 in
theorem x_X1_beside {l : Launch} {g : GH} (hG : G0 l g) {n : Nat} {h0 : Nat} {v1 : Int} {v2 : Int} (w0 : WX1 h0) {D : DT} {K : Int → Prop} (h : ok (m_X1_beside h0 v1 v2 D) K) : Px (E_X1_beside l g (PIr n D K)) 0 [some (vR g h0), some (vI v1), some (vI v2), none, none] [] (LF n) D 0 0 := by
  refine p_aload_n dX1_beside_0 rfl ?_
  refine p_getr dX1_beside_1 fl_X1_32 (fun _ _ _ => rfl) (wc_X1 w0) (wf_X1_6 w0) ?_
  refine p_iload_n dX1_beside_4 rfl ?_
  refine q_iald dX1_beside_5 (wa_X1_6 w0) rfl h (fun h => ?_)
  refine p_istore_n dX1_beside_6 (Nat.le_of_ble_eq_true rfl) rfl ?_
  refine p_aload_n dX1_beside_7 rfl ?_
  refine p_getr dX1_beside_8 fl_X1_35 (fun _ _ _ => rfl) (wc_X1 w0) (wf_X1_7 w0) ?_
  refine p_iload_n dX1_beside_11 rfl ?_
  refine q_iald dX1_beside_12 (wa_X1_7 w0) rfl h (fun h => ?_)
  refine p_istore dX1_beside_13 (Nat.le_of_ble_eq_true rfl) rfl ?_
  refine p_iload_n dX1_beside_15 rfl ?_
  obtain ⟨hr, h⟩ := ok_gd h
  by_cases e0 : v2 = 0
  · have h := (ok_ite h).1 e0
    refine p_tableIn (tgt := 44) dX1_beside_16 hr (by omega) (by omega) (by rw [e0]; try rfl) (by decide) ?_
    refine p_iload dX1_beside_44 rfl ?_
    refine q_if_le (tgt := 58) dX1_beside_46 (by decide) h (fun h => ?_) (fun h => ?_)
    · refine p_iconst dX1_beside_58 ?_
      exact p_ireturn dX1_beside_59 (Nat.le_of_ble_eq_true rfl) (Nat.le_of_ble_eq_true rfl) ⟨_, rfl, rfl, rfl, ok_some h⟩
    · refine p_iload_n dX1_beside_49 rfl ?_
      refine p_aload_n dX1_beside_50 rfl ?_
      refine p_geti dX1_beside_51 fl_X1_9 (fun _ _ _ => rfl) (wc_X1 w0) ?_
      refine p_isub dX1_beside_54 ?_
      refine p_goto (tgt := 59) dX1_beside_55 (by decide) ?_
      exact p_ireturn dX1_beside_59 (Nat.le_of_ble_eq_true rfl) (Nat.le_of_ble_eq_true rfl) ⟨_, rfl, rfl, rfl, ok_some h⟩
  have h := (ok_ite h).2 e0
  by_cases e1 : v2 = 1
  · have h := (ok_ite h).1 e1
    refine p_tableIn (tgt := 60) dX1_beside_16 hr (by omega) (by omega) (by rw [e1]; try rfl) (by decide) ?_
    refine p_iload_n dX1_beside_60 rfl ?_
    refine q_if_le (tgt := 70) dX1_beside_61 (by decide) h (fun h => ?_) (fun h => ?_)
    · refine p_iconst dX1_beside_70 ?_
      exact p_ireturn dX1_beside_71 (Nat.le_of_ble_eq_true rfl) (Nat.le_of_ble_eq_true rfl) ⟨_, rfl, rfl, rfl, ok_some h⟩
    · refine p_iload_n dX1_beside_64 rfl ?_
      refine p_iconst dX1_beside_65 ?_
      refine p_isub dX1_beside_66 ?_
      refine p_goto (tgt := 71) dX1_beside_67 (by decide) ?_
      exact p_ireturn dX1_beside_71 (Nat.le_of_ble_eq_true rfl) (Nat.le_of_ble_eq_true rfl) ⟨_, rfl, rfl, rfl, ok_some h⟩
  have h := (ok_ite h).2 e1
  by_cases e2 : v2 = 2
  · have h := (ok_ite h).1 e2
    refine p_tableIn (tgt := 72) dX1_beside_16 hr (by omega) (by omega) (by rw [e2]; try rfl) (by decide) ?_
    refine p_iload_n dX1_beside_72 rfl ?_
    refine p_aload_n dX1_beside_73 rfl ?_
    refine p_geti dX1_beside_74 fl_X1_9 (fun _ _ _ => rfl) (wc_X1 w0) ?_
    refine p_iconst dX1_beside_77 ?_
    refine p_isub dX1_beside_78 ?_
    refine q_icmp_ge (tgt := 88) dX1_beside_79 (by decide) h (fun h => ?_) (fun h => ?_)
    · refine p_iconst dX1_beside_88 ?_
      exact p_ireturn dX1_beside_89 (Nat.le_of_ble_eq_true rfl) (Nat.le_of_ble_eq_true rfl) ⟨_, rfl, rfl, rfl, ok_some h⟩
    · refine p_iload_n dX1_beside_82 rfl ?_
      refine p_iconst dX1_beside_83 ?_
      refine p_iadd dX1_beside_84 ?_
      refine p_goto (tgt := 89) dX1_beside_85 (by decide) ?_
      exact p_ireturn dX1_beside_89 (Nat.le_of_ble_eq_true rfl) (Nat.le_of_ble_eq_true rfl) ⟨_, rfl, rfl, rfl, ok_some h⟩
  have h := (ok_ite h).2 e2
  refine p_tableOut (tgt := 90) dX1_beside_16 hr (by omega) (by decide) ?_
  refine p_iload dX1_beside_90 rfl ?_
  refine p_aload_n dX1_beside_92 rfl ?_
  refine p_geti dX1_beside_93 fl_X1_15 (fun _ _ _ => rfl) (wc_X1 w0) ?_
  refine p_iconst dX1_beside_96 ?_
  refine p_isub dX1_beside_97 ?_
  refine q_icmp_ge (tgt := 110) dX1_beside_98 (by decide) h (fun h => ?_) (fun h => ?_)
  · refine p_iconst dX1_beside_110 ?_
    exact p_ireturn dX1_beside_111 (Nat.le_of_ble_eq_true rfl) (Nat.le_of_ble_eq_true rfl) ⟨_, rfl, rfl, rfl, ok_some h⟩
  · refine p_iload_n dX1_beside_101 rfl ?_
    refine p_aload_n dX1_beside_102 rfl ?_
    refine p_geti dX1_beside_103 fl_X1_9 (fun _ _ _ => rfl) (wc_X1 w0) ?_
    refine p_iadd dX1_beside_106 ?_
    refine p_goto (tgt := 111) dX1_beside_107 (by decide) ?_
    exact p_ireturn dX1_beside_111 (Nat.le_of_ble_eq_true rfl) (Nat.le_of_ble_eq_true rfl) ⟨_, rfl, rfl, rfl, ok_some h⟩
theorem s_X1_beside {l : Launch} {g : GH} (hG : G0 l g) {n : Nat} {h0 : Nat} {v1 : Int} {v2 : Int} (w0 : WX1 h0) {D : DT} {K : Int → Prop} (h : ok (m_X1_beside h0 v1 v2 D) K) : Sat l g yX1_beside cX1_beside 5 (some .int) 0 0 0 [vR g h0, vI v1, vI v2] (LF n) D (PIr n D K) := Sat.of hG (by decide) (Nat.le_of_ble_eq_true rfl) (by simp [Value.category]) (x_X1_beside hG w0 h)
abbrev E_X1_isLand (l : Launch) (g : GH) (P : PT) : ENV := mkE l g yX1_isLand cX1_isLand 2 (some .boolean) [] 0 0 0 P
set_option maxRecDepth 100000 in
set_option maxHeartbeats 4000000 in
theorem x_X1_isLand {l : Launch} {g : GH} (hG : G0 l g) {n : Nat} {h0 : Nat} {v1 : Int} (w0 : WX1 h0) {D : DT} {K : Int → Prop} (h : ok (m_X1_isLand h0 v1 D) K) : Px (E_X1_isLand l g (PIr n D K)) 0 [some (vR g h0), some (vI v1)] [] (LF n) D 0 0 := by
  refine p_aload_n dX1_isLand_0 rfl ?_
  refine p_getr dX1_isLand_1 fl_X1_24 (fun _ _ _ => rfl) (wc_X1 w0) (wf_X1_4 w0) ?_
  refine p_iload_n dX1_isLand_4 rfl ?_
  refine q_iald dX1_isLand_5 (wa_X1_4 w0) rfl h (fun h => ?_)
  refine p_iconst dX1_isLand_6 ?_
  refine q_icmp_eq (tgt := 23) dX1_isLand_7 (by decide) h (fun h => ?_) (fun h => ?_)
  · refine p_iconst dX1_isLand_23 ?_
    exact p_zreturn dX1_isLand_24 (Nat.le_of_ble_eq_true rfl) (Nat.le_of_ble_eq_true rfl) (Or.inl rfl) ⟨_, rfl, rfl, rfl, ok_some h⟩
  · refine p_aload_n dX1_isLand_10 rfl ?_
    refine p_getr dX1_isLand_11 fl_X1_28 (fun _ _ _ => rfl) (wc_X1 w0) (wf_X1_5 w0) ?_
    refine p_iload_n dX1_isLand_14 rfl ?_
    refine q_zald dX1_isLand_15 (wa_X1_5 w0) rfl h (fun h => ?_)
    refine q_if_ne (tgt := 23) dX1_isLand_16 (by decide) h (fun h => ?_) (fun h => ?_)
    · refine p_iconst dX1_isLand_23 ?_
      exact p_zreturn dX1_isLand_24 (Nat.le_of_ble_eq_true rfl) (Nat.le_of_ble_eq_true rfl) (Or.inl rfl) ⟨_, rfl, rfl, rfl, ok_some h⟩
    · refine p_iconst dX1_isLand_19 ?_
      refine p_goto (tgt := 24) dX1_isLand_20 (by decide) ?_
      exact p_zreturn dX1_isLand_24 (Nat.le_of_ble_eq_true rfl) (Nat.le_of_ble_eq_true rfl) (Or.inr rfl) ⟨_, rfl, rfl, rfl, ok_some h⟩
theorem s_X1_isLand {l : Launch} {g : GH} (hG : G0 l g) {n : Nat} {h0 : Nat} {v1 : Int} (w0 : WX1 h0) {D : DT} {K : Int → Prop} (h : ok (m_X1_isLand h0 v1 D) K) : Sat l g yX1_isLand cX1_isLand 2 (some .boolean) 0 0 0 [vR g h0, vI v1] (LF n) D (PIr n D K) := Sat.of hG (by decide) (Nat.le_of_ble_eq_true rfl) (by simp [Value.category]) (x_X1_isLand hG w0 h)
abbrev E_X1_isLandOf (l : Launch) (g : GH) (P : PT) : ENV := mkE l g yX1_isLandOf cX1_isLandOf 3 (some .boolean) [] 0 0 0 P
set_option maxRecDepth 100000 in
set_option maxHeartbeats 4000000 in
theorem x_X1_isLandOf {l : Launch} {g : GH} (hG : G0 l g) {n : Nat} {h0 : Nat} {v1 : Int} {v2 : Int} (w0 : WX1 h0) {D : DT} {K : Int → Prop} (h : ok (m_X1_isLandOf h0 v1 v2 D) K) : Px (E_X1_isLandOf l g (PIr n D K)) 0 [some (vR g h0), some (vI v1), some (vI v2)] [] (LF n) D 0 0 := by
  refine p_aload_n dX1_isLandOf_0 rfl ?_
  refine p_getr dX1_isLandOf_1 fl_X1_24 (fun _ _ _ => rfl) (wc_X1 w0) (wf_X1_4 w0) ?_
  refine p_iload_n dX1_isLandOf_4 rfl ?_
  refine q_iald dX1_isLandOf_5 (wa_X1_4 w0) rfl h (fun h => ?_)
  refine p_iload_n dX1_isLandOf_6 rfl ?_
  refine q_icmp_ne (tgt := 23) dX1_isLandOf_7 (by decide) h (fun h => ?_) (fun h => ?_)
  · refine p_iconst dX1_isLandOf_23 ?_
    exact p_zreturn dX1_isLandOf_24 (Nat.le_of_ble_eq_true rfl) (Nat.le_of_ble_eq_true rfl) (Or.inl rfl) ⟨_, rfl, rfl, rfl, ok_some h⟩
  · refine p_aload_n dX1_isLandOf_10 rfl ?_
    refine p_getr dX1_isLandOf_11 fl_X1_28 (fun _ _ _ => rfl) (wc_X1 w0) (wf_X1_5 w0) ?_
    refine p_iload_n dX1_isLandOf_14 rfl ?_
    refine q_zald dX1_isLandOf_15 (wa_X1_5 w0) rfl h (fun h => ?_)
    refine q_if_ne (tgt := 23) dX1_isLandOf_16 (by decide) h (fun h => ?_) (fun h => ?_)
    · refine p_iconst dX1_isLandOf_23 ?_
      exact p_zreturn dX1_isLandOf_24 (Nat.le_of_ble_eq_true rfl) (Nat.le_of_ble_eq_true rfl) (Or.inl rfl) ⟨_, rfl, rfl, rfl, ok_some h⟩
    · refine p_iconst dX1_isLandOf_19 ?_
      refine p_goto (tgt := 24) dX1_isLandOf_20 (by decide) ?_
      exact p_zreturn dX1_isLandOf_24 (Nat.le_of_ble_eq_true rfl) (Nat.le_of_ble_eq_true rfl) (Or.inr rfl) ⟨_, rfl, rfl, rfl, ok_some h⟩
theorem s_X1_isLandOf {l : Launch} {g : GH} (hG : G0 l g) {n : Nat} {h0 : Nat} {v1 : Int} {v2 : Int} (w0 : WX1 h0) {D : DT} {K : Int → Prop} (h : ok (m_X1_isLandOf h0 v1 v2 D) K) : Sat l g yX1_isLandOf cX1_isLandOf 3 (some .boolean) 0 0 0 [vR g h0, vI v1, vI v2] (LF n) D (PIr n D K) := Sat.of hG (by decide) (Nat.le_of_ble_eq_true rfl) (by simp [Value.category]) (x_X1_isLandOf hG w0 h)
abbrev E_X1_livingIn (l : Launch) (g : GH) (P : PT) : ENV := mkE l g yX1_livingIn cX1_livingIn 3 (some .int) [] 0 0 0 P
set_option maxRecDepth 100000 in
set_option maxHeartbeats 4000000 in
theorem x_X1_livingIn {l : Launch} {g : GH} (hG : G0 l g) {n : Nat} {h0 : Nat} {v1 : Int} {v2 : Int} (w0 : WX1 h0) {D : DT} {K : Int → Prop} (h : ok (m_X1_livingIn h0 v1 v2 D) K) : Px (E_X1_livingIn l g (PIr n D K)) 0 [some (vR g h0), some (vI v1), some (vI v2)] [] (LF n) D 0 0 := by
  refine p_aload_n dX1_livingIn_0 rfl ?_
  refine p_getr dX1_livingIn_1 fl_X1_38 (fun _ _ _ => rfl) (wc_X1 w0) (wf_X1_8 w0) ?_
  refine p_iload_n dX1_livingIn_4 rfl ?_
  refine p_iconst dX1_livingIn_5 ?_
  refine p_imul dX1_livingIn_6 ?_
  refine p_iload_n dX1_livingIn_7 rfl ?_
  refine p_iadd dX1_livingIn_8 ?_
  refine q_iald dX1_livingIn_9 (wa_X1_8 w0) rfl h (fun h => ?_)
  exact p_ireturn dX1_livingIn_10 (Nat.le_of_ble_eq_true rfl) (Nat.le_of_ble_eq_true rfl) ⟨_, rfl, rfl, rfl, ok_some h⟩
theorem s_X1_livingIn {l : Launch} {g : GH} (hG : G0 l g) {n : Nat} {h0 : Nat} {v1 : Int} {v2 : Int} (w0 : WX1 h0) {D : DT} {K : Int → Prop} (h : ok (m_X1_livingIn h0 v1 v2 D) K) : Sat l g yX1_livingIn cX1_livingIn 3 (some .int) 0 0 0 [vR g h0, vI v1, vI v2] (LF n) D (PIr n D K) := Sat.of hG (by decide) (Nat.le_of_ble_eq_true rfl) (by simp [Value.category]) (x_X1_livingIn hG w0 h)
abbrev E_X1_settle (l : Launch) (g : GH) (P : PT) : ENV := mkE l g yX1_settle cX1_settle 4 none [] 0 0 0 P
set_option maxRecDepth 100000 in
set_option maxHeartbeats 4000000 in
theorem x_X1_settle {l : Launch} {g : GH} (hG : G0 l g) {n : Nat} {h0 : Nat} {v1 : Int} {v2 : Int} {v3 : Int} (w0 : WX1 h0) {D : DT} {K : DT → Prop} (h : ok (m_X1_settle h0 v1 v2 v3 D) K) : Px (E_X1_settle l g (PVw n K)) 0 [some (vR g h0), some (vI v1), some (vI v2), some (vI v3)] [] (LF n) D 0 0 := by
  refine p_aload_n dX1_settle_0 rfl ?_
  refine p_getr dX1_settle_1 fl_X1_38 (fun _ _ _ => rfl) (wc_X1 w0) (wf_X1_8 w0) ?_
  refine p_iload_n dX1_settle_4 rfl ?_
  refine p_iconst dX1_settle_5 ?_
  refine p_imul dX1_settle_6 ?_
  refine p_iload_n dX1_settle_7 rfl ?_
  refine p_iadd dX1_settle_8 ?_
  refine p_iload_n dX1_settle_9 rfl ?_
  refine p_ldc (v := 99999) dX1_settle_10 cw_X1_54 ?_
  refine q_icmp_ge (tgt := 19) dX1_settle_12 (by decide) h (fun h => ?_) (fun h => ?_)
  · refine p_ldc (v := 99999) dX1_settle_19 cw_X1_54 ?_
    refine q_iast dX1_settle_21 (wa_X1_8 w0) rfl h (fun D21 h => ?_)
    exact p_return dX1_settle_22 (Nat.le_of_ble_eq_true rfl) (Nat.le_of_ble_eq_true rfl) ⟨rfl, rfl, ok_some h⟩
  · refine p_iload_n dX1_settle_15 rfl ?_
    refine p_goto (tgt := 21) dX1_settle_16 (by decide) ?_
    refine q_iast dX1_settle_21 (wa_X1_8 w0) rfl h (fun D21 h => ?_)
    exact p_return dX1_settle_22 (Nat.le_of_ble_eq_true rfl) (Nat.le_of_ble_eq_true rfl) ⟨rfl, rfl, ok_some h⟩
theorem s_X1_settle {l : Launch} {g : GH} (hG : G0 l g) {n : Nat} {h0 : Nat} {v1 : Int} {v2 : Int} {v3 : Int} (w0 : WX1 h0) {D : DT} {K : DT → Prop} (h : ok (m_X1_settle h0 v1 v2 v3 D) K) : Sat l g yX1_settle cX1_settle 4 none 0 0 0 [vR g h0, vI v1, vI v2, vI v3] (LF n) D (PVw n K) := Sat.of hG (by decide) (Nat.le_of_ble_eq_true rfl) (by simp [Value.category]) (x_X1_settle hG w0 h)
abbrev E_X1_cellsOf (l : Launch) (g : GH) (P : PT) : ENV := mkE l g yX1_cellsOf cX1_cellsOf 4 (some .int) [] 1 0 0 P
abbrev P_X1_cellsOf_4 (l : Launch) (g : GH) (n : Nat) (K : Int → Prop) (h0 : Nat) (v1 : Int) (D : DT) : (Int × Int) → Prop := fun s => Px (E_X1_cellsOf l g (PIr n D K)) 4 [some (vR g h0), some (vI v1), some (vI s.1), some (vI s.2)] [] (LF n) D 0 0
set_option maxRecDepth 100000 in
set_option maxHeartbeats 4000000 in
theorem x_X1_cellsOf_4 {l : Launch} {g : GH} (hG : G0 l g) {n : Nat} {h0 : Nat} {v1 : Int} (w0 : WX1 h0) {D : DT} {K : Int → Prop} {s : (Int × Int)} (h : ok (m_X1_cellsOf_4 h0 v1 D s) K) : Px (E_X1_cellsOf l g (PIr n D K)) 4 [some (vR g h0), some (vI v1), some (vI s.1), some (vI s.2)] [] (LF n) D 0 0 := by
  refine ok_loop (P := (P_X1_cellsOf_4 l g n K h0 v1 D)) (fun s h => ?_) h
  refine p_iload_n dX1_cellsOf_4 rfl ?_
  refine p_aload_n dX1_cellsOf_5 rfl ?_
  refine cV_Ir [] [vI s.2] dX1_cellsOf_6 yv_X1_cells ml_X1_55 (r := (RX1, TX1, 11)) rfl rfl (Nat.le_of_ble_eq_true rfl) rfl (Nat.le_of_ble_eq_true rfl) (Nat.le_of_ble_eq_true rfl) (Nat.le_of_ble_eq_true rfl) (wc_X1 w0) h (fun K h => s_X1_cells hG w0 h) (fun r6 h => ?_)
  refine q_icmp_ge (tgt := 36) dX1_cellsOf_9 (by decide) h (fun h => ?_) (fun h => ?_)
  · have h := kl_inr h
    refine p_iload_n dX1_cellsOf_36 rfl ?_
    exact p_ireturn dX1_cellsOf_37 (Nat.le_of_ble_eq_true rfl) (Nat.le_of_ble_eq_true rfl) ⟨_, rfl, rfl, rfl, ok_some h⟩
  · refine p_iload_n dX1_cellsOf_12 rfl ?_
    refine p_aload_n dX1_cellsOf_13 rfl ?_
    refine p_getr dX1_cellsOf_14 fl_X1_24 (fun _ _ _ => rfl) (wc_X1 w0) (wf_X1_4 w0) ?_
    refine p_iload_n dX1_cellsOf_17 rfl ?_
    refine q_iald dX1_cellsOf_18 (wa_X1_4 w0) rfl h (fun h => ?_)
    refine p_iload_n dX1_cellsOf_19 rfl ?_
    refine q_icmp_ne (tgt := 27) dX1_cellsOf_20 (by decide) h (fun h => ?_) (fun h => ?_)
    · refine p_iconst dX1_cellsOf_27 ?_
      refine p_iadd dX1_cellsOf_28 ?_
      refine p_istore_n dX1_cellsOf_29 (Nat.le_of_ble_eq_true rfl) rfl ?_
      refine p_iinc dX1_cellsOf_30 rfl (Nat.le_of_ble_eq_true rfl) rfl ?_
      refine p_goto (tgt := 4) dX1_cellsOf_33 (by decide) ?_
      exact p_weak (leL.same (leL.same (leL.same (leL.same leL.nil)))) (kl_inl (P := (P_X1_cellsOf_4 l g n K h0 v1 D)) h)
    · refine p_iconst dX1_cellsOf_23 ?_
      refine p_goto (tgt := 28) dX1_cellsOf_24 (by decide) ?_
      refine p_iadd dX1_cellsOf_28 ?_
      refine p_istore_n dX1_cellsOf_29 (Nat.le_of_ble_eq_true rfl) rfl ?_
      refine p_iinc dX1_cellsOf_30 rfl (Nat.le_of_ble_eq_true rfl) rfl ?_
      refine p_goto (tgt := 4) dX1_cellsOf_33 (by decide) ?_
      exact p_weak (leL.same (leL.same (leL.same (leL.same leL.nil)))) (kl_inl (P := (P_X1_cellsOf_4 l g n K h0 v1 D)) h)
set_option maxRecDepth 100000 in
set_option maxHeartbeats 4000000 in
theorem x_X1_cellsOf {l : Launch} {g : GH} (hG : G0 l g) {n : Nat} {h0 : Nat} {v1 : Int} (w0 : WX1 h0) {D : DT} {K : Int → Prop} (h : ok (m_X1_cellsOf h0 v1 D) K) : Px (E_X1_cellsOf l g (PIr n D K)) 0 [some (vR g h0), some (vI v1), none, none] [] (LF n) D 0 0 := by
  refine p_iconst dX1_cellsOf_0 ?_
  refine p_istore_n dX1_cellsOf_1 (Nat.le_of_ble_eq_true rfl) rfl ?_
  refine p_iconst dX1_cellsOf_2 ?_
  refine p_istore_n dX1_cellsOf_3 (Nat.le_of_ble_eq_true rfl) rfl ?_
  exact p_weak (leL.same (leL.same (leL.same (leL.same leL.nil)))) (x_X1_cellsOf_4 hG w0 h)
theorem s_X1_cellsOf {l : Launch} {g : GH} (hG : G0 l g) {n : Nat} {h0 : Nat} {v1 : Int} (w0 : WX1 h0) {D : DT} {K : Int → Prop} (h : ok (m_X1_cellsOf h0 v1 D) K) : Sat l g yX1_cellsOf cX1_cellsOf 4 (some .int) 1 0 0 [vR g h0, vI v1] (LF n) D (PIr n D K) := Sat.of hG (by decide) (Nat.le_of_ble_eq_true rfl) (by simp [Value.category]) (x_X1_cellsOf hG w0 h)
abbrev E_X1_landOf (l : Launch) (g : GH) (P : PT) : ENV := mkE l g yX1_landOf cX1_landOf 4 (some .int) [] 1 0 0 P
abbrev P_X1_landOf_4 (l : Launch) (g : GH) (n : Nat) (K : Int → Prop) (h0 : Nat) (v1 : Int) (D : DT) : (Int × Int) → Prop := fun s => Px (E_X1_landOf l g (PIr n D K)) 4 [some (vR g h0), some (vI v1), some (vI s.1), some (vI s.2)] [] (LF n) D 0 0
set_option maxRecDepth 100000 in
set_option maxHeartbeats 4000000 in
theorem x_X1_landOf_4 {l : Launch} {g : GH} (hG : G0 l g) {n : Nat} {h0 : Nat} {v1 : Int} (w0 : WX1 h0) {D : DT} {K : Int → Prop} {s : (Int × Int)} (h : ok (m_X1_landOf_4 h0 v1 D s) K) : Px (E_X1_landOf l g (PIr n D K)) 4 [some (vR g h0), some (vI v1), some (vI s.1), some (vI s.2)] [] (LF n) D 0 0 := by
  refine ok_loop (P := (P_X1_landOf_4 l g n K h0 v1 D)) (fun s h => ?_) h
  refine p_iload_n dX1_landOf_4 rfl ?_
  refine p_aload_n dX1_landOf_5 rfl ?_
  refine cV_Ir [] [vI s.2] dX1_landOf_6 yv_X1_cells ml_X1_55 (r := (RX1, TX1, 11)) rfl rfl (Nat.le_of_ble_eq_true rfl) rfl (Nat.le_of_ble_eq_true rfl) (Nat.le_of_ble_eq_true rfl) (Nat.le_of_ble_eq_true rfl) (wc_X1 w0) h (fun K h => s_X1_cells hG w0 h) (fun r6 h => ?_)
  refine q_icmp_ge (tgt := 35) dX1_landOf_9 (by decide) h (fun h => ?_) (fun h => ?_)
  · have h := kl_inr h
    refine p_iload_n dX1_landOf_35 rfl ?_
    exact p_ireturn dX1_landOf_36 (Nat.le_of_ble_eq_true rfl) (Nat.le_of_ble_eq_true rfl) ⟨_, rfl, rfl, rfl, ok_some h⟩
  · refine p_iload_n dX1_landOf_12 rfl ?_
    refine p_aload_n dX1_landOf_13 rfl ?_
    refine p_iload_n dX1_landOf_14 rfl ?_
    refine p_iload_n dX1_landOf_15 rfl ?_
    refine cV_Ir [vI s.2, vI v1] [vI s.1] dX1_landOf_16 yv_X1_isLandOf ml_X1_59 (r := (RX1, TX1, 11)) rfl rfl (Nat.le_of_ble_eq_true rfl) rfl (Nat.le_of_ble_eq_true rfl) (Nat.le_of_ble_eq_true rfl) (Nat.le_of_ble_eq_true rfl) (wc_X1 w0) h (fun K h => s_X1_isLandOf hG w0 h) (fun r16 h => ?_)
    refine q_if_eq (tgt := 26) dX1_landOf_19 (by decide) h (fun h => ?_) (fun h => ?_)
    · refine p_iconst dX1_landOf_26 ?_
      refine p_iadd dX1_landOf_27 ?_
      refine p_istore_n dX1_landOf_28 (Nat.le_of_ble_eq_true rfl) rfl ?_
      refine p_iinc dX1_landOf_29 rfl (Nat.le_of_ble_eq_true rfl) rfl ?_
      refine p_goto (tgt := 4) dX1_landOf_32 (by decide) ?_
      exact p_weak (leL.same (leL.same (leL.same (leL.same leL.nil)))) (kl_inl (P := (P_X1_landOf_4 l g n K h0 v1 D)) h)
    · refine p_iconst dX1_landOf_22 ?_
      refine p_goto (tgt := 27) dX1_landOf_23 (by decide) ?_
      refine p_iadd dX1_landOf_27 ?_
      refine p_istore_n dX1_landOf_28 (Nat.le_of_ble_eq_true rfl) rfl ?_
      refine p_iinc dX1_landOf_29 rfl (Nat.le_of_ble_eq_true rfl) rfl ?_
      refine p_goto (tgt := 4) dX1_landOf_32 (by decide) ?_
      exact p_weak (leL.same (leL.same (leL.same (leL.same leL.nil)))) (kl_inl (P := (P_X1_landOf_4 l g n K h0 v1 D)) h)
set_option maxRecDepth 100000 in
set_option maxHeartbeats 4000000 in
theorem x_X1_landOf {l : Launch} {g : GH} (hG : G0 l g) {n : Nat} {h0 : Nat} {v1 : Int} (w0 : WX1 h0) {D : DT} {K : Int → Prop} (h : ok (m_X1_landOf h0 v1 D) K) : Px (E_X1_landOf l g (PIr n D K)) 0 [some (vR g h0), some (vI v1), none, none] [] (LF n) D 0 0 := by
  refine p_iconst dX1_landOf_0 ?_
  refine p_istore_n dX1_landOf_1 (Nat.le_of_ble_eq_true rfl) rfl ?_
  refine p_iconst dX1_landOf_2 ?_
  refine p_istore_n dX1_landOf_3 (Nat.le_of_ble_eq_true rfl) rfl ?_
  exact p_weak (leL.same (leL.same (leL.same (leL.same leL.nil)))) (x_X1_landOf_4 hG w0 h)
theorem s_X1_landOf {l : Launch} {g : GH} (hG : G0 l g) {n : Nat} {h0 : Nat} {v1 : Int} (w0 : WX1 h0) {D : DT} {K : Int → Prop} (h : ok (m_X1_landOf h0 v1 D) K) : Sat l g yX1_landOf cX1_landOf 4 (some .int) 1 0 0 [vR g h0, vI v1] (LF n) D (PIr n D K) := Sat.of hG (by decide) (Nat.le_of_ble_eq_true rfl) (by simp [Value.category]) (x_X1_landOf hG w0 h)
abbrev E_X1_shoreOf (l : Launch) (g : GH) (P : PT) : ENV := mkE l g yX1_shoreOf cX1_shoreOf 6 (some .int) [] 1 0 0 P
abbrev P_X1_shoreOf_4 (l : Launch) (g : GH) (n : Nat) (K : Int → Prop) (h0 : Nat) (v1 : Int) (D : DT) : (Int × Int) → Prop := fun s => Px (E_X1_shoreOf l g (PIr n D K)) 4 [some (vR g h0), some (vI v1), some (vI s.1), some (vI s.2), none, none] [] (LF n) D 0 0
abbrev P_X1_shoreOf_15 (l : Launch) (g : GH) (n : Nat) (K : Int → Prop) (h0 : Nat) (v1 : Int) (v3 : Int) (D : DT) : (Int × Int) → Prop := fun s => Px (E_X1_shoreOf l g (PIr n D K)) 15 [some (vR g h0), some (vI v1), some (vI s.1), some (vI v3), some (vI s.2), none] [] (LF n) D 0 0
set_option maxRecDepth 100000 in
set_option maxHeartbeats 4000000 in
theorem x_X1_shoreOf_15 {l : Launch} {g : GH} (hG : G0 l g) {n : Nat} {h0 : Nat} {v1 v3 : Int} (w0 : WX1 h0) {D : DT} {K : Int → Prop} {s : (Int × Int)} (h : ok (m_X1_shoreOf_15 h0 v1 v3 D s) (KL (P_X1_shoreOf_4 l g n K h0 v1 D) K)) : Px (E_X1_shoreOf l g (PIr n D K)) 15 [some (vR g h0), some (vI v1), some (vI s.1), some (vI v3), some (vI s.2), none] [] (LF n) D 0 0 := by
  refine ok_loop (P := (P_X1_shoreOf_15 l g n K h0 v1 v3 D)) (fun s h => ?_) h
  refine p_iload dX1_shoreOf_15 rfl ?_
  refine p_iconst dX1_shoreOf_17 ?_
  refine q_icmp_ge (tgt := 69) dX1_shoreOf_18 (by decide) h (fun h => ?_) (fun h => ?_)
  · have h := kl_inr h
    refine p_iinc dX1_shoreOf_69 rfl (Nat.le_of_ble_eq_true rfl) rfl ?_
    refine p_goto (tgt := 4) dX1_shoreOf_72 (by decide) ?_
    exact p_weak (leL.same (leL.same (leL.same (leL.same (leL.drop (leL.drop leL.nil)))))) (kl_inl (P := (P_X1_shoreOf_4 l g n K h0 v1 D)) h)
  · refine p_aload_n dX1_shoreOf_21 rfl ?_
    refine p_iload_n dX1_shoreOf_22 rfl ?_
    refine p_iload_n dX1_shoreOf_23 rfl ?_
    refine cV_Ir [vI v3, vI v1] [] dX1_shoreOf_24 yv_X1_isLandOf ml_X1_59 (r := (RX1, TX1, 11)) rfl rfl (Nat.le_of_ble_eq_true rfl) rfl (Nat.le_of_ble_eq_true rfl) (Nat.le_of_ble_eq_true rfl) (Nat.le_of_ble_eq_true rfl) (wc_X1 w0) h (fun K h => s_X1_isLandOf hG w0 h) (fun r24 h => ?_)
    refine q_if_eq (tgt := 69) dX1_shoreOf_27 (by decide) h (fun h => ?_) (fun h => ?_)
    · have h := kl_inr h
      refine p_iinc dX1_shoreOf_69 rfl (Nat.le_of_ble_eq_true rfl) rfl ?_
      refine p_goto (tgt := 4) dX1_shoreOf_72 (by decide) ?_
      exact p_weak (leL.same (leL.same (leL.same (leL.same (leL.drop (leL.drop leL.nil)))))) (kl_inl (P := (P_X1_shoreOf_4 l g n K h0 v1 D)) h)
    · refine p_aload_n dX1_shoreOf_30 rfl ?_
      refine p_iload_n dX1_shoreOf_31 rfl ?_
      refine p_iload dX1_shoreOf_32 rfl ?_
      refine cV_Ir [vI v3, vI s.2] [] dX1_shoreOf_34 yv_X1_beside ml_X1_63 (r := (RX1, TX1, 11)) rfl rfl (Nat.le_of_ble_eq_true rfl) rfl (Nat.le_of_ble_eq_true rfl) (Nat.le_of_ble_eq_true rfl) (Nat.le_of_ble_eq_true rfl) (wc_X1 w0) h (fun K h => s_X1_beside hG w0 h) (fun r34 h => ?_)
      refine p_istore dX1_shoreOf_37 (Nat.le_of_ble_eq_true rfl) rfl ?_
      refine p_iload_n dX1_shoreOf_39 rfl ?_
      refine p_iload dX1_shoreOf_40 rfl ?_
      refine p_iconst dX1_shoreOf_42 ?_
      refine q_icmp_eq (tgt := 60) dX1_shoreOf_43 (by decide) h (fun h => ?_) (fun h => ?_)
      · refine p_iconst dX1_shoreOf_60 ?_
        refine p_iadd dX1_shoreOf_61 ?_
        refine p_istore_n dX1_shoreOf_62 (Nat.le_of_ble_eq_true rfl) rfl ?_
        refine p_iinc dX1_shoreOf_63 rfl (Nat.le_of_ble_eq_true rfl) rfl ?_
        refine p_goto (tgt := 15) dX1_shoreOf_66 (by decide) ?_
        exact p_weak (leL.same (leL.same (leL.same (leL.same (leL.same (leL.drop leL.nil)))))) (kl_inl (P := (P_X1_shoreOf_15 l g n K h0 v1 v3 D)) h)
      · refine p_aload_n dX1_shoreOf_46 rfl ?_
        refine p_getr dX1_shoreOf_47 fl_X1_28 (fun _ _ _ => rfl) (wc_X1 w0) (wf_X1_5 w0) ?_
        refine p_iload dX1_shoreOf_50 rfl ?_
        refine q_zald dX1_shoreOf_52 (wa_X1_5 w0) rfl h (fun h => ?_)
        refine q_if_eq (tgt := 60) dX1_shoreOf_53 (by decide) h (fun h => ?_) (fun h => ?_)
        · refine p_iconst dX1_shoreOf_60 ?_
          refine p_iadd dX1_shoreOf_61 ?_
          refine p_istore_n dX1_shoreOf_62 (Nat.le_of_ble_eq_true rfl) rfl ?_
          refine p_iinc dX1_shoreOf_63 rfl (Nat.le_of_ble_eq_true rfl) rfl ?_
          refine p_goto (tgt := 15) dX1_shoreOf_66 (by decide) ?_
          exact p_weak (leL.same (leL.same (leL.same (leL.same (leL.same (leL.drop leL.nil)))))) (kl_inl (P := (P_X1_shoreOf_15 l g n K h0 v1 v3 D)) h)
        · refine p_iconst dX1_shoreOf_56 ?_
          refine p_goto (tgt := 61) dX1_shoreOf_57 (by decide) ?_
          refine p_iadd dX1_shoreOf_61 ?_
          refine p_istore_n dX1_shoreOf_62 (Nat.le_of_ble_eq_true rfl) rfl ?_
          refine p_iinc dX1_shoreOf_63 rfl (Nat.le_of_ble_eq_true rfl) rfl ?_
          refine p_goto (tgt := 15) dX1_shoreOf_66 (by decide) ?_
          exact p_weak (leL.same (leL.same (leL.same (leL.same (leL.same (leL.drop leL.nil)))))) (kl_inl (P := (P_X1_shoreOf_15 l g n K h0 v1 v3 D)) h)
set_option maxRecDepth 100000 in
set_option maxHeartbeats 4000000 in
theorem x_X1_shoreOf_4 {l : Launch} {g : GH} (hG : G0 l g) {n : Nat} {h0 : Nat} {v1 : Int} (w0 : WX1 h0) {D : DT} {K : Int → Prop} {s : (Int × Int)} (h : ok (m_X1_shoreOf_4 h0 v1 D s) K) : Px (E_X1_shoreOf l g (PIr n D K)) 4 [some (vR g h0), some (vI v1), some (vI s.1), some (vI s.2), none, none] [] (LF n) D 0 0 := by
  refine ok_loop (P := (P_X1_shoreOf_4 l g n K h0 v1 D)) (fun s h => ?_) h
  refine p_iload_n dX1_shoreOf_4 rfl ?_
  refine p_aload_n dX1_shoreOf_5 rfl ?_
  refine cV_Ir [] [vI s.2] dX1_shoreOf_6 yv_X1_cells ml_X1_55 (r := (RX1, TX1, 11)) rfl rfl (Nat.le_of_ble_eq_true rfl) rfl (Nat.le_of_ble_eq_true rfl) (Nat.le_of_ble_eq_true rfl) (Nat.le_of_ble_eq_true rfl) (wc_X1 w0) h (fun K h => s_X1_cells hG w0 h) (fun r6 h => ?_)
  refine q_icmp_ge (tgt := 75) dX1_shoreOf_9 (by decide) h (fun h => ?_) (fun h => ?_)
  · have h := kl_inr h
    refine p_iload_n dX1_shoreOf_75 rfl ?_
    exact p_ireturn dX1_shoreOf_76 (Nat.le_of_ble_eq_true rfl) (Nat.le_of_ble_eq_true rfl) ⟨_, rfl, rfl, rfl, ok_some h⟩
  · refine p_iconst dX1_shoreOf_12 ?_
    refine p_istore dX1_shoreOf_13 (Nat.le_of_ble_eq_true rfl) rfl ?_
    exact p_weak (leL.same (leL.same (leL.same (leL.same (leL.same (leL.drop leL.nil)))))) (x_X1_shoreOf_15 hG w0 h)
set_option maxRecDepth 100000 in
set_option maxHeartbeats 4000000 in
theorem x_X1_shoreOf {l : Launch} {g : GH} (hG : G0 l g) {n : Nat} {h0 : Nat} {v1 : Int} (w0 : WX1 h0) {D : DT} {K : Int → Prop} (h : ok (m_X1_shoreOf h0 v1 D) K) : Px (E_X1_shoreOf l g (PIr n D K)) 0 [some (vR g h0), some (vI v1), none, none, none, none] [] (LF n) D 0 0 := by
  refine p_iconst dX1_shoreOf_0 ?_
  refine p_istore_n dX1_shoreOf_1 (Nat.le_of_ble_eq_true rfl) rfl ?_
  refine p_iconst dX1_shoreOf_2 ?_
  refine p_istore_n dX1_shoreOf_3 (Nat.le_of_ble_eq_true rfl) rfl ?_
  exact p_weak (leL.same (leL.same (leL.same (leL.same (leL.drop (leL.drop leL.nil)))))) (x_X1_shoreOf_4 hG w0 h)
theorem s_X1_shoreOf {l : Launch} {g : GH} (hG : G0 l g) {n : Nat} {h0 : Nat} {v1 : Int} (w0 : WX1 h0) {D : DT} {K : Int → Prop} (h : ok (m_X1_shoreOf h0 v1 D) K) : Sat l g yX1_shoreOf cX1_shoreOf 6 (some .int) 1 0 0 [vR g h0, vI v1] (LF n) D (PIr n D K) := Sat.of hG (by decide) (Nat.le_of_ble_eq_true rfl) (by simp [Value.category]) (x_X1_shoreOf hG w0 h)
abbrev E_X1_borderOf (l : Launch) (g : GH) (P : PT) : ENV := mkE l g yX1_borderOf cX1_borderOf 6 (some .int) [] 1 0 0 P
abbrev P_X1_borderOf_4 (l : Launch) (g : GH) (n : Nat) (K : Int → Prop) (h0 : Nat) (v1 : Int) (D : DT) : (Int × Int) → Prop := fun s => Px (E_X1_borderOf l g (PIr n D K)) 4 [some (vR g h0), some (vI v1), some (vI s.1), some (vI s.2), none, none] [] (LF n) D 0 0
abbrev P_X1_borderOf_15 (l : Launch) (g : GH) (n : Nat) (K : Int → Prop) (h0 : Nat) (v1 : Int) (v3 : Int) (D : DT) : (Int × Int) → Prop := fun s => Px (E_X1_borderOf l g (PIr n D K)) 15 [some (vR g h0), some (vI v1), some (vI s.1), some (vI v3), some (vI s.2), none] [] (LF n) D 0 0
set_option maxRecDepth 100000 in
set_option maxHeartbeats 4000000 in
theorem x_X1_borderOf_15 {l : Launch} {g : GH} (hG : G0 l g) {n : Nat} {h0 : Nat} {v1 v3 : Int} (w0 : WX1 h0) {D : DT} {K : Int → Prop} {s : (Int × Int)} (h : ok (m_X1_borderOf_15 h0 v1 v3 D s) (KL (P_X1_borderOf_4 l g n K h0 v1 D) K)) : Px (E_X1_borderOf l g (PIr n D K)) 15 [some (vR g h0), some (vI v1), some (vI s.1), some (vI v3), some (vI s.2), none] [] (LF n) D 0 0 := by
  refine ok_loop (P := (P_X1_borderOf_15 l g n K h0 v1 v3 D)) (fun s h => ?_) h
  refine p_iload dX1_borderOf_15 rfl ?_
  refine p_iconst dX1_borderOf_17 ?_
  refine q_icmp_ge (tgt := 79) dX1_borderOf_18 (by decide) h (fun h => ?_) (fun h => ?_)
  · have h := kl_inr h
    refine p_iinc dX1_borderOf_79 rfl (Nat.le_of_ble_eq_true rfl) rfl ?_
    refine p_goto (tgt := 4) dX1_borderOf_82 (by decide) ?_
    exact p_weak (leL.same (leL.same (leL.same (leL.same (leL.drop (leL.drop leL.nil)))))) (kl_inl (P := (P_X1_borderOf_4 l g n K h0 v1 D)) h)
  · refine p_aload_n dX1_borderOf_21 rfl ?_
    refine p_iload_n dX1_borderOf_22 rfl ?_
    refine p_iload_n dX1_borderOf_23 rfl ?_
    refine cV_Ir [vI v3, vI v1] [] dX1_borderOf_24 yv_X1_isLandOf ml_X1_59 (r := (RX1, TX1, 11)) rfl rfl (Nat.le_of_ble_eq_true rfl) rfl (Nat.le_of_ble_eq_true rfl) (Nat.le_of_ble_eq_true rfl) (Nat.le_of_ble_eq_true rfl) (wc_X1 w0) h (fun K h => s_X1_isLandOf hG w0 h) (fun r24 h => ?_)
    refine q_if_eq (tgt := 79) dX1_borderOf_27 (by decide) h (fun h => ?_) (fun h => ?_)
    · have h := kl_inr h
      refine p_iinc dX1_borderOf_79 rfl (Nat.le_of_ble_eq_true rfl) rfl ?_
      refine p_goto (tgt := 4) dX1_borderOf_82 (by decide) ?_
      exact p_weak (leL.same (leL.same (leL.same (leL.same (leL.drop (leL.drop leL.nil)))))) (kl_inl (P := (P_X1_borderOf_4 l g n K h0 v1 D)) h)
    · refine p_aload_n dX1_borderOf_30 rfl ?_
      refine p_iload_n dX1_borderOf_31 rfl ?_
      refine p_iload dX1_borderOf_32 rfl ?_
      refine cV_Ir [vI v3, vI s.2] [] dX1_borderOf_34 yv_X1_beside ml_X1_63 (r := (RX1, TX1, 11)) rfl rfl (Nat.le_of_ble_eq_true rfl) rfl (Nat.le_of_ble_eq_true rfl) (Nat.le_of_ble_eq_true rfl) (Nat.le_of_ble_eq_true rfl) (wc_X1 w0) h (fun K h => s_X1_beside hG w0 h) (fun r34 h => ?_)
      refine p_istore dX1_borderOf_37 (Nat.le_of_ble_eq_true rfl) rfl ?_
      refine p_iload_n dX1_borderOf_39 rfl ?_
      refine p_iload dX1_borderOf_40 rfl ?_
      refine p_iconst dX1_borderOf_42 ?_
      refine q_icmp_eq (tgt := 70) dX1_borderOf_43 (by decide) h (fun h => ?_) (fun h => ?_)
      · refine p_iconst dX1_borderOf_70 ?_
        refine p_iadd dX1_borderOf_71 ?_
        refine p_istore_n dX1_borderOf_72 (Nat.le_of_ble_eq_true rfl) rfl ?_
        refine p_iinc dX1_borderOf_73 rfl (Nat.le_of_ble_eq_true rfl) rfl ?_
        refine p_goto (tgt := 15) dX1_borderOf_76 (by decide) ?_
        exact p_weak (leL.same (leL.same (leL.same (leL.same (leL.same (leL.drop leL.nil)))))) (kl_inl (P := (P_X1_borderOf_15 l g n K h0 v1 v3 D)) h)
      · refine p_aload_n dX1_borderOf_46 rfl ?_
        refine p_iload dX1_borderOf_47 rfl ?_
        refine cV_Ir [vI r34] [vI s.1] dX1_borderOf_49 yv_X1_isLand ml_X1_67 (r := (RX1, TX1, 11)) rfl rfl (Nat.le_of_ble_eq_true rfl) rfl (Nat.le_of_ble_eq_true rfl) (Nat.le_of_ble_eq_true rfl) (Nat.le_of_ble_eq_true rfl) (wc_X1 w0) h (fun K h => s_X1_isLand hG w0 h) (fun r49 h => ?_)
        refine q_if_eq (tgt := 70) dX1_borderOf_52 (by decide) h (fun h => ?_) (fun h => ?_)
        · refine p_iconst dX1_borderOf_70 ?_
          refine p_iadd dX1_borderOf_71 ?_
          refine p_istore_n dX1_borderOf_72 (Nat.le_of_ble_eq_true rfl) rfl ?_
          refine p_iinc dX1_borderOf_73 rfl (Nat.le_of_ble_eq_true rfl) rfl ?_
          refine p_goto (tgt := 15) dX1_borderOf_76 (by decide) ?_
          exact p_weak (leL.same (leL.same (leL.same (leL.same (leL.same (leL.drop leL.nil)))))) (kl_inl (P := (P_X1_borderOf_15 l g n K h0 v1 v3 D)) h)
        · refine p_aload_n dX1_borderOf_55 rfl ?_
          refine p_getr dX1_borderOf_56 fl_X1_24 (fun _ _ _ => rfl) (wc_X1 w0) (wf_X1_4 w0) ?_
          refine p_iload dX1_borderOf_59 rfl ?_
          refine q_iald dX1_borderOf_61 (wa_X1_4 w0) rfl h (fun h => ?_)
          refine p_iload_n dX1_borderOf_62 rfl ?_
          refine q_icmp_eq (tgt := 70) dX1_borderOf_63 (by decide) h (fun h => ?_) (fun h => ?_)
          · refine p_iconst dX1_borderOf_70 ?_
            refine p_iadd dX1_borderOf_71 ?_
            refine p_istore_n dX1_borderOf_72 (Nat.le_of_ble_eq_true rfl) rfl ?_
            refine p_iinc dX1_borderOf_73 rfl (Nat.le_of_ble_eq_true rfl) rfl ?_
            refine p_goto (tgt := 15) dX1_borderOf_76 (by decide) ?_
            exact p_weak (leL.same (leL.same (leL.same (leL.same (leL.same (leL.drop leL.nil)))))) (kl_inl (P := (P_X1_borderOf_15 l g n K h0 v1 v3 D)) h)
          · refine p_iconst dX1_borderOf_66 ?_
            refine p_goto (tgt := 71) dX1_borderOf_67 (by decide) ?_
            refine p_iadd dX1_borderOf_71 ?_
            refine p_istore_n dX1_borderOf_72 (Nat.le_of_ble_eq_true rfl) rfl ?_
            refine p_iinc dX1_borderOf_73 rfl (Nat.le_of_ble_eq_true rfl) rfl ?_
            refine p_goto (tgt := 15) dX1_borderOf_76 (by decide) ?_
            exact p_weak (leL.same (leL.same (leL.same (leL.same (leL.same (leL.drop leL.nil)))))) (kl_inl (P := (P_X1_borderOf_15 l g n K h0 v1 v3 D)) h)
set_option maxRecDepth 100000 in
set_option maxHeartbeats 4000000 in
theorem x_X1_borderOf_4 {l : Launch} {g : GH} (hG : G0 l g) {n : Nat} {h0 : Nat} {v1 : Int} (w0 : WX1 h0) {D : DT} {K : Int → Prop} {s : (Int × Int)} (h : ok (m_X1_borderOf_4 h0 v1 D s) K) : Px (E_X1_borderOf l g (PIr n D K)) 4 [some (vR g h0), some (vI v1), some (vI s.1), some (vI s.2), none, none] [] (LF n) D 0 0 := by
  refine ok_loop (P := (P_X1_borderOf_4 l g n K h0 v1 D)) (fun s h => ?_) h
  refine p_iload_n dX1_borderOf_4 rfl ?_
  refine p_aload_n dX1_borderOf_5 rfl ?_
  refine cV_Ir [] [vI s.2] dX1_borderOf_6 yv_X1_cells ml_X1_55 (r := (RX1, TX1, 11)) rfl rfl (Nat.le_of_ble_eq_true rfl) rfl (Nat.le_of_ble_eq_true rfl) (Nat.le_of_ble_eq_true rfl) (Nat.le_of_ble_eq_true rfl) (wc_X1 w0) h (fun K h => s_X1_cells hG w0 h) (fun r6 h => ?_)
  refine q_icmp_ge (tgt := 85) dX1_borderOf_9 (by decide) h (fun h => ?_) (fun h => ?_)
  · have h := kl_inr h
    refine p_iload_n dX1_borderOf_85 rfl ?_
    exact p_ireturn dX1_borderOf_86 (Nat.le_of_ble_eq_true rfl) (Nat.le_of_ble_eq_true rfl) ⟨_, rfl, rfl, rfl, ok_some h⟩
  · refine p_iconst dX1_borderOf_12 ?_
    refine p_istore dX1_borderOf_13 (Nat.le_of_ble_eq_true rfl) rfl ?_
    exact p_weak (leL.same (leL.same (leL.same (leL.same (leL.same (leL.drop leL.nil)))))) (x_X1_borderOf_15 hG w0 h)
set_option maxRecDepth 100000 in
set_option maxHeartbeats 4000000 in
theorem x_X1_borderOf {l : Launch} {g : GH} (hG : G0 l g) {n : Nat} {h0 : Nat} {v1 : Int} (w0 : WX1 h0) {D : DT} {K : Int → Prop} (h : ok (m_X1_borderOf h0 v1 D) K) : Px (E_X1_borderOf l g (PIr n D K)) 0 [some (vR g h0), some (vI v1), none, none, none, none] [] (LF n) D 0 0 := by
  refine p_iconst dX1_borderOf_0 ?_
  refine p_istore_n dX1_borderOf_1 (Nat.le_of_ble_eq_true rfl) rfl ?_
  refine p_iconst dX1_borderOf_2 ?_
  refine p_istore_n dX1_borderOf_3 (Nat.le_of_ble_eq_true rfl) rfl ?_
  exact p_weak (leL.same (leL.same (leL.same (leL.same (leL.drop (leL.drop leL.nil)))))) (x_X1_borderOf_4 hG w0 h)
theorem s_X1_borderOf {l : Launch} {g : GH} (hG : G0 l g) {n : Nat} {h0 : Nat} {v1 : Int} (w0 : WX1 h0) {D : DT} {K : Int → Prop} (h : ok (m_X1_borderOf h0 v1 D) K) : Sat l g yX1_borderOf cX1_borderOf 6 (some .int) 1 0 0 [vR g h0, vI v1] (LF n) D (PIr n D K) := Sat.of hG (by decide) (Nat.le_of_ble_eq_true rfl) (by simp [Value.category]) (x_X1_borderOf hG w0 h)
abbrev E_X1_startsRun (l : Launch) (g : GH) (P : PT) : ENV := mkE l g yX1_startsRun cX1_startsRun 5 (some .boolean) [] 1 0 0 P
set_option maxRecDepth 100000 in
set_option maxHeartbeats 4000000 in
theorem x_X1_startsRun {l : Launch} {g : GH} (hG : G0 l g) {n : Nat} {h0 : Nat} {v1 : Int} {v2 : Int} {v3 : Int} (w0 : WX1 h0) {D : DT} {K : Int → Prop} (h : ok (m_X1_startsRun h0 v1 v2 v3 D) K) : Px (E_X1_startsRun l g (PIr n D K)) 0 [some (vR g h0), some (vI v1), some (vI v2), some (vI v3), none] [] (LF n) D 0 0 := by
  refine p_iload_n dX1_startsRun_0 rfl ?_
  refine p_aload_n dX1_startsRun_1 rfl ?_
  refine p_geti dX1_startsRun_2 fl_X1_9 (fun _ _ _ => rfl) (wc_X1 w0) ?_
  refine p_imul dX1_startsRun_5 ?_
  refine p_iload_n dX1_startsRun_6 rfl ?_
  refine p_iadd dX1_startsRun_7 ?_
  refine p_istore dX1_startsRun_8 (Nat.le_of_ble_eq_true rfl) rfl ?_
  refine p_aload_n dX1_startsRun_10 rfl ?_
  refine p_iload dX1_startsRun_11 rfl ?_
  refine p_iload_n dX1_startsRun_13 rfl ?_
  refine cV_Ir [vI ((v2 * (D.1 h0 0)) + v3), vI v1] [] dX1_startsRun_14 yv_X1_isLandOf ml_X1_59 (r := (RX1, TX1, 11)) rfl rfl (Nat.le_of_ble_eq_true rfl) rfl (Nat.le_of_ble_eq_true rfl) (Nat.le_of_ble_eq_true rfl) (Nat.le_of_ble_eq_true rfl) (wc_X1 w0) h (fun K h => s_X1_isLandOf hG w0 h) (fun r14 h => ?_)
  refine q_if_eq (tgt := 40) dX1_startsRun_17 (by decide) h (fun h => ?_) (fun h => ?_)
  · refine p_iconst dX1_startsRun_40 ?_
    exact p_zreturn dX1_startsRun_41 (Nat.le_of_ble_eq_true rfl) (Nat.le_of_ble_eq_true rfl) (Or.inl rfl) ⟨_, rfl, rfl, rfl, ok_some h⟩
  · refine p_iload_n dX1_startsRun_20 rfl ?_
    refine q_if_eq (tgt := 36) dX1_startsRun_21 (by decide) h (fun h => ?_) (fun h => ?_)
    · refine p_iconst dX1_startsRun_36 ?_
      refine p_goto (tgt := 41) dX1_startsRun_37 (by decide) ?_
      exact p_zreturn dX1_startsRun_41 (Nat.le_of_ble_eq_true rfl) (Nat.le_of_ble_eq_true rfl) (Or.inr rfl) ⟨_, rfl, rfl, rfl, ok_some h⟩
    · refine p_aload_n dX1_startsRun_24 rfl ?_
      refine p_iload dX1_startsRun_25 rfl ?_
      refine p_iconst dX1_startsRun_27 ?_
      refine p_isub dX1_startsRun_28 ?_
      refine p_iload_n dX1_startsRun_29 rfl ?_
      refine cV_Ir [vI (((v2 * (D.1 h0 0)) + v3) - 1), vI v1] [] dX1_startsRun_30 yv_X1_isLandOf ml_X1_59 (r := (RX1, TX1, 11)) rfl rfl (Nat.le_of_ble_eq_true rfl) rfl (Nat.le_of_ble_eq_true rfl) (Nat.le_of_ble_eq_true rfl) (Nat.le_of_ble_eq_true rfl) (wc_X1 w0) h (fun K h => s_X1_isLandOf hG w0 h) (fun r30 h => ?_)
      refine q_if_ne (tgt := 40) dX1_startsRun_33 (by decide) h (fun h => ?_) (fun h => ?_)
      · refine p_iconst dX1_startsRun_40 ?_
        exact p_zreturn dX1_startsRun_41 (Nat.le_of_ble_eq_true rfl) (Nat.le_of_ble_eq_true rfl) (Or.inl rfl) ⟨_, rfl, rfl, rfl, ok_some h⟩
      · refine p_iconst dX1_startsRun_36 ?_
        refine p_goto (tgt := 41) dX1_startsRun_37 (by decide) ?_
        exact p_zreturn dX1_startsRun_41 (Nat.le_of_ble_eq_true rfl) (Nat.le_of_ble_eq_true rfl) (Or.inr rfl) ⟨_, rfl, rfl, rfl, ok_some h⟩
theorem s_X1_startsRun {l : Launch} {g : GH} (hG : G0 l g) {n : Nat} {h0 : Nat} {v1 : Int} {v2 : Int} {v3 : Int} (w0 : WX1 h0) {D : DT} {K : Int → Prop} (h : ok (m_X1_startsRun h0 v1 v2 v3 D) K) : Sat l g yX1_startsRun cX1_startsRun 5 (some .boolean) 1 0 0 [vR g h0, vI v1, vI v2, vI v3] (LF n) D (PIr n D K) := Sat.of hG (by decide) (Nat.le_of_ble_eq_true rfl) (by simp [Value.category]) (x_X1_startsRun hG w0 h)
abbrev E_X1_runsOf (l : Launch) (g : GH) (P : PT) : ENV := mkE l g yX1_runsOf cX1_runsOf 5 (some .int) [] 2 0 0 P
abbrev P_X1_runsOf_5 (l : Launch) (g : GH) (n : Nat) (K : Int → Prop) (h0 : Nat) (v1 : Int) (v2 : Int) (D : DT) : (Int × Int) → Prop := fun s => Px (E_X1_runsOf l g (PIr n D K)) 5 [some (vR g h0), some (vI v1), some (vI v2), some (vI s.1), some (vI s.2)] [] (LF n) D 0 0
set_option maxRecDepth 100000 in
set_option maxHeartbeats 4000000 in
theorem x_X1_runsOf_5 {l : Launch} {g : GH} (hG : G0 l g) {n : Nat} {h0 : Nat} {v1 v2 : Int} (w0 : WX1 h0) {D : DT} {K : Int → Prop} {s : (Int × Int)} (h : ok (m_X1_runsOf_5 h0 v1 v2 D s) K) : Px (E_X1_runsOf l g (PIr n D K)) 5 [some (vR g h0), some (vI v1), some (vI v2), some (vI s.1), some (vI s.2)] [] (LF n) D 0 0 := by
  refine ok_loop (P := (P_X1_runsOf_5 l g n K h0 v1 v2 D)) (fun s h => ?_) h
  refine p_iload dX1_runsOf_5 rfl ?_
  refine p_aload_n dX1_runsOf_7 rfl ?_
  refine p_geti dX1_runsOf_8 fl_X1_9 (fun _ _ _ => rfl) (wc_X1 w0) ?_
  refine q_icmp_ge (tgt := 39) dX1_runsOf_11 (by decide) h (fun h => ?_) (fun h => ?_)
  · have h := kl_inr h
    refine p_iload_n dX1_runsOf_39 rfl ?_
    exact p_ireturn dX1_runsOf_40 (Nat.le_of_ble_eq_true rfl) (Nat.le_of_ble_eq_true rfl) ⟨_, rfl, rfl, rfl, ok_some h⟩
  · refine p_iload_n dX1_runsOf_14 rfl ?_
    refine p_aload_n dX1_runsOf_15 rfl ?_
    refine p_iload_n dX1_runsOf_16 rfl ?_
    refine p_iload_n dX1_runsOf_17 rfl ?_
    refine p_iload dX1_runsOf_18 rfl ?_
    refine cV_Ir [vI v1, vI v2, vI s.2] [vI s.1] dX1_runsOf_20 yv_X1_startsRun ml_X1_71 (r := (RX1, TX1, 11)) rfl rfl (Nat.le_of_ble_eq_true rfl) rfl (Nat.le_of_ble_eq_true rfl) (Nat.le_of_ble_eq_true rfl) (Nat.le_of_ble_eq_true rfl) (wc_X1 w0) h (fun K h => s_X1_startsRun hG w0 h) (fun r20 h => ?_)
    refine q_if_eq (tgt := 30) dX1_runsOf_23 (by decide) h (fun h => ?_) (fun h => ?_)
    · refine p_iconst dX1_runsOf_30 ?_
      refine p_iadd dX1_runsOf_31 ?_
      refine p_istore_n dX1_runsOf_32 (Nat.le_of_ble_eq_true rfl) rfl ?_
      refine p_iinc dX1_runsOf_33 rfl (Nat.le_of_ble_eq_true rfl) rfl ?_
      refine p_goto (tgt := 5) dX1_runsOf_36 (by decide) ?_
      exact p_weak (leL.same (leL.same (leL.same (leL.same (leL.same leL.nil))))) (kl_inl (P := (P_X1_runsOf_5 l g n K h0 v1 v2 D)) h)
    · refine p_iconst dX1_runsOf_26 ?_
      refine p_goto (tgt := 31) dX1_runsOf_27 (by decide) ?_
      refine p_iadd dX1_runsOf_31 ?_
      refine p_istore_n dX1_runsOf_32 (Nat.le_of_ble_eq_true rfl) rfl ?_
      refine p_iinc dX1_runsOf_33 rfl (Nat.le_of_ble_eq_true rfl) rfl ?_
      refine p_goto (tgt := 5) dX1_runsOf_36 (by decide) ?_
      exact p_weak (leL.same (leL.same (leL.same (leL.same (leL.same leL.nil))))) (kl_inl (P := (P_X1_runsOf_5 l g n K h0 v1 v2 D)) h)
set_option maxRecDepth 100000 in
set_option maxHeartbeats 4000000 in
theorem x_X1_runsOf {l : Launch} {g : GH} (hG : G0 l g) {n : Nat} {h0 : Nat} {v1 : Int} {v2 : Int} (w0 : WX1 h0) {D : DT} {K : Int → Prop} (h : ok (m_X1_runsOf h0 v1 v2 D) K) : Px (E_X1_runsOf l g (PIr n D K)) 0 [some (vR g h0), some (vI v1), some (vI v2), none, none] [] (LF n) D 0 0 := by
  refine p_iconst dX1_runsOf_0 ?_
  refine p_istore_n dX1_runsOf_1 (Nat.le_of_ble_eq_true rfl) rfl ?_
  refine p_iconst dX1_runsOf_2 ?_
  refine p_istore dX1_runsOf_3 (Nat.le_of_ble_eq_true rfl) rfl ?_
  exact p_weak (leL.same (leL.same (leL.same (leL.same (leL.same leL.nil))))) (x_X1_runsOf_5 hG w0 h)
theorem s_X1_runsOf {l : Launch} {g : GH} (hG : G0 l g) {n : Nat} {h0 : Nat} {v1 : Int} {v2 : Int} (w0 : WX1 h0) {D : DT} {K : Int → Prop} (h : ok (m_X1_runsOf h0 v1 v2 D) K) : Sat l g yX1_runsOf cX1_runsOf 5 (some .int) 2 0 0 [vR g h0, vI v1, vI v2] (LF n) D (PIr n D K) := Sat.of hG (by decide) (Nat.le_of_ble_eq_true rfl) (by simp [Value.category]) (x_X1_runsOf hG w0 h)
abbrev E_X1_allRunsOf (l : Launch) (g : GH) (P : PT) : ENV := mkE l g yX1_allRunsOf cX1_allRunsOf 4 (some .int) [] 3 0 0 P
abbrev P_X1_allRunsOf_4 (l : Launch) (g : GH) (n : Nat) (K : Int → Prop) (h0 : Nat) (v1 : Int) (D : DT) : (Int × Int) → Prop := fun s => Px (E_X1_allRunsOf l g (PIr n D K)) 4 [some (vR g h0), some (vI v1), some (vI s.1), some (vI s.2)] [] (LF n) D 0 0
set_option maxRecDepth 100000 in
set_option maxHeartbeats 4000000 in
theorem x_X1_allRunsOf_4 {l : Launch} {g : GH} (hG : G0 l g) {n : Nat} {h0 : Nat} {v1 : Int} (w0 : WX1 h0) {D : DT} {K : Int → Prop} {s : (Int × Int)} (h : ok (m_X1_allRunsOf_4 h0 v1 D s) K) : Px (E_X1_allRunsOf l g (PIr n D K)) 4 [some (vR g h0), some (vI v1), some (vI s.1), some (vI s.2)] [] (LF n) D 0 0 := by
  refine ok_loop (P := (P_X1_allRunsOf_4 l g n K h0 v1 D)) (fun s h => ?_) h
  refine p_iload_n dX1_allRunsOf_4 rfl ?_
  refine p_aload_n dX1_allRunsOf_5 rfl ?_
  refine p_geti dX1_allRunsOf_6 fl_X1_15 (fun _ _ _ => rfl) (wc_X1 w0) ?_
  refine q_icmp_ge (tgt := 27) dX1_allRunsOf_9 (by decide) h (fun h => ?_) (fun h => ?_)
  · have h := kl_inr h
    refine p_iload_n dX1_allRunsOf_27 rfl ?_
    exact p_ireturn dX1_allRunsOf_28 (Nat.le_of_ble_eq_true rfl) (Nat.le_of_ble_eq_true rfl) ⟨_, rfl, rfl, rfl, ok_some h⟩
  · refine p_iload_n dX1_allRunsOf_12 rfl ?_
    refine p_aload_n dX1_allRunsOf_13 rfl ?_
    refine p_iload_n dX1_allRunsOf_14 rfl ?_
    refine p_iload_n dX1_allRunsOf_15 rfl ?_
    refine cV_Ir [vI v1, vI s.2] [vI s.1] dX1_allRunsOf_16 yv_X1_runsOf ml_X1_75 (r := (RX1, TX1, 11)) rfl rfl (Nat.le_of_ble_eq_true rfl) rfl (Nat.le_of_ble_eq_true rfl) (Nat.le_of_ble_eq_true rfl) (Nat.le_of_ble_eq_true rfl) (wc_X1 w0) h (fun K h => s_X1_runsOf hG w0 h) (fun r16 h => ?_)
    refine p_iadd dX1_allRunsOf_19 ?_
    refine p_istore_n dX1_allRunsOf_20 (Nat.le_of_ble_eq_true rfl) rfl ?_
    refine p_iinc dX1_allRunsOf_21 rfl (Nat.le_of_ble_eq_true rfl) rfl ?_
    refine p_goto (tgt := 4) dX1_allRunsOf_24 (by decide) ?_
    exact p_weak (leL.same (leL.same (leL.same (leL.same leL.nil)))) (kl_inl (P := (P_X1_allRunsOf_4 l g n K h0 v1 D)) h)
set_option maxRecDepth 100000 in
set_option maxHeartbeats 4000000 in
theorem x_X1_allRunsOf {l : Launch} {g : GH} (hG : G0 l g) {n : Nat} {h0 : Nat} {v1 : Int} (w0 : WX1 h0) {D : DT} {K : Int → Prop} (h : ok (m_X1_allRunsOf h0 v1 D) K) : Px (E_X1_allRunsOf l g (PIr n D K)) 0 [some (vR g h0), some (vI v1), none, none] [] (LF n) D 0 0 := by
  refine p_iconst dX1_allRunsOf_0 ?_
  refine p_istore_n dX1_allRunsOf_1 (Nat.le_of_ble_eq_true rfl) rfl ?_
  refine p_iconst dX1_allRunsOf_2 ?_
  refine p_istore_n dX1_allRunsOf_3 (Nat.le_of_ble_eq_true rfl) rfl ?_
  exact p_weak (leL.same (leL.same (leL.same (leL.same leL.nil)))) (x_X1_allRunsOf_4 hG w0 h)
theorem s_X1_allRunsOf {l : Launch} {g : GH} (hG : G0 l g) {n : Nat} {h0 : Nat} {v1 : Int} (w0 : WX1 h0) {D : DT} {K : Int → Prop} (h : ok (m_X1_allRunsOf h0 v1 D) K) : Sat l g yX1_allRunsOf cX1_allRunsOf 4 (some .int) 3 0 0 [vR g h0, vI v1] (LF n) D (PIr n D K) := Sat.of hG (by decide) (Nat.le_of_ble_eq_true rfl) (by simp [Value.category]) (x_X1_allRunsOf hG w0 h)
abbrev E_X1_runEnd (l : Launch) (g : GH) (P : PT) : ENV := mkE l g yX1_runEnd cX1_runEnd 5 (some .int) [] 1 0 0 P
abbrev P_X1_runEnd_3 (l : Launch) (g : GH) (n : Nat) (K : Int → Prop) (h0 : Nat) (v1 : Int) (v2 : Int) (D : DT) : Int → Prop := fun s => Px (E_X1_runEnd l g (PIr n D K)) 3 [some (vR g h0), some (vI v1), some (vI v2), none, some (vI s)] [] (LF n) D 0 0
set_option maxRecDepth 100000 in
set_option maxHeartbeats 4000000 in
theorem x_X1_runEnd_3 {l : Launch} {g : GH} (hG : G0 l g) {n : Nat} {h0 : Nat} {v1 v2 : Int} (w0 : WX1 h0) {D : DT} {K : Int → Prop} {s : Int} (h : ok (m_X1_runEnd_3 h0 v1 v2 D s) K) : Px (E_X1_runEnd l g (PIr n D K)) 3 [some (vR g h0), some (vI v1), some (vI v2), none, some (vI s)] [] (LF n) D 0 0 := by
  refine ok_loop (P := (P_X1_runEnd_3 l g n K h0 v1 v2 D)) (fun s h => ?_) h
  refine p_iload dX1_runEnd_3 rfl ?_
  refine p_aload_n dX1_runEnd_5 rfl ?_
  refine p_geti dX1_runEnd_6 fl_X1_9 (fun _ _ _ => rfl) (wc_X1 w0) ?_
  refine p_iconst dX1_runEnd_9 ?_
  refine p_isub dX1_runEnd_10 ?_
  refine q_icmp_ge (tgt := 39) dX1_runEnd_11 (by decide) h (fun h => ?_) (fun h => ?_)
  · have h := kl_inr h
    refine p_iload dX1_runEnd_39 rfl ?_
    exact p_ireturn dX1_runEnd_41 (Nat.le_of_ble_eq_true rfl) (Nat.le_of_ble_eq_true rfl) ⟨_, rfl, rfl, rfl, ok_some h⟩
  · refine p_aload_n dX1_runEnd_14 rfl ?_
    refine p_iload_n dX1_runEnd_15 rfl ?_
    refine p_aload_n dX1_runEnd_16 rfl ?_
    refine p_geti dX1_runEnd_17 fl_X1_9 (fun _ _ _ => rfl) (wc_X1 w0) ?_
    refine p_imul dX1_runEnd_20 ?_
    refine p_iload dX1_runEnd_21 rfl ?_
    refine p_iadd dX1_runEnd_23 ?_
    refine p_iconst dX1_runEnd_24 ?_
    refine p_iadd dX1_runEnd_25 ?_
    refine p_iload_n dX1_runEnd_26 rfl ?_
    refine cV_Ir [vI (((v2 * (D.1 h0 0)) + s) + 1), vI v1] [] dX1_runEnd_27 yv_X1_isLandOf ml_X1_59 (r := (RX1, TX1, 11)) rfl rfl (Nat.le_of_ble_eq_true rfl) rfl (Nat.le_of_ble_eq_true rfl) (Nat.le_of_ble_eq_true rfl) (Nat.le_of_ble_eq_true rfl) (wc_X1 w0) h (fun K h => s_X1_isLandOf hG w0 h) (fun r27 h => ?_)
    refine q_if_eq (tgt := 39) dX1_runEnd_30 (by decide) h (fun h => ?_) (fun h => ?_)
    · have h := kl_inr h
      refine p_iload dX1_runEnd_39 rfl ?_
      exact p_ireturn dX1_runEnd_41 (Nat.le_of_ble_eq_true rfl) (Nat.le_of_ble_eq_true rfl) ⟨_, rfl, rfl, rfl, ok_some h⟩
    · refine p_iinc dX1_runEnd_33 rfl (Nat.le_of_ble_eq_true rfl) rfl ?_
      refine p_goto (tgt := 3) dX1_runEnd_36 (by decide) ?_
      exact p_weak (leL.same (leL.same (leL.same (leL.drop (leL.same leL.nil))))) (kl_inl (P := (P_X1_runEnd_3 l g n K h0 v1 v2 D)) h)
set_option maxRecDepth 100000 in
set_option maxHeartbeats 4000000 in
theorem x_X1_runEnd {l : Launch} {g : GH} (hG : G0 l g) {n : Nat} {h0 : Nat} {v1 : Int} {v2 : Int} {v3 : Int} (w0 : WX1 h0) {D : DT} {K : Int → Prop} (h : ok (m_X1_runEnd h0 v1 v2 v3 D) K) : Px (E_X1_runEnd l g (PIr n D K)) 0 [some (vR g h0), some (vI v1), some (vI v2), some (vI v3), none] [] (LF n) D 0 0 := by
  refine p_iload_n dX1_runEnd_0 rfl ?_
  refine p_istore dX1_runEnd_1 (Nat.le_of_ble_eq_true rfl) rfl ?_
  exact p_weak (leL.same (leL.same (leL.same (leL.drop (leL.same leL.nil))))) (x_X1_runEnd_3 hG w0 h)
theorem s_X1_runEnd {l : Launch} {g : GH} (hG : G0 l g) {n : Nat} {h0 : Nat} {v1 : Int} {v2 : Int} {v3 : Int} (w0 : WX1 h0) {D : DT} {K : Int → Prop} (h : ok (m_X1_runEnd h0 v1 v2 v3 D) K) : Sat l g yX1_runEnd cX1_runEnd 5 (some .int) 1 0 0 [vR g h0, vI v1, vI v2, vI v3] (LF n) D (PIr n D K) := Sat.of hG (by decide) (Nat.le_of_ble_eq_true rfl) (by simp [Value.category]) (x_X1_runEnd hG w0 h)
abbrev E_X1_runEdge (l : Launch) (g : GH) (P : PT) : ENV := mkE l g yX1_runEdge cX1_runEdge 7 (some .int) [] 2 0 0 P
abbrev P_X1_runEdge_6 (l : Launch) (g : GH) (n : Nat) (K : Int → Prop) (h0 : Nat) (v1 : Int) (v2 : Int) (v3 : Int) (v4 : Int) (D : DT) : (Int × Int) → Prop := fun s => Px (E_X1_runEdge l g (PIr n D K)) 6 [some (vR g h0), some (vI v1), some (vI v2), some (vI v3), some (vI v4), some (vI s.1), some (vI s.2)] [] (LF n) D 0 0
set_option maxRecDepth 100000 in
set_option maxHeartbeats 4000000 in
theorem x_X1_runEdge_6 {l : Launch} {g : GH} (hG : G0 l g) {n : Nat} {h0 : Nat} {v1 v2 v3 v4 : Int} (w0 : WX1 h0) {D : DT} {K : Int → Prop} {s : (Int × Int)} (h : ok (m_X1_runEdge_6 h0 v1 v2 v3 v4 D s) K) : Px (E_X1_runEdge l g (PIr n D K)) 6 [some (vR g h0), some (vI v1), some (vI v2), some (vI v3), some (vI v4), some (vI s.1), some (vI s.2)] [] (LF n) D 0 0 := by
  refine ok_loop (P := (P_X1_runEdge_6 l g n K h0 v1 v2 v3 v4 D)) (fun s h => ?_) h
  refine p_iload dX1_runEdge_6 rfl ?_
  refine p_aload_n dX1_runEdge_8 rfl ?_
  refine p_geti dX1_runEdge_9 fl_X1_9 (fun _ _ _ => rfl) (wc_X1 w0) ?_
  refine q_icmp_ge (tgt := 60) dX1_runEdge_12 (by decide) h (fun h => ?_) (fun h => ?_)
  · have h := kl_inr h
    refine p_iconst dX1_runEdge_60 ?_
    exact p_ireturn dX1_runEdge_61 (Nat.le_of_ble_eq_true rfl) (Nat.le_of_ble_eq_true rfl) ⟨_, rfl, rfl, rfl, ok_some h⟩
  · refine p_aload_n dX1_runEdge_15 rfl ?_
    refine p_iload_n dX1_runEdge_16 rfl ?_
    refine p_iload_n dX1_runEdge_17 rfl ?_
    refine p_iload dX1_runEdge_18 rfl ?_
    refine cV_Ir [vI v1, vI v2, vI s.2] [] dX1_runEdge_20 yv_X1_startsRun ml_X1_71 (r := (RX1, TX1, 11)) rfl rfl (Nat.le_of_ble_eq_true rfl) rfl (Nat.le_of_ble_eq_true rfl) (Nat.le_of_ble_eq_true rfl) (Nat.le_of_ble_eq_true rfl) (wc_X1 w0) h (fun K h => s_X1_startsRun hG w0 h) (fun r20 h => ?_)
    refine q_if_eq (tgt := 54) dX1_runEdge_23 (by decide) h (fun h => ?_) (fun h => ?_)
    · refine p_iinc dX1_runEdge_54 rfl (Nat.le_of_ble_eq_true rfl) rfl ?_
      refine p_goto (tgt := 6) dX1_runEdge_57 (by decide) ?_
      exact p_weak (leL.same (leL.same (leL.same (leL.same (leL.same (leL.same (leL.same leL.nil))))))) (kl_inl (P := (P_X1_runEdge_6 l g n K h0 v1 v2 v3 v4 D)) h)
    · refine p_iload dX1_runEdge_26 rfl ?_
      refine p_iload_n dX1_runEdge_28 rfl ?_
      refine q_icmp_ne (tgt := 51) dX1_runEdge_29 (by decide) h (fun h => ?_) (fun h => ?_)
      · refine p_iinc dX1_runEdge_51 rfl (Nat.le_of_ble_eq_true rfl) rfl ?_
        refine p_iinc dX1_runEdge_54 rfl (Nat.le_of_ble_eq_true rfl) rfl ?_
        refine p_goto (tgt := 6) dX1_runEdge_57 (by decide) ?_
        exact p_weak (leL.same (leL.same (leL.same (leL.same (leL.same (leL.same (leL.same leL.nil))))))) (kl_inl (P := (P_X1_runEdge_6 l g n K h0 v1 v2 v3 v4 D)) h)
      · have h := kl_inr h
        refine p_iload dX1_runEdge_32 rfl ?_
        refine q_if_eq (tgt := 48) dX1_runEdge_34 (by decide) h (fun h => ?_) (fun h => ?_)
        · refine p_iload dX1_runEdge_48 rfl ?_
          exact p_ireturn dX1_runEdge_50 (Nat.le_of_ble_eq_true rfl) (Nat.le_of_ble_eq_true rfl) ⟨_, rfl, rfl, rfl, ok_some h⟩
        · refine p_aload_n dX1_runEdge_37 rfl ?_
          refine p_iload_n dX1_runEdge_38 rfl ?_
          refine p_iload_n dX1_runEdge_39 rfl ?_
          refine p_iload dX1_runEdge_40 rfl ?_
          refine cV_Ir [vI v1, vI v2, vI s.2] [] dX1_runEdge_42 yv_X1_runEnd ml_X1_78 (r := (RX1, TX1, 11)) rfl rfl (Nat.le_of_ble_eq_true rfl) rfl (Nat.le_of_ble_eq_true rfl) (Nat.le_of_ble_eq_true rfl) (Nat.le_of_ble_eq_true rfl) (wc_X1 w0) h (fun K h => s_X1_runEnd hG w0 h) (fun r42 h => ?_)
          refine p_goto (tgt := 50) dX1_runEdge_45 (by decide) ?_
          exact p_ireturn dX1_runEdge_50 (Nat.le_of_ble_eq_true rfl) (Nat.le_of_ble_eq_true rfl) ⟨_, rfl, rfl, rfl, ok_some h⟩
set_option maxRecDepth 100000 in
set_option maxHeartbeats 4000000 in
theorem x_X1_runEdge {l : Launch} {g : GH} (hG : G0 l g) {n : Nat} {h0 : Nat} {v1 : Int} {v2 : Int} {v3 : Int} {v4 : Int} (w0 : WX1 h0) {D : DT} {K : Int → Prop} (h : ok (m_X1_runEdge h0 v1 v2 v3 v4 D) K) : Px (E_X1_runEdge l g (PIr n D K)) 0 [some (vR g h0), some (vI v1), some (vI v2), some (vI v3), some (vI v4), none, none] [] (LF n) D 0 0 := by
  refine p_iconst dX1_runEdge_0 ?_
  refine p_istore dX1_runEdge_1 (Nat.le_of_ble_eq_true rfl) rfl ?_
  refine p_iconst dX1_runEdge_3 ?_
  refine p_istore dX1_runEdge_4 (Nat.le_of_ble_eq_true rfl) rfl ?_
  exact p_weak (leL.same (leL.same (leL.same (leL.same (leL.same (leL.same (leL.same leL.nil))))))) (x_X1_runEdge_6 hG w0 h)
theorem s_X1_runEdge {l : Launch} {g : GH} (hG : G0 l g) {n : Nat} {h0 : Nat} {v1 : Int} {v2 : Int} {v3 : Int} {v4 : Int} (w0 : WX1 h0) {D : DT} {K : Int → Prop} (h : ok (m_X1_runEdge h0 v1 v2 v3 v4 D) K) : Sat l g yX1_runEdge cX1_runEdge 7 (some .int) 2 0 0 [vR g h0, vI v1, vI v2, vI v3, vI v4] (LF n) D (PIr n D K) := Sat.of hG (by decide) (Nat.le_of_ble_eq_true rfl) (by simp [Value.category]) (x_X1_runEdge hG w0 h)
abbrev E_X1_seaCells (l : Launch) (g : GH) (P : PT) : ENV := mkE l g yX1_seaCells cX1_seaCells 3 (some .int) [] 1 0 0 P
abbrev P_X1_seaCells_4 (l : Launch) (g : GH) (n : Nat) (K : Int → Prop) (h0 : Nat) (D : DT) : (Int × Int) → Prop := fun s => Px (E_X1_seaCells l g (PIr n D K)) 4 [some (vR g h0), some (vI s.1), some (vI s.2)] [] (LF n) D 0 0
set_option maxRecDepth 100000 in
set_option maxHeartbeats 4000000 in
theorem x_X1_seaCells_4 {l : Launch} {g : GH} (hG : G0 l g) {n : Nat} {h0 : Nat} (w0 : WX1 h0) {D : DT} {K : Int → Prop} {s : (Int × Int)} (h : ok (m_X1_seaCells_4 h0 D s) K) : Px (E_X1_seaCells l g (PIr n D K)) 4 [some (vR g h0), some (vI s.1), some (vI s.2)] [] (LF n) D 0 0 := by
  refine ok_loop (P := (P_X1_seaCells_4 l g n K h0 D)) (fun s h => ?_) h
  refine p_iload_n dX1_seaCells_4 rfl ?_
  refine p_aload_n dX1_seaCells_5 rfl ?_
  refine cV_Ir [] [vI s.2] dX1_seaCells_6 yv_X1_cells ml_X1_55 (r := (RX1, TX1, 11)) rfl rfl (Nat.le_of_ble_eq_true rfl) rfl (Nat.le_of_ble_eq_true rfl) (Nat.le_of_ble_eq_true rfl) (Nat.le_of_ble_eq_true rfl) (wc_X1 w0) h (fun K h => s_X1_cells hG w0 h) (fun r6 h => ?_)
  refine q_icmp_ge (tgt := 35) dX1_seaCells_9 (by decide) h (fun h => ?_) (fun h => ?_)
  · have h := kl_inr h
    refine p_iload_n dX1_seaCells_35 rfl ?_
    exact p_ireturn dX1_seaCells_36 (Nat.le_of_ble_eq_true rfl) (Nat.le_of_ble_eq_true rfl) ⟨_, rfl, rfl, rfl, ok_some h⟩
  · refine p_iload_n dX1_seaCells_12 rfl ?_
    refine p_aload_n dX1_seaCells_13 rfl ?_
    refine p_getr dX1_seaCells_14 fl_X1_28 (fun _ _ _ => rfl) (wc_X1 w0) (wf_X1_5 w0) ?_
    refine p_iload_n dX1_seaCells_17 rfl ?_
    refine q_zald dX1_seaCells_18 (wa_X1_5 w0) rfl h (fun h => ?_)
    refine q_if_eq (tgt := 26) dX1_seaCells_19 (by decide) h (fun h => ?_) (fun h => ?_)
    · refine p_iconst dX1_seaCells_26 ?_
      refine p_iadd dX1_seaCells_27 ?_
      refine p_istore_n dX1_seaCells_28 (Nat.le_of_ble_eq_true rfl) rfl ?_
      refine p_iinc dX1_seaCells_29 rfl (Nat.le_of_ble_eq_true rfl) rfl ?_
      refine p_goto (tgt := 4) dX1_seaCells_32 (by decide) ?_
      exact p_weak (leL.same (leL.same (leL.same leL.nil))) (kl_inl (P := (P_X1_seaCells_4 l g n K h0 D)) h)
    · refine p_iconst dX1_seaCells_22 ?_
      refine p_goto (tgt := 27) dX1_seaCells_23 (by decide) ?_
      refine p_iadd dX1_seaCells_27 ?_
      refine p_istore_n dX1_seaCells_28 (Nat.le_of_ble_eq_true rfl) rfl ?_
      refine p_iinc dX1_seaCells_29 rfl (Nat.le_of_ble_eq_true rfl) rfl ?_
      refine p_goto (tgt := 4) dX1_seaCells_32 (by decide) ?_
      exact p_weak (leL.same (leL.same (leL.same leL.nil))) (kl_inl (P := (P_X1_seaCells_4 l g n K h0 D)) h)
set_option maxRecDepth 100000 in
set_option maxHeartbeats 4000000 in
theorem x_X1_seaCells {l : Launch} {g : GH} (hG : G0 l g) {n : Nat} {h0 : Nat} (w0 : WX1 h0) {D : DT} {K : Int → Prop} (h : ok (m_X1_seaCells h0 D) K) : Px (E_X1_seaCells l g (PIr n D K)) 0 [some (vR g h0), none, none] [] (LF n) D 0 0 := by
  refine p_iconst dX1_seaCells_0 ?_
  refine p_istore_n dX1_seaCells_1 (Nat.le_of_ble_eq_true rfl) rfl ?_
  refine p_iconst dX1_seaCells_2 ?_
  refine p_istore_n dX1_seaCells_3 (Nat.le_of_ble_eq_true rfl) rfl ?_
  exact p_weak (leL.same (leL.same (leL.same leL.nil))) (x_X1_seaCells_4 hG w0 h)
theorem s_X1_seaCells {l : Launch} {g : GH} (hG : G0 l g) {n : Nat} {h0 : Nat} (w0 : WX1 h0) {D : DT} {K : Int → Prop} (h : ok (m_X1_seaCells h0 D) K) : Sat l g yX1_seaCells cX1_seaCells 3 (some .int) 1 0 0 [vR g h0] (LF n) D (PIr n D K) := Sat.of hG (by decide) (Nat.le_of_ble_eq_true rfl) (by simp [Value.category]) (x_X1_seaCells hG w0 h)
abbrev E_X1_landCells (l : Launch) (g : GH) (P : PT) : ENV := mkE l g yX1_landCells cX1_landCells 3 (some .int) [] 1 0 0 P
abbrev P_X1_landCells_4 (l : Launch) (g : GH) (n : Nat) (K : Int → Prop) (h0 : Nat) (D : DT) : (Int × Int) → Prop := fun s => Px (E_X1_landCells l g (PIr n D K)) 4 [some (vR g h0), some (vI s.1), some (vI s.2)] [] (LF n) D 0 0
set_option maxRecDepth 100000 in
set_option maxHeartbeats 4000000 in
theorem x_X1_landCells_4 {l : Launch} {g : GH} (hG : G0 l g) {n : Nat} {h0 : Nat} (w0 : WX1 h0) {D : DT} {K : Int → Prop} {s : (Int × Int)} (h : ok (m_X1_landCells_4 h0 D s) K) : Px (E_X1_landCells l g (PIr n D K)) 4 [some (vR g h0), some (vI s.1), some (vI s.2)] [] (LF n) D 0 0 := by
  refine ok_loop (P := (P_X1_landCells_4 l g n K h0 D)) (fun s h => ?_) h
  refine p_iload_n dX1_landCells_4 rfl ?_
  refine p_aload_n dX1_landCells_5 rfl ?_
  refine cV_Ir [] [vI s.2] dX1_landCells_6 yv_X1_cells ml_X1_55 (r := (RX1, TX1, 11)) rfl rfl (Nat.le_of_ble_eq_true rfl) rfl (Nat.le_of_ble_eq_true rfl) (Nat.le_of_ble_eq_true rfl) (Nat.le_of_ble_eq_true rfl) (wc_X1 w0) h (fun K h => s_X1_cells hG w0 h) (fun r6 h => ?_)
  refine q_icmp_ge (tgt := 34) dX1_landCells_9 (by decide) h (fun h => ?_) (fun h => ?_)
  · have h := kl_inr h
    refine p_iload_n dX1_landCells_34 rfl ?_
    exact p_ireturn dX1_landCells_35 (Nat.le_of_ble_eq_true rfl) (Nat.le_of_ble_eq_true rfl) ⟨_, rfl, rfl, rfl, ok_some h⟩
  · refine p_iload_n dX1_landCells_12 rfl ?_
    refine p_aload_n dX1_landCells_13 rfl ?_
    refine p_iload_n dX1_landCells_14 rfl ?_
    refine cV_Ir [vI s.2] [vI s.1] dX1_landCells_15 yv_X1_isLand ml_X1_67 (r := (RX1, TX1, 11)) rfl rfl (Nat.le_of_ble_eq_true rfl) rfl (Nat.le_of_ble_eq_true rfl) (Nat.le_of_ble_eq_true rfl) (Nat.le_of_ble_eq_true rfl) (wc_X1 w0) h (fun K h => s_X1_isLand hG w0 h) (fun r15 h => ?_)
    refine q_if_eq (tgt := 25) dX1_landCells_18 (by decide) h (fun h => ?_) (fun h => ?_)
    · refine p_iconst dX1_landCells_25 ?_
      refine p_iadd dX1_landCells_26 ?_
      refine p_istore_n dX1_landCells_27 (Nat.le_of_ble_eq_true rfl) rfl ?_
      refine p_iinc dX1_landCells_28 rfl (Nat.le_of_ble_eq_true rfl) rfl ?_
      refine p_goto (tgt := 4) dX1_landCells_31 (by decide) ?_
      exact p_weak (leL.same (leL.same (leL.same leL.nil))) (kl_inl (P := (P_X1_landCells_4 l g n K h0 D)) h)
    · refine p_iconst dX1_landCells_21 ?_
      refine p_goto (tgt := 26) dX1_landCells_22 (by decide) ?_
      refine p_iadd dX1_landCells_26 ?_
      refine p_istore_n dX1_landCells_27 (Nat.le_of_ble_eq_true rfl) rfl ?_
      refine p_iinc dX1_landCells_28 rfl (Nat.le_of_ble_eq_true rfl) rfl ?_
      refine p_goto (tgt := 4) dX1_landCells_31 (by decide) ?_
      exact p_weak (leL.same (leL.same (leL.same leL.nil))) (kl_inl (P := (P_X1_landCells_4 l g n K h0 D)) h)
set_option maxRecDepth 100000 in
set_option maxHeartbeats 4000000 in
theorem x_X1_landCells {l : Launch} {g : GH} (hG : G0 l g) {n : Nat} {h0 : Nat} (w0 : WX1 h0) {D : DT} {K : Int → Prop} (h : ok (m_X1_landCells h0 D) K) : Px (E_X1_landCells l g (PIr n D K)) 0 [some (vR g h0), none, none] [] (LF n) D 0 0 := by
  refine p_iconst dX1_landCells_0 ?_
  refine p_istore_n dX1_landCells_1 (Nat.le_of_ble_eq_true rfl) rfl ?_
  refine p_iconst dX1_landCells_2 ?_
  refine p_istore_n dX1_landCells_3 (Nat.le_of_ble_eq_true rfl) rfl ?_
  exact p_weak (leL.same (leL.same (leL.same leL.nil))) (x_X1_landCells_4 hG w0 h)
theorem s_X1_landCells {l : Launch} {g : GH} (hG : G0 l g) {n : Nat} {h0 : Nat} (w0 : WX1 h0) {D : DT} {K : Int → Prop} (h : ok (m_X1_landCells h0 D) K) : Sat l g yX1_landCells cX1_landCells 3 (some .int) 1 0 0 [vR g h0] (LF n) D (PIr n D K) := Sat.of hG (by decide) (Nat.le_of_ble_eq_true rfl) (by simp [Value.category]) (x_X1_landCells hG w0 h)
abbrev E_X1_freeCells (l : Launch) (g : GH) (P : PT) : ENV := mkE l g yX1_freeCells cX1_freeCells 1 (some .int) [] 2 0 0 P
set_option maxRecDepth 100000 in
set_option maxHeartbeats 4000000 in
theorem x_X1_freeCells {l : Launch} {g : GH} (hG : G0 l g) {n : Nat} {h0 : Nat} (w0 : WX1 h0) {D : DT} {K : Int → Prop} (h : ok (m_X1_freeCells h0 D) K) : Px (E_X1_freeCells l g (PIr n D K)) 0 [some (vR g h0)] [] (LF n) D 0 0 := by
  refine p_aload_n dX1_freeCells_0 rfl ?_
  refine cV_Ir [] [] dX1_freeCells_1 yv_X1_cells ml_X1_55 (r := (RX1, TX1, 11)) rfl rfl (Nat.le_of_ble_eq_true rfl) rfl (Nat.le_of_ble_eq_true rfl) (Nat.le_of_ble_eq_true rfl) (Nat.le_of_ble_eq_true rfl) (wc_X1 w0) h (fun K h => s_X1_cells hG w0 h) (fun r1 h => ?_)
  refine p_aload_n dX1_freeCells_4 rfl ?_
  refine cV_Ir [] [vI r1] dX1_freeCells_5 yv_X1_seaCells ml_X1_82 (r := (RX1, TX1, 11)) rfl rfl (Nat.le_of_ble_eq_true rfl) rfl (Nat.le_of_ble_eq_true rfl) (Nat.le_of_ble_eq_true rfl) (Nat.le_of_ble_eq_true rfl) (wc_X1 w0) h (fun K h => s_X1_seaCells hG w0 h) (fun r5 h => ?_)
  refine p_isub dX1_freeCells_8 ?_
  refine p_aload_n dX1_freeCells_9 rfl ?_
  refine cV_Ir [] [vI (r1 - r5)] dX1_freeCells_10 yv_X1_landCells ml_X1_85 (r := (RX1, TX1, 11)) rfl rfl (Nat.le_of_ble_eq_true rfl) rfl (Nat.le_of_ble_eq_true rfl) (Nat.le_of_ble_eq_true rfl) (Nat.le_of_ble_eq_true rfl) (wc_X1 w0) h (fun K h => s_X1_landCells hG w0 h) (fun r10 h => ?_)
  refine p_isub dX1_freeCells_13 ?_
  exact p_ireturn dX1_freeCells_14 (Nat.le_of_ble_eq_true rfl) (Nat.le_of_ble_eq_true rfl) ⟨_, rfl, rfl, rfl, ok_some h⟩
theorem s_X1_freeCells {l : Launch} {g : GH} (hG : G0 l g) {n : Nat} {h0 : Nat} (w0 : WX1 h0) {D : DT} {K : Int → Prop} (h : ok (m_X1_freeCells h0 D) K) : Sat l g yX1_freeCells cX1_freeCells 1 (some .int) 2 0 0 [vR g h0] (LF n) D (PIr n D K) := Sat.of hG (by decide) (Nat.le_of_ble_eq_true rfl) (by simp [Value.category]) (x_X1_freeCells hG w0 h)
abbrev E_X1_everybody (l : Launch) (g : GH) (P : PT) : ENV := mkE l g yX1_everybody cX1_everybody 4 (some .int) [] 1 0 0 P
abbrev P_X1_everybody_4 (l : Launch) (g : GH) (n : Nat) (K : Int → Prop) (h0 : Nat) (D : DT) : (Int × Int) → Prop := fun s => Px (E_X1_everybody l g (PIr n D K)) 4 [some (vR g h0), some (vI s.1), some (vI s.2), none] [] (LF n) D 0 0
abbrev P_X1_everybody_14 (l : Launch) (g : GH) (n : Nat) (K : Int → Prop) (h0 : Nat) (v2 : Int) (D : DT) : (Int × Int) → Prop := fun s => Px (E_X1_everybody l g (PIr n D K)) 14 [some (vR g h0), some (vI s.1), some (vI v2), some (vI s.2)] [] (LF n) D 0 0
set_option maxRecDepth 100000 in
set_option maxHeartbeats 4000000 in
theorem x_X1_everybody_14 {l : Launch} {g : GH} (hG : G0 l g) {n : Nat} {h0 : Nat} {v2 : Int} (w0 : WX1 h0) {D : DT} {K : Int → Prop} {s : (Int × Int)} (h : ok (m_X1_everybody_14 h0 v2 D s) (KL (P_X1_everybody_4 l g n K h0 D) K)) : Px (E_X1_everybody l g (PIr n D K)) 14 [some (vR g h0), some (vI s.1), some (vI v2), some (vI s.2)] [] (LF n) D 0 0 := by
  refine ok_loop (P := (P_X1_everybody_14 l g n K h0 v2 D)) (fun s h => ?_) h
  refine p_iload_n dX1_everybody_14 rfl ?_
  refine p_aload_n dX1_everybody_15 rfl ?_
  refine p_geti dX1_everybody_16 fl_X1_21 (fun _ _ _ => rfl) (wc_X1 w0) ?_
  refine q_icmp_ge (tgt := 37) dX1_everybody_19 (by decide) h (fun h => ?_) (fun h => ?_)
  · have h := kl_inr h
    refine p_iinc dX1_everybody_37 rfl (Nat.le_of_ble_eq_true rfl) rfl ?_
    refine p_goto (tgt := 4) dX1_everybody_40 (by decide) ?_
    exact p_weak (leL.same (leL.same (leL.same (leL.drop leL.nil)))) (kl_inl (P := (P_X1_everybody_4 l g n K h0 D)) h)
  · refine p_iload_n dX1_everybody_22 rfl ?_
    refine p_aload_n dX1_everybody_23 rfl ?_
    refine p_iload_n dX1_everybody_24 rfl ?_
    refine p_iload_n dX1_everybody_25 rfl ?_
    refine cV_Ir [vI v2, vI s.2] [vI s.1] dX1_everybody_26 yv_X1_livingIn ml_X1_88 (r := (RX1, TX1, 11)) rfl rfl (Nat.le_of_ble_eq_true rfl) rfl (Nat.le_of_ble_eq_true rfl) (Nat.le_of_ble_eq_true rfl) (Nat.le_of_ble_eq_true rfl) (wc_X1 w0) h (fun K h => s_X1_livingIn hG w0 h) (fun r26 h => ?_)
    refine p_iadd dX1_everybody_29 ?_
    refine p_istore_n dX1_everybody_30 (Nat.le_of_ble_eq_true rfl) rfl ?_
    refine p_iinc dX1_everybody_31 rfl (Nat.le_of_ble_eq_true rfl) rfl ?_
    refine p_goto (tgt := 14) dX1_everybody_34 (by decide) ?_
    exact p_weak (leL.same (leL.same (leL.same (leL.same leL.nil)))) (kl_inl (P := (P_X1_everybody_14 l g n K h0 v2 D)) h)
set_option maxRecDepth 100000 in
set_option maxHeartbeats 4000000 in
theorem x_X1_everybody_4 {l : Launch} {g : GH} (hG : G0 l g) {n : Nat} {h0 : Nat} (w0 : WX1 h0) {D : DT} {K : Int → Prop} {s : (Int × Int)} (h : ok (m_X1_everybody_4 h0 D s) K) : Px (E_X1_everybody l g (PIr n D K)) 4 [some (vR g h0), some (vI s.1), some (vI s.2), none] [] (LF n) D 0 0 := by
  refine ok_loop (P := (P_X1_everybody_4 l g n K h0 D)) (fun s h => ?_) h
  refine p_iload_n dX1_everybody_4 rfl ?_
  refine p_aload_n dX1_everybody_5 rfl ?_
  refine p_geti dX1_everybody_6 fl_X1_18 (fun _ _ _ => rfl) (wc_X1 w0) ?_
  refine q_icmp_ge (tgt := 43) dX1_everybody_9 (by decide) h (fun h => ?_) (fun h => ?_)
  · have h := kl_inr h
    refine p_iload_n dX1_everybody_43 rfl ?_
    exact p_ireturn dX1_everybody_44 (Nat.le_of_ble_eq_true rfl) (Nat.le_of_ble_eq_true rfl) ⟨_, rfl, rfl, rfl, ok_some h⟩
  · refine p_iconst dX1_everybody_12 ?_
    refine p_istore_n dX1_everybody_13 (Nat.le_of_ble_eq_true rfl) rfl ?_
    exact p_weak (leL.same (leL.same (leL.same (leL.same leL.nil)))) (x_X1_everybody_14 hG w0 h)
set_option maxRecDepth 100000 in
set_option maxHeartbeats 4000000 in
theorem x_X1_everybody {l : Launch} {g : GH} (hG : G0 l g) {n : Nat} {h0 : Nat} (w0 : WX1 h0) {D : DT} {K : Int → Prop} (h : ok (m_X1_everybody h0 D) K) : Px (E_X1_everybody l g (PIr n D K)) 0 [some (vR g h0), none, none, none] [] (LF n) D 0 0 := by
  refine p_iconst dX1_everybody_0 ?_
  refine p_istore_n dX1_everybody_1 (Nat.le_of_ble_eq_true rfl) rfl ?_
  refine p_iconst dX1_everybody_2 ?_
  refine p_istore_n dX1_everybody_3 (Nat.le_of_ble_eq_true rfl) rfl ?_
  exact p_weak (leL.same (leL.same (leL.same (leL.drop leL.nil)))) (x_X1_everybody_4 hG w0 h)
theorem s_X1_everybody {l : Launch} {g : GH} (hG : G0 l g) {n : Nat} {h0 : Nat} (w0 : WX1 h0) {D : DT} {K : Int → Prop} (h : ok (m_X1_everybody h0 D) K) : Sat l g yX1_everybody cX1_everybody 4 (some .int) 1 0 0 [vR g h0] (LF n) D (PIr n D K) := Sat.of hG (by decide) (Nat.le_of_ble_eq_true rfl) (by simp [Value.category]) (x_X1_everybody hG w0 h)
abbrev E_X1_shift (l : Launch) (g : GH) (P : PT) : ENV := mkE l g yX1_shift cX1_shift 11 (some .int) [] 2 0 0 P
abbrev P_X1_shift_17 (l : Launch) (g : GH) (n : Nat) (K : (Int × DT) → Prop) (h0 : Nat) (v1 : Int) (v2 : Int) (v3 : Int) (v5 : Int) (v6 : Int) : (Int × Int × Int × DT) → Prop := fun s => Px (E_X1_shift l g (PIw n K)) 17 [some (vR g h0), some (vI v1), some (vI v2), some (vI v3), none, some (vI v5), some (vI v6), some (vI s.1), some (vI s.2.1), some (vI s.2.2.1), none] [] (LF n) s.2.2.2 0 0
abbrev P_X1_shift_91 (l : Launch) (g : GH) (n : Nat) (K : (Int × DT) → Prop) (h0 : Nat) (v1 : Int) (v2 : Int) (v6 : Int) (v7 : Int) (v8 : Int) : (Int × DT) → Prop := fun s => Px (E_X1_shift l g (PIw n K)) 91 [some (vR g h0), some (vI v1), some (vI v2), none, none, none, some (vI v6), some (vI v7), some (vI v8), some (vI s.1), none] [] (LF n) s.2 0 0
set_option maxRecDepth 100000 in
set_option maxHeartbeats 4000000 in
theorem x_X1_shift_91 {l : Launch} {g : GH} (hG : G0 l g) {n : Nat} {h0 : Nat} {v1 v2 v6 v7 v8 : Int} (w0 : WX1 h0) {K : (Int × DT) → Prop} {s : (Int × DT)} (h : ok (m_X1_shift_91 h0 v1 v2 v6 v7 v8 s) K) : Px (E_X1_shift l g (PIw n K)) 91 [some (vR g h0), some (vI v1), some (vI v2), none, none, none, some (vI v6), some (vI v7), some (vI v8), some (vI s.1), none] [] (LF n) s.2 0 0 := by
  refine ok_loop (P := (P_X1_shift_91 l g n K h0 v1 v2 v6 v7 v8)) (fun s h => ?_) h
  refine p_iload dX1_shift_91 rfl ?_
  refine p_aload_n dX1_shift_93 rfl ?_
  refine p_geti dX1_shift_94 fl_X1_21 (fun _ _ _ => rfl) (wc_X1 w0) ?_
  refine q_icmp_ge (tgt := 155) dX1_shift_97 (by decide) h (fun h => ?_) (fun h => ?_)
  · have h := kl_inr h
    refine p_iload dX1_shift_155 rfl ?_
    exact p_ireturn dX1_shift_157 (Nat.le_of_ble_eq_true rfl) (Nat.le_of_ble_eq_true rfl) ⟨_, rfl, rfl, ok_some h⟩
  · refine p_aload_n dX1_shift_100 rfl ?_
    refine p_iload_n dX1_shift_101 rfl ?_
    refine p_iload dX1_shift_102 rfl ?_
    refine cV_Ir [vI v1, vI s.1] [] dX1_shift_104 yv_X1_livingIn ml_X1_88 (r := (RX1, TX1, 11)) rfl rfl (Nat.le_of_ble_eq_true rfl) rfl (Nat.le_of_ble_eq_true rfl) (Nat.le_of_ble_eq_true rfl) (Nat.le_of_ble_eq_true rfl) (wc_X1 w0) h (fun K h => s_X1_livingIn hG w0 h) (fun r104 h => ?_)
    refine p_iload dX1_shift_107 rfl ?_
    refine p_imul dX1_shift_109 ?_
    refine p_iload dX1_shift_110 rfl ?_
    refine q_idiv dX1_shift_112 h (fun h => ?_)
    refine p_istore dX1_shift_113 (Nat.le_of_ble_eq_true rfl) rfl ?_
    refine p_aload_n dX1_shift_115 rfl ?_
    refine p_iload_n dX1_shift_116 rfl ?_
    refine p_iload dX1_shift_117 rfl ?_
    refine p_aload_n dX1_shift_119 rfl ?_
    refine p_iload_n dX1_shift_120 rfl ?_
    refine p_iload dX1_shift_121 rfl ?_
    refine cV_Ir [vI v1, vI s.1] [vI s.1, vI v1, vR g h0] dX1_shift_123 yv_X1_livingIn ml_X1_88 (r := (RX1, TX1, 11)) rfl rfl (Nat.le_of_ble_eq_true rfl) rfl (Nat.le_of_ble_eq_true rfl) (Nat.le_of_ble_eq_true rfl) (Nat.le_of_ble_eq_true rfl) (wc_X1 w0) h (fun K h => s_X1_livingIn hG w0 h) (fun r123 h => ?_)
    refine p_iload dX1_shift_126 rfl ?_
    refine p_isub dX1_shift_128 ?_
    refine cV_Vw [vI v1, vI s.1, vI (r123 - ((r104 * v8) / v6))] [] dX1_shift_129 yv_X1_settle ml_X1_95 (r := (RX1, TX1, 11)) rfl rfl (Nat.le_of_ble_eq_true rfl) rfl (Nat.le_of_ble_eq_true rfl) (Nat.le_of_ble_eq_true rfl) (Nat.le_of_ble_eq_true rfl) (wc_X1 w0) h (fun K h => s_X1_settle hG w0 h) (fun D129 h => ?_)
    refine p_aload_n dX1_shift_132 rfl ?_
    refine p_iload_n dX1_shift_133 rfl ?_
    refine p_iload dX1_shift_134 rfl ?_
    refine p_aload_n dX1_shift_136 rfl ?_
    refine p_iload_n dX1_shift_137 rfl ?_
    refine p_iload dX1_shift_138 rfl ?_
    refine cV_Ir [vI v2, vI s.1] [vI s.1, vI v2, vR g h0] dX1_shift_140 yv_X1_livingIn ml_X1_88 (r := (RX1, TX1, 11)) rfl rfl (Nat.le_of_ble_eq_true rfl) rfl (Nat.le_of_ble_eq_true rfl) (Nat.le_of_ble_eq_true rfl) (Nat.le_of_ble_eq_true rfl) (wc_X1 w0) h (fun K h => s_X1_livingIn hG w0 h) (fun r140 h => ?_)
    refine p_iload dX1_shift_143 rfl ?_
    refine p_iadd dX1_shift_145 ?_
    refine cV_Vw [vI v2, vI s.1, vI (r140 + ((r104 * v8) / v6))] [] dX1_shift_146 yv_X1_settle ml_X1_95 (r := (RX1, TX1, 11)) rfl rfl (Nat.le_of_ble_eq_true rfl) rfl (Nat.le_of_ble_eq_true rfl) (Nat.le_of_ble_eq_true rfl) (Nat.le_of_ble_eq_true rfl) (wc_X1 w0) h (fun K h => s_X1_settle hG w0 h) (fun D146 h => ?_)
    refine p_iinc dX1_shift_149 rfl (Nat.le_of_ble_eq_true rfl) rfl ?_
    refine p_goto (tgt := 91) dX1_shift_152 (by decide) ?_
    exact p_weak (leL.same (leL.same (leL.same (leL.drop (leL.drop (leL.drop (leL.same (leL.same (leL.same (leL.same (leL.drop leL.nil))))))))))) (kl_inl (P := (P_X1_shift_91 l g n K h0 v1 v2 v6 v7 v8)) h)
set_option maxRecDepth 100000 in
set_option maxHeartbeats 4000000 in
theorem x_X1_shift_17 {l : Launch} {g : GH} (hG : G0 l g) {n : Nat} {h0 : Nat} {v1 v2 v3 v5 v6 : Int} (w0 : WX1 h0) {K : (Int × DT) → Prop} {s : (Int × Int × Int × DT)} (h : ok (m_X1_shift_17 h0 v1 v2 v3 v5 v6 s) K) : Px (E_X1_shift l g (PIw n K)) 17 [some (vR g h0), some (vI v1), some (vI v2), some (vI v3), none, some (vI v5), some (vI v6), some (vI s.1), some (vI s.2.1), some (vI s.2.2.1), none] [] (LF n) s.2.2.2 0 0 := by
  refine ok_loop (P := (P_X1_shift_17 l g n K h0 v1 v2 v3 v5 v6)) (fun s h => ?_) h
  refine p_iload dX1_shift_17 rfl ?_
  refine p_iload dX1_shift_19 rfl ?_
  refine q_icmp_gt (tgt := 83) dX1_shift_21 (by decide) h (fun h => ?_) (fun h => ?_)
  · have h := kl_inr h
    refine p_iload dX1_shift_83 rfl ?_
    refine q_if_le (tgt := 155) dX1_shift_85 (by decide) h (fun h => ?_) (fun h => ?_)
    · refine p_iload dX1_shift_155 rfl ?_
      exact p_ireturn dX1_shift_157 (Nat.le_of_ble_eq_true rfl) (Nat.le_of_ble_eq_true rfl) ⟨_, rfl, rfl, ok_some h⟩
    · refine p_iconst dX1_shift_88 ?_
      refine p_istore dX1_shift_89 (Nat.le_of_ble_eq_true rfl) rfl ?_
      exact p_weak (leL.same (leL.same (leL.same (leL.drop (leL.drop (leL.drop (leL.same (leL.same (leL.same (leL.same (leL.drop leL.nil))))))))))) (x_X1_shift_91 hG w0 h)
  · refine p_iload_n dX1_shift_24 rfl ?_
    refine p_aload_n dX1_shift_25 rfl ?_
    refine p_geti dX1_shift_26 fl_X1_9 (fun _ _ _ => rfl) (wc_X1 w0) ?_
    refine p_imul dX1_shift_29 ?_
    refine p_iload dX1_shift_30 rfl ?_
    refine p_iadd dX1_shift_32 ?_
    refine p_istore dX1_shift_33 (Nat.le_of_ble_eq_true rfl) rfl ?_
    refine p_aload_n dX1_shift_35 rfl ?_
    refine p_getr dX1_shift_36 fl_X1_24 (fun _ _ _ => rfl) (wc_X1 w0) (wf_X1_4 w0) ?_
    refine p_iload dX1_shift_39 rfl ?_
    refine q_iald dX1_shift_41 (wa_X1_4 w0) rfl h (fun h => ?_)
    refine p_iload_n dX1_shift_42 rfl ?_
    refine q_icmp_ne (tgt := 77) dX1_shift_43 (by decide) h (fun h => ?_) (fun h => ?_)
    · refine p_iinc dX1_shift_77 rfl (Nat.le_of_ble_eq_true rfl) rfl ?_
      refine p_goto (tgt := 17) dX1_shift_80 (by decide) ?_
      exact p_weak (leL.same (leL.same (leL.same (leL.same (leL.drop (leL.same (leL.same (leL.same (leL.same (leL.same (leL.drop leL.nil))))))))))) (kl_inl (P := (P_X1_shift_17 l g n K h0 v1 v2 v3 v5 v6)) h)
    · refine p_aload_n dX1_shift_46 rfl ?_
      refine p_getr dX1_shift_47 fl_X1_24 (fun _ _ _ => rfl) (wc_X1 w0) (wf_X1_4 w0) ?_
      refine p_iload dX1_shift_50 rfl ?_
      refine p_iload_n dX1_shift_52 rfl ?_
      refine q_iast dX1_shift_53 (wa_X1_4 w0) rfl h (fun D53 h => ?_)
      refine p_iinc dX1_shift_54 rfl (Nat.le_of_ble_eq_true rfl) rfl ?_
      refine p_iload dX1_shift_57 rfl ?_
      refine p_aload_n dX1_shift_59 rfl ?_
      refine p_getr dX1_shift_60 fl_X1_28 (fun _ _ _ => rfl) (wc_X1 w0) (wf_X1_5 w0) ?_
      refine p_iload dX1_shift_63 rfl ?_
      refine q_zald dX1_shift_65 (wa_X1_5 w0) rfl h (fun h => ?_)
      refine q_if_eq (tgt := 73) dX1_shift_66 (by decide) h (fun h => ?_) (fun h => ?_)
      · refine p_iconst dX1_shift_73 ?_
        refine p_iadd dX1_shift_74 ?_
        refine p_istore dX1_shift_75 (Nat.le_of_ble_eq_true rfl) rfl ?_
        refine p_iinc dX1_shift_77 rfl (Nat.le_of_ble_eq_true rfl) rfl ?_
        refine p_goto (tgt := 17) dX1_shift_80 (by decide) ?_
        exact p_weak (leL.same (leL.same (leL.same (leL.same (leL.drop (leL.same (leL.same (leL.same (leL.same (leL.same (leL.drop leL.nil))))))))))) (kl_inl (P := (P_X1_shift_17 l g n K h0 v1 v2 v3 v5 v6)) h)
      · refine p_iconst dX1_shift_69 ?_
        refine p_goto (tgt := 74) dX1_shift_70 (by decide) ?_
        refine p_iadd dX1_shift_74 ?_
        refine p_istore dX1_shift_75 (Nat.le_of_ble_eq_true rfl) rfl ?_
        refine p_iinc dX1_shift_77 rfl (Nat.le_of_ble_eq_true rfl) rfl ?_
        refine p_goto (tgt := 17) dX1_shift_80 (by decide) ?_
        exact p_weak (leL.same (leL.same (leL.same (leL.same (leL.drop (leL.same (leL.same (leL.same (leL.same (leL.same (leL.drop leL.nil))))))))))) (kl_inl (P := (P_X1_shift_17 l g n K h0 v1 v2 v3 v5 v6)) h)
set_option maxRecDepth 100000 in
set_option maxHeartbeats 4000000 in
theorem x_X1_shift {l : Launch} {g : GH} (hG : G0 l g) {n : Nat} {h0 : Nat} {v1 : Int} {v2 : Int} {v3 : Int} {v4 : Int} {v5 : Int} (w0 : WX1 h0) {D : DT} {K : (Int × DT) → Prop} (h : ok (m_X1_shift h0 v1 v2 v3 v4 v5 D) K) : Px (E_X1_shift l g (PIw n K)) 0 [some (vR g h0), some (vI v1), some (vI v2), some (vI v3), some (vI v4), some (vI v5), none, none, none, none, none] [] (LF n) D 0 0 := by
  refine p_aload_n dX1_shift_0 rfl ?_
  refine p_iload_n dX1_shift_1 rfl ?_
  refine cV_Ir [vI v1] [] dX1_shift_2 yv_X1_landOf ml_X1_91 (r := (RX1, TX1, 11)) rfl rfl (Nat.le_of_ble_eq_true rfl) rfl (Nat.le_of_ble_eq_true rfl) (Nat.le_of_ble_eq_true rfl) (Nat.le_of_ble_eq_true rfl) (wc_X1 w0) h (fun K h => s_X1_landOf hG w0 h) (fun r2 h => ?_)
  refine p_istore dX1_shift_5 (Nat.le_of_ble_eq_true rfl) rfl ?_
  refine p_iconst dX1_shift_7 ?_
  refine p_istore dX1_shift_8 (Nat.le_of_ble_eq_true rfl) rfl ?_
  refine p_iconst dX1_shift_10 ?_
  refine p_istore dX1_shift_11 (Nat.le_of_ble_eq_true rfl) rfl ?_
  refine p_iload dX1_shift_13 rfl ?_
  refine p_istore dX1_shift_15 (Nat.le_of_ble_eq_true rfl) rfl ?_
  exact p_weak (leL.same (leL.same (leL.same (leL.same (leL.drop (leL.same (leL.same (leL.same (leL.same (leL.same (leL.drop leL.nil))))))))))) (x_X1_shift_17 hG w0 h)
theorem s_X1_shift {l : Launch} {g : GH} (hG : G0 l g) {n : Nat} {h0 : Nat} {v1 : Int} {v2 : Int} {v3 : Int} {v4 : Int} {v5 : Int} (w0 : WX1 h0) {D : DT} {K : (Int × DT) → Prop} (h : ok (m_X1_shift h0 v1 v2 v3 v4 v5 D) K) : Sat l g yX1_shift cX1_shift 11 (some .int) 2 0 0 [vR g h0, vI v1, vI v2, vI v3, vI v4, vI v5] (LF n) D (PIw n K) := Sat.of hG (by decide) (Nat.le_of_ble_eq_true rfl) (by simp [Value.category]) (x_X1_shift hG w0 h)
abbrev E_X1_join (l : Launch) (g : GH) (P : PT) : ENV := mkE l g yX1_join cX1_join 4 none [] 1 0 0 P
abbrev P_X1_join_2 (l : Launch) (g : GH) (n : Nat) (K : DT → Prop) (h0 : Nat) (v1 : Int) (v2 : Int) : (Int × DT) → Prop := fun s => Px (E_X1_join l g (PVw n K)) 2 [some (vR g h0), some (vI v1), some (vI v2), some (vI s.1)] [] (LF n) s.2 0 0
abbrev P_X1_join_35 (l : Launch) (g : GH) (n : Nat) (K : DT → Prop) (h0 : Nat) (v1 : Int) (v2 : Int) : (Int × DT) → Prop := fun s => Px (E_X1_join l g (PVw n K)) 35 [some (vR g h0), some (vI v1), some (vI v2), some (vI s.1)] [] (LF n) s.2 0 0
set_option maxRecDepth 100000 in
set_option maxHeartbeats 4000000 in
theorem x_X1_join_35 {l : Launch} {g : GH} (hG : G0 l g) {n : Nat} {h0 : Nat} {v1 v2 : Int} (w0 : WX1 h0) {K : DT → Prop} {s : (Int × DT)} (h : ok (m_X1_join_35 h0 v1 v2 s) K) : Px (E_X1_join l g (PVw n K)) 35 [some (vR g h0), some (vI v1), some (vI v2), some (vI s.1)] [] (LF n) s.2 0 0 := by
  refine ok_loop (P := (P_X1_join_35 l g n K h0 v1 v2)) (fun s h => ?_) h
  refine p_iload_n dX1_join_35 rfl ?_
  refine p_aload_n dX1_join_36 rfl ?_
  refine p_geti dX1_join_37 fl_X1_21 (fun _ _ _ => rfl) (wc_X1 w0) ?_
  refine q_icmp_ge (tgt := 75) dX1_join_40 (by decide) h (fun h => ?_) (fun h => ?_)
  · have h := kl_inr h
    exact p_return dX1_join_75 (Nat.le_of_ble_eq_true rfl) (Nat.le_of_ble_eq_true rfl) ⟨rfl, rfl, ok_some h⟩
  · refine p_aload_n dX1_join_43 rfl ?_
    refine p_iload_n dX1_join_44 rfl ?_
    refine p_iload_n dX1_join_45 rfl ?_
    refine p_aload_n dX1_join_46 rfl ?_
    refine p_iload_n dX1_join_47 rfl ?_
    refine p_iload_n dX1_join_48 rfl ?_
    refine cV_Ir [vI v1, vI s.1] [vI s.1, vI v1, vR g h0] dX1_join_49 yv_X1_livingIn ml_X1_88 (r := (RX1, TX1, 11)) rfl rfl (Nat.le_of_ble_eq_true rfl) rfl (Nat.le_of_ble_eq_true rfl) (Nat.le_of_ble_eq_true rfl) (Nat.le_of_ble_eq_true rfl) (wc_X1 w0) h (fun K h => s_X1_livingIn hG w0 h) (fun r49 h => ?_)
    refine p_aload_n dX1_join_52 rfl ?_
    refine p_iload_n dX1_join_53 rfl ?_
    refine p_iload_n dX1_join_54 rfl ?_
    refine cV_Ir [vI v2, vI s.1] [vI r49, vI s.1, vI v1, vR g h0] dX1_join_55 yv_X1_livingIn ml_X1_88 (r := (RX1, TX1, 11)) rfl rfl (Nat.le_of_ble_eq_true rfl) rfl (Nat.le_of_ble_eq_true rfl) (Nat.le_of_ble_eq_true rfl) (Nat.le_of_ble_eq_true rfl) (wc_X1 w0) h (fun K h => s_X1_livingIn hG w0 h) (fun r55 h => ?_)
    refine p_iadd dX1_join_58 ?_
    refine cV_Vw [vI v1, vI s.1, vI (r49 + r55)] [] dX1_join_59 yv_X1_settle ml_X1_95 (r := (RX1, TX1, 11)) rfl rfl (Nat.le_of_ble_eq_true rfl) rfl (Nat.le_of_ble_eq_true rfl) (Nat.le_of_ble_eq_true rfl) (Nat.le_of_ble_eq_true rfl) (wc_X1 w0) h (fun K h => s_X1_settle hG w0 h) (fun D59 h => ?_)
    refine p_aload_n dX1_join_62 rfl ?_
    refine p_iload_n dX1_join_63 rfl ?_
    refine p_iload_n dX1_join_64 rfl ?_
    refine p_iconst dX1_join_65 ?_
    refine cV_Vw [vI v2, vI s.1, vI 0] [] dX1_join_66 yv_X1_settle ml_X1_95 (r := (RX1, TX1, 11)) rfl rfl (Nat.le_of_ble_eq_true rfl) rfl (Nat.le_of_ble_eq_true rfl) (Nat.le_of_ble_eq_true rfl) (Nat.le_of_ble_eq_true rfl) (wc_X1 w0) h (fun K h => s_X1_settle hG w0 h) (fun D66 h => ?_)
    refine p_iinc dX1_join_69 rfl (Nat.le_of_ble_eq_true rfl) rfl ?_
    refine p_goto (tgt := 35) dX1_join_72 (by decide) ?_
    exact p_weak (leL.same (leL.same (leL.same (leL.same leL.nil)))) (kl_inl (P := (P_X1_join_35 l g n K h0 v1 v2)) h)
set_option maxRecDepth 100000 in
set_option maxHeartbeats 4000000 in
theorem x_X1_join_2 {l : Launch} {g : GH} (hG : G0 l g) {n : Nat} {h0 : Nat} {v1 v2 : Int} (w0 : WX1 h0) {K : DT → Prop} {s : (Int × DT)} (h : ok (m_X1_join_2 h0 v1 v2 s) K) : Px (E_X1_join l g (PVw n K)) 2 [some (vR g h0), some (vI v1), some (vI v2), some (vI s.1)] [] (LF n) s.2 0 0 := by
  refine ok_loop (P := (P_X1_join_2 l g n K h0 v1 v2)) (fun s h => ?_) h
  refine p_iload_n dX1_join_2 rfl ?_
  refine p_aload_n dX1_join_3 rfl ?_
  refine cV_Ir [] [vI s.1] dX1_join_4 yv_X1_cells ml_X1_55 (r := (RX1, TX1, 11)) rfl rfl (Nat.le_of_ble_eq_true rfl) rfl (Nat.le_of_ble_eq_true rfl) (Nat.le_of_ble_eq_true rfl) (Nat.le_of_ble_eq_true rfl) (wc_X1 w0) h (fun K h => s_X1_cells hG w0 h) (fun r4 h => ?_)
  refine q_icmp_ge (tgt := 33) dX1_join_7 (by decide) h (fun h => ?_) (fun h => ?_)
  · have h := kl_inr h
    refine p_iconst dX1_join_33 ?_
    refine p_istore_n dX1_join_34 (Nat.le_of_ble_eq_true rfl) rfl ?_
    exact p_weak (leL.same (leL.same (leL.same (leL.same leL.nil)))) (x_X1_join_35 hG w0 h)
  · refine p_aload_n dX1_join_10 rfl ?_
    refine p_getr dX1_join_11 fl_X1_24 (fun _ _ _ => rfl) (wc_X1 w0) (wf_X1_4 w0) ?_
    refine p_iload_n dX1_join_14 rfl ?_
    refine q_iald dX1_join_15 (wa_X1_4 w0) rfl h (fun h => ?_)
    refine p_iload_n dX1_join_16 rfl ?_
    refine q_icmp_ne (tgt := 27) dX1_join_17 (by decide) h (fun h => ?_) (fun h => ?_)
    · refine p_iinc dX1_join_27 rfl (Nat.le_of_ble_eq_true rfl) rfl ?_
      refine p_goto (tgt := 2) dX1_join_30 (by decide) ?_
      exact p_weak (leL.same (leL.same (leL.same (leL.same leL.nil)))) (kl_inl (P := (P_X1_join_2 l g n K h0 v1 v2)) h)
    · refine p_aload_n dX1_join_20 rfl ?_
      refine p_getr dX1_join_21 fl_X1_24 (fun _ _ _ => rfl) (wc_X1 w0) (wf_X1_4 w0) ?_
      refine p_iload_n dX1_join_24 rfl ?_
      refine p_iload_n dX1_join_25 rfl ?_
      refine q_iast dX1_join_26 (wa_X1_4 w0) rfl h (fun D26 h => ?_)
      refine p_iinc dX1_join_27 rfl (Nat.le_of_ble_eq_true rfl) rfl ?_
      refine p_goto (tgt := 2) dX1_join_30 (by decide) ?_
      exact p_weak (leL.same (leL.same (leL.same (leL.same leL.nil)))) (kl_inl (P := (P_X1_join_2 l g n K h0 v1 v2)) h)
set_option maxRecDepth 100000 in
set_option maxHeartbeats 4000000 in
theorem x_X1_join {l : Launch} {g : GH} (hG : G0 l g) {n : Nat} {h0 : Nat} {v1 : Int} {v2 : Int} (w0 : WX1 h0) {D : DT} {K : DT → Prop} (h : ok (m_X1_join h0 v1 v2 D) K) : Px (E_X1_join l g (PVw n K)) 0 [some (vR g h0), some (vI v1), some (vI v2), none] [] (LF n) D 0 0 := by
  refine p_iconst dX1_join_0 ?_
  refine p_istore_n dX1_join_1 (Nat.le_of_ble_eq_true rfl) rfl ?_
  exact p_weak (leL.same (leL.same (leL.same (leL.same leL.nil)))) (x_X1_join_2 hG w0 h)
theorem s_X1_join {l : Launch} {g : GH} (hG : G0 l g) {n : Nat} {h0 : Nat} {v1 : Int} {v2 : Int} (w0 : WX1 h0) {D : DT} {K : DT → Prop} (h : ok (m_X1_join h0 v1 v2 D) K) : Sat l g yX1_join cX1_join 4 none 1 0 0 [vR g h0, vI v1, vI v2] (LF n) D (PVw n K) := Sat.of hG (by decide) (Nat.le_of_ble_eq_true rfl) (by simp [Value.category]) (x_X1_join hG w0 h)
abbrev E_X2_forget (l : Launch) (g : GH) (P : PT) : ENV := mkE l g yX2_forget cX2_forget 1 none [] 0 0 0 P
set_option maxRecDepth 100000 in
set_option maxHeartbeats 4000000 in
theorem x_X2_forget {l : Launch} {g : GH} (hG : G0 l g) {n : Nat} {h0 : Nat} (w0 : WX2 h0) {D : DT} {K : DT → Prop} (h : ok (m_X2_forget h0 D) K) : Px (E_X2_forget l g (PVw n K)) 0 [some (vR g h0)] [] (LF n) D 0 0 := by
  refine p_aload_n dX2_forget_0 rfl ?_
  refine p_iconst dX2_forget_1 ?_
  refine q_puti dX2_forget_2 fq_X2_9 rfl (wc_X2 w0) h (fun D2 h => ?_)
  exact p_return dX2_forget_5 (Nat.le_of_ble_eq_true rfl) (Nat.le_of_ble_eq_true rfl) ⟨rfl, rfl, ok_some h⟩
theorem s_X2_forget {l : Launch} {g : GH} (hG : G0 l g) {n : Nat} {h0 : Nat} (w0 : WX2 h0) {D : DT} {K : DT → Prop} (h : ok (m_X2_forget h0 D) K) : Sat l g yX2_forget cX2_forget 1 none 0 0 0 [vR g h0] (LF n) D (PVw n K) := Sat.of hG (by decide) (Nat.le_of_ble_eq_true rfl) (by simp [Value.category]) (x_X2_forget hG w0 h)
abbrev E_X2_isOf (l : Launch) (g : GH) (P : PT) : ENV := mkE l g yX2_isOf cX2_isOf 2 (some .boolean) [] 0 0 0 P
set_option maxRecDepth 100000 in
set_option maxHeartbeats 4000000 in
theorem x_X2_isOf {l : Launch} {g : GH} (hG : G0 l g) {n : Nat} {h0 : Nat} {v1 : Int} (w0 : WX2 h0) {D : DT} {K : Int → Prop} (h : ok (m_X2_isOf h0 v1 D) K) : Px (E_X2_isOf l g (PIr n D K)) 0 [some (vR g h0), some (vI v1)] [] (LF n) D 0 0 := by
  refine p_aload_n dX2_isOf_0 rfl ?_
  refine p_geti dX2_isOf_1 fl_X2_9 (fun _ _ _ => rfl) (wc_X2 w0) ?_
  refine p_iload_n dX2_isOf_4 rfl ?_
  refine q_icmp_ne (tgt := 12) dX2_isOf_5 (by decide) h (fun h => ?_) (fun h => ?_)
  · refine p_iconst dX2_isOf_12 ?_
    exact p_zreturn dX2_isOf_13 (Nat.le_of_ble_eq_true rfl) (Nat.le_of_ble_eq_true rfl) (Or.inl rfl) ⟨_, rfl, rfl, rfl, ok_some h⟩
  · refine p_iconst dX2_isOf_8 ?_
    refine p_goto (tgt := 13) dX2_isOf_9 (by decide) ?_
    exact p_zreturn dX2_isOf_13 (Nat.le_of_ble_eq_true rfl) (Nat.le_of_ble_eq_true rfl) (Or.inr rfl) ⟨_, rfl, rfl, rfl, ok_some h⟩
theorem s_X2_isOf {l : Launch} {g : GH} (hG : G0 l g) {n : Nat} {h0 : Nat} {v1 : Int} (w0 : WX2 h0) {D : DT} {K : Int → Prop} (h : ok (m_X2_isOf h0 v1 D) K) : Sat l g yX2_isOf cX2_isOf 2 (some .boolean) 0 0 0 [vR g h0, vI v1] (LF n) D (PIr n D K) := Sat.of hG (by decide) (Nat.le_of_ble_eq_true rfl) (by simp [Value.category]) (x_X2_isOf hG w0 h)
abbrev E_X8_placeOf (l : Launch) (g : GH) (P : PT) : ENV := mkE l g yX8_placeOf cX8_placeOf 3 (some .int) [] 0 0 0 P
set_option maxRecDepth 100000 in
set_option maxHeartbeats 4000000 in
theorem x_X8_placeOf {l : Launch} {g : GH} (hG : G0 l g) {n : Nat} {v0 : Int} {v1 : Int} {v2 : Int} {D : DT} {K : Int → Prop} (h : ok (m_X8_placeOf v0 v1 v2 D) K) : Px (E_X8_placeOf l g (PIr n D K)) 0 [some (vI v0), some (vI v1), some (vI v2)] [] (LF n) D 0 0 := by
  refine p_iload_n dX8_placeOf_0 rfl ?_
  refine p_iconst dX8_placeOf_1 ?_
  refine p_imul dX8_placeOf_2 ?_
  refine p_iload_n dX8_placeOf_3 rfl ?_
  refine p_iadd dX8_placeOf_4 ?_
  refine p_bipush dX8_placeOf_5 (by decide) ?_
  refine p_imul dX8_placeOf_7 ?_
  refine p_iload_n dX8_placeOf_8 rfl ?_
  refine p_iadd dX8_placeOf_9 ?_
  exact p_ireturn dX8_placeOf_10 (Nat.le_of_ble_eq_true rfl) (Nat.le_of_ble_eq_true rfl) ⟨_, rfl, rfl, rfl, ok_some h⟩
theorem s_X8_placeOf {l : Launch} {g : GH} (hG : G0 l g) {n : Nat} {v0 : Int} {v1 : Int} {v2 : Int} {D : DT} {K : Int → Prop} (h : ok (m_X8_placeOf v0 v1 v2 D) K) : Sat l g yX8_placeOf cX8_placeOf 3 (some .int) 0 0 0 [vI v0, vI v1, vI v2] (LF n) D (PIr n D K) := Sat.of hG (by decide) (Nat.le_of_ble_eq_true rfl) (by simp [Value.category]) (x_X8_placeOf hG h)
abbrev E_X8_dotsOf (l : Launch) (g : GH) (P : PT) : ENV := mkE l g yX8_dotsOf cX8_dotsOf 4 (some .int) [] 1 0 0 P
set_option maxRecDepth 100000 in
set_option maxHeartbeats 4000000 in
theorem x_X8_dotsOf {l : Launch} {g : GH} (hG : G0 l g) {n : Nat} {h0 : Nat} {v1 : Int} {v2 : Int} {v3 : Int} (w0 : WX8 h0) {D : DT} {K : Int → Prop} (h : ok (m_X8_dotsOf h0 v1 v2 v3 D) K) : Px (E_X8_dotsOf l g (PIr n D K)) 0 [some (vR g h0), some (vI v1), some (vI v2), some (vI v3)] [] (LF n) D 0 0 := by
  refine p_aload_n dX8_dotsOf_0 rfl ?_
  refine p_getr dX8_dotsOf_1 fl_X8_26 (fun _ _ _ => rfl) (wc_X8 w0) (wf_X8_4 w0) ?_
  refine p_iload_n dX8_dotsOf_4 rfl ?_
  refine p_iload_n dX8_dotsOf_5 rfl ?_
  refine p_iload_n dX8_dotsOf_6 rfl ?_
  refine cS_Ir [vI v1, vI v2, vI v3] [vR g (h0 + 2)] dX8_dotsOf_7 ys_X8_placeOf ml_X8_64 (Nat.le_of_ble_eq_true rfl) rfl (Nat.le_of_ble_eq_true rfl) (Nat.le_of_ble_eq_true rfl) (Nat.le_of_ble_eq_true rfl) h (fun K h => s_X8_placeOf hG h) (fun r7 h => ?_)
  refine q_iald dX8_dotsOf_10 (wa_X8_4 w0) rfl h (fun h => ?_)
  exact p_ireturn dX8_dotsOf_11 (Nat.le_of_ble_eq_true rfl) (Nat.le_of_ble_eq_true rfl) ⟨_, rfl, rfl, rfl, ok_some h⟩
theorem s_X8_dotsOf {l : Launch} {g : GH} (hG : G0 l g) {n : Nat} {h0 : Nat} {v1 : Int} {v2 : Int} {v3 : Int} (w0 : WX8 h0) {D : DT} {K : Int → Prop} (h : ok (m_X8_dotsOf h0 v1 v2 v3 D) K) : Sat l g yX8_dotsOf cX8_dotsOf 4 (some .int) 1 0 0 [vR g h0, vI v1, vI v2, vI v3] (LF n) D (PIr n D K) := Sat.of hG (by decide) (Nat.le_of_ble_eq_true rfl) (by simp [Value.category]) (x_X8_dotsOf hG w0 h)
abbrev E_X6_cellAt (l : Launch) (g : GH) (P : PT) : ENV := mkE l g yX6_cellAt cX6_cellAt 4 (some .int) [] 0 0 0 P
set_option maxRecDepth 100000 in
set_option maxHeartbeats 4000000 in
theorem x_X6_cellAt {l : Launch} {g : GH} (hG : G0 l g) {n : Nat} {h0 : Nat} {v1 : Int} {v2 : Int} (w0 : WX6 h0) {D : DT} {K : Int → Prop} (h : ok (m_X6_cellAt h0 v1 v2 D) K) : Px (E_X6_cellAt l g (PIr n D K)) 0 [some (vR g h0), some (vI v1), some (vI v2), none] [] (LF n) D 0 0 := by
  refine p_aload_n dX6_cellAt_0 rfl ?_
  refine p_getr dX6_cellAt_1 fl_X6_18 (fun _ _ _ => rfl) (wc_X6 w0) (wf_X6_2 w0) ?_
  refine p_iload_n dX6_cellAt_4 rfl ?_
  refine q_iald dX6_cellAt_5 (wa_X6_2 w0) rfl h (fun h => ?_)
  refine p_iload_n dX6_cellAt_6 rfl ?_
  refine p_iadd dX6_cellAt_7 ?_
  refine p_istore_n dX6_cellAt_8 (Nat.le_of_ble_eq_true rfl) rfl ?_
  refine p_iload_n dX6_cellAt_9 rfl ?_
  refine q_if_lt (tgt := 29) dX6_cellAt_10 (by decide) h (fun h => ?_) (fun h => ?_)
  · refine p_iconst dX6_cellAt_29 ?_
    exact p_ireturn dX6_cellAt_30 (Nat.le_of_ble_eq_true rfl) (Nat.le_of_ble_eq_true rfl) ⟨_, rfl, rfl, rfl, ok_some h⟩
  · refine p_iload_n dX6_cellAt_13 rfl ?_
    refine p_sipush dX6_cellAt_14 (by decide) ?_
    refine q_icmp_ge (tgt := 29) dX6_cellAt_17 (by decide) h (fun h => ?_) (fun h => ?_)
    · refine p_iconst dX6_cellAt_29 ?_
      exact p_ireturn dX6_cellAt_30 (Nat.le_of_ble_eq_true rfl) (Nat.le_of_ble_eq_true rfl) ⟨_, rfl, rfl, rfl, ok_some h⟩
    · refine p_aload_n dX6_cellAt_20 rfl ?_
      refine p_getr dX6_cellAt_21 fl_X6_15 (fun _ _ _ => rfl) (wc_X6 w0) (wf_X6_1 w0) ?_
      refine p_iload_n dX6_cellAt_24 rfl ?_
      refine q_iald dX6_cellAt_25 (wa_X6_1 w0) rfl h (fun h => ?_)
      refine p_goto (tgt := 30) dX6_cellAt_26 (by decide) ?_
      exact p_ireturn dX6_cellAt_30 (Nat.le_of_ble_eq_true rfl) (Nat.le_of_ble_eq_true rfl) ⟨_, rfl, rfl, rfl, ok_some h⟩
theorem s_X6_cellAt {l : Launch} {g : GH} (hG : G0 l g) {n : Nat} {h0 : Nat} {v1 : Int} {v2 : Int} (w0 : WX6 h0) {D : DT} {K : Int → Prop} (h : ok (m_X6_cellAt h0 v1 v2 D) K) : Sat l g yX6_cellAt cX6_cellAt 4 (some .int) 0 0 0 [vR g h0, vI v1, vI v2] (LF n) D (PIr n D K) := Sat.of hG (by decide) (Nat.le_of_ble_eq_true rfl) (by simp [Value.category]) (x_X6_cellAt hG w0 h)
abbrev E_X2_stand (l : Launch) (g : GH) (P : PT) : ENV := mkE l g yX2_stand cX2_stand 11 none [] 2 0 0 P
abbrev P_X2_stand_63 (l : Launch) (g : GH) (n : Nat) (K : DT → Prop) (h0 : Nat) (h2 : Nat) (h3 : Nat) (v1 : Int) (v4 : Int) (v5 : Int) (v6 : Int) (v7 : Int) (v8 : Int) : (Int × DT) → Prop := fun s => Px (E_X2_stand l g (PVw n K)) 63 [some (vR g h0), some (vI v1), none, some (vR g h3), some (vI v4), some (vI v5), some (vI v6), some (vI v7), some (vI v8), some (vI s.1), none] [] (LF n) s.2 0 0
set_option maxRecDepth 100000 in
set_option maxHeartbeats 4000000 in
theorem x_X2_stand_63 {l : Launch} {g : GH} (hG : G0 l g) {n : Nat} {h0 h2 h3 : Nat} {v1 v4 v5 v6 v7 v8 : Int} (w0 : WX2 h0) (w2 : WX8 h2) (w3 : WX6 h3) {K : DT → Prop} {s : (Int × DT)} (h : ok (m_X2_stand_63 h0 h2 h3 v1 v4 v5 v6 v7 v8 s) K) : Px (E_X2_stand l g (PVw n K)) 63 [some (vR g h0), some (vI v1), none, some (vR g h3), some (vI v4), some (vI v5), some (vI v6), some (vI v7), some (vI v8), some (vI s.1), none] [] (LF n) s.2 0 0 := by
  refine ok_loop (P := (P_X2_stand_63 l g n K h0 h2 h3 v1 v4 v5 v6 v7 v8)) (fun s h => ?_) h
  refine p_iload dX2_stand_63 rfl ?_
  refine p_iload dX2_stand_65 rfl ?_
  refine q_icmp_ge (tgt := 142) dX2_stand_67 (by decide) h (fun h => ?_) (fun h => ?_)
  · have h := kl_inr h
    exact p_return dX2_stand_142 (Nat.le_of_ble_eq_true rfl) (Nat.le_of_ble_eq_true rfl) ⟨rfl, rfl, ok_some h⟩
  · refine p_iload dX2_stand_70 rfl ?_
    refine p_iload dX2_stand_72 rfl ?_
    refine q_icmp_ge (tgt := 142) dX2_stand_74 (by decide) h (fun h => ?_) (fun h => ?_)
    · have h := kl_inr h
      exact p_return dX2_stand_142 (Nat.le_of_ble_eq_true rfl) (Nat.le_of_ble_eq_true rfl) ⟨rfl, rfl, ok_some h⟩
    · refine p_aload_n dX2_stand_77 rfl ?_
      refine p_iload dX2_stand_78 rfl ?_
      refine p_iload dX2_stand_80 rfl ?_
      refine p_iload_n dX2_stand_82 rfl ?_
      refine p_imul dX2_stand_83 ?_
      refine p_iload dX2_stand_84 rfl ?_
      refine p_iadd dX2_stand_86 ?_
      refine p_iload dX2_stand_87 rfl ?_
      refine q_irem dX2_stand_89 h (fun h => ?_)
      refine cV_Ir [vI v4, vI (((s.1 * v1) + v5) % v6)] [] dX2_stand_90 yv_X6_cellAt ml_X2_71 (r := (RX6, TX6, 9)) rfl rfl (Nat.le_of_ble_eq_true rfl) rfl (Nat.le_of_ble_eq_true rfl) (Nat.le_of_ble_eq_true rfl) (Nat.le_of_ble_eq_true rfl) (wc_X6 w3) h (fun K h => s_X6_cellAt hG w3 h) (fun r90 h => ?_)
      refine p_istore dX2_stand_93 (Nat.le_of_ble_eq_true rfl) rfl ?_
      refine p_iload dX2_stand_95 rfl ?_
      refine p_iconst dX2_stand_97 ?_
      refine q_icmp_eq (tgt := 136) dX2_stand_98 (by decide) h (fun h => ?_) (fun h => ?_)
      · refine p_iinc dX2_stand_136 rfl (Nat.le_of_ble_eq_true rfl) rfl ?_
        refine p_goto (tgt := 63) dX2_stand_139 (by decide) ?_
        exact p_weak (leL.same (leL.same (leL.drop (leL.same (leL.same (leL.same (leL.same (leL.same (leL.same (leL.same (leL.drop leL.nil))))))))))) (kl_inl (P := (P_X2_stand_63 l g n K h0 h2 h3 v1 v4 v5 v6 v7 v8)) h)
      · refine p_aload_n dX2_stand_101 rfl ?_
        refine p_getr dX2_stand_102 fl_X2_18 (fun _ _ _ => rfl) (wc_X2 w0) (wf_X2_2 w0) ?_
        refine p_iload dX2_stand_105 rfl ?_
        refine p_sipush dX2_stand_107 (by decide) ?_
        refine p_imul dX2_stand_110 ?_
        refine p_iload dX2_stand_111 rfl ?_
        refine p_iadd dX2_stand_113 ?_
        refine p_iload dX2_stand_114 rfl ?_
        refine p_iload dX2_stand_116 rfl ?_
        refine q_idiv dX2_stand_118 h (fun h => ?_)
        refine p_iload dX2_stand_119 rfl ?_
        refine p_iload dX2_stand_121 rfl ?_
        refine p_iload dX2_stand_123 rfl ?_
        refine q_irem dX2_stand_125 h (fun h => ?_)
        refine q_icmp_ge (tgt := 133) dX2_stand_126 (by decide) h (fun h => ?_) (fun h => ?_)
        · refine p_iconst dX2_stand_133 ?_
          refine p_iadd dX2_stand_134 ?_
          refine q_iast dX2_stand_135 (wa_X2_2 w0) rfl h (fun D135 h => ?_)
          refine p_iinc dX2_stand_136 rfl (Nat.le_of_ble_eq_true rfl) rfl ?_
          refine p_goto (tgt := 63) dX2_stand_139 (by decide) ?_
          exact p_weak (leL.same (leL.same (leL.drop (leL.same (leL.same (leL.same (leL.same (leL.same (leL.same (leL.same (leL.drop leL.nil))))))))))) (kl_inl (P := (P_X2_stand_63 l g n K h0 h2 h3 v1 v4 v5 v6 v7 v8)) h)
        · refine p_iconst dX2_stand_129 ?_
          refine p_goto (tgt := 134) dX2_stand_130 (by decide) ?_
          refine p_iadd dX2_stand_134 ?_
          refine q_iast dX2_stand_135 (wa_X2_2 w0) rfl h (fun D135 h => ?_)
          refine p_iinc dX2_stand_136 rfl (Nat.le_of_ble_eq_true rfl) rfl ?_
          refine p_goto (tgt := 63) dX2_stand_139 (by decide) ?_
          exact p_weak (leL.same (leL.same (leL.drop (leL.same (leL.same (leL.same (leL.same (leL.same (leL.same (leL.same (leL.drop leL.nil))))))))))) (kl_inl (P := (P_X2_stand_63 l g n K h0 h2 h3 v1 v4 v5 v6 v7 v8)) h)
set_option maxRecDepth 100000 in
set_option maxHeartbeats 4000000 in
theorem x_X2_stand {l : Launch} {g : GH} (hG : G0 l g) {n : Nat} {h0 : Nat} {v1 : Int} {h2 : Nat} {h3 : Nat} {v4 : Int} {v5 : Int} (w0 : WX2 h0) (w2 : WX8 h2) (w3 : WX6 h3) {D : DT} {K : DT → Prop} (h : ok (m_X2_stand h0 v1 h2 h3 v4 v5 D) K) : Px (E_X2_stand l g (PVw n K)) 0 [some (vR g h0), some (vI v1), some (vR g h2), some (vR g h3), some (vI v4), some (vI v5), none, none, none, none, none] [] (LF n) D 0 0 := by
  refine p_aload_n dX2_stand_0 rfl ?_
  refine p_getr dX2_stand_1 fl_X2_62 (fun _ _ _ => rfl) (wc_X8 w2) (wf_X8_1 w2) ?_
  refine p_iload dX2_stand_4 rfl ?_
  refine q_iald dX2_stand_6 (wa_X8_1 w2) rfl h (fun h => ?_)
  refine p_istore dX2_stand_7 (Nat.le_of_ble_eq_true rfl) rfl ?_
  refine p_iload dX2_stand_9 rfl ?_
  refine p_iconst dX2_stand_11 ?_
  refine q_icmp_lt (tgt := 20) dX2_stand_12 (by decide) h (fun h => ?_) (fun h => ?_)
  · exact p_return dX2_stand_20 (Nat.le_of_ble_eq_true rfl) (Nat.le_of_ble_eq_true rfl) ⟨rfl, rfl, ok_some h⟩
  · refine p_iload_n dX2_stand_15 rfl ?_
    refine p_iconst dX2_stand_16 ?_
    refine q_icmp_ge (tgt := 21) dX2_stand_17 (by decide) h (fun h => ?_) (fun h => ?_)
    · refine p_aload_n dX2_stand_21 rfl ?_
      refine p_iload dX2_stand_22 rfl ?_
      refine p_iload dX2_stand_24 rfl ?_
      refine p_aload_n dX2_stand_26 rfl ?_
      refine p_geti dX2_stand_27 fl_X2_9 (fun _ _ _ => rfl) (wc_X2 w0) ?_
      refine cV_Ir [vI v4, vI v5, vI (D.1 h0 0)] [] dX2_stand_30 yv_X8_dotsOf ml_X2_67 (r := (RX8, TX8, 7)) rfl rfl (Nat.le_of_ble_eq_true rfl) rfl (Nat.le_of_ble_eq_true rfl) (Nat.le_of_ble_eq_true rfl) (Nat.le_of_ble_eq_true rfl) (wc_X8 w2) h (fun K h => s_X8_dotsOf hG w2 h) (fun r30 h => ?_)
      refine p_istore dX2_stand_33 (Nat.le_of_ble_eq_true rfl) rfl ?_
      refine p_iload dX2_stand_35 rfl ?_
      refine p_iload_n dX2_stand_37 rfl ?_
      refine q_irem dX2_stand_38 h (fun h => ?_)
      refine q_if_ne (tgt := 49) dX2_stand_39 (by decide) h (fun h => ?_) (fun h => ?_)
      · refine p_iload dX2_stand_49 rfl ?_
        refine p_istore dX2_stand_51 (Nat.le_of_ble_eq_true rfl) rfl ?_
        refine p_iload dX2_stand_53 rfl ?_
        refine p_iconst dX2_stand_55 ?_
        refine q_icmp_ge (tgt := 60) dX2_stand_56 (by decide) h (fun h => ?_) (fun h => ?_)
        · refine p_iconst dX2_stand_60 ?_
          refine p_istore dX2_stand_61 (Nat.le_of_ble_eq_true rfl) rfl ?_
          exact p_weak (leL.same (leL.same (leL.drop (leL.same (leL.same (leL.same (leL.same (leL.same (leL.same (leL.same (leL.drop leL.nil))))))))))) (x_X2_stand_63 hG w0 w2 w3 h)
        · exact p_return dX2_stand_59 (Nat.le_of_ble_eq_true rfl) (Nat.le_of_ble_eq_true rfl) ⟨rfl, rfl, ok_some h⟩
      · refine p_iload dX2_stand_42 rfl ?_
        refine p_iload_n dX2_stand_44 rfl ?_
        refine q_idiv dX2_stand_45 h (fun h => ?_)
        refine p_goto (tgt := 51) dX2_stand_46 (by decide) ?_
        refine p_istore dX2_stand_51 (Nat.le_of_ble_eq_true rfl) rfl ?_
        refine p_iload dX2_stand_53 rfl ?_
        refine p_iconst dX2_stand_55 ?_
        refine q_icmp_ge (tgt := 60) dX2_stand_56 (by decide) h (fun h => ?_) (fun h => ?_)
        · refine p_iconst dX2_stand_60 ?_
          refine p_istore dX2_stand_61 (Nat.le_of_ble_eq_true rfl) rfl ?_
          exact p_weak (leL.same (leL.same (leL.drop (leL.same (leL.same (leL.same (leL.same (leL.same (leL.same (leL.same (leL.drop leL.nil))))))))))) (x_X2_stand_63 hG w0 w2 w3 h)
        · exact p_return dX2_stand_59 (Nat.le_of_ble_eq_true rfl) (Nat.le_of_ble_eq_true rfl) ⟨rfl, rfl, ok_some h⟩
    · exact p_return dX2_stand_20 (Nat.le_of_ble_eq_true rfl) (Nat.le_of_ble_eq_true rfl) ⟨rfl, rfl, ok_some h⟩
theorem s_X2_stand {l : Launch} {g : GH} (hG : G0 l g) {n : Nat} {h0 : Nat} {v1 : Int} {h2 : Nat} {h3 : Nat} {v4 : Int} {v5 : Int} (w0 : WX2 h0) (w2 : WX8 h2) (w3 : WX6 h3) {D : DT} {K : DT → Prop} (h : ok (m_X2_stand h0 v1 h2 h3 v4 v5 D) K) : Sat l g yX2_stand cX2_stand 11 none 2 0 0 [vR g h0, vI v1, vR g h2, vR g h3, vI v4, vI v5] (LF n) D (PVw n K) := Sat.of hG (by decide) (Nat.le_of_ble_eq_true rfl) (by simp [Value.category]) (x_X2_stand hG w0 w2 w3 h)
abbrev E_X2_addUp (l : Launch) (g : GH) (P : PT) : ENV := mkE l g yX2_addUp cX2_addUp 4 none [] 0 0 0 P
abbrev P_X2_addUp_7 (l : Launch) (g : GH) (n : Nat) (K : DT → Prop) (h0 : Nat) : (Int × DT) → Prop := fun s => Px (E_X2_addUp l g (PVw n K)) 7 [some (vR g h0), some (vI s.1), none, none] [] (LF n) s.2 0 0
abbrev P_X2_addUp_19 (l : Launch) (g : GH) (n : Nat) (K : DT → Prop) (h0 : Nat) (v1 : Int) (D : DT) : (Int × Int) → Prop := fun s => Px (E_X2_addUp l g (PVw n K)) 19 [some (vR g h0), some (vI v1), some (vI s.1), some (vI s.2)] [] (LF n) D 0 0
set_option maxRecDepth 100000 in
set_option maxHeartbeats 4000000 in
theorem x_X2_addUp_19 {l : Launch} {g : GH} (hG : G0 l g) {n : Nat} {h0 : Nat} {v1 : Int} (w0 : WX2 h0) {D : DT} {K : DT → Prop} {s : (Int × Int)} (h : ok (m_X2_addUp_19 h0 v1 D s) (KL (P_X2_addUp_7 l g n K h0) K)) : Px (E_X2_addUp l g (PVw n K)) 19 [some (vR g h0), some (vI v1), some (vI s.1), some (vI s.2)] [] (LF n) D 0 0 := by
  refine ok_loop (P := (P_X2_addUp_19 l g n K h0 v1 D)) (fun s h => ?_) h
  refine p_iload_n dX2_addUp_19 rfl ?_
  refine p_iconst dX2_addUp_20 ?_
  refine q_icmp_ge (tgt := 45) dX2_addUp_21 (by decide) h (fun h => ?_) (fun h => ?_)
  · have h := kl_inr h
    refine p_aload_n dX2_addUp_45 rfl ?_
    refine p_getr dX2_addUp_46 fl_X2_22 (fun _ _ _ => rfl) (wc_X2 w0) (wf_X2_3 w0) ?_
    refine p_iload_n dX2_addUp_49 rfl ?_
    refine p_iload_n dX2_addUp_50 rfl ?_
    refine q_iast dX2_addUp_51 (wa_X2_3 w0) rfl h (fun D51 h => ?_)
    refine p_iload_n dX2_addUp_52 rfl ?_
    refine q_if_le (tgt := 76) dX2_addUp_53 (by decide) h (fun h => ?_) (fun h => ?_)
    · refine p_iinc dX2_addUp_76 rfl (Nat.le_of_ble_eq_true rfl) rfl ?_
      refine p_goto (tgt := 7) dX2_addUp_79 (by decide) ?_
      exact p_weak (leL.same (leL.same (leL.drop (leL.drop leL.nil)))) (kl_inl (P := (P_X2_addUp_7 l g n K h0)) h)
    · refine p_aload_n dX2_addUp_56 rfl ?_
      refine p_getr dX2_addUp_57 fl_X2_25 (fun _ _ _ => rfl) (wc_X2 w0) (wf_X2_4 w0) ?_
      refine p_aload_n dX2_addUp_60 rfl ?_
      refine p_geti dX2_addUp_61 fl_X2_28 (fun _ _ _ => rfl) (wc_X2 w0) ?_
      refine p_iload_n dX2_addUp_64 rfl ?_
      refine q_iast dX2_addUp_65 (wa_X2_4 w0) rfl h (fun D65 h => ?_)
      refine p_aload_n dX2_addUp_66 rfl ?_
      refine p_dup dX2_addUp_67 rfl ?_
      refine p_geti dX2_addUp_68 fl_X2_28 (fun _ _ _ => rfl) (wc_X2 w0) ?_
      refine p_iconst dX2_addUp_71 ?_
      refine p_iadd dX2_addUp_72 ?_
      refine q_puti dX2_addUp_73 fq_X2_28 rfl (wc_X2 w0) h (fun D73 h => ?_)
      refine p_iinc dX2_addUp_76 rfl (Nat.le_of_ble_eq_true rfl) rfl ?_
      refine p_goto (tgt := 7) dX2_addUp_79 (by decide) ?_
      exact p_weak (leL.same (leL.same (leL.drop (leL.drop leL.nil)))) (kl_inl (P := (P_X2_addUp_7 l g n K h0)) h)
  · refine p_iload_n dX2_addUp_24 rfl ?_
    refine p_aload_n dX2_addUp_25 rfl ?_
    refine p_getr dX2_addUp_26 fl_X2_18 (fun _ _ _ => rfl) (wc_X2 w0) (wf_X2_2 w0) ?_
    refine p_iload_n dX2_addUp_29 rfl ?_
    refine p_sipush dX2_addUp_30 (by decide) ?_
    refine p_imul dX2_addUp_33 ?_
    refine p_iload_n dX2_addUp_34 rfl ?_
    refine p_iadd dX2_addUp_35 ?_
    refine q_iald dX2_addUp_36 (wa_X2_2 w0) rfl h (fun h => ?_)
    refine p_iadd dX2_addUp_37 ?_
    refine p_istore_n dX2_addUp_38 (Nat.le_of_ble_eq_true rfl) rfl ?_
    refine p_iinc dX2_addUp_39 rfl (Nat.le_of_ble_eq_true rfl) rfl ?_
    refine p_goto (tgt := 19) dX2_addUp_42 (by decide) ?_
    exact p_weak (leL.same (leL.same (leL.same (leL.same leL.nil)))) (kl_inl (P := (P_X2_addUp_19 l g n K h0 v1 D)) h)
set_option maxRecDepth 100000 in
set_option maxHeartbeats 4000000 in
theorem x_X2_addUp_7 {l : Launch} {g : GH} (hG : G0 l g) {n : Nat} {h0 : Nat} (w0 : WX2 h0) {K : DT → Prop} {s : (Int × DT)} (h : ok (m_X2_addUp_7 h0 s) K) : Px (E_X2_addUp l g (PVw n K)) 7 [some (vR g h0), some (vI s.1), none, none] [] (LF n) s.2 0 0 := by
  refine ok_loop (P := (P_X2_addUp_7 l g n K h0)) (fun s h => ?_) h
  refine p_iload_n dX2_addUp_7 rfl ?_
  refine p_aload_n dX2_addUp_8 rfl ?_
  refine p_geti dX2_addUp_9 fl_X2_15 (fun _ _ _ => rfl) (wc_X2 w0) ?_
  refine q_icmp_ge (tgt := 82) dX2_addUp_12 (by decide) h (fun h => ?_) (fun h => ?_)
  · have h := kl_inr h
    exact p_return dX2_addUp_82 (Nat.le_of_ble_eq_true rfl) (Nat.le_of_ble_eq_true rfl) ⟨rfl, rfl, ok_some h⟩
  · refine p_iconst dX2_addUp_15 ?_
    refine p_istore_n dX2_addUp_16 (Nat.le_of_ble_eq_true rfl) rfl ?_
    refine p_iconst dX2_addUp_17 ?_
    refine p_istore_n dX2_addUp_18 (Nat.le_of_ble_eq_true rfl) rfl ?_
    exact p_weak (leL.same (leL.same (leL.same (leL.same leL.nil)))) (x_X2_addUp_19 hG w0 h)
set_option maxRecDepth 100000 in
set_option maxHeartbeats 4000000 in
theorem x_X2_addUp {l : Launch} {g : GH} (hG : G0 l g) {n : Nat} {h0 : Nat} (w0 : WX2 h0) {D : DT} {K : DT → Prop} (h : ok (m_X2_addUp h0 D) K) : Px (E_X2_addUp l g (PVw n K)) 0 [some (vR g h0), none, none, none] [] (LF n) D 0 0 := by
  refine p_aload_n dX2_addUp_0 rfl ?_
  refine p_iconst dX2_addUp_1 ?_
  refine q_puti dX2_addUp_2 fq_X2_28 rfl (wc_X2 w0) h (fun D2 h => ?_)
  refine p_iconst dX2_addUp_5 ?_
  refine p_istore_n dX2_addUp_6 (Nat.le_of_ble_eq_true rfl) rfl ?_
  exact p_weak (leL.same (leL.same (leL.drop (leL.drop leL.nil)))) (x_X2_addUp_7 hG w0 h)
theorem s_X2_addUp {l : Launch} {g : GH} (hG : G0 l g) {n : Nat} {h0 : Nat} (w0 : WX2 h0) {D : DT} {K : DT → Prop} (h : ok (m_X2_addUp h0 D) K) : Sat l g yX2_addUp cX2_addUp 4 none 0 0 0 [vR g h0] (LF n) D (PVw n K) := Sat.of hG (by decide) (Nat.le_of_ble_eq_true rfl) (by simp [Value.category]) (x_X2_addUp hG w0 h)
abbrev E_X2_gather (l : Launch) (g : GH) (P : PT) : ENV := mkE l g yX2_gather cX2_gather 7 none [] 3 0 0 P
abbrev P_X2_gather_25 (l : Launch) (g : GH) (n : Nat) (K : DT → Prop) (h0 : Nat) (h1 : Nat) (h2 : Nat) (h3 : Nat) : (Int × DT) → Prop := fun s => Px (E_X2_gather l g (PVw n K)) 25 [some (vR g h0), some (vR g h1), some (vR g h2), some (vR g h3), none, some (vI s.1), none] [] (LF n) s.2 0 0
abbrev P_X2_gather_37 (l : Launch) (g : GH) (n : Nat) (K : DT → Prop) (h0 : Nat) (h1 : Nat) (h2 : Nat) (h3 : Nat) (v5 : Int) : (Int × DT) → Prop := fun s => Px (E_X2_gather l g (PVw n K)) 37 [some (vR g h0), some (vR g h1), some (vR g h2), some (vR g h3), none, some (vI v5), some (vI s.1)] [] (LF n) s.2 0 0
set_option maxRecDepth 100000 in
set_option maxHeartbeats 4000000 in
theorem x_X2_gather_37 {l : Launch} {g : GH} (hG : G0 l g) {n : Nat} {h0 h1 h2 h3 : Nat} {v5 : Int} (w0 : WX2 h0) (w1 : WX1 h1) (w2 : WX8 h2) (w3 : WX6 h3) {K : DT → Prop} {s : (Int × DT)} (h : ok (m_X2_gather_37 h0 h1 h2 h3 v5 s) (KL (P_X2_gather_25 l g n K h0 h1 h2 h3) K)) : Px (E_X2_gather l g (PVw n K)) 37 [some (vR g h0), some (vR g h1), some (vR g h2), some (vR g h3), none, some (vI v5), some (vI s.1)] [] (LF n) s.2 0 0 := by
  refine ok_loop (P := (P_X2_gather_37 l g n K h0 h1 h2 h3 v5)) (fun s h => ?_) h
  refine p_iload dX2_gather_37 rfl ?_
  refine p_aload_n dX2_gather_39 rfl ?_
  refine p_geti dX2_gather_40 fl_X2_52 (fun _ _ _ => rfl) (wc_X1 w1) ?_
  refine q_icmp_ge (tgt := 66) dX2_gather_43 (by decide) h (fun h => ?_) (fun h => ?_)
  · have h := kl_inr h
    refine p_iinc dX2_gather_66 rfl (Nat.le_of_ble_eq_true rfl) rfl ?_
    refine p_goto (tgt := 25) dX2_gather_69 (by decide) ?_
    exact p_weak (leL.same (leL.same (leL.same (leL.same (leL.drop (leL.same (leL.drop leL.nil))))))) (kl_inl (P := (P_X2_gather_25 l g n K h0 h1 h2 h3)) h)
  · refine p_aload_n dX2_gather_46 rfl ?_
    refine p_aload_n dX2_gather_47 rfl ?_
    refine p_geti dX2_gather_48 fl_X2_52 (fun _ _ _ => rfl) (wc_X1 w1) ?_
    refine p_aload_n dX2_gather_51 rfl ?_
    refine p_aload_n dX2_gather_52 rfl ?_
    refine p_iload dX2_gather_53 rfl ?_
    refine p_iload dX2_gather_55 rfl ?_
    refine cV_Vw [vI (s.2.1 h1 3), vR g h2, vR g h3, vI v5, vI s.1] [] dX2_gather_57 yv_X2_stand ml_X2_55 (r := (RX2, TX2, 7)) rfl rfl (Nat.le_of_ble_eq_true rfl) rfl (Nat.le_of_ble_eq_true rfl) (Nat.le_of_ble_eq_true rfl) (Nat.le_of_ble_eq_true rfl) (wc_X2 w0) h (fun K h => s_X2_stand hG w0 w2 w3 h) (fun D57 h => ?_)
    refine p_iinc dX2_gather_60 rfl (Nat.le_of_ble_eq_true rfl) rfl ?_
    refine p_goto (tgt := 37) dX2_gather_63 (by decide) ?_
    exact p_weak (leL.same (leL.same (leL.same (leL.same (leL.drop (leL.same (leL.same leL.nil))))))) (kl_inl (P := (P_X2_gather_37 l g n K h0 h1 h2 h3 v5)) h)
set_option maxRecDepth 100000 in
set_option maxHeartbeats 4000000 in
theorem x_X2_gather_25 {l : Launch} {g : GH} (hG : G0 l g) {n : Nat} {h0 h1 h2 h3 : Nat} (w0 : WX2 h0) (w1 : WX1 h1) (w2 : WX8 h2) (w3 : WX6 h3) {K : DT → Prop} {s : (Int × DT)} (h : ok (m_X2_gather_25 h0 h1 h2 h3 s) K) : Px (E_X2_gather l g (PVw n K)) 25 [some (vR g h0), some (vR g h1), some (vR g h2), some (vR g h3), none, some (vI s.1), none] [] (LF n) s.2 0 0 := by
  refine ok_loop (P := (P_X2_gather_25 l g n K h0 h1 h2 h3)) (fun s h => ?_) h
  refine p_iload dX2_gather_25 rfl ?_
  refine p_aload_n dX2_gather_27 rfl ?_
  refine p_geti dX2_gather_28 fl_X2_49 (fun _ _ _ => rfl) (wc_X1 w1) ?_
  refine q_icmp_ge (tgt := 72) dX2_gather_31 (by decide) h (fun h => ?_) (fun h => ?_)
  · have h := kl_inr h
    refine p_aload_n dX2_gather_72 rfl ?_
    refine cV_Vw [] [] dX2_gather_73 yv_X2_addUp ml_X2_59 (r := (RX2, TX2, 7)) rfl rfl (Nat.le_of_ble_eq_true rfl) rfl (Nat.le_of_ble_eq_true rfl) (Nat.le_of_ble_eq_true rfl) (Nat.le_of_ble_eq_true rfl) (wc_X2 w0) h (fun K h => s_X2_addUp hG w0 h) (fun D73 h => ?_)
    exact p_return dX2_gather_76 (Nat.le_of_ble_eq_true rfl) (Nat.le_of_ble_eq_true rfl) ⟨rfl, rfl, ok_some h⟩
  · refine p_iconst dX2_gather_34 ?_
    refine p_istore dX2_gather_35 (Nat.le_of_ble_eq_true rfl) rfl ?_
    exact p_weak (leL.same (leL.same (leL.same (leL.same (leL.drop (leL.same (leL.same leL.nil))))))) (x_X2_gather_37 hG w0 w1 w2 w3 h)
set_option maxRecDepth 100000 in
set_option maxHeartbeats 4000000 in
theorem x_X2_gather {l : Launch} {g : GH} (hG : G0 l g) {n : Nat} {h0 : Nat} {h1 : Nat} {h2 : Nat} {h3 : Nat} {v4 : Int} (w0 : WX2 h0) (w1 : WX1 h1) (w2 : WX8 h2) (w3 : WX6 h3) {D : DT} {K : DT → Prop} (h : ok (m_X2_gather h0 h1 h2 h3 v4 D) K) : Px (E_X2_gather l g (PVw n K)) 0 [some (vR g h0), some (vR g h1), some (vR g h2), some (vR g h3), some (vI v4), none, none] [] (LF n) D 0 0 := by
  refine p_aload_n dX2_gather_0 rfl ?_
  refine p_iload dX2_gather_1 rfl ?_
  refine q_puti dX2_gather_3 fq_X2_9 rfl (wc_X2 w0) h (fun D3 h => ?_)
  refine p_aload_n dX2_gather_6 rfl ?_
  refine p_aload_n dX2_gather_7 rfl ?_
  refine cV_Ir [] [vR g h0] dX2_gather_8 yv_X1_cells ml_X2_38 (r := (RX1, TX1, 11)) rfl rfl (Nat.le_of_ble_eq_true rfl) rfl (Nat.le_of_ble_eq_true rfl) (Nat.le_of_ble_eq_true rfl) (Nat.le_of_ble_eq_true rfl) (wc_X1 w1) h (fun K h => s_X1_cells hG w1 h) (fun r8 h => ?_)
  refine q_puti dX2_gather_11 fq_X2_15 rfl (wc_X2 w0) h (fun D11 h => ?_)
  refine p_aload_n dX2_gather_14 rfl ?_
  refine p_getr dX2_gather_15 fl_X2_18 (fun _ _ _ => rfl) (wc_X2 w0) (wf_X2_2 w0) ?_
  refine p_iconst dX2_gather_18 ?_
  refine q_fill [] hG dX2_gather_19 (wa_X2_2 w0) ml_X2_43 (Nat.le_of_ble_eq_true rfl) (Nat.le_of_ble_eq_true rfl) (Nat.le_of_ble_eq_true rfl) (Nat.le_of_ble_eq_true rfl) (Nat.le_of_ble_eq_true rfl) h (fun D19 h => ?_)
  refine p_iconst dX2_gather_22 ?_
  refine p_istore dX2_gather_23 (Nat.le_of_ble_eq_true rfl) rfl ?_
  exact p_weak (leL.same (leL.same (leL.same (leL.same (leL.drop (leL.same (leL.drop leL.nil))))))) (x_X2_gather_25 hG w0 w1 w2 w3 h)
theorem s_X2_gather {l : Launch} {g : GH} (hG : G0 l g) {n : Nat} {h0 : Nat} {h1 : Nat} {h2 : Nat} {h3 : Nat} {v4 : Int} (w0 : WX2 h0) (w1 : WX1 h1) (w2 : WX8 h2) (w3 : WX6 h3) {D : DT} {K : DT → Prop} (h : ok (m_X2_gather h0 h1 h2 h3 v4 D) K) : Sat l g yX2_gather cX2_gather 7 none 3 0 0 [vR g h0, vR g h1, vR g h2, vR g h3, vI v4] (LF n) D (PVw n K) := Sat.of hG (by decide) (Nat.le_of_ble_eq_true rfl) (by simp [Value.category]) (x_X2_gather hG w0 w1 w2 w3 h)
abbrev E_X2_weightOf (l : Launch) (g : GH) (P : PT) : ENV := mkE l g yX2_weightOf cX2_weightOf 3 (some .int) [] 0 0 0 P
set_option maxRecDepth 100000 in
set_option maxHeartbeats 4000000 in
theorem x_X2_weightOf {l : Launch} {g : GH} (hG : G0 l g) {n : Nat} {h0 : Nat} {v1 : Int} {v2 : Int} (w0 : WX2 h0) {D : DT} {K : Int → Prop} (h : ok (m_X2_weightOf h0 v1 v2 D) K) : Px (E_X2_weightOf l g (PIr n D K)) 0 [some (vR g h0), some (vI v1), some (vI v2)] [] (LF n) D 0 0 := by
  refine p_iload_n dX2_weightOf_0 rfl ?_
  refine p_iconst dX2_weightOf_1 ?_
  refine q_icmp_ne (tgt := 14) dX2_weightOf_2 (by decide) h (fun h => ?_) (fun h => ?_)
  · refine p_aload_n dX2_weightOf_14 rfl ?_
    refine p_getr dX2_weightOf_15 fl_X2_18 (fun _ _ _ => rfl) (wc_X2 w0) (wf_X2_2 w0) ?_
    refine p_iload_n dX2_weightOf_18 rfl ?_
    refine p_sipush dX2_weightOf_19 (by decide) ?_
    refine p_imul dX2_weightOf_22 ?_
    refine p_iload_n dX2_weightOf_23 rfl ?_
    refine p_iadd dX2_weightOf_24 ?_
    refine q_iald dX2_weightOf_25 (wa_X2_2 w0) rfl h (fun h => ?_)
    exact p_ireturn dX2_weightOf_26 (Nat.le_of_ble_eq_true rfl) (Nat.le_of_ble_eq_true rfl) ⟨_, rfl, rfl, rfl, ok_some h⟩
  · refine p_aload_n dX2_weightOf_5 rfl ?_
    refine p_getr dX2_weightOf_6 fl_X2_22 (fun _ _ _ => rfl) (wc_X2 w0) (wf_X2_3 w0) ?_
    refine p_iload_n dX2_weightOf_9 rfl ?_
    refine q_iald dX2_weightOf_10 (wa_X2_3 w0) rfl h (fun h => ?_)
    refine p_goto (tgt := 26) dX2_weightOf_11 (by decide) ?_
    exact p_ireturn dX2_weightOf_26 (Nat.le_of_ble_eq_true rfl) (Nat.le_of_ble_eq_true rfl) ⟨_, rfl, rfl, rfl, ok_some h⟩
theorem s_X2_weightOf {l : Launch} {g : GH} (hG : G0 l g) {n : Nat} {h0 : Nat} {v1 : Int} {v2 : Int} (w0 : WX2 h0) {D : DT} {K : Int → Prop} (h : ok (m_X2_weightOf h0 v1 v2 D) K) : Sat l g yX2_weightOf cX2_weightOf 3 (some .int) 0 0 0 [vR g h0, vI v1, vI v2] (LF n) D (PIr n D K) := Sat.of hG (by decide) (Nat.le_of_ble_eq_true rfl) (by simp [Value.category]) (x_X2_weightOf hG w0 h)
abbrev E_X2_moreThan (l : Launch) (g : GH) (P : PT) : ENV := mkE l g yX2_moreThan cX2_moreThan 6 (some .int) [] 1 0 0 P
abbrev P_X2_moreThan_5 (l : Launch) (g : GH) (n : Nat) (K : Int → Prop) (h0 : Nat) (h1 : Nat) (h2 : Nat) (D : DT) : (Int × Int) → Prop := fun s => Px (E_X2_moreThan l g (PIr n D K)) 5 [some (vR g h0), some (vR g h1), some (vR g h2), some (vI s.1), some (vI s.2), none] [] (LF n) D 0 0
abbrev P_X2_moreThan_17 (l : Launch) (g : GH) (n : Nat) (K : Int → Prop) (h0 : Nat) (h1 : Nat) (h2 : Nat) (v4 : Int) (D : DT) : (Int × Int) → Prop := fun s => Px (E_X2_moreThan l g (PIr n D K)) 17 [some (vR g h0), some (vR g h1), some (vR g h2), some (vI s.1), some (vI v4), some (vI s.2)] [] (LF n) D 0 0
set_option maxRecDepth 100000 in
set_option maxHeartbeats 4000000 in
theorem x_X2_moreThan_17 {l : Launch} {g : GH} (hG : G0 l g) {n : Nat} {h0 h1 h2 : Nat} {v4 : Int} (w0 : WX2 h0) (w1 : WX2 h1) (w2 : WX1 h2) {D : DT} {K : Int → Prop} {s : (Int × Int)} (h : ok (m_X2_moreThan_17 h0 h1 h2 v4 D s) (KL (P_X2_moreThan_5 l g n K h0 h1 h2 D) K)) : Px (E_X2_moreThan l g (PIr n D K)) 17 [some (vR g h0), some (vR g h1), some (vR g h2), some (vI s.1), some (vI v4), some (vI s.2)] [] (LF n) D 0 0 := by
  refine ok_loop (P := (P_X2_moreThan_17 l g n K h0 h1 h2 v4 D)) (fun s h => ?_) h
  refine p_iload dX2_moreThan_17 rfl ?_
  refine p_aload_n dX2_moreThan_19 rfl ?_
  refine cV_Ir [] [vI s.2] dX2_moreThan_20 yv_X1_cells ml_X2_38 (r := (RX1, TX1, 11)) rfl rfl (Nat.le_of_ble_eq_true rfl) rfl (Nat.le_of_ble_eq_true rfl) (Nat.le_of_ble_eq_true rfl) (Nat.le_of_ble_eq_true rfl) (wc_X1 w2) h (fun K h => s_X1_cells hG w2 h) (fun r20 h => ?_)
  refine q_icmp_ge (tgt := 56) dX2_moreThan_23 (by decide) h (fun h => ?_) (fun h => ?_)
  · have h := kl_inr h
    refine p_iinc dX2_moreThan_56 rfl (Nat.le_of_ble_eq_true rfl) rfl ?_
    refine p_goto (tgt := 5) dX2_moreThan_59 (by decide) ?_
    exact p_weak (leL.same (leL.same (leL.same (leL.same (leL.same (leL.drop leL.nil)))))) (kl_inl (P := (P_X2_moreThan_5 l g n K h0 h1 h2 D)) h)
  · refine p_iload_n dX2_moreThan_26 rfl ?_
    refine p_iconst dX2_moreThan_27 ?_
    refine p_aload_n dX2_moreThan_28 rfl ?_
    refine p_iload dX2_moreThan_29 rfl ?_
    refine p_iload dX2_moreThan_31 rfl ?_
    refine cV_Ir [vI s.2, vI v4] [vI 0, vI s.1] dX2_moreThan_33 yv_X2_weightOf ml_X2_77 (r := (RX2, TX2, 7)) rfl rfl (Nat.le_of_ble_eq_true rfl) rfl (Nat.le_of_ble_eq_true rfl) (Nat.le_of_ble_eq_true rfl) (Nat.le_of_ble_eq_true rfl) (wc_X2 w0) h (fun K h => s_X2_weightOf hG w0 h) (fun r33 h => ?_)
    refine p_aload_n dX2_moreThan_36 rfl ?_
    refine p_iload dX2_moreThan_37 rfl ?_
    refine p_iload dX2_moreThan_39 rfl ?_
    refine cV_Ir [vI s.2, vI v4] [vI r33, vI 0, vI s.1] dX2_moreThan_41 yv_X2_weightOf ml_X2_77 (r := (RX2, TX2, 7)) rfl rfl (Nat.le_of_ble_eq_true rfl) rfl (Nat.le_of_ble_eq_true rfl) (Nat.le_of_ble_eq_true rfl) (Nat.le_of_ble_eq_true rfl) (wc_X2 w1) h (fun K h => s_X2_weightOf hG w1 h) (fun r41 h => ?_)
    refine p_isub dX2_moreThan_44 ?_
    refine q_max [vI s.1] dX2_moreThan_45 ml_X2_80 (Nat.le_of_ble_eq_true rfl) (Nat.le_of_ble_eq_true rfl) (Nat.le_of_ble_eq_true rfl) (Nat.le_of_ble_eq_true rfl) h (fun h => ?_)
    refine p_iadd dX2_moreThan_48 ?_
    refine p_istore_n dX2_moreThan_49 (Nat.le_of_ble_eq_true rfl) rfl ?_
    refine p_iinc dX2_moreThan_50 rfl (Nat.le_of_ble_eq_true rfl) rfl ?_
    refine p_goto (tgt := 17) dX2_moreThan_53 (by decide) ?_
    exact p_weak (leL.same (leL.same (leL.same (leL.same (leL.same (leL.same leL.nil)))))) (kl_inl (P := (P_X2_moreThan_17 l g n K h0 h1 h2 v4 D)) h)
set_option maxRecDepth 100000 in
set_option maxHeartbeats 4000000 in
theorem x_X2_moreThan_5 {l : Launch} {g : GH} (hG : G0 l g) {n : Nat} {h0 h1 h2 : Nat} (w0 : WX2 h0) (w1 : WX2 h1) (w2 : WX1 h2) {D : DT} {K : Int → Prop} {s : (Int × Int)} (h : ok (m_X2_moreThan_5 h0 h1 h2 D s) K) : Px (E_X2_moreThan l g (PIr n D K)) 5 [some (vR g h0), some (vR g h1), some (vR g h2), some (vI s.1), some (vI s.2), none] [] (LF n) D 0 0 := by
  refine ok_loop (P := (P_X2_moreThan_5 l g n K h0 h1 h2 D)) (fun s h => ?_) h
  refine p_iload dX2_moreThan_5 rfl ?_
  refine p_aload_n dX2_moreThan_7 rfl ?_
  refine p_geti dX2_moreThan_8 fl_X2_52 (fun _ _ _ => rfl) (wc_X1 w2) ?_
  refine q_icmp_ge (tgt := 62) dX2_moreThan_11 (by decide) h (fun h => ?_) (fun h => ?_)
  · have h := kl_inr h
    refine p_iload_n dX2_moreThan_62 rfl ?_
    exact p_ireturn dX2_moreThan_63 (Nat.le_of_ble_eq_true rfl) (Nat.le_of_ble_eq_true rfl) ⟨_, rfl, rfl, rfl, ok_some h⟩
  · refine p_iconst dX2_moreThan_14 ?_
    refine p_istore dX2_moreThan_15 (Nat.le_of_ble_eq_true rfl) rfl ?_
    exact p_weak (leL.same (leL.same (leL.same (leL.same (leL.same (leL.same leL.nil)))))) (x_X2_moreThan_17 hG w0 w1 w2 h)
set_option maxRecDepth 100000 in
set_option maxHeartbeats 4000000 in
theorem x_X2_moreThan {l : Launch} {g : GH} (hG : G0 l g) {n : Nat} {h0 : Nat} {h1 : Nat} {h2 : Nat} (w0 : WX2 h0) (w1 : WX2 h1) (w2 : WX1 h2) {D : DT} {K : Int → Prop} (h : ok (m_X2_moreThan h0 h1 h2 D) K) : Px (E_X2_moreThan l g (PIr n D K)) 0 [some (vR g h0), some (vR g h1), some (vR g h2), none, none, none] [] (LF n) D 0 0 := by
  refine p_iconst dX2_moreThan_0 ?_
  refine p_istore_n dX2_moreThan_1 (Nat.le_of_ble_eq_true rfl) rfl ?_
  refine p_iconst dX2_moreThan_2 ?_
  refine p_istore dX2_moreThan_3 (Nat.le_of_ble_eq_true rfl) rfl ?_
  exact p_weak (leL.same (leL.same (leL.same (leL.same (leL.same (leL.drop leL.nil)))))) (x_X2_moreThan_5 hG w0 w1 w2 h)
theorem s_X2_moreThan {l : Launch} {g : GH} (hG : G0 l g) {n : Nat} {h0 : Nat} {h1 : Nat} {h2 : Nat} (w0 : WX2 h0) (w1 : WX2 h1) (w2 : WX1 h2) {D : DT} {K : Int → Prop} (h : ok (m_X2_moreThan h0 h1 h2 D) K) : Sat l g yX2_moreThan cX2_moreThan 6 (some .int) 1 0 0 [vR g h0, vR g h1, vR g h2] (LF n) D (PIr n D K) := Sat.of hG (by decide) (Nat.le_of_ble_eq_true rfl) (by simp [Value.category]) (x_X2_moreThan hG w0 w1 w2 h)
abbrev E_X2_leastGap (l : Launch) (g : GH) (P : PT) : ENV := mkE l g yX2_leastGap cX2_leastGap 6 (some .int) [] 1 0 0 P
abbrev P_X2_leastGap_4 (l : Launch) (g : GH) (n : Nat) (K : Int → Prop) (h0 : Nat) (h1 : Nat) (D : DT) : (Int × Int) → Prop := fun s => Px (E_X2_leastGap l g (PIr n D K)) 4 [some (vR g h0), some (vR g h1), some (vI s.1), some (vI s.2), none, none] [] (LF n) D 0 0
abbrev P_X2_leastGap_22 (l : Launch) (g : GH) (n : Nat) (K : Int → Prop) (h0 : Nat) (h1 : Nat) (v3 : Int) (D : DT) : (Int × Int) → Prop := fun s => Px (E_X2_leastGap l g (PIr n D K)) 22 [some (vR g h0), some (vR g h1), some (vI s.1), some (vI v3), some (vI s.2), none] [] (LF n) D 0 0
set_option maxRecDepth 100000 in
set_option maxHeartbeats 4000000 in
theorem x_X2_leastGap_22 {l : Launch} {g : GH} (hG : G0 l g) {n : Nat} {h0 h1 : Nat} {v3 : Int} (w0 : WX2 h0) (w1 : WX1 h1) {D : DT} {K : Int → Prop} {s : (Int × Int)} (h : ok (m_X2_leastGap_22 h0 h1 v3 D s) (KL (P_X2_leastGap_4 l g n K h0 h1 D) K)) : Px (E_X2_leastGap l g (PIr n D K)) 22 [some (vR g h0), some (vR g h1), some (vI s.1), some (vI v3), some (vI s.2), none] [] (LF n) D 0 0 := by
  refine ok_loop (P := (P_X2_leastGap_22 l g n K h0 h1 v3 D)) (fun s h => ?_) h
  refine p_iload dX2_leastGap_22 rfl ?_
  refine p_aload_n dX2_leastGap_24 rfl ?_
  refine p_geti dX2_leastGap_25 fl_X2_28 (fun _ _ _ => rfl) (wc_X2 w0) ?_
  refine q_icmp_ge (tgt := 70) dX2_leastGap_28 (by decide) h (fun h => ?_) (fun h => ?_)
  · have h := kl_inr h
    refine p_iinc dX2_leastGap_70 rfl (Nat.le_of_ble_eq_true rfl) rfl ?_
    refine p_goto (tgt := 4) dX2_leastGap_73 (by decide) ?_
    exact p_weak (leL.same (leL.same (leL.same (leL.same (leL.drop (leL.drop leL.nil)))))) (kl_inl (P := (P_X2_leastGap_4 l g n K h0 h1 D)) h)
  · refine p_aload_n dX2_leastGap_31 rfl ?_
    refine p_aload_n dX2_leastGap_32 rfl ?_
    refine p_getr dX2_leastGap_33 fl_X2_25 (fun _ _ _ => rfl) (wc_X2 w0) (wf_X2_4 w0) ?_
    refine p_iload_n dX2_leastGap_36 rfl ?_
    refine q_iald dX2_leastGap_37 (wa_X2_4 w0) rfl h (fun h => ?_)
    refine p_aload_n dX2_leastGap_38 rfl ?_
    refine p_getr dX2_leastGap_39 fl_X2_25 (fun _ _ _ => rfl) (wc_X2 w0) (wf_X2_4 w0) ?_
    refine p_iload dX2_leastGap_42 rfl ?_
    refine q_iald dX2_leastGap_44 (wa_X2_4 w0) rfl h (fun h => ?_)
    refine cV_Ir [vI (D.2 (h0 + 3) (Int.toNat v3)), vI (D.2 (h0 + 3) (Int.toNat s.2))] [] dX2_leastGap_45 yv_X1_far ml_X2_85 (r := (RX1, TX1, 11)) rfl rfl (Nat.le_of_ble_eq_true rfl) rfl (Nat.le_of_ble_eq_true rfl) (Nat.le_of_ble_eq_true rfl) (Nat.le_of_ble_eq_true rfl) (wc_X1 w1) h (fun K h => s_X1_far hG w1 h) (fun r45 h => ?_)
    refine p_istore dX2_leastGap_48 (Nat.le_of_ble_eq_true rfl) rfl ?_
    refine p_iload_n dX2_leastGap_50 rfl ?_
    refine p_iconst dX2_leastGap_51 ?_
    refine q_icmp_eq (tgt := 61) dX2_leastGap_52 (by decide) h (fun h => ?_) (fun h => ?_)
    · refine p_iload dX2_leastGap_61 rfl ?_
      refine p_istore_n dX2_leastGap_63 (Nat.le_of_ble_eq_true rfl) rfl ?_
      refine p_iinc dX2_leastGap_64 rfl (Nat.le_of_ble_eq_true rfl) rfl ?_
      refine p_goto (tgt := 22) dX2_leastGap_67 (by decide) ?_
      exact p_weak (leL.same (leL.same (leL.same (leL.same (leL.same (leL.drop leL.nil)))))) (kl_inl (P := (P_X2_leastGap_22 l g n K h0 h1 v3 D)) h)
    · refine p_iload dX2_leastGap_55 rfl ?_
      refine p_iload_n dX2_leastGap_57 rfl ?_
      refine q_icmp_ge (tgt := 64) dX2_leastGap_58 (by decide) h (fun h => ?_) (fun h => ?_)
      · refine p_iinc dX2_leastGap_64 rfl (Nat.le_of_ble_eq_true rfl) rfl ?_
        refine p_goto (tgt := 22) dX2_leastGap_67 (by decide) ?_
        exact p_weak (leL.same (leL.same (leL.same (leL.same (leL.same (leL.drop leL.nil)))))) (kl_inl (P := (P_X2_leastGap_22 l g n K h0 h1 v3 D)) h)
      · refine p_iload dX2_leastGap_61 rfl ?_
        refine p_istore_n dX2_leastGap_63 (Nat.le_of_ble_eq_true rfl) rfl ?_
        refine p_iinc dX2_leastGap_64 rfl (Nat.le_of_ble_eq_true rfl) rfl ?_
        refine p_goto (tgt := 22) dX2_leastGap_67 (by decide) ?_
        exact p_weak (leL.same (leL.same (leL.same (leL.same (leL.same (leL.drop leL.nil)))))) (kl_inl (P := (P_X2_leastGap_22 l g n K h0 h1 v3 D)) h)
set_option maxRecDepth 100000 in
set_option maxHeartbeats 4000000 in
theorem x_X2_leastGap_4 {l : Launch} {g : GH} (hG : G0 l g) {n : Nat} {h0 h1 : Nat} (w0 : WX2 h0) (w1 : WX1 h1) {D : DT} {K : Int → Prop} {s : (Int × Int)} (h : ok (m_X2_leastGap_4 h0 h1 D s) K) : Px (E_X2_leastGap l g (PIr n D K)) 4 [some (vR g h0), some (vR g h1), some (vI s.1), some (vI s.2), none, none] [] (LF n) D 0 0 := by
  refine ok_loop (P := (P_X2_leastGap_4 l g n K h0 h1 D)) (fun s h => ?_) h
  refine p_iload_n dX2_leastGap_4 rfl ?_
  refine p_aload_n dX2_leastGap_5 rfl ?_
  refine p_geti dX2_leastGap_6 fl_X2_28 (fun _ _ _ => rfl) (wc_X2 w0) ?_
  refine q_icmp_ge (tgt := 76) dX2_leastGap_9 (by decide) h (fun h => ?_) (fun h => ?_)
  · have h := kl_inr h
    refine p_iload_n dX2_leastGap_76 rfl ?_
    exact p_ireturn dX2_leastGap_77 (Nat.le_of_ble_eq_true rfl) (Nat.le_of_ble_eq_true rfl) ⟨_, rfl, rfl, rfl, ok_some h⟩
  · refine p_iload_n dX2_leastGap_12 rfl ?_
    refine p_iconst dX2_leastGap_13 ?_
    refine q_icmp_eq (tgt := 76) dX2_leastGap_14 (by decide) h (fun h => ?_) (fun h => ?_)
    · have h := kl_inr h
      refine p_iload_n dX2_leastGap_76 rfl ?_
      exact p_ireturn dX2_leastGap_77 (Nat.le_of_ble_eq_true rfl) (Nat.le_of_ble_eq_true rfl) ⟨_, rfl, rfl, rfl, ok_some h⟩
    · refine p_iload_n dX2_leastGap_17 rfl ?_
      refine p_iconst dX2_leastGap_18 ?_
      refine p_iadd dX2_leastGap_19 ?_
      refine p_istore dX2_leastGap_20 (Nat.le_of_ble_eq_true rfl) rfl ?_
      exact p_weak (leL.same (leL.same (leL.same (leL.same (leL.same (leL.drop leL.nil)))))) (x_X2_leastGap_22 hG w0 w1 h)
set_option maxRecDepth 100000 in
set_option maxHeartbeats 4000000 in
theorem x_X2_leastGap {l : Launch} {g : GH} (hG : G0 l g) {n : Nat} {h0 : Nat} {h1 : Nat} (w0 : WX2 h0) (w1 : WX1 h1) {D : DT} {K : Int → Prop} (h : ok (m_X2_leastGap h0 h1 D) K) : Px (E_X2_leastGap l g (PIr n D K)) 0 [some (vR g h0), some (vR g h1), none, none, none, none] [] (LF n) D 0 0 := by
  refine p_iconst dX2_leastGap_0 ?_
  refine p_istore_n dX2_leastGap_1 (Nat.le_of_ble_eq_true rfl) rfl ?_
  refine p_iconst dX2_leastGap_2 ?_
  refine p_istore_n dX2_leastGap_3 (Nat.le_of_ble_eq_true rfl) rfl ?_
  exact p_weak (leL.same (leL.same (leL.same (leL.same (leL.drop (leL.drop leL.nil)))))) (x_X2_leastGap_4 hG w0 w1 h)
theorem s_X2_leastGap {l : Launch} {g : GH} (hG : G0 l g) {n : Nat} {h0 : Nat} {h1 : Nat} (w0 : WX2 h0) (w1 : WX1 h1) {D : DT} {K : Int → Prop} (h : ok (m_X2_leastGap h0 h1 D) K) : Sat l g yX2_leastGap cX2_leastGap 6 (some .int) 1 0 0 [vR g h0, vR g h1] (LF n) D (PIr n D K) := Sat.of hG (by decide) (Nat.le_of_ble_eq_true rfl) (by simp [Value.category]) (x_X2_leastGap hG w0 w1 h)
abbrev E_X2_sumWithin (l : Launch) (g : GH) (P : PT) : ENV := mkE l g yX2_sumWithin cX2_sumWithin 6 (some .int) [] 1 0 0 P
abbrev P_X2_sumWithin_6 (l : Launch) (g : GH) (n : Nat) (K : Int → Prop) (h0 : Nat) (h1 : Nat) (v2 : Int) (v3 : Int) (D : DT) : (Int × Int) → Prop := fun s => Px (E_X2_sumWithin l g (PIr n D K)) 6 [some (vR g h0), some (vR g h1), some (vI v2), some (vI v3), some (vI s.1), some (vI s.2)] [] (LF n) D 0 0
set_option maxRecDepth 100000 in
set_option maxHeartbeats 4000000 in
theorem x_X2_sumWithin_6 {l : Launch} {g : GH} (hG : G0 l g) {n : Nat} {h0 h1 : Nat} {v2 v3 : Int} (w0 : WX2 h0) (w1 : WX1 h1) {D : DT} {K : Int → Prop} {s : (Int × Int)} (h : ok (m_X2_sumWithin_6 h0 h1 v2 v3 D s) K) : Px (E_X2_sumWithin l g (PIr n D K)) 6 [some (vR g h0), some (vR g h1), some (vI v2), some (vI v3), some (vI s.1), some (vI s.2)] [] (LF n) D 0 0 := by
  refine ok_loop (P := (P_X2_sumWithin_6 l g n K h0 h1 v2 v3 D)) (fun s h => ?_) h
  refine p_iload dX2_sumWithin_6 rfl ?_
  refine p_aload_n dX2_sumWithin_8 rfl ?_
  refine p_geti dX2_sumWithin_9 fl_X2_28 (fun _ _ _ => rfl) (wc_X2 w0) ?_
  refine q_icmp_ge (tgt := 54) dX2_sumWithin_12 (by decide) h (fun h => ?_) (fun h => ?_)
  · have h := kl_inr h
    refine p_iload dX2_sumWithin_54 rfl ?_
    exact p_ireturn dX2_sumWithin_56 (Nat.le_of_ble_eq_true rfl) (Nat.le_of_ble_eq_true rfl) ⟨_, rfl, rfl, rfl, ok_some h⟩
  · refine p_aload_n dX2_sumWithin_15 rfl ?_
    refine p_iload_n dX2_sumWithin_16 rfl ?_
    refine p_aload_n dX2_sumWithin_17 rfl ?_
    refine p_getr dX2_sumWithin_18 fl_X2_25 (fun _ _ _ => rfl) (wc_X2 w0) (wf_X2_4 w0) ?_
    refine p_iload dX2_sumWithin_21 rfl ?_
    refine q_iald dX2_sumWithin_23 (wa_X2_4 w0) rfl h (fun h => ?_)
    refine cV_Ir [vI v2, vI (D.2 (h0 + 3) (Int.toNat s.2))] [] dX2_sumWithin_24 yv_X1_far ml_X2_85 (r := (RX1, TX1, 11)) rfl rfl (Nat.le_of_ble_eq_true rfl) rfl (Nat.le_of_ble_eq_true rfl) (Nat.le_of_ble_eq_true rfl) (Nat.le_of_ble_eq_true rfl) (wc_X1 w1) h (fun K h => s_X1_far hG w1 h) (fun r24 h => ?_)
    refine p_iload_n dX2_sumWithin_27 rfl ?_
    refine q_icmp_gt (tgt := 48) dX2_sumWithin_28 (by decide) h (fun h => ?_) (fun h => ?_)
    · refine p_iinc dX2_sumWithin_48 rfl (Nat.le_of_ble_eq_true rfl) rfl ?_
      refine p_goto (tgt := 6) dX2_sumWithin_51 (by decide) ?_
      exact p_weak (leL.same (leL.same (leL.same (leL.same (leL.same (leL.same leL.nil)))))) (kl_inl (P := (P_X2_sumWithin_6 l g n K h0 h1 v2 v3 D)) h)
    · refine p_iload dX2_sumWithin_31 rfl ?_
      refine p_aload_n dX2_sumWithin_33 rfl ?_
      refine p_getr dX2_sumWithin_34 fl_X2_22 (fun _ _ _ => rfl) (wc_X2 w0) (wf_X2_3 w0) ?_
      refine p_aload_n dX2_sumWithin_37 rfl ?_
      refine p_getr dX2_sumWithin_38 fl_X2_25 (fun _ _ _ => rfl) (wc_X2 w0) (wf_X2_4 w0) ?_
      refine p_iload dX2_sumWithin_41 rfl ?_
      refine q_iald dX2_sumWithin_43 (wa_X2_4 w0) rfl h (fun h => ?_)
      refine q_iald dX2_sumWithin_44 (wa_X2_3 w0) rfl h (fun h => ?_)
      refine p_iadd dX2_sumWithin_45 ?_
      refine p_istore dX2_sumWithin_46 (Nat.le_of_ble_eq_true rfl) rfl ?_
      refine p_iinc dX2_sumWithin_48 rfl (Nat.le_of_ble_eq_true rfl) rfl ?_
      refine p_goto (tgt := 6) dX2_sumWithin_51 (by decide) ?_
      exact p_weak (leL.same (leL.same (leL.same (leL.same (leL.same (leL.same leL.nil)))))) (kl_inl (P := (P_X2_sumWithin_6 l g n K h0 h1 v2 v3 D)) h)
set_option maxRecDepth 100000 in
set_option maxHeartbeats 4000000 in
theorem x_X2_sumWithin {l : Launch} {g : GH} (hG : G0 l g) {n : Nat} {h0 : Nat} {h1 : Nat} {v2 : Int} {v3 : Int} (w0 : WX2 h0) (w1 : WX1 h1) {D : DT} {K : Int → Prop} (h : ok (m_X2_sumWithin h0 h1 v2 v3 D) K) : Px (E_X2_sumWithin l g (PIr n D K)) 0 [some (vR g h0), some (vR g h1), some (vI v2), some (vI v3), none, none] [] (LF n) D 0 0 := by
  refine p_iconst dX2_sumWithin_0 ?_
  refine p_istore dX2_sumWithin_1 (Nat.le_of_ble_eq_true rfl) rfl ?_
  refine p_iconst dX2_sumWithin_3 ?_
  refine p_istore dX2_sumWithin_4 (Nat.le_of_ble_eq_true rfl) rfl ?_
  exact p_weak (leL.same (leL.same (leL.same (leL.same (leL.same (leL.same leL.nil)))))) (x_X2_sumWithin_6 hG w0 w1 h)
theorem s_X2_sumWithin {l : Launch} {g : GH} (hG : G0 l g) {n : Nat} {h0 : Nat} {h1 : Nat} {v2 : Int} {v3 : Int} (w0 : WX2 h0) (w1 : WX1 h1) {D : DT} {K : Int → Prop} (h : ok (m_X2_sumWithin h0 h1 v2 v3 D) K) : Sat l g yX2_sumWithin cX2_sumWithin 6 (some .int) 1 0 0 [vR g h0, vR g h1, vI v2, vI v3] (LF n) D (PIr n D K) := Sat.of hG (by decide) (Nat.le_of_ble_eq_true rfl) (by simp [Value.category]) (x_X2_sumWithin hG w0 w1 h)
abbrev E_X2_nextSpot (l : Launch) (g : GH) (P : PT) : ENV := mkE l g yX2_nextSpot cX2_nextSpot 7 (some .int) [] 1 0 0 P
abbrev P_X2_nextSpot_8 (l : Launch) (g : GH) (n : Nat) (K : Int → Prop) (h0 : Nat) (h1 : Nat) (v2 : Int) (D : DT) : (Int × Int × Int) → Prop := fun s => Px (E_X2_nextSpot l g (PIr n D K)) 8 [some (vR g h0), some (vR g h1), some (vI v2), some (vI s.1), some (vI s.2.1), some (vI s.2.2), none] [] (LF n) D 0 0
set_option maxRecDepth 100000 in
set_option maxHeartbeats 4000000 in
theorem x_X2_nextSpot_8 {l : Launch} {g : GH} (hG : G0 l g) {n : Nat} {h0 h1 : Nat} {v2 : Int} (w0 : WX2 h0) (w1 : WX1 h1) {D : DT} {K : Int → Prop} {s : (Int × Int × Int)} (h : ok (m_X2_nextSpot_8 h0 h1 v2 D s) K) : Px (E_X2_nextSpot l g (PIr n D K)) 8 [some (vR g h0), some (vR g h1), some (vI v2), some (vI s.1), some (vI s.2.1), some (vI s.2.2), none] [] (LF n) D 0 0 := by
  refine ok_loop (P := (P_X2_nextSpot_8 l g n K h0 h1 v2 D)) (fun s h => ?_) h
  refine p_iload dX2_nextSpot_8 rfl ?_
  refine p_aload_n dX2_nextSpot_10 rfl ?_
  refine p_geti dX2_nextSpot_11 fl_X2_28 (fun _ _ _ => rfl) (wc_X2 w0) ?_
  refine q_icmp_ge (tgt := 61) dX2_nextSpot_14 (by decide) h (fun h => ?_) (fun h => ?_)
  · have h := kl_inr h
    refine p_iload_n dX2_nextSpot_61 rfl ?_
    exact p_ireturn dX2_nextSpot_62 (Nat.le_of_ble_eq_true rfl) (Nat.le_of_ble_eq_true rfl) ⟨_, rfl, rfl, rfl, ok_some h⟩
  · refine p_aload_n dX2_nextSpot_17 rfl ?_
    refine p_iload_n dX2_nextSpot_18 rfl ?_
    refine p_aload_n dX2_nextSpot_19 rfl ?_
    refine p_getr dX2_nextSpot_20 fl_X2_25 (fun _ _ _ => rfl) (wc_X2 w0) (wf_X2_4 w0) ?_
    refine p_iload dX2_nextSpot_23 rfl ?_
    refine q_iald dX2_nextSpot_25 (wa_X2_4 w0) rfl h (fun h => ?_)
    refine cV_Ir [vI v2, vI (D.2 (h0 + 3) (Int.toNat s.2.2))] [] dX2_nextSpot_26 yv_X1_far ml_X2_85 (r := (RX1, TX1, 11)) rfl rfl (Nat.le_of_ble_eq_true rfl) rfl (Nat.le_of_ble_eq_true rfl) (Nat.le_of_ble_eq_true rfl) (Nat.le_of_ble_eq_true rfl) (wc_X1 w1) h (fun K h => s_X1_far hG w1 h) (fun r26 h => ?_)
    refine p_istore dX2_nextSpot_29 (Nat.le_of_ble_eq_true rfl) rfl ?_
    refine p_iload_n dX2_nextSpot_31 rfl ?_
    refine p_iconst dX2_nextSpot_32 ?_
    refine q_icmp_eq (tgt := 43) dX2_nextSpot_33 (by decide) h (fun h => ?_) (fun h => ?_)
    · refine p_aload_n dX2_nextSpot_43 rfl ?_
      refine p_getr dX2_nextSpot_44 fl_X2_25 (fun _ _ _ => rfl) (wc_X2 w0) (wf_X2_4 w0) ?_
      refine p_iload dX2_nextSpot_47 rfl ?_
      refine q_iald dX2_nextSpot_49 (wa_X2_4 w0) rfl h (fun h => ?_)
      refine p_istore_n dX2_nextSpot_50 (Nat.le_of_ble_eq_true rfl) rfl ?_
      refine p_iload dX2_nextSpot_51 rfl ?_
      refine p_istore dX2_nextSpot_53 (Nat.le_of_ble_eq_true rfl) rfl ?_
      refine p_iinc dX2_nextSpot_55 rfl (Nat.le_of_ble_eq_true rfl) rfl ?_
      refine p_goto (tgt := 8) dX2_nextSpot_58 (by decide) ?_
      exact p_weak (leL.same (leL.same (leL.same (leL.same (leL.same (leL.same (leL.drop leL.nil))))))) (kl_inl (P := (P_X2_nextSpot_8 l g n K h0 h1 v2 D)) h)
    · refine p_iload dX2_nextSpot_36 rfl ?_
      refine p_iload dX2_nextSpot_38 rfl ?_
      refine q_icmp_ge (tgt := 55) dX2_nextSpot_40 (by decide) h (fun h => ?_) (fun h => ?_)
      · refine p_iinc dX2_nextSpot_55 rfl (Nat.le_of_ble_eq_true rfl) rfl ?_
        refine p_goto (tgt := 8) dX2_nextSpot_58 (by decide) ?_
        exact p_weak (leL.same (leL.same (leL.same (leL.same (leL.same (leL.same (leL.drop leL.nil))))))) (kl_inl (P := (P_X2_nextSpot_8 l g n K h0 h1 v2 D)) h)
      · refine p_aload_n dX2_nextSpot_43 rfl ?_
        refine p_getr dX2_nextSpot_44 fl_X2_25 (fun _ _ _ => rfl) (wc_X2 w0) (wf_X2_4 w0) ?_
        refine p_iload dX2_nextSpot_47 rfl ?_
        refine q_iald dX2_nextSpot_49 (wa_X2_4 w0) rfl h (fun h => ?_)
        refine p_istore_n dX2_nextSpot_50 (Nat.le_of_ble_eq_true rfl) rfl ?_
        refine p_iload dX2_nextSpot_51 rfl ?_
        refine p_istore dX2_nextSpot_53 (Nat.le_of_ble_eq_true rfl) rfl ?_
        refine p_iinc dX2_nextSpot_55 rfl (Nat.le_of_ble_eq_true rfl) rfl ?_
        refine p_goto (tgt := 8) dX2_nextSpot_58 (by decide) ?_
        exact p_weak (leL.same (leL.same (leL.same (leL.same (leL.same (leL.same (leL.drop leL.nil))))))) (kl_inl (P := (P_X2_nextSpot_8 l g n K h0 h1 v2 D)) h)
set_option maxRecDepth 100000 in
set_option maxHeartbeats 4000000 in
theorem x_X2_nextSpot {l : Launch} {g : GH} (hG : G0 l g) {n : Nat} {h0 : Nat} {h1 : Nat} {v2 : Int} (w0 : WX2 h0) (w1 : WX1 h1) {D : DT} {K : Int → Prop} (h : ok (m_X2_nextSpot h0 h1 v2 D) K) : Px (E_X2_nextSpot l g (PIr n D K)) 0 [some (vR g h0), some (vR g h1), some (vI v2), none, none, none, none] [] (LF n) D 0 0 := by
  refine p_iconst dX2_nextSpot_0 ?_
  refine p_istore_n dX2_nextSpot_1 (Nat.le_of_ble_eq_true rfl) rfl ?_
  refine p_iconst dX2_nextSpot_2 ?_
  refine p_istore dX2_nextSpot_3 (Nat.le_of_ble_eq_true rfl) rfl ?_
  refine p_iconst dX2_nextSpot_5 ?_
  refine p_istore dX2_nextSpot_6 (Nat.le_of_ble_eq_true rfl) rfl ?_
  exact p_weak (leL.same (leL.same (leL.same (leL.same (leL.same (leL.same (leL.drop leL.nil))))))) (x_X2_nextSpot_8 hG w0 w1 h)
theorem s_X2_nextSpot {l : Launch} {g : GH} (hG : G0 l g) {n : Nat} {h0 : Nat} {h1 : Nat} {v2 : Int} (w0 : WX2 h0) (w1 : WX1 h1) {D : DT} {K : Int → Prop} (h : ok (m_X2_nextSpot h0 h1 v2 D) K) : Sat l g yX2_nextSpot cX2_nextSpot 7 (some .int) 1 0 0 [vR g h0, vR g h1, vI v2] (LF n) D (PIr n D K) := Sat.of hG (by decide) (Nat.le_of_ble_eq_true rfl) (by simp [Value.category]) (x_X2_nextSpot hG w0 w1 h)
abbrev E_X2_farToSea (l : Launch) (g : GH) (P : PT) : ENV := mkE l g yX2_farToSea cX2_farToSea 6 (some .int) [] 1 0 0 P
abbrev P_X2_farToSea_5 (l : Launch) (g : GH) (n : Nat) (K : Int → Prop) (h0 : Nat) (h1 : Nat) (v2 : Int) (D : DT) : (Int × Int) → Prop := fun s => Px (E_X2_farToSea l g (PIr n D K)) 5 [some (vR g h0), some (vR g h1), some (vI v2), some (vI s.1), some (vI s.2), none] [] (LF n) D 0 0
set_option maxRecDepth 100000 in
set_option maxHeartbeats 4000000 in
theorem x_X2_farToSea_5 {l : Launch} {g : GH} (hG : G0 l g) {n : Nat} {h0 h1 : Nat} {v2 : Int} (w0 : WX2 h0) (w1 : WX1 h1) {D : DT} {K : Int → Prop} {s : (Int × Int)} (h : ok (m_X2_farToSea_5 h0 h1 v2 D s) K) : Px (E_X2_farToSea l g (PIr n D K)) 5 [some (vR g h0), some (vR g h1), some (vI v2), some (vI s.1), some (vI s.2), none] [] (LF n) D 0 0 := by
  refine ok_loop (P := (P_X2_farToSea_5 l g n K h0 h1 v2 D)) (fun s h => ?_) h
  refine p_iload dX2_farToSea_5 rfl ?_
  refine p_aload_n dX2_farToSea_7 rfl ?_
  refine p_geti dX2_farToSea_8 fl_X2_15 (fun _ _ _ => rfl) (wc_X2 w0) ?_
  refine q_icmp_ge (tgt := 53) dX2_farToSea_11 (by decide) h (fun h => ?_) (fun h => ?_)
  · have h := kl_inr h
    refine p_iload_n dX2_farToSea_53 rfl ?_
    exact p_ireturn dX2_farToSea_54 (Nat.le_of_ble_eq_true rfl) (Nat.le_of_ble_eq_true rfl) ⟨_, rfl, rfl, rfl, ok_some h⟩
  · refine p_aload_n dX2_farToSea_14 rfl ?_
    refine p_getr dX2_farToSea_15 fl_X2_102 (fun _ _ _ => rfl) (wc_X1 w1) (wf_X1_5 w1) ?_
    refine p_iload dX2_farToSea_18 rfl ?_
    refine q_zald dX2_farToSea_20 (wa_X1_5 w1) rfl h (fun h => ?_)
    refine q_if_eq (tgt := 47) dX2_farToSea_21 (by decide) h (fun h => ?_) (fun h => ?_)
    · refine p_iinc dX2_farToSea_47 rfl (Nat.le_of_ble_eq_true rfl) rfl ?_
      refine p_goto (tgt := 5) dX2_farToSea_50 (by decide) ?_
      exact p_weak (leL.same (leL.same (leL.same (leL.same (leL.same (leL.drop leL.nil)))))) (kl_inl (P := (P_X2_farToSea_5 l g n K h0 h1 v2 D)) h)
    · refine p_aload_n dX2_farToSea_24 rfl ?_
      refine p_iload_n dX2_farToSea_25 rfl ?_
      refine p_iload dX2_farToSea_26 rfl ?_
      refine cV_Ir [vI v2, vI s.2] [] dX2_farToSea_28 yv_X1_far ml_X2_85 (r := (RX1, TX1, 11)) rfl rfl (Nat.le_of_ble_eq_true rfl) rfl (Nat.le_of_ble_eq_true rfl) (Nat.le_of_ble_eq_true rfl) (Nat.le_of_ble_eq_true rfl) (wc_X1 w1) h (fun K h => s_X1_far hG w1 h) (fun r28 h => ?_)
      refine p_istore dX2_farToSea_31 (Nat.le_of_ble_eq_true rfl) rfl ?_
      refine p_iload_n dX2_farToSea_33 rfl ?_
      refine p_iconst dX2_farToSea_34 ?_
      refine q_icmp_eq (tgt := 44) dX2_farToSea_35 (by decide) h (fun h => ?_) (fun h => ?_)
      · refine p_iload dX2_farToSea_44 rfl ?_
        refine p_istore_n dX2_farToSea_46 (Nat.le_of_ble_eq_true rfl) rfl ?_
        refine p_iinc dX2_farToSea_47 rfl (Nat.le_of_ble_eq_true rfl) rfl ?_
        refine p_goto (tgt := 5) dX2_farToSea_50 (by decide) ?_
        exact p_weak (leL.same (leL.same (leL.same (leL.same (leL.same (leL.drop leL.nil)))))) (kl_inl (P := (P_X2_farToSea_5 l g n K h0 h1 v2 D)) h)
      · refine p_iload dX2_farToSea_38 rfl ?_
        refine p_iload_n dX2_farToSea_40 rfl ?_
        refine q_icmp_ge (tgt := 47) dX2_farToSea_41 (by decide) h (fun h => ?_) (fun h => ?_)
        · refine p_iinc dX2_farToSea_47 rfl (Nat.le_of_ble_eq_true rfl) rfl ?_
          refine p_goto (tgt := 5) dX2_farToSea_50 (by decide) ?_
          exact p_weak (leL.same (leL.same (leL.same (leL.same (leL.same (leL.drop leL.nil)))))) (kl_inl (P := (P_X2_farToSea_5 l g n K h0 h1 v2 D)) h)
        · refine p_iload dX2_farToSea_44 rfl ?_
          refine p_istore_n dX2_farToSea_46 (Nat.le_of_ble_eq_true rfl) rfl ?_
          refine p_iinc dX2_farToSea_47 rfl (Nat.le_of_ble_eq_true rfl) rfl ?_
          refine p_goto (tgt := 5) dX2_farToSea_50 (by decide) ?_
          exact p_weak (leL.same (leL.same (leL.same (leL.same (leL.same (leL.drop leL.nil)))))) (kl_inl (P := (P_X2_farToSea_5 l g n K h0 h1 v2 D)) h)
set_option maxRecDepth 100000 in
set_option maxHeartbeats 4000000 in
theorem x_X2_farToSea {l : Launch} {g : GH} (hG : G0 l g) {n : Nat} {h0 : Nat} {h1 : Nat} {v2 : Int} (w0 : WX2 h0) (w1 : WX1 h1) {D : DT} {K : Int → Prop} (h : ok (m_X2_farToSea h0 h1 v2 D) K) : Px (E_X2_farToSea l g (PIr n D K)) 0 [some (vR g h0), some (vR g h1), some (vI v2), none, none, none] [] (LF n) D 0 0 := by
  refine p_iconst dX2_farToSea_0 ?_
  refine p_istore_n dX2_farToSea_1 (Nat.le_of_ble_eq_true rfl) rfl ?_
  refine p_iconst dX2_farToSea_2 ?_
  refine p_istore dX2_farToSea_3 (Nat.le_of_ble_eq_true rfl) rfl ?_
  exact p_weak (leL.same (leL.same (leL.same (leL.same (leL.same (leL.drop leL.nil)))))) (x_X2_farToSea_5 hG w0 w1 h)
theorem s_X2_farToSea {l : Launch} {g : GH} (hG : G0 l g) {n : Nat} {h0 : Nat} {h1 : Nat} {v2 : Int} (w0 : WX2 h0) (w1 : WX1 h1) {D : DT} {K : Int → Prop} (h : ok (m_X2_farToSea h0 h1 v2 D) K) : Sat l g yX2_farToSea cX2_farToSea 6 (some .int) 1 0 0 [vR g h0, vR g h1, vI v2] (LF n) D (PIr n D K) := Sat.of hG (by decide) (Nat.le_of_ble_eq_true rfl) (by simp [Value.category]) (x_X2_farToSea hG w0 w1 h)
abbrev E_X2_spotsInLine (l : Launch) (g : GH) (P : PT) : ENV := mkE l g yX2_spotsInLine cX2_spotsInLine 7 (some .int) [] 0 0 0 P
abbrev P_X2_spotsInLine_5 (l : Launch) (g : GH) (n : Nat) (K : Int → Prop) (h0 : Nat) (h1 : Nat) (v2 : Int) (D : DT) : (Int × Int) → Prop := fun s => Px (E_X2_spotsInLine l g (PIr n D K)) 5 [some (vR g h0), some (vR g h1), some (vI v2), some (vI s.1), some (vI s.2), none, none] [] (LF n) D 0 0
set_option maxRecDepth 100000 in
set_option maxHeartbeats 4000000 in
theorem x_X2_spotsInLine_60 {l : Launch} {g : GH} (hG : G0 l g) {n : Nat} {h0 h1 : Nat} {v2 v3 v4 : Int} {x0 : Int} (w0 : WX2 h0) (w1 : WX1 h1) {D : DT} {K : Int → Prop} (h : ok (m_X2_spotsInLine_60 h0 h1 v2 v3 v4 x0 D) (KL (P_X2_spotsInLine_5 l g n K h0 h1 v2 D) K)) : Px (E_X2_spotsInLine l g (PIr n D K)) 60 [some (vR g h0), some (vR g h1), some (vI v2), some (vI v3), some (vI v4), none, none] [vI x0] (LF n) D 0 0 := by
  refine p_istore dX2_spotsInLine_60 (Nat.le_of_ble_eq_true rfl) rfl ?_
  refine p_iload_n dX2_spotsInLine_62 rfl ?_
  refine p_iload dX2_spotsInLine_63 rfl ?_
  refine q_if_eq (tgt := 72) dX2_spotsInLine_65 (by decide) h (fun h => ?_) (fun h => ?_)
  · refine p_iconst dX2_spotsInLine_72 ?_
    refine p_iadd dX2_spotsInLine_73 ?_
    refine p_istore_n dX2_spotsInLine_74 (Nat.le_of_ble_eq_true rfl) rfl ?_
    refine p_iinc dX2_spotsInLine_75 rfl (Nat.le_of_ble_eq_true rfl) rfl ?_
    refine p_goto (tgt := 5) dX2_spotsInLine_78 (by decide) ?_
    exact p_weak (leL.same (leL.same (leL.same (leL.same (leL.same (leL.drop (leL.drop leL.nil))))))) (kl_inl (P := (P_X2_spotsInLine_5 l g n K h0 h1 v2 D)) h)
  · refine p_iconst dX2_spotsInLine_68 ?_
    refine p_goto (tgt := 73) dX2_spotsInLine_69 (by decide) ?_
    refine p_iadd dX2_spotsInLine_73 ?_
    refine p_istore_n dX2_spotsInLine_74 (Nat.le_of_ble_eq_true rfl) rfl ?_
    refine p_iinc dX2_spotsInLine_75 rfl (Nat.le_of_ble_eq_true rfl) rfl ?_
    refine p_goto (tgt := 5) dX2_spotsInLine_78 (by decide) ?_
    exact p_weak (leL.same (leL.same (leL.same (leL.same (leL.same (leL.drop (leL.drop leL.nil))))))) (kl_inl (P := (P_X2_spotsInLine_5 l g n K h0 h1 v2 D)) h)
set_option maxRecDepth 100000 in
set_option maxHeartbeats 4000000 in
theorem x_X2_spotsInLine_5 {l : Launch} {g : GH} (hG : G0 l g) {n : Nat} {h0 h1 : Nat} {v2 : Int} (w0 : WX2 h0) (w1 : WX1 h1) {D : DT} {K : Int → Prop} {s : (Int × Int)} (h : ok (m_X2_spotsInLine_5 h0 h1 v2 D s) K) : Px (E_X2_spotsInLine l g (PIr n D K)) 5 [some (vR g h0), some (vR g h1), some (vI v2), some (vI s.1), some (vI s.2), none, none] [] (LF n) D 0 0 := by
  refine ok_loop (P := (P_X2_spotsInLine_5 l g n K h0 h1 v2 D)) (fun s h => ?_) h
  refine p_iload dX2_spotsInLine_5 rfl ?_
  refine p_aload_n dX2_spotsInLine_7 rfl ?_
  refine p_geti dX2_spotsInLine_8 fl_X2_28 (fun _ _ _ => rfl) (wc_X2 w0) ?_
  refine q_icmp_ge (tgt := 81) dX2_spotsInLine_11 (by decide) h (fun h => ?_) (fun h => ?_)
  · have h := kl_inr h
    refine p_iload_n dX2_spotsInLine_81 rfl ?_
    exact p_ireturn dX2_spotsInLine_82 (Nat.le_of_ble_eq_true rfl) (Nat.le_of_ble_eq_true rfl) ⟨_, rfl, rfl, rfl, ok_some h⟩
  · refine p_aload_n dX2_spotsInLine_14 rfl ?_
    refine p_getr dX2_spotsInLine_15 fl_X2_25 (fun _ _ _ => rfl) (wc_X2 w0) (wf_X2_4 w0) ?_
    refine p_iload dX2_spotsInLine_18 rfl ?_
    refine q_iald dX2_spotsInLine_20 (wa_X2_4 w0) rfl h (fun h => ?_)
    refine p_istore dX2_spotsInLine_21 (Nat.le_of_ble_eq_true rfl) rfl ?_
    refine p_aload_n dX2_spotsInLine_23 rfl ?_
    refine p_getr dX2_spotsInLine_24 fl_X2_106 (fun _ _ _ => rfl) (wc_X1 w1) (wf_X1_7 w1) ?_
    refine p_iload dX2_spotsInLine_27 rfl ?_
    refine q_iald dX2_spotsInLine_29 (wa_X1_7 w1) rfl h (fun h => ?_)
    refine p_aload_n dX2_spotsInLine_30 rfl ?_
    refine p_getr dX2_spotsInLine_31 fl_X2_106 (fun _ _ _ => rfl) (wc_X1 w1) (wf_X1_7 w1) ?_
    refine p_iload_n dX2_spotsInLine_34 rfl ?_
    refine q_iald dX2_spotsInLine_35 (wa_X1_7 w1) rfl h (fun h => ?_)
    refine q_icmp_eq (tgt := 55) dX2_spotsInLine_36 (by decide) h (fun h => ?_) (fun h => ?_)
    · refine p_iconst dX2_spotsInLine_55 ?_
      refine p_goto (tgt := 60) dX2_spotsInLine_56 (by decide) ?_
      exact p_weak (leL.same (leL.same (leL.same (leL.same (leL.same (leL.drop (leL.drop leL.nil))))))) (x_X2_spotsInLine_60 hG w0 w1 h)
    · refine p_aload_n dX2_spotsInLine_39 rfl ?_
      refine p_getr dX2_spotsInLine_40 fl_X2_109 (fun _ _ _ => rfl) (wc_X1 w1) (wf_X1_6 w1) ?_
      refine p_iload dX2_spotsInLine_43 rfl ?_
      refine q_iald dX2_spotsInLine_45 (wa_X1_6 w1) rfl h (fun h => ?_)
      refine p_aload_n dX2_spotsInLine_46 rfl ?_
      refine p_getr dX2_spotsInLine_47 fl_X2_109 (fun _ _ _ => rfl) (wc_X1 w1) (wf_X1_6 w1) ?_
      refine p_iload_n dX2_spotsInLine_50 rfl ?_
      refine q_iald dX2_spotsInLine_51 (wa_X1_6 w1) rfl h (fun h => ?_)
      refine q_icmp_ne (tgt := 59) dX2_spotsInLine_52 (by decide) h (fun h => ?_) (fun h => ?_)
      · refine p_iconst dX2_spotsInLine_59 ?_
        exact p_weak (leL.same (leL.same (leL.same (leL.same (leL.same (leL.drop (leL.drop leL.nil))))))) (x_X2_spotsInLine_60 hG w0 w1 h)
      · refine p_iconst dX2_spotsInLine_55 ?_
        refine p_goto (tgt := 60) dX2_spotsInLine_56 (by decide) ?_
        exact p_weak (leL.same (leL.same (leL.same (leL.same (leL.same (leL.drop (leL.drop leL.nil))))))) (x_X2_spotsInLine_60 hG w0 w1 h)
set_option maxRecDepth 100000 in
set_option maxHeartbeats 4000000 in
theorem x_X2_spotsInLine {l : Launch} {g : GH} (hG : G0 l g) {n : Nat} {h0 : Nat} {h1 : Nat} {v2 : Int} (w0 : WX2 h0) (w1 : WX1 h1) {D : DT} {K : Int → Prop} (h : ok (m_X2_spotsInLine h0 h1 v2 D) K) : Px (E_X2_spotsInLine l g (PIr n D K)) 0 [some (vR g h0), some (vR g h1), some (vI v2), none, none, none, none] [] (LF n) D 0 0 := by
  refine p_iconst dX2_spotsInLine_0 ?_
  refine p_istore_n dX2_spotsInLine_1 (Nat.le_of_ble_eq_true rfl) rfl ?_
  refine p_iconst dX2_spotsInLine_2 ?_
  refine p_istore dX2_spotsInLine_3 (Nat.le_of_ble_eq_true rfl) rfl ?_
  exact p_weak (leL.same (leL.same (leL.same (leL.same (leL.same (leL.drop (leL.drop leL.nil))))))) (x_X2_spotsInLine_5 hG w0 w1 h)
theorem s_X2_spotsInLine {l : Launch} {g : GH} (hG : G0 l g) {n : Nat} {h0 : Nat} {h1 : Nat} {v2 : Int} (w0 : WX2 h0) (w1 : WX1 h1) {D : DT} {K : Int → Prop} (h : ok (m_X2_spotsInLine h0 h1 v2 D) K) : Sat l g yX2_spotsInLine cX2_spotsInLine 7 (some .int) 0 0 0 [vR g h0, vR g h1, vI v2] (LF n) D (PIr n D K) := Sat.of hG (by decide) (Nat.le_of_ble_eq_true rfl) (by simp [Value.category]) (x_X2_spotsInLine hG w0 w1 h)
abbrev E_X2_gauge (l : Launch) (g : GH) (P : PT) : ENV := mkE l g yX2_gauge cX2_gauge 5 (some .int) [] 2 0 0 P
set_option maxRecDepth 100000 in
set_option maxHeartbeats 4000000 in
theorem x_X2_gauge {l : Launch} {g : GH} (hG : G0 l g) {n : Nat} {h0 : Nat} {h1 : Nat} {v2 : Int} {v3 : Int} {v4 : Int} (w0 : WX2 h0) (w1 : WX1 h1) {D : DT} {K : Int → Prop} (h : ok (m_X2_gauge h0 h1 v2 v3 v4 D) K) : Px (E_X2_gauge l g (PIr n D K)) 0 [some (vR g h0), some (vR g h1), some (vI v2), some (vI v3), some (vI v4)] [] (LF n) D 0 0 := by
  refine p_iload_n dX2_gauge_0 rfl ?_
  obtain ⟨hr, h⟩ := ok_gd h
  by_cases e0 : v3 = 0
  · have h := (ok_ite h).1 e0
    refine p_tableIn (tgt := 32) dX2_gauge_1 hr (by omega) (by omega) (by rw [e0]; try rfl) (by decide) ?_
    refine p_aload_n dX2_gauge_32 rfl ?_
    refine p_getr dX2_gauge_33 fl_X2_22 (fun _ _ _ => rfl) (wc_X2 w0) (wf_X2_3 w0) ?_
    refine p_iload_n dX2_gauge_36 rfl ?_
    refine q_iald dX2_gauge_37 (wa_X2_3 w0) rfl h (fun h => ?_)
    exact p_ireturn dX2_gauge_38 (Nat.le_of_ble_eq_true rfl) (Nat.le_of_ble_eq_true rfl) ⟨_, rfl, rfl, rfl, ok_some h⟩
  have h := (ok_ite h).2 e0
  by_cases e1 : v3 = 1
  · have h := (ok_ite h).1 e1
    refine p_tableIn (tgt := 39) dX2_gauge_1 hr (by omega) (by omega) (by rw [e1]; try rfl) (by decide) ?_
    refine p_aload_n dX2_gauge_39 rfl ?_
    refine p_aload_n dX2_gauge_40 rfl ?_
    refine p_iload_n dX2_gauge_41 rfl ?_
    refine p_iload dX2_gauge_42 rfl ?_
    refine cV_Ir [vR g h1, vI v2, vI v4] [] dX2_gauge_44 yv_X2_sumWithin ml_X2_88 (r := (RX2, TX2, 7)) rfl rfl (Nat.le_of_ble_eq_true rfl) rfl (Nat.le_of_ble_eq_true rfl) (Nat.le_of_ble_eq_true rfl) (Nat.le_of_ble_eq_true rfl) (wc_X2 w0) h (fun K h => s_X2_sumWithin hG w0 w1 h) (fun r44 h => ?_)
    exact p_ireturn dX2_gauge_47 (Nat.le_of_ble_eq_true rfl) (Nat.le_of_ble_eq_true rfl) ⟨_, rfl, rfl, rfl, ok_some h⟩
  have h := (ok_ite h).2 e1
  by_cases e2 : v3 = 2
  · have h := (ok_ite h).1 e2
    refine p_tableIn (tgt := 48) dX2_gauge_1 hr (by omega) (by omega) (by rw [e2]; try rfl) (by decide) ?_
    refine p_aload_n dX2_gauge_48 rfl ?_
    refine p_geti dX2_gauge_49 fl_X2_28 (fun _ _ _ => rfl) (wc_X2 w0) ?_
    refine q_if_ne (tgt := 59) dX2_gauge_52 (by decide) h (fun h => ?_) (fun h => ?_)
    · refine p_aload_n dX2_gauge_59 rfl ?_
      refine p_iload_n dX2_gauge_60 rfl ?_
      refine p_aload_n dX2_gauge_61 rfl ?_
      refine p_aload_n dX2_gauge_62 rfl ?_
      refine p_iload_n dX2_gauge_63 rfl ?_
      refine cV_Ir [vR g h1, vI v2] [vI v2, vR g h1] dX2_gauge_64 yv_X2_nextSpot ml_X2_92 (r := (RX2, TX2, 7)) rfl rfl (Nat.le_of_ble_eq_true rfl) rfl (Nat.le_of_ble_eq_true rfl) (Nat.le_of_ble_eq_true rfl) (Nat.le_of_ble_eq_true rfl) (wc_X2 w0) h (fun K h => s_X2_nextSpot hG w0 w1 h) (fun r64 h => ?_)
      refine cV_Ir [vI v2, vI r64] [] dX2_gauge_67 yv_X1_far ml_X2_85 (r := (RX1, TX1, 11)) rfl rfl (Nat.le_of_ble_eq_true rfl) rfl (Nat.le_of_ble_eq_true rfl) (Nat.le_of_ble_eq_true rfl) (Nat.le_of_ble_eq_true rfl) (wc_X1 w1) h (fun K h => s_X1_far hG w1 h) (fun r67 h => ?_)
      exact p_ireturn dX2_gauge_70 (Nat.le_of_ble_eq_true rfl) (Nat.le_of_ble_eq_true rfl) ⟨_, rfl, rfl, rfl, ok_some h⟩
    · refine p_iconst dX2_gauge_55 ?_
      refine p_goto (tgt := 70) dX2_gauge_56 (by decide) ?_
      exact p_ireturn dX2_gauge_70 (Nat.le_of_ble_eq_true rfl) (Nat.le_of_ble_eq_true rfl) ⟨_, rfl, rfl, rfl, ok_some h⟩
  have h := (ok_ite h).2 e2
  by_cases e3 : v3 = 3
  · have h := (ok_ite h).1 e3
    refine p_tableIn (tgt := 71) dX2_gauge_1 hr (by omega) (by omega) (by rw [e3]; try rfl) (by decide) ?_
    refine p_aload_n dX2_gauge_71 rfl ?_
    refine p_aload_n dX2_gauge_72 rfl ?_
    refine p_iload_n dX2_gauge_73 rfl ?_
    refine cV_Ir [vR g h1, vI v2] [] dX2_gauge_74 yv_X2_farToSea ml_X2_96 (r := (RX2, TX2, 7)) rfl rfl (Nat.le_of_ble_eq_true rfl) rfl (Nat.le_of_ble_eq_true rfl) (Nat.le_of_ble_eq_true rfl) (Nat.le_of_ble_eq_true rfl) (wc_X2 w0) h (fun K h => s_X2_farToSea hG w0 w1 h) (fun r74 h => ?_)
    exact p_ireturn dX2_gauge_77 (Nat.le_of_ble_eq_true rfl) (Nat.le_of_ble_eq_true rfl) ⟨_, rfl, rfl, rfl, ok_some h⟩
  have h := (ok_ite h).2 e3
  refine p_tableOut (tgt := 78) dX2_gauge_1 hr (by omega) (by decide) ?_
  refine p_aload_n dX2_gauge_78 rfl ?_
  refine p_aload_n dX2_gauge_79 rfl ?_
  refine p_iload_n dX2_gauge_80 rfl ?_
  refine cV_Ir [vR g h1, vI v2] [] dX2_gauge_81 yv_X2_spotsInLine ml_X2_99 (r := (RX2, TX2, 7)) rfl rfl (Nat.le_of_ble_eq_true rfl) rfl (Nat.le_of_ble_eq_true rfl) (Nat.le_of_ble_eq_true rfl) (Nat.le_of_ble_eq_true rfl) (wc_X2 w0) h (fun K h => s_X2_spotsInLine hG w0 w1 h) (fun r81 h => ?_)
  exact p_ireturn dX2_gauge_84 (Nat.le_of_ble_eq_true rfl) (Nat.le_of_ble_eq_true rfl) ⟨_, rfl, rfl, rfl, ok_some h⟩
theorem s_X2_gauge {l : Launch} {g : GH} (hG : G0 l g) {n : Nat} {h0 : Nat} {h1 : Nat} {v2 : Int} {v3 : Int} {v4 : Int} (w0 : WX2 h0) (w1 : WX1 h1) {D : DT} {K : Int → Prop} (h : ok (m_X2_gauge h0 h1 v2 v3 v4 D) K) : Sat l g yX2_gauge cX2_gauge 5 (some .int) 2 0 0 [vR g h0, vR g h1, vI v2, vI v3, vI v4] (LF n) D (PIr n D K) := Sat.of hG (by decide) (Nat.le_of_ble_eq_true rfl) (by simp [Value.category]) (x_X2_gauge hG w0 w1 h)
abbrev E_X2_topCell (l : Launch) (g : GH) (P : PT) : ENV := mkE l g yX2_topCell cX2_topCell 8 (some .int) [] 3 0 0 P
abbrev P_X2_topCell_9 (l : Launch) (g : GH) (n : Nat) (K : Int → Prop) (h0 : Nat) (h1 : Nat) (v2 : Int) (v3 : Int) (D : DT) : (Int × Int × Int) → Prop := fun s => Px (E_X2_topCell l g (PIr n D K)) 9 [some (vR g h0), some (vR g h1), some (vI v2), some (vI v3), some (vI s.1), some (vI s.2.1), some (vI s.2.2), none] [] (LF n) D 0 0
set_option maxRecDepth 100000 in
set_option maxHeartbeats 4000000 in
theorem x_X2_topCell_9 {l : Launch} {g : GH} (hG : G0 l g) {n : Nat} {h0 h1 : Nat} {v2 v3 : Int} (w0 : WX2 h0) (w1 : WX1 h1) {D : DT} {K : Int → Prop} {s : (Int × Int × Int)} (h : ok (m_X2_topCell_9 h0 h1 v2 v3 D s) K) : Px (E_X2_topCell l g (PIr n D K)) 9 [some (vR g h0), some (vR g h1), some (vI v2), some (vI v3), some (vI s.1), some (vI s.2.1), some (vI s.2.2), none] [] (LF n) D 0 0 := by
  refine ok_loop (P := (P_X2_topCell_9 l g n K h0 h1 v2 v3 D)) (fun s h => ?_) h
  refine p_iload dX2_topCell_9 rfl ?_
  refine p_aload_n dX2_topCell_11 rfl ?_
  refine p_geti dX2_topCell_12 fl_X2_15 (fun _ _ _ => rfl) (wc_X2 w0) ?_
  refine q_icmp_ge (tgt := 65) dX2_topCell_15 (by decide) h (fun h => ?_) (fun h => ?_)
  · have h := kl_inr h
    refine p_iload dX2_topCell_65 rfl ?_
    exact p_ireturn dX2_topCell_67 (Nat.le_of_ble_eq_true rfl) (Nat.le_of_ble_eq_true rfl) ⟨_, rfl, rfl, rfl, ok_some h⟩
  · refine p_aload_n dX2_topCell_18 rfl ?_
    refine p_iload dX2_topCell_19 rfl ?_
    refine cV_Ir [vI s.2.2] [] dX2_topCell_21 yv_X1_isLand ml_X2_112 (r := (RX1, TX1, 11)) rfl rfl (Nat.le_of_ble_eq_true rfl) rfl (Nat.le_of_ble_eq_true rfl) (Nat.le_of_ble_eq_true rfl) (Nat.le_of_ble_eq_true rfl) (wc_X1 w1) h (fun K h => s_X1_isLand hG w1 h) (fun r21 h => ?_)
    refine q_if_eq (tgt := 59) dX2_topCell_24 (by decide) h (fun h => ?_) (fun h => ?_)
    · refine p_iinc dX2_topCell_59 rfl (Nat.le_of_ble_eq_true rfl) rfl ?_
      refine p_goto (tgt := 9) dX2_topCell_62 (by decide) ?_
      exact p_weak (leL.same (leL.same (leL.same (leL.same (leL.same (leL.same (leL.same (leL.drop leL.nil)))))))) (kl_inl (P := (P_X2_topCell_9 l g n K h0 h1 v2 v3 D)) h)
    · refine p_aload_n dX2_topCell_27 rfl ?_
      refine p_aload_n dX2_topCell_28 rfl ?_
      refine p_iload dX2_topCell_29 rfl ?_
      refine p_iload_n dX2_topCell_31 rfl ?_
      refine p_iload_n dX2_topCell_32 rfl ?_
      refine cV_Ir [vR g h1, vI s.2.2, vI v2, vI v3] [] dX2_topCell_33 yv_X2_gauge ml_X2_116 (r := (RX2, TX2, 7)) rfl rfl (Nat.le_of_ble_eq_true rfl) rfl (Nat.le_of_ble_eq_true rfl) (Nat.le_of_ble_eq_true rfl) (Nat.le_of_ble_eq_true rfl) (wc_X2 w0) h (fun K h => s_X2_gauge hG w0 w1 h) (fun r33 h => ?_)
      refine p_istore dX2_topCell_36 (Nat.le_of_ble_eq_true rfl) rfl ?_
      refine p_iload dX2_topCell_38 rfl ?_
      refine p_iconst dX2_topCell_40 ?_
      refine q_icmp_eq (tgt := 51) dX2_topCell_41 (by decide) h (fun h => ?_) (fun h => ?_)
      · refine p_iload dX2_topCell_51 rfl ?_
        refine p_istore dX2_topCell_53 (Nat.le_of_ble_eq_true rfl) rfl ?_
        refine p_iload dX2_topCell_55 rfl ?_
        refine p_istore dX2_topCell_57 (Nat.le_of_ble_eq_true rfl) rfl ?_
        refine p_iinc dX2_topCell_59 rfl (Nat.le_of_ble_eq_true rfl) rfl ?_
        refine p_goto (tgt := 9) dX2_topCell_62 (by decide) ?_
        exact p_weak (leL.same (leL.same (leL.same (leL.same (leL.same (leL.same (leL.same (leL.drop leL.nil)))))))) (kl_inl (P := (P_X2_topCell_9 l g n K h0 h1 v2 v3 D)) h)
      · refine p_iload dX2_topCell_44 rfl ?_
        refine p_iload dX2_topCell_46 rfl ?_
        refine q_icmp_le (tgt := 59) dX2_topCell_48 (by decide) h (fun h => ?_) (fun h => ?_)
        · refine p_iinc dX2_topCell_59 rfl (Nat.le_of_ble_eq_true rfl) rfl ?_
          refine p_goto (tgt := 9) dX2_topCell_62 (by decide) ?_
          exact p_weak (leL.same (leL.same (leL.same (leL.same (leL.same (leL.same (leL.same (leL.drop leL.nil)))))))) (kl_inl (P := (P_X2_topCell_9 l g n K h0 h1 v2 v3 D)) h)
        · refine p_iload dX2_topCell_51 rfl ?_
          refine p_istore dX2_topCell_53 (Nat.le_of_ble_eq_true rfl) rfl ?_
          refine p_iload dX2_topCell_55 rfl ?_
          refine p_istore dX2_topCell_57 (Nat.le_of_ble_eq_true rfl) rfl ?_
          refine p_iinc dX2_topCell_59 rfl (Nat.le_of_ble_eq_true rfl) rfl ?_
          refine p_goto (tgt := 9) dX2_topCell_62 (by decide) ?_
          exact p_weak (leL.same (leL.same (leL.same (leL.same (leL.same (leL.same (leL.same (leL.drop leL.nil)))))))) (kl_inl (P := (P_X2_topCell_9 l g n K h0 h1 v2 v3 D)) h)
set_option maxRecDepth 100000 in
set_option maxHeartbeats 4000000 in
theorem x_X2_topCell {l : Launch} {g : GH} (hG : G0 l g) {n : Nat} {h0 : Nat} {h1 : Nat} {v2 : Int} {v3 : Int} (w0 : WX2 h0) (w1 : WX1 h1) {D : DT} {K : Int → Prop} (h : ok (m_X2_topCell h0 h1 v2 v3 D) K) : Px (E_X2_topCell l g (PIr n D K)) 0 [some (vR g h0), some (vR g h1), some (vI v2), some (vI v3), none, none, none, none] [] (LF n) D 0 0 := by
  refine p_iconst dX2_topCell_0 ?_
  refine p_istore dX2_topCell_1 (Nat.le_of_ble_eq_true rfl) rfl ?_
  refine p_iconst dX2_topCell_3 ?_
  refine p_istore dX2_topCell_4 (Nat.le_of_ble_eq_true rfl) rfl ?_
  refine p_iconst dX2_topCell_6 ?_
  refine p_istore dX2_topCell_7 (Nat.le_of_ble_eq_true rfl) rfl ?_
  exact p_weak (leL.same (leL.same (leL.same (leL.same (leL.same (leL.same (leL.same (leL.drop leL.nil)))))))) (x_X2_topCell_9 hG w0 w1 h)
theorem s_X2_topCell {l : Launch} {g : GH} (hG : G0 l g) {n : Nat} {h0 : Nat} {h1 : Nat} {v2 : Int} {v3 : Int} (w0 : WX2 h0) (w1 : WX1 h1) {D : DT} {K : Int → Prop} (h : ok (m_X2_topCell h0 h1 v2 v3 D) K) : Sat l g yX2_topCell cX2_topCell 8 (some .int) 3 0 0 [vR g h0, vR g h1, vI v2, vI v3] (LF n) D (PIr n D K) := Sat.of hG (by decide) (Nat.le_of_ble_eq_true rfl) (by simp [Value.category]) (x_X2_topCell hG w0 w1 h)
abbrev E_X2_hasNoneNearer (l : Launch) (g : GH) (P : PT) : ENV := mkE l g yX2_hasNoneNearer cX2_hasNoneNearer 7 (some .boolean) [] 1 0 0 P
abbrev P_X2_hasNoneNearer_11 (l : Launch) (g : GH) (n : Nat) (K : Int → Prop) (h0 : Nat) (h1 : Nat) (v2 : Int) (v3 : Int) (v4 : Int) (D : DT) : Int → Prop := fun s => Px (E_X2_hasNoneNearer l g (PIr n D K)) 11 [some (vR g h0), some (vR g h1), some (vI v2), some (vI v3), some (vI v4), some (vI s), none] [] (LF n) D 0 0
set_option maxRecDepth 100000 in
set_option maxHeartbeats 4000000 in
theorem x_X2_hasNoneNearer_11 {l : Launch} {g : GH} (hG : G0 l g) {n : Nat} {h0 h1 : Nat} {v2 v3 v4 : Int} (w0 : WX2 h0) (w1 : WX1 h1) {D : DT} {K : Int → Prop} {s : Int} (h : ok (m_X2_hasNoneNearer_11 h0 h1 v2 v3 v4 D s) K) : Px (E_X2_hasNoneNearer l g (PIr n D K)) 11 [some (vR g h0), some (vR g h1), some (vI v2), some (vI v3), some (vI v4), some (vI s), none] [] (LF n) D 0 0 := by
  refine ok_loop (P := (P_X2_hasNoneNearer_11 l g n K h0 h1 v2 v3 v4 D)) (fun s h => ?_) h
  refine p_iload dX2_hasNoneNearer_11 rfl ?_
  refine p_aload_n dX2_hasNoneNearer_13 rfl ?_
  refine p_geti dX2_hasNoneNearer_14 fl_X2_28 (fun _ _ _ => rfl) (wc_X2 w0) ?_
  refine q_icmp_ge (tgt := 67) dX2_hasNoneNearer_17 (by decide) h (fun h => ?_) (fun h => ?_)
  · have h := kl_inr h
    refine p_iconst dX2_hasNoneNearer_67 ?_
    exact p_zreturn dX2_hasNoneNearer_68 (Nat.le_of_ble_eq_true rfl) (Nat.le_of_ble_eq_true rfl) (Or.inr rfl) ⟨_, rfl, rfl, rfl, ok_some h⟩
  · refine p_aload_n dX2_hasNoneNearer_20 rfl ?_
    refine p_iload_n dX2_hasNoneNearer_21 rfl ?_
    refine p_aload_n dX2_hasNoneNearer_22 rfl ?_
    refine p_getr dX2_hasNoneNearer_23 fl_X2_25 (fun _ _ _ => rfl) (wc_X2 w0) (wf_X2_4 w0) ?_
    refine p_iload dX2_hasNoneNearer_26 rfl ?_
    refine q_iald dX2_hasNoneNearer_28 (wa_X2_4 w0) rfl h (fun h => ?_)
    refine cV_Ir [vI v2, vI (D.2 (h0 + 3) (Int.toNat s))] [] dX2_hasNoneNearer_29 yv_X1_far ml_X2_85 (r := (RX1, TX1, 11)) rfl rfl (Nat.le_of_ble_eq_true rfl) rfl (Nat.le_of_ble_eq_true rfl) (Nat.le_of_ble_eq_true rfl) (Nat.le_of_ble_eq_true rfl) (wc_X1 w1) h (fun K h => s_X1_far hG w1 h) (fun r29 h => ?_)
    refine p_istore dX2_hasNoneNearer_32 (Nat.le_of_ble_eq_true rfl) rfl ?_
    refine p_iload dX2_hasNoneNearer_34 rfl ?_
    refine p_iload dX2_hasNoneNearer_36 rfl ?_
    refine q_icmp_lt (tgt := 59) dX2_hasNoneNearer_38 (by decide) h (fun h => ?_) (fun h => ?_)
    · have h := kl_inr h
      refine p_iconst dX2_hasNoneNearer_59 ?_
      exact p_zreturn dX2_hasNoneNearer_60 (Nat.le_of_ble_eq_true rfl) (Nat.le_of_ble_eq_true rfl) (Or.inl rfl) ⟨_, rfl, rfl, rfl, ok_some h⟩
    · refine p_iload dX2_hasNoneNearer_41 rfl ?_
      refine p_iload dX2_hasNoneNearer_43 rfl ?_
      refine q_icmp_ne (tgt := 61) dX2_hasNoneNearer_45 (by decide) h (fun h => ?_) (fun h => ?_)
      · refine p_iinc dX2_hasNoneNearer_61 rfl (Nat.le_of_ble_eq_true rfl) rfl ?_
        refine p_goto (tgt := 11) dX2_hasNoneNearer_64 (by decide) ?_
        exact p_weak (leL.same (leL.same (leL.same (leL.same (leL.same (leL.same (leL.drop leL.nil))))))) (kl_inl (P := (P_X2_hasNoneNearer_11 l g n K h0 h1 v2 v3 v4 D)) h)
      · refine p_aload_n dX2_hasNoneNearer_48 rfl ?_
        refine p_getr dX2_hasNoneNearer_49 fl_X2_25 (fun _ _ _ => rfl) (wc_X2 w0) (wf_X2_4 w0) ?_
        refine p_iload dX2_hasNoneNearer_52 rfl ?_
        refine q_iald dX2_hasNoneNearer_54 (wa_X2_4 w0) rfl h (fun h => ?_)
        refine p_iload_n dX2_hasNoneNearer_55 rfl ?_
        refine q_icmp_ge (tgt := 61) dX2_hasNoneNearer_56 (by decide) h (fun h => ?_) (fun h => ?_)
        · refine p_iinc dX2_hasNoneNearer_61 rfl (Nat.le_of_ble_eq_true rfl) rfl ?_
          refine p_goto (tgt := 11) dX2_hasNoneNearer_64 (by decide) ?_
          exact p_weak (leL.same (leL.same (leL.same (leL.same (leL.same (leL.same (leL.drop leL.nil))))))) (kl_inl (P := (P_X2_hasNoneNearer_11 l g n K h0 h1 v2 v3 v4 D)) h)
        · have h := kl_inr h
          refine p_iconst dX2_hasNoneNearer_59 ?_
          exact p_zreturn dX2_hasNoneNearer_60 (Nat.le_of_ble_eq_true rfl) (Nat.le_of_ble_eq_true rfl) (Or.inl rfl) ⟨_, rfl, rfl, rfl, ok_some h⟩
set_option maxRecDepth 100000 in
set_option maxHeartbeats 4000000 in
theorem x_X2_hasNoneNearer {l : Launch} {g : GH} (hG : G0 l g) {n : Nat} {h0 : Nat} {h1 : Nat} {v2 : Int} {v3 : Int} (w0 : WX2 h0) (w1 : WX1 h1) {D : DT} {K : Int → Prop} (h : ok (m_X2_hasNoneNearer h0 h1 v2 v3 D) K) : Px (E_X2_hasNoneNearer l g (PIr n D K)) 0 [some (vR g h0), some (vR g h1), some (vI v2), some (vI v3), none, none, none] [] (LF n) D 0 0 := by
  refine p_aload_n dX2_hasNoneNearer_0 rfl ?_
  refine p_iload_n dX2_hasNoneNearer_1 rfl ?_
  refine p_iload_n dX2_hasNoneNearer_2 rfl ?_
  refine cV_Ir [vI v2, vI v3] [] dX2_hasNoneNearer_3 yv_X1_far ml_X2_85 (r := (RX1, TX1, 11)) rfl rfl (Nat.le_of_ble_eq_true rfl) rfl (Nat.le_of_ble_eq_true rfl) (Nat.le_of_ble_eq_true rfl) (Nat.le_of_ble_eq_true rfl) (wc_X1 w1) h (fun K h => s_X1_far hG w1 h) (fun r3 h => ?_)
  refine p_istore dX2_hasNoneNearer_6 (Nat.le_of_ble_eq_true rfl) rfl ?_
  refine p_iconst dX2_hasNoneNearer_8 ?_
  refine p_istore dX2_hasNoneNearer_9 (Nat.le_of_ble_eq_true rfl) rfl ?_
  exact p_weak (leL.same (leL.same (leL.same (leL.same (leL.same (leL.same (leL.drop leL.nil))))))) (x_X2_hasNoneNearer_11 hG w0 w1 h)
theorem s_X2_hasNoneNearer {l : Launch} {g : GH} (hG : G0 l g) {n : Nat} {h0 : Nat} {h1 : Nat} {v2 : Int} {v3 : Int} (w0 : WX2 h0) (w1 : WX1 h1) {D : DT} {K : Int → Prop} (h : ok (m_X2_hasNoneNearer h0 h1 v2 v3 D) K) : Sat l g yX2_hasNoneNearer cX2_hasNoneNearer 7 (some .boolean) 1 0 0 [vR g h0, vR g h1, vI v2, vI v3] (LF n) D (PIr n D K) := Sat.of hG (by decide) (Nat.le_of_ble_eq_true rfl) (by simp [Value.category]) (x_X2_hasNoneNearer hG w0 w1 h)
abbrev E_X2_clientsOf (l : Launch) (g : GH) (P : PT) : ENV := mkE l g yX2_clientsOf cX2_clientsOf 5 (some .int) [] 2 0 0 P
abbrev P_X2_clientsOf_5 (l : Launch) (g : GH) (n : Nat) (K : Int → Prop) (h0 : Nat) (h1 : Nat) (v2 : Int) (D : DT) : (Int × Int) → Prop := fun s => Px (E_X2_clientsOf l g (PIr n D K)) 5 [some (vR g h0), some (vR g h1), some (vI v2), some (vI s.1), some (vI s.2)] [] (LF n) D 0 0
set_option maxRecDepth 100000 in
set_option maxHeartbeats 4000000 in
theorem x_X2_clientsOf_5 {l : Launch} {g : GH} (hG : G0 l g) {n : Nat} {h0 h1 : Nat} {v2 : Int} (w0 : WX2 h0) (w1 : WX1 h1) {D : DT} {K : Int → Prop} {s : (Int × Int)} (h : ok (m_X2_clientsOf_5 h0 h1 v2 D s) K) : Px (E_X2_clientsOf l g (PIr n D K)) 5 [some (vR g h0), some (vR g h1), some (vI v2), some (vI s.1), some (vI s.2)] [] (LF n) D 0 0 := by
  refine ok_loop (P := (P_X2_clientsOf_5 l g n K h0 h1 v2 D)) (fun s h => ?_) h
  refine p_iload dX2_clientsOf_5 rfl ?_
  refine p_aload_n dX2_clientsOf_7 rfl ?_
  refine p_geti dX2_clientsOf_8 fl_X2_15 (fun _ _ _ => rfl) (wc_X2 w0) ?_
  refine q_icmp_ge (tgt := 52) dX2_clientsOf_11 (by decide) h (fun h => ?_) (fun h => ?_)
  · have h := kl_inr h
    refine p_iload_n dX2_clientsOf_52 rfl ?_
    exact p_ireturn dX2_clientsOf_53 (Nat.le_of_ble_eq_true rfl) (Nat.le_of_ble_eq_true rfl) ⟨_, rfl, rfl, rfl, ok_some h⟩
  · refine p_aload_n dX2_clientsOf_14 rfl ?_
    refine p_getr dX2_clientsOf_15 fl_X2_22 (fun _ _ _ => rfl) (wc_X2 w0) (wf_X2_3 w0) ?_
    refine p_iload_n dX2_clientsOf_18 rfl ?_
    refine q_iald dX2_clientsOf_19 (wa_X2_3 w0) rfl h (fun h => ?_)
    refine q_if_le (tgt := 52) dX2_clientsOf_20 (by decide) h (fun h => ?_) (fun h => ?_)
    · have h := kl_inr h
      refine p_iload_n dX2_clientsOf_52 rfl ?_
      exact p_ireturn dX2_clientsOf_53 (Nat.le_of_ble_eq_true rfl) (Nat.le_of_ble_eq_true rfl) ⟨_, rfl, rfl, rfl, ok_some h⟩
    · refine p_aload_n dX2_clientsOf_23 rfl ?_
      refine p_iload dX2_clientsOf_24 rfl ?_
      refine cV_Ir [vI s.2] [] dX2_clientsOf_26 yv_X1_isLand ml_X2_112 (r := (RX1, TX1, 11)) rfl rfl (Nat.le_of_ble_eq_true rfl) rfl (Nat.le_of_ble_eq_true rfl) (Nat.le_of_ble_eq_true rfl) (Nat.le_of_ble_eq_true rfl) (wc_X1 w1) h (fun K h => s_X1_isLand hG w1 h) (fun r26 h => ?_)
      refine q_if_eq (tgt := 46) dX2_clientsOf_29 (by decide) h (fun h => ?_) (fun h => ?_)
      · refine p_iinc dX2_clientsOf_46 rfl (Nat.le_of_ble_eq_true rfl) rfl ?_
        refine p_goto (tgt := 5) dX2_clientsOf_49 (by decide) ?_
        exact p_weak (leL.same (leL.same (leL.same (leL.same (leL.same leL.nil))))) (kl_inl (P := (P_X2_clientsOf_5 l g n K h0 h1 v2 D)) h)
      · refine p_aload_n dX2_clientsOf_32 rfl ?_
        refine p_aload_n dX2_clientsOf_33 rfl ?_
        refine p_iload dX2_clientsOf_34 rfl ?_
        refine p_iload_n dX2_clientsOf_36 rfl ?_
        refine cV_Ir [vR g h1, vI s.2, vI v2] [] dX2_clientsOf_37 yv_X2_hasNoneNearer ml_X2_120 (r := (RX2, TX2, 7)) rfl rfl (Nat.le_of_ble_eq_true rfl) rfl (Nat.le_of_ble_eq_true rfl) (Nat.le_of_ble_eq_true rfl) (Nat.le_of_ble_eq_true rfl) (wc_X2 w0) h (fun K h => s_X2_hasNoneNearer hG w0 w1 h) (fun r37 h => ?_)
        refine q_if_eq (tgt := 46) dX2_clientsOf_40 (by decide) h (fun h => ?_) (fun h => ?_)
        · refine p_iinc dX2_clientsOf_46 rfl (Nat.le_of_ble_eq_true rfl) rfl ?_
          refine p_goto (tgt := 5) dX2_clientsOf_49 (by decide) ?_
          exact p_weak (leL.same (leL.same (leL.same (leL.same (leL.same leL.nil))))) (kl_inl (P := (P_X2_clientsOf_5 l g n K h0 h1 v2 D)) h)
        · refine p_iinc dX2_clientsOf_43 rfl (Nat.le_of_ble_eq_true rfl) rfl ?_
          refine p_iinc dX2_clientsOf_46 rfl (Nat.le_of_ble_eq_true rfl) rfl ?_
          refine p_goto (tgt := 5) dX2_clientsOf_49 (by decide) ?_
          exact p_weak (leL.same (leL.same (leL.same (leL.same (leL.same leL.nil))))) (kl_inl (P := (P_X2_clientsOf_5 l g n K h0 h1 v2 D)) h)
set_option maxRecDepth 100000 in
set_option maxHeartbeats 4000000 in
theorem x_X2_clientsOf {l : Launch} {g : GH} (hG : G0 l g) {n : Nat} {h0 : Nat} {h1 : Nat} {v2 : Int} (w0 : WX2 h0) (w1 : WX1 h1) {D : DT} {K : Int → Prop} (h : ok (m_X2_clientsOf h0 h1 v2 D) K) : Px (E_X2_clientsOf l g (PIr n D K)) 0 [some (vR g h0), some (vR g h1), some (vI v2), none, none] [] (LF n) D 0 0 := by
  refine p_iconst dX2_clientsOf_0 ?_
  refine p_istore_n dX2_clientsOf_1 (Nat.le_of_ble_eq_true rfl) rfl ?_
  refine p_iconst dX2_clientsOf_2 ?_
  refine p_istore dX2_clientsOf_3 (Nat.le_of_ble_eq_true rfl) rfl ?_
  exact p_weak (leL.same (leL.same (leL.same (leL.same (leL.same leL.nil))))) (x_X2_clientsOf_5 hG w0 w1 h)
theorem s_X2_clientsOf {l : Launch} {g : GH} (hG : G0 l g) {n : Nat} {h0 : Nat} {h1 : Nat} {v2 : Int} (w0 : WX2 h0) (w1 : WX1 h1) {D : DT} {K : Int → Prop} (h : ok (m_X2_clientsOf h0 h1 v2 D) K) : Sat l g yX2_clientsOf cX2_clientsOf 5 (some .int) 2 0 0 [vR g h0, vR g h1, vI v2] (LF n) D (PIr n D K) := Sat.of hG (by decide) (Nat.le_of_ble_eq_true rfl) (by simp [Value.category]) (x_X2_clientsOf hG w0 w1 h)
abbrev E_X2_centralCell (l : Launch) (g : GH) (P : PT) : ENV := mkE l g yX2_centralCell cX2_centralCell 5 (some .int) [] 1 0 0 P
abbrev P_X2_centralCell_9 (l : Launch) (g : GH) (n : Nat) (K : (Int × DT) → Prop) (h0 : Nat) (h1 : Nat) (v2 : Int) : (Int × DT) → Prop := fun s => Px (E_X2_centralCell l g (PIw n K)) 9 [some (vR g h0), some (vR g h1), some (vI v2), some (vI s.1), none] [] (LF n) s.2 0 0
abbrev P_X2_centralCell_65 (l : Launch) (g : GH) (n : Nat) (K : (Int × DT) → Prop) (h0 : Nat) (h1 : Nat) (D : DT) : (Int × Int) → Prop := fun s => Px (E_X2_centralCell l g (PIw n K)) 65 [some (vR g h0), some (vR g h1), none, some (vI s.1), some (vI s.2)] [] (LF n) D 0 0
set_option maxRecDepth 100000 in
set_option maxHeartbeats 4000000 in
theorem x_X2_centralCell_65 {l : Launch} {g : GH} (hG : G0 l g) {n : Nat} {h0 h1 : Nat} (w0 : WX2 h0) (w1 : WX1 h1) {D : DT} {K : (Int × DT) → Prop} {s : (Int × Int)} (h : ok (m_X2_centralCell_65 h0 h1 D s) K) : Px (E_X2_centralCell l g (PIw n K)) 65 [some (vR g h0), some (vR g h1), none, some (vI s.1), some (vI s.2)] [] (LF n) D 0 0 := by
  refine ok_loop (P := (P_X2_centralCell_65 l g n K h0 h1 D)) (fun s h => ?_) h
  refine p_iload dX2_centralCell_65 rfl ?_
  refine p_aload_n dX2_centralCell_67 rfl ?_
  refine p_geti dX2_centralCell_68 fl_X2_15 (fun _ _ _ => rfl) (wc_X2 w0) ?_
  refine q_icmp_ge (tgt := 106) dX2_centralCell_71 (by decide) h (fun h => ?_) (fun h => ?_)
  · have h := kl_inr h
    refine p_iload_n dX2_centralCell_106 rfl ?_
    exact p_ireturn dX2_centralCell_107 (Nat.le_of_ble_eq_true rfl) (Nat.le_of_ble_eq_true rfl) ⟨_, rfl, rfl, ok_some h⟩
  · refine p_aload_n dX2_centralCell_74 rfl ?_
    refine p_getr dX2_centralCell_75 fl_X2_34 (fun _ _ _ => rfl) (wc_X2 w0) (wf_X2_6 w0) ?_
    refine p_aload_n dX2_centralCell_78 rfl ?_
    refine p_iload dX2_centralCell_79 rfl ?_
    refine cV_Jr [vR g h1, vI s.2] [] dX2_centralCell_81 yv_X0_pullFrom ml_X2_135 (r := (RX0, TX0, 3)) rfl rfl (Nat.le_of_ble_eq_true rfl) rfl (Nat.le_of_ble_eq_true rfl) (Nat.le_of_ble_eq_true rfl) (Nat.le_of_ble_eq_true rfl) (wc_X0 (wo_X2_6 w0)) h (fun K h => s_X0_pullFrom hG (wo_X2_6 w0) w1 h) (fun r81 h => ?_)
    refine p_aload_n dX2_centralCell_84 rfl ?_
    refine p_getr dX2_centralCell_85 fl_X2_34 (fun _ _ _ => rfl) (wc_X2 w0) (wf_X2_6 w0) ?_
    refine p_aload_n dX2_centralCell_88 rfl ?_
    refine p_iload_n dX2_centralCell_89 rfl ?_
    refine cV_Jr [vR g h1, vI s.1] [vJ r81] dX2_centralCell_90 yv_X0_pullFrom ml_X2_135 (r := (RX0, TX0, 3)) rfl rfl (Nat.le_of_ble_eq_true rfl) rfl (Nat.le_of_ble_eq_true rfl) (Nat.le_of_ble_eq_true rfl) (Nat.le_of_ble_eq_true rfl) (wc_X0 (wo_X2_6 w0)) h (fun K h => s_X0_pullFrom hG (wo_X2_6 w0) w1 h) (fun r90 h => ?_)
    refine q_lcmp_ge (tgt := 100) dX2_centralCell_93 dX2_centralCell_94 (by decide) h (fun h => ?_) (fun h => ?_)
    · refine p_iinc dX2_centralCell_100 rfl (Nat.le_of_ble_eq_true rfl) rfl ?_
      refine p_goto (tgt := 65) dX2_centralCell_103 (by decide) ?_
      exact p_weak (leL.same (leL.same (leL.drop (leL.same (leL.same leL.nil))))) (kl_inl (P := (P_X2_centralCell_65 l g n K h0 h1 D)) h)
    · refine p_iload dX2_centralCell_97 rfl ?_
      refine p_istore_n dX2_centralCell_99 (Nat.le_of_ble_eq_true rfl) rfl ?_
      refine p_iinc dX2_centralCell_100 rfl (Nat.le_of_ble_eq_true rfl) rfl ?_
      refine p_goto (tgt := 65) dX2_centralCell_103 (by decide) ?_
      exact p_weak (leL.same (leL.same (leL.drop (leL.same (leL.same leL.nil))))) (kl_inl (P := (P_X2_centralCell_65 l g n K h0 h1 D)) h)
set_option maxRecDepth 100000 in
set_option maxHeartbeats 4000000 in
theorem x_X2_centralCell_9 {l : Launch} {g : GH} (hG : G0 l g) {n : Nat} {h0 h1 : Nat} {v2 : Int} (w0 : WX2 h0) (w1 : WX1 h1) {K : (Int × DT) → Prop} {s : (Int × DT)} (h : ok (m_X2_centralCell_9 h0 h1 v2 s) K) : Px (E_X2_centralCell l g (PIw n K)) 9 [some (vR g h0), some (vR g h1), some (vI v2), some (vI s.1), none] [] (LF n) s.2 0 0 := by
  refine ok_loop (P := (P_X2_centralCell_9 l g n K h0 h1 v2)) (fun s h => ?_) h
  refine p_iload_n dX2_centralCell_9 rfl ?_
  refine p_aload_n dX2_centralCell_10 rfl ?_
  refine p_geti dX2_centralCell_11 fl_X2_28 (fun _ _ _ => rfl) (wc_X2 w0) ?_
  refine q_icmp_ge (tgt := 48) dX2_centralCell_14 (by decide) h (fun h => ?_) (fun h => ?_)
  · have h := kl_inr h
    refine p_aload_n dX2_centralCell_48 rfl ?_
    refine p_getr dX2_centralCell_49 fl_X2_34 (fun _ _ _ => rfl) (wc_X2 w0) (wf_X2_6 w0) ?_
    refine cV_Ir [] [] dX2_centralCell_52 yv_X0_isEmpty ml_X2_131 (r := (RX0, TX0, 3)) rfl rfl (Nat.le_of_ble_eq_true rfl) rfl (Nat.le_of_ble_eq_true rfl) (Nat.le_of_ble_eq_true rfl) (Nat.le_of_ble_eq_true rfl) (wc_X0 (wo_X2_6 w0)) h (fun K h => s_X0_isEmpty hG (wo_X2_6 w0) h) (fun r52 h => ?_)
    refine q_if_eq (tgt := 60) dX2_centralCell_55 (by decide) h (fun h => ?_) (fun h => ?_)
    · refine p_iconst dX2_centralCell_60 ?_
      refine p_istore_n dX2_centralCell_61 (Nat.le_of_ble_eq_true rfl) rfl ?_
      refine p_iconst dX2_centralCell_62 ?_
      refine p_istore dX2_centralCell_63 (Nat.le_of_ble_eq_true rfl) rfl ?_
      exact p_weak (leL.same (leL.same (leL.drop (leL.same (leL.same leL.nil))))) (x_X2_centralCell_65 hG w0 w1 h)
    · refine p_iconst dX2_centralCell_58 ?_
      exact p_ireturn dX2_centralCell_59 (Nat.le_of_ble_eq_true rfl) (Nat.le_of_ble_eq_true rfl) ⟨_, rfl, rfl, ok_some h⟩
  · refine p_aload_n dX2_centralCell_17 rfl ?_
    refine p_getr dX2_centralCell_18 fl_X2_34 (fun _ _ _ => rfl) (wc_X2 w0) (wf_X2_6 w0) ?_
    refine p_aload_n dX2_centralCell_21 rfl ?_
    refine p_aload_n dX2_centralCell_22 rfl ?_
    refine p_getr dX2_centralCell_23 fl_X2_25 (fun _ _ _ => rfl) (wc_X2 w0) (wf_X2_4 w0) ?_
    refine p_iload_n dX2_centralCell_26 rfl ?_
    refine q_iald dX2_centralCell_27 (wa_X2_4 w0) rfl h (fun h => ?_)
    refine p_aload_n dX2_centralCell_28 rfl ?_
    refine p_aload_n dX2_centralCell_29 rfl ?_
    refine p_getr dX2_centralCell_30 fl_X2_25 (fun _ _ _ => rfl) (wc_X2 w0) (wf_X2_4 w0) ?_
    refine p_iload_n dX2_centralCell_33 rfl ?_
    refine q_iald dX2_centralCell_34 (wa_X2_4 w0) rfl h (fun h => ?_)
    refine p_iload_n dX2_centralCell_35 rfl ?_
    refine cV_Ir [vI (s.2.2 (h0 + 3) (Int.toNat s.1)), vI v2] [vI (s.2.2 (h0 + 3) (Int.toNat s.1)), vR g h1, vR g (h0 + 4)] dX2_centralCell_36 yv_X2_weightOf ml_X2_77 (r := (RX2, TX2, 7)) rfl rfl (Nat.le_of_ble_eq_true rfl) rfl (Nat.le_of_ble_eq_true rfl) (Nat.le_of_ble_eq_true rfl) (Nat.le_of_ble_eq_true rfl) (wc_X2 w0) h (fun K h => s_X2_weightOf hG w0 h) (fun r36 h => ?_)
    refine cV_Vw [vR g h1, vI (s.2.2 (h0 + 3) (Int.toNat s.1)), vI r36] [] dX2_centralCell_39 yv_X0_add ml_X2_127 (r := (RX0, TX0, 3)) rfl rfl (Nat.le_of_ble_eq_true rfl) rfl (Nat.le_of_ble_eq_true rfl) (Nat.le_of_ble_eq_true rfl) (Nat.le_of_ble_eq_true rfl) (wc_X0 (wo_X2_6 w0)) h (fun K h => s_X0_add hG (wo_X2_6 w0) w1 h) (fun D39 h => ?_)
    refine p_iinc dX2_centralCell_42 rfl (Nat.le_of_ble_eq_true rfl) rfl ?_
    refine p_goto (tgt := 9) dX2_centralCell_45 (by decide) ?_
    exact p_weak (leL.same (leL.same (leL.same (leL.same (leL.drop leL.nil))))) (kl_inl (P := (P_X2_centralCell_9 l g n K h0 h1 v2)) h)
set_option maxRecDepth 100000 in
set_option maxHeartbeats 4000000 in
theorem x_X2_centralCell {l : Launch} {g : GH} (hG : G0 l g) {n : Nat} {h0 : Nat} {h1 : Nat} {v2 : Int} (w0 : WX2 h0) (w1 : WX1 h1) {D : DT} {K : (Int × DT) → Prop} (h : ok (m_X2_centralCell h0 h1 v2 D) K) : Px (E_X2_centralCell l g (PIw n K)) 0 [some (vR g h0), some (vR g h1), some (vI v2), none, none] [] (LF n) D 0 0 := by
  refine p_aload_n dX2_centralCell_0 rfl ?_
  refine p_getr dX2_centralCell_1 fl_X2_34 (fun _ _ _ => rfl) (wc_X2 w0) (wf_X2_6 w0) ?_
  refine cV_Vw [] [] dX2_centralCell_4 yv_X0_clear ml_X2_124 (r := (RX0, TX0, 3)) rfl rfl (Nat.le_of_ble_eq_true rfl) rfl (Nat.le_of_ble_eq_true rfl) (Nat.le_of_ble_eq_true rfl) (Nat.le_of_ble_eq_true rfl) (wc_X0 (wo_X2_6 w0)) h (fun K h => s_X0_clear hG (wo_X2_6 w0) h) (fun D4 h => ?_)
  refine p_iconst dX2_centralCell_7 ?_
  refine p_istore_n dX2_centralCell_8 (Nat.le_of_ble_eq_true rfl) rfl ?_
  exact p_weak (leL.same (leL.same (leL.same (leL.same (leL.drop leL.nil))))) (x_X2_centralCell_9 hG w0 w1 h)
theorem s_X2_centralCell {l : Launch} {g : GH} (hG : G0 l g) {n : Nat} {h0 : Nat} {h1 : Nat} {v2 : Int} (w0 : WX2 h0) (w1 : WX1 h1) {D : DT} {K : (Int × DT) → Prop} (h : ok (m_X2_centralCell h0 h1 v2 D) K) : Sat l g yX2_centralCell cX2_centralCell 5 (some .int) 1 0 0 [vR g h0, vR g h1, vI v2] (LF n) D (PIw n K) := Sat.of hG (by decide) (Nat.le_of_ble_eq_true rfl) (by simp [Value.category]) (x_X2_centralCell hG w0 w1 h)
abbrev E_X2_sumOfRow (l : Launch) (g : GH) (P : PT) : ENV := mkE l g yX2_sumOfRow cX2_sumOfRow 5 (some .int) [] 0 0 0 P
abbrev P_X2_sumOfRow_5 (l : Launch) (g : GH) (n : Nat) (K : Int → Prop) (h0 : Nat) (h1 : Nat) (v2 : Int) (D : DT) : (Int × Int) → Prop := fun s => Px (E_X2_sumOfRow l g (PIr n D K)) 5 [some (vR g h0), some (vR g h1), some (vI v2), some (vI s.1), some (vI s.2)] [] (LF n) D 0 0
set_option maxRecDepth 100000 in
set_option maxHeartbeats 4000000 in
theorem x_X2_sumOfRow_5 {l : Launch} {g : GH} (hG : G0 l g) {n : Nat} {h0 h1 : Nat} {v2 : Int} (w0 : WX2 h0) (w1 : WX1 h1) {D : DT} {K : Int → Prop} {s : (Int × Int)} (h : ok (m_X2_sumOfRow_5 h0 h1 v2 D s) K) : Px (E_X2_sumOfRow l g (PIr n D K)) 5 [some (vR g h0), some (vR g h1), some (vI v2), some (vI s.1), some (vI s.2)] [] (LF n) D 0 0 := by
  refine ok_loop (P := (P_X2_sumOfRow_5 l g n K h0 h1 v2 D)) (fun s h => ?_) h
  refine p_iload dX2_sumOfRow_5 rfl ?_
  refine p_aload_n dX2_sumOfRow_7 rfl ?_
  refine p_geti dX2_sumOfRow_8 fl_X2_139 (fun _ _ _ => rfl) (wc_X1 w1) ?_
  refine q_icmp_ge (tgt := 37) dX2_sumOfRow_11 (by decide) h (fun h => ?_) (fun h => ?_)
  · have h := kl_inr h
    refine p_iload_n dX2_sumOfRow_37 rfl ?_
    exact p_ireturn dX2_sumOfRow_38 (Nat.le_of_ble_eq_true rfl) (Nat.le_of_ble_eq_true rfl) ⟨_, rfl, rfl, rfl, ok_some h⟩
  · refine p_iload_n dX2_sumOfRow_14 rfl ?_
    refine p_aload_n dX2_sumOfRow_15 rfl ?_
    refine p_getr dX2_sumOfRow_16 fl_X2_22 (fun _ _ _ => rfl) (wc_X2 w0) (wf_X2_3 w0) ?_
    refine p_iload_n dX2_sumOfRow_19 rfl ?_
    refine p_aload_n dX2_sumOfRow_20 rfl ?_
    refine p_geti dX2_sumOfRow_21 fl_X2_139 (fun _ _ _ => rfl) (wc_X1 w1) ?_
    refine p_imul dX2_sumOfRow_24 ?_
    refine p_iload dX2_sumOfRow_25 rfl ?_
    refine p_iadd dX2_sumOfRow_27 ?_
    refine q_iald dX2_sumOfRow_28 (wa_X2_3 w0) rfl h (fun h => ?_)
    refine p_iadd dX2_sumOfRow_29 ?_
    refine p_istore_n dX2_sumOfRow_30 (Nat.le_of_ble_eq_true rfl) rfl ?_
    refine p_iinc dX2_sumOfRow_31 rfl (Nat.le_of_ble_eq_true rfl) rfl ?_
    refine p_goto (tgt := 5) dX2_sumOfRow_34 (by decide) ?_
    exact p_weak (leL.same (leL.same (leL.same (leL.same (leL.same leL.nil))))) (kl_inl (P := (P_X2_sumOfRow_5 l g n K h0 h1 v2 D)) h)
set_option maxRecDepth 100000 in
set_option maxHeartbeats 4000000 in
theorem x_X2_sumOfRow {l : Launch} {g : GH} (hG : G0 l g) {n : Nat} {h0 : Nat} {h1 : Nat} {v2 : Int} (w0 : WX2 h0) (w1 : WX1 h1) {D : DT} {K : Int → Prop} (h : ok (m_X2_sumOfRow h0 h1 v2 D) K) : Px (E_X2_sumOfRow l g (PIr n D K)) 0 [some (vR g h0), some (vR g h1), some (vI v2), none, none] [] (LF n) D 0 0 := by
  refine p_iconst dX2_sumOfRow_0 ?_
  refine p_istore_n dX2_sumOfRow_1 (Nat.le_of_ble_eq_true rfl) rfl ?_
  refine p_iconst dX2_sumOfRow_2 ?_
  refine p_istore dX2_sumOfRow_3 (Nat.le_of_ble_eq_true rfl) rfl ?_
  exact p_weak (leL.same (leL.same (leL.same (leL.same (leL.same leL.nil))))) (x_X2_sumOfRow_5 hG w0 w1 h)
theorem s_X2_sumOfRow {l : Launch} {g : GH} (hG : G0 l g) {n : Nat} {h0 : Nat} {h1 : Nat} {v2 : Int} (w0 : WX2 h0) (w1 : WX1 h1) {D : DT} {K : Int → Prop} (h : ok (m_X2_sumOfRow h0 h1 v2 D) K) : Sat l g yX2_sumOfRow cX2_sumOfRow 5 (some .int) 0 0 0 [vR g h0, vR g h1, vI v2] (LF n) D (PIr n D K) := Sat.of hG (by decide) (Nat.le_of_ble_eq_true rfl) (by simp [Value.category]) (x_X2_sumOfRow hG w0 w1 h)
abbrev E_X2_sumOfColumn (l : Launch) (g : GH) (P : PT) : ENV := mkE l g yX2_sumOfColumn cX2_sumOfColumn 5 (some .int) [] 0 0 0 P
abbrev P_X2_sumOfColumn_5 (l : Launch) (g : GH) (n : Nat) (K : Int → Prop) (h0 : Nat) (h1 : Nat) (v2 : Int) (D : DT) : (Int × Int) → Prop := fun s => Px (E_X2_sumOfColumn l g (PIr n D K)) 5 [some (vR g h0), some (vR g h1), some (vI v2), some (vI s.1), some (vI s.2)] [] (LF n) D 0 0
set_option maxRecDepth 100000 in
set_option maxHeartbeats 4000000 in
theorem x_X2_sumOfColumn_5 {l : Launch} {g : GH} (hG : G0 l g) {n : Nat} {h0 h1 : Nat} {v2 : Int} (w0 : WX2 h0) (w1 : WX1 h1) {D : DT} {K : Int → Prop} {s : (Int × Int)} (h : ok (m_X2_sumOfColumn_5 h0 h1 v2 D s) K) : Px (E_X2_sumOfColumn l g (PIr n D K)) 5 [some (vR g h0), some (vR g h1), some (vI v2), some (vI s.1), some (vI s.2)] [] (LF n) D 0 0 := by
  refine ok_loop (P := (P_X2_sumOfColumn_5 l g n K h0 h1 v2 D)) (fun s h => ?_) h
  refine p_iload dX2_sumOfColumn_5 rfl ?_
  refine p_aload_n dX2_sumOfColumn_7 rfl ?_
  refine p_geti dX2_sumOfColumn_8 fl_X2_142 (fun _ _ _ => rfl) (wc_X1 w1) ?_
  refine q_icmp_ge (tgt := 37) dX2_sumOfColumn_11 (by decide) h (fun h => ?_) (fun h => ?_)
  · have h := kl_inr h
    refine p_iload_n dX2_sumOfColumn_37 rfl ?_
    exact p_ireturn dX2_sumOfColumn_38 (Nat.le_of_ble_eq_true rfl) (Nat.le_of_ble_eq_true rfl) ⟨_, rfl, rfl, rfl, ok_some h⟩
  · refine p_iload_n dX2_sumOfColumn_14 rfl ?_
    refine p_aload_n dX2_sumOfColumn_15 rfl ?_
    refine p_getr dX2_sumOfColumn_16 fl_X2_22 (fun _ _ _ => rfl) (wc_X2 w0) (wf_X2_3 w0) ?_
    refine p_iload dX2_sumOfColumn_19 rfl ?_
    refine p_aload_n dX2_sumOfColumn_21 rfl ?_
    refine p_geti dX2_sumOfColumn_22 fl_X2_139 (fun _ _ _ => rfl) (wc_X1 w1) ?_
    refine p_imul dX2_sumOfColumn_25 ?_
    refine p_iload_n dX2_sumOfColumn_26 rfl ?_
    refine p_iadd dX2_sumOfColumn_27 ?_
    refine q_iald dX2_sumOfColumn_28 (wa_X2_3 w0) rfl h (fun h => ?_)
    refine p_iadd dX2_sumOfColumn_29 ?_
    refine p_istore_n dX2_sumOfColumn_30 (Nat.le_of_ble_eq_true rfl) rfl ?_
    refine p_iinc dX2_sumOfColumn_31 rfl (Nat.le_of_ble_eq_true rfl) rfl ?_
    refine p_goto (tgt := 5) dX2_sumOfColumn_34 (by decide) ?_
    exact p_weak (leL.same (leL.same (leL.same (leL.same (leL.same leL.nil))))) (kl_inl (P := (P_X2_sumOfColumn_5 l g n K h0 h1 v2 D)) h)
set_option maxRecDepth 100000 in
set_option maxHeartbeats 4000000 in
theorem x_X2_sumOfColumn {l : Launch} {g : GH} (hG : G0 l g) {n : Nat} {h0 : Nat} {h1 : Nat} {v2 : Int} (w0 : WX2 h0) (w1 : WX1 h1) {D : DT} {K : Int → Prop} (h : ok (m_X2_sumOfColumn h0 h1 v2 D) K) : Px (E_X2_sumOfColumn l g (PIr n D K)) 0 [some (vR g h0), some (vR g h1), some (vI v2), none, none] [] (LF n) D 0 0 := by
  refine p_iconst dX2_sumOfColumn_0 ?_
  refine p_istore_n dX2_sumOfColumn_1 (Nat.le_of_ble_eq_true rfl) rfl ?_
  refine p_iconst dX2_sumOfColumn_2 ?_
  refine p_istore dX2_sumOfColumn_3 (Nat.le_of_ble_eq_true rfl) rfl ?_
  exact p_weak (leL.same (leL.same (leL.same (leL.same (leL.same leL.nil))))) (x_X2_sumOfColumn_5 hG w0 w1 h)
theorem s_X2_sumOfColumn {l : Launch} {g : GH} (hG : G0 l g) {n : Nat} {h0 : Nat} {h1 : Nat} {v2 : Int} (w0 : WX2 h0) (w1 : WX1 h1) {D : DT} {K : Int → Prop} (h : ok (m_X2_sumOfColumn h0 h1 v2 D) K) : Sat l g yX2_sumOfColumn cX2_sumOfColumn 5 (some .int) 0 0 0 [vR g h0, vR g h1, vI v2] (LF n) D (PIr n D K) := Sat.of hG (by decide) (Nat.le_of_ble_eq_true rfl) (by simp [Value.category]) (x_X2_sumOfColumn hG w0 w1 h)
abbrev E_X3_reach (l : Launch) (g : GH) (P : PT) : ENV := mkE l g yX3_reach cX3_reach 2 none [] 0 0 0 P
set_option maxRecDepth 100000 in
set_option maxHeartbeats 4000000 in
theorem x_X3_reach {l : Launch} {g : GH} (hG : G0 l g) {n : Nat} {v1 : Int} {D : DT} {K : DT → Prop} (h : ok (m_X3_reach v1 D) K) : Px (E_X3_reach l g (PVw n K)) 0 [some (vR g 67), some (vI v1)] [] (LF n) D 0 0 := by
  refine p_aload_n dX3_reach_0 rfl ?_
  refine p_geti dX3_reach_1 fl_X3_22 (fun _ _ _ => rfl) rfl ?_
  refine p_sipush dX3_reach_4 (by decide) ?_
  refine q_icmp_ge (tgt := 40) dX3_reach_7 (by decide) h (fun h => ?_) (fun h => ?_)
  · exact p_return dX3_reach_40 (Nat.le_of_ble_eq_true rfl) (Nat.le_of_ble_eq_true rfl) ⟨rfl, rfl, ok_some h⟩
  · refine p_aload_n dX3_reach_10 rfl ?_
    refine p_getr dX3_reach_11 fl_X3_15 (fun _ _ _ => rfl) rfl rfl ?_
    refine p_iload_n dX3_reach_14 rfl ?_
    refine p_aload_n dX3_reach_15 rfl ?_
    refine p_geti dX3_reach_16 fl_X3_9 (fun _ _ _ => rfl) rfl ?_
    refine q_iast dX3_reach_19 rfl rfl h (fun D19 h => ?_)
    refine p_aload_n dX3_reach_20 rfl ?_
    refine p_getr dX3_reach_21 fl_X3_19 (fun _ _ _ => rfl) rfl rfl ?_
    refine p_aload_n dX3_reach_24 rfl ?_
    refine p_geti dX3_reach_25 fl_X3_22 (fun _ _ _ => rfl) rfl ?_
    refine p_iload_n dX3_reach_28 rfl ?_
    refine q_iast dX3_reach_29 rfl rfl h (fun D29 h => ?_)
    refine p_aload_n dX3_reach_30 rfl ?_
    refine p_dup dX3_reach_31 rfl ?_
    refine p_geti dX3_reach_32 fl_X3_22 (fun _ _ _ => rfl) rfl ?_
    refine p_iconst dX3_reach_35 ?_
    refine p_iadd dX3_reach_36 ?_
    refine q_puti dX3_reach_37 fq_X3_22 rfl rfl h (fun D37 h => ?_)
    exact p_return dX3_reach_40 (Nat.le_of_ble_eq_true rfl) (Nat.le_of_ble_eq_true rfl) ⟨rfl, rfl, ok_some h⟩
theorem s_X3_reach {l : Launch} {g : GH} (hG : G0 l g) {n : Nat} {v1 : Int} {D : DT} {K : DT → Prop} (h : ok (m_X3_reach v1 D) K) : Sat l g yX3_reach cX3_reach 2 none 0 0 0 [vR g 67, vI v1] (LF n) D (PVw n K) := Sat.of hG (by decide) (Nat.le_of_ble_eq_true rfl) (by simp [Value.category]) (x_X3_reach hG h)
