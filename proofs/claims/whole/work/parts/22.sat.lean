abbrev E_X3_fill (l : Launch) (g : GH) (P : PT) : ENV := mkE l g yX3_fill cX3_fill 8 none [] 1 0 0 P
abbrev P_X3_fill_13 (l : Launch) (g : GH) (n : Nat) (K : DT → Prop) (h1 : Nat) (v2 : Int) : (Int × DT) → Prop := fun s => Px (E_X3_fill l g (PVw n K)) 13 [some (vR g 67), some (vR g h1), some (vI v2), none, some (vI s.1), none, none, none] [] (LF n) s.2 0 0
abbrev P_X3_fill_52 (l : Launch) (g : GH) (n : Nat) (K : DT → Prop) (h1 : Nat) (v2 : Int) (v4 : Int) (v5 : Int) : (Int × DT) → Prop := fun s => Px (E_X3_fill l g (PVw n K)) 52 [some (vR g 67), some (vR g h1), some (vI v2), none, some (vI v4), some (vI v5), some (vI s.1), none] [] (LF n) s.2 0 0
set_option maxRecDepth 100000 in
set_option maxHeartbeats 4000000 in
theorem x_X3_fill_52 {l : Launch} {g : GH} (hG : G0 l g) {n : Nat} {h1 : Nat} {v2 v4 v5 : Int} (w1 : WX1 h1) {K : DT → Prop} {s : (Int × DT)} (h : ok (m_X3_fill_52 h1 v2 v4 v5 s) (KL (P_X3_fill_13 l g n K h1 v2) K)) : Px (E_X3_fill l g (PVw n K)) 52 [some (vR g 67), some (vR g h1), some (vI v2), none, some (vI v4), some (vI v5), some (vI s.1), none] [] (LF n) s.2 0 0 := by
  refine ok_loop (P := (P_X3_fill_52 l g n K h1 v2 v4 v5)) (fun s h => ?_) h
  refine p_iload dX3_fill_52 rfl ?_
  refine p_iconst dX3_fill_54 ?_
  refine q_icmp_ge (tgt := 107) dX3_fill_55 (by decide) h (fun h => ?_) (fun h => ?_)
  · have h := kl_inr h
    refine p_iinc dX3_fill_107 rfl (Nat.le_of_ble_eq_true rfl) rfl ?_
    refine p_goto (tgt := 13) dX3_fill_110 (by decide) ?_
    exact p_weak (leL.same (leL.same (leL.same (leL.drop (leL.same (leL.drop (leL.drop (leL.drop leL.nil)))))))) (kl_inl (P := (P_X3_fill_13 l g n K h1 v2)) h)
  · refine p_aload_n dX3_fill_58 rfl ?_
    refine p_iload dX3_fill_59 rfl ?_
    refine p_iload dX3_fill_61 rfl ?_
    refine cV_Ir [vI v5, vI s.1] [] dX3_fill_63 yv_X1_beside ml_X3_48 (r := (RX1, TX1, 11)) rfl rfl (Nat.le_of_ble_eq_true rfl) rfl (Nat.le_of_ble_eq_true rfl) (Nat.le_of_ble_eq_true rfl) (Nat.le_of_ble_eq_true rfl) (wc_X1 w1) h (fun K h => s_X1_beside hG w1 h) (fun r63 h => ?_)
    refine p_istore dX3_fill_66 (Nat.le_of_ble_eq_true rfl) rfl ?_
    refine p_iload dX3_fill_68 rfl ?_
    refine p_iconst dX3_fill_70 ?_
    refine q_icmp_eq (tgt := 101) dX3_fill_71 (by decide) h (fun h => ?_) (fun h => ?_)
    · refine p_iinc dX3_fill_101 rfl (Nat.le_of_ble_eq_true rfl) rfl ?_
      refine p_goto (tgt := 52) dX3_fill_104 (by decide) ?_
      exact p_weak (leL.same (leL.same (leL.same (leL.drop (leL.same (leL.same (leL.same (leL.drop leL.nil)))))))) (kl_inl (P := (P_X3_fill_52 l g n K h1 v2 v4 v5)) h)
    · refine p_aload_n dX3_fill_74 rfl ?_
      refine p_iload dX3_fill_75 rfl ?_
      refine p_iload_n dX3_fill_77 rfl ?_
      refine cV_Ir [vI r63, vI v2] [] dX3_fill_78 yv_X1_isLandOf ml_X3_37 (r := (RX1, TX1, 11)) rfl rfl (Nat.le_of_ble_eq_true rfl) rfl (Nat.le_of_ble_eq_true rfl) (Nat.le_of_ble_eq_true rfl) (Nat.le_of_ble_eq_true rfl) (wc_X1 w1) h (fun K h => s_X1_isLandOf hG w1 h) (fun r78 h => ?_)
      refine q_if_eq (tgt := 101) dX3_fill_81 (by decide) h (fun h => ?_) (fun h => ?_)
      · refine p_iinc dX3_fill_101 rfl (Nat.le_of_ble_eq_true rfl) rfl ?_
        refine p_goto (tgt := 52) dX3_fill_104 (by decide) ?_
        exact p_weak (leL.same (leL.same (leL.same (leL.drop (leL.same (leL.same (leL.same (leL.drop leL.nil)))))))) (kl_inl (P := (P_X3_fill_52 l g n K h1 v2 v4 v5)) h)
      · refine p_aload_n dX3_fill_84 rfl ?_
        refine p_getr dX3_fill_85 fl_X3_15 (fun _ _ _ => rfl) rfl rfl ?_
        refine p_iload dX3_fill_88 rfl ?_
        refine q_iald dX3_fill_90 rfl rfl h (fun h => ?_)
        refine p_iconst dX3_fill_91 ?_
        refine q_icmp_ne (tgt := 101) dX3_fill_92 (by decide) h (fun h => ?_) (fun h => ?_)
        · refine p_iinc dX3_fill_101 rfl (Nat.le_of_ble_eq_true rfl) rfl ?_
          refine p_goto (tgt := 52) dX3_fill_104 (by decide) ?_
          exact p_weak (leL.same (leL.same (leL.same (leL.drop (leL.same (leL.same (leL.same (leL.drop leL.nil)))))))) (kl_inl (P := (P_X3_fill_52 l g n K h1 v2 v4 v5)) h)
        · refine p_aload_n dX3_fill_95 rfl ?_
          refine p_iload dX3_fill_96 rfl ?_
          refine cV_Vw [vI r63] [] dX3_fill_98 yv_X3_reach ml_X3_44 (r := (RX3, TX3, 4)) rfl rfl (Nat.le_of_ble_eq_true rfl) rfl (Nat.le_of_ble_eq_true rfl) (Nat.le_of_ble_eq_true rfl) (Nat.le_of_ble_eq_true rfl) rfl h (fun K h => s_X3_reach hG h) (fun D98 h => ?_)
          refine p_iinc dX3_fill_101 rfl (Nat.le_of_ble_eq_true rfl) rfl ?_
          refine p_goto (tgt := 52) dX3_fill_104 (by decide) ?_
          exact p_weak (leL.same (leL.same (leL.same (leL.drop (leL.same (leL.same (leL.same (leL.drop leL.nil)))))))) (kl_inl (P := (P_X3_fill_52 l g n K h1 v2 v4 v5)) h)
set_option maxRecDepth 100000 in
set_option maxHeartbeats 4000000 in
theorem x_X3_fill_13 {l : Launch} {g : GH} (hG : G0 l g) {n : Nat} {h1 : Nat} {v2 : Int} (w1 : WX1 h1) {K : DT → Prop} {s : (Int × DT)} (h : ok (m_X3_fill_13 h1 v2 s) K) : Px (E_X3_fill l g (PVw n K)) 13 [some (vR g 67), some (vR g h1), some (vI v2), none, some (vI s.1), none, none, none] [] (LF n) s.2 0 0 := by
  refine ok_loop (P := (P_X3_fill_13 l g n K h1 v2)) (fun s h => ?_) h
  refine p_aload_n dX3_fill_13 rfl ?_
  refine p_geti dX3_fill_14 fl_X3_22 (fun _ _ _ => rfl) rfl ?_
  refine q_if_le (tgt := 113) dX3_fill_17 (by decide) h (fun h => ?_) (fun h => ?_)
  · have h := kl_inr h
    exact p_return dX3_fill_113 (Nat.le_of_ble_eq_true rfl) (Nat.le_of_ble_eq_true rfl) ⟨rfl, rfl, ok_some h⟩
  · refine p_iload dX3_fill_20 rfl ?_
    refine p_sipush dX3_fill_22 (by decide) ?_
    refine q_icmp_ge (tgt := 113) dX3_fill_25 (by decide) h (fun h => ?_) (fun h => ?_)
    · have h := kl_inr h
      exact p_return dX3_fill_113 (Nat.le_of_ble_eq_true rfl) (Nat.le_of_ble_eq_true rfl) ⟨rfl, rfl, ok_some h⟩
    · refine p_aload_n dX3_fill_28 rfl ?_
      refine p_dup dX3_fill_29 rfl ?_
      refine p_geti dX3_fill_30 fl_X3_22 (fun _ _ _ => rfl) rfl ?_
      refine p_iconst dX3_fill_33 ?_
      refine p_isub dX3_fill_34 ?_
      refine q_puti dX3_fill_35 fq_X3_22 rfl rfl h (fun D35 h => ?_)
      refine p_aload_n dX3_fill_38 rfl ?_
      refine p_getr dX3_fill_39 fl_X3_19 (fun _ _ _ => rfl) rfl rfl ?_
      refine p_aload_n dX3_fill_42 rfl ?_
      refine p_geti dX3_fill_43 fl_X3_22 (fun _ _ _ => rfl) rfl ?_
      refine q_iald dX3_fill_46 rfl rfl h (fun h => ?_)
      refine p_istore dX3_fill_47 (Nat.le_of_ble_eq_true rfl) rfl ?_
      refine p_iconst dX3_fill_49 ?_
      refine p_istore dX3_fill_50 (Nat.le_of_ble_eq_true rfl) rfl ?_
      exact p_weak (leL.same (leL.same (leL.same (leL.drop (leL.same (leL.same (leL.same (leL.drop leL.nil)))))))) (x_X3_fill_52 hG w1 h)
set_option maxRecDepth 100000 in
set_option maxHeartbeats 4000000 in
theorem x_X3_fill {l : Launch} {g : GH} (hG : G0 l g) {n : Nat} {h1 : Nat} {v2 : Int} {v3 : Int} (w1 : WX1 h1) {D : DT} {K : DT → Prop} (h : ok (m_X3_fill h1 v2 v3 D) K) : Px (E_X3_fill l g (PVw n K)) 0 [some (vR g 67), some (vR g h1), some (vI v2), some (vI v3), none, none, none, none] [] (LF n) D 0 0 := by
  refine p_aload_n dX3_fill_0 rfl ?_
  refine p_iconst dX3_fill_1 ?_
  refine q_puti dX3_fill_2 fq_X3_22 rfl rfl h (fun D2 h => ?_)
  refine p_aload_n dX3_fill_5 rfl ?_
  refine p_iload_n dX3_fill_6 rfl ?_
  refine cV_Vw [vI v3] [] dX3_fill_7 yv_X3_reach ml_X3_44 (r := (RX3, TX3, 4)) rfl rfl (Nat.le_of_ble_eq_true rfl) rfl (Nat.le_of_ble_eq_true rfl) (Nat.le_of_ble_eq_true rfl) (Nat.le_of_ble_eq_true rfl) rfl h (fun K h => s_X3_reach hG h) (fun D7 h => ?_)
  refine p_iconst dX3_fill_10 ?_
  refine p_istore dX3_fill_11 (Nat.le_of_ble_eq_true rfl) rfl ?_
  exact p_weak (leL.same (leL.same (leL.same (leL.drop (leL.same (leL.drop (leL.drop (leL.drop leL.nil)))))))) (x_X3_fill_13 hG w1 h)
theorem s_X3_fill {l : Launch} {g : GH} (hG : G0 l g) {n : Nat} {h1 : Nat} {v2 : Int} {v3 : Int} (w1 : WX1 h1) {D : DT} {K : DT → Prop} (h : ok (m_X3_fill h1 v2 v3 D) K) : Sat l g yX3_fill cX3_fill 8 none 1 0 0 [vR g 67, vR g h1, vI v2, vI v3] (LF n) D (PVw n K) := Sat.of hG (by decide) (Nat.le_of_ble_eq_true rfl) (by simp [Value.category]) (x_X3_fill hG w1 h)
abbrev E_X3_find (l : Launch) (g : GH) (P : PT) : ENV := mkE l g yX3_find cX3_find 4 none [] 2 0 0 P
abbrev P_X3_find_15 (l : Launch) (g : GH) (n : Nat) (K : DT → Prop) (h1 : Nat) (v2 : Int) : (Int × DT) → Prop := fun s => Px (E_X3_find l g (PVw n K)) 15 [some (vR g 67), some (vR g h1), some (vI v2), some (vI s.1)] [] (LF n) s.2 0 0
set_option maxRecDepth 100000 in
set_option maxHeartbeats 4000000 in
theorem x_X3_find_15 {l : Launch} {g : GH} (hG : G0 l g) {n : Nat} {h1 : Nat} {v2 : Int} (w1 : WX1 h1) {K : DT → Prop} {s : (Int × DT)} (h : ok (m_X3_find_15 h1 v2 s) K) : Px (E_X3_find l g (PVw n K)) 15 [some (vR g 67), some (vR g h1), some (vI v2), some (vI s.1)] [] (LF n) s.2 0 0 := by
  refine ok_loop (P := (P_X3_find_15 l g n K h1 v2)) (fun s h => ?_) h
  refine p_iload_n dX3_find_15 rfl ?_
  refine p_aload_n dX3_find_16 rfl ?_
  refine cV_Ir [] [vI s.1] dX3_find_17 yv_X1_cells ml_X3_31 (r := (RX1, TX1, 11)) rfl rfl (Nat.le_of_ble_eq_true rfl) rfl (Nat.le_of_ble_eq_true rfl) (Nat.le_of_ble_eq_true rfl) (Nat.le_of_ble_eq_true rfl) (wc_X1 w1) h (fun K h => s_X1_cells hG w1 h) (fun r17 h => ?_)
  refine q_icmp_ge (tgt := 65) dX3_find_20 (by decide) h (fun h => ?_) (fun h => ?_)
  · have h := kl_inr h
    exact p_return dX3_find_65 (Nat.le_of_ble_eq_true rfl) (Nat.le_of_ble_eq_true rfl) ⟨rfl, rfl, ok_some h⟩
  · refine p_aload_n dX3_find_23 rfl ?_
    refine p_iload_n dX3_find_24 rfl ?_
    refine p_iload_n dX3_find_25 rfl ?_
    refine cV_Ir [vI s.1, vI v2] [] dX3_find_26 yv_X1_isLandOf ml_X3_37 (r := (RX1, TX1, 11)) rfl rfl (Nat.le_of_ble_eq_true rfl) rfl (Nat.le_of_ble_eq_true rfl) (Nat.le_of_ble_eq_true rfl) (Nat.le_of_ble_eq_true rfl) (wc_X1 w1) h (fun K h => s_X1_isLandOf hG w1 h) (fun r26 h => ?_)
    refine q_if_eq (tgt := 59) dX3_find_29 (by decide) h (fun h => ?_) (fun h => ?_)
    · refine p_iinc dX3_find_59 rfl (Nat.le_of_ble_eq_true rfl) rfl ?_
      refine p_goto (tgt := 15) dX3_find_62 (by decide) ?_
      exact p_weak (leL.same (leL.same (leL.same (leL.same leL.nil)))) (kl_inl (P := (P_X3_find_15 l g n K h1 v2)) h)
    · refine p_aload_n dX3_find_32 rfl ?_
      refine p_getr dX3_find_33 fl_X3_15 (fun _ _ _ => rfl) rfl rfl ?_
      refine p_iload_n dX3_find_36 rfl ?_
      refine q_iald dX3_find_37 rfl rfl h (fun h => ?_)
      refine p_iconst dX3_find_38 ?_
      refine q_icmp_ne (tgt := 59) dX3_find_39 (by decide) h (fun h => ?_) (fun h => ?_)
      · refine p_iinc dX3_find_59 rfl (Nat.le_of_ble_eq_true rfl) rfl ?_
        refine p_goto (tgt := 15) dX3_find_62 (by decide) ?_
        exact p_weak (leL.same (leL.same (leL.same (leL.same leL.nil)))) (kl_inl (P := (P_X3_find_15 l g n K h1 v2)) h)
      · refine p_aload_n dX3_find_42 rfl ?_
        refine p_aload_n dX3_find_43 rfl ?_
        refine p_iload_n dX3_find_44 rfl ?_
        refine p_iload_n dX3_find_45 rfl ?_
        refine cV_Vw [vR g h1, vI v2, vI s.1] [] dX3_find_46 yv_X3_fill ml_X3_41 (r := (RX3, TX3, 4)) rfl rfl (Nat.le_of_ble_eq_true rfl) rfl (Nat.le_of_ble_eq_true rfl) (Nat.le_of_ble_eq_true rfl) (Nat.le_of_ble_eq_true rfl) rfl h (fun K h => s_X3_fill hG w1 h) (fun D46 h => ?_)
        refine p_aload_n dX3_find_49 rfl ?_
        refine p_dup dX3_find_50 rfl ?_
        refine p_geti dX3_find_51 fl_X3_9 (fun _ _ _ => rfl) rfl ?_
        refine p_iconst dX3_find_54 ?_
        refine p_iadd dX3_find_55 ?_
        refine q_puti dX3_find_56 fq_X3_9 rfl rfl h (fun D56 h => ?_)
        refine p_iinc dX3_find_59 rfl (Nat.le_of_ble_eq_true rfl) rfl ?_
        refine p_goto (tgt := 15) dX3_find_62 (by decide) ?_
        exact p_weak (leL.same (leL.same (leL.same (leL.same leL.nil)))) (kl_inl (P := (P_X3_find_15 l g n K h1 v2)) h)
set_option maxRecDepth 100000 in
set_option maxHeartbeats 4000000 in
theorem x_X3_find {l : Launch} {g : GH} (hG : G0 l g) {n : Nat} {h1 : Nat} {v2 : Int} (w1 : WX1 h1) {D : DT} {K : DT → Prop} (h : ok (m_X3_find h1 v2 D) K) : Px (E_X3_find l g (PVw n K)) 0 [some (vR g 67), some (vR g h1), some (vI v2), none] [] (LF n) D 0 0 := by
  refine p_aload_n dX3_find_0 rfl ?_
  refine p_iconst dX3_find_1 ?_
  refine q_puti dX3_find_2 fq_X3_9 rfl rfl h (fun D2 h => ?_)
  refine p_aload_n dX3_find_5 rfl ?_
  refine p_getr dX3_find_6 fl_X3_15 (fun _ _ _ => rfl) rfl rfl ?_
  refine p_iconst dX3_find_9 ?_
  refine q_fill [] hG dX3_find_10 rfl ml_X3_25 (Nat.le_of_ble_eq_true rfl) (Nat.le_of_ble_eq_true rfl) (Nat.le_of_ble_eq_true rfl) (Nat.le_of_ble_eq_true rfl) (Nat.le_of_ble_eq_true rfl) h (fun D10 h => ?_)
  refine p_iconst dX3_find_13 ?_
  refine p_istore_n dX3_find_14 (Nat.le_of_ble_eq_true rfl) rfl ?_
  exact p_weak (leL.same (leL.same (leL.same (leL.same leL.nil)))) (x_X3_find_15 hG w1 h)
theorem s_X3_find {l : Launch} {g : GH} (hG : G0 l g) {n : Nat} {h1 : Nat} {v2 : Int} (w1 : WX1 h1) {D : DT} {K : DT → Prop} (h : ok (m_X3_find h1 v2 D) K) : Sat l g yX3_find cX3_find 4 none 2 0 0 [vR g 67, vR g h1, vI v2] (LF n) D (PVw n K) := Sat.of hG (by decide) (Nat.le_of_ble_eq_true rfl) (by simp [Value.category]) (x_X3_find hG w1 h)
abbrev E_X4_forget (l : Launch) (g : GH) (P : PT) : ENV := mkE l g yX4_forget cX4_forget 1 none [] 0 0 0 P
set_option maxRecDepth 100000 in
set_option maxHeartbeats 4000000 in
theorem x_X4_forget {l : Launch} {g : GH} (hG : G0 l g) {n : Nat} {D : DT} {K : DT → Prop} (h : ok (m_X4_forget D) K) : Px (E_X4_forget l g (PVw n K)) 0 [some (vR g 70)] [] (LF n) D 0 0 := by
  refine p_aload_n dX4_forget_0 rfl ?_
  refine p_iconst dX4_forget_1 ?_
  refine q_puti dX4_forget_2 fq_X4_28 rfl rfl h (fun D2 h => ?_)
  exact p_return dX4_forget_5 (Nat.le_of_ble_eq_true rfl) (Nat.le_of_ble_eq_true rfl) ⟨rfl, rfl, ok_some h⟩
theorem s_X4_forget {l : Launch} {g : GH} (hG : G0 l g) {n : Nat} {D : DT} {K : DT → Prop} (h : ok (m_X4_forget D) K) : Sat l g yX4_forget cX4_forget 1 none 0 0 0 [vR g 70] (LF n) D (PVw n K) := Sat.of hG (by decide) (Nat.le_of_ble_eq_true rfl) (by simp [Value.category]) (x_X4_forget hG h)
abbrev E_X4_isOf (l : Launch) (g : GH) (P : PT) : ENV := mkE l g yX4_isOf cX4_isOf 4 (some .boolean) [] 0 0 0 P
set_option maxRecDepth 100000 in
set_option maxHeartbeats 4000000 in
theorem x_X4_isOf {l : Launch} {g : GH} (hG : G0 l g) {n : Nat} {v1 : Int} {v2 : Int} {v3 : Int} {D : DT} {K : Int → Prop} (h : ok (m_X4_isOf v1 v2 v3 D) K) : Px (E_X4_isOf l g (PIr n D K)) 0 [some (vR g 70), some (vI v1), some (vI v2), some (vI v3)] [] (LF n) D 0 0 := by
  refine p_aload_n dX4_isOf_0 rfl ?_
  refine p_geti dX4_isOf_1 fl_X4_28 (fun _ _ _ => rfl) rfl ?_
  refine p_iload_n dX4_isOf_4 rfl ?_
  refine q_icmp_ne (tgt := 28) dX4_isOf_5 (by decide) h (fun h => ?_) (fun h => ?_)
  · refine p_iconst dX4_isOf_28 ?_
    exact p_zreturn dX4_isOf_29 (Nat.le_of_ble_eq_true rfl) (Nat.le_of_ble_eq_true rfl) (Or.inl rfl) ⟨_, rfl, rfl, rfl, ok_some h⟩
  · refine p_aload_n dX4_isOf_8 rfl ?_
    refine p_geti dX4_isOf_9 fl_X4_31 (fun _ _ _ => rfl) rfl ?_
    refine p_iload_n dX4_isOf_12 rfl ?_
    refine q_icmp_ne (tgt := 28) dX4_isOf_13 (by decide) h (fun h => ?_) (fun h => ?_)
    · refine p_iconst dX4_isOf_28 ?_
      exact p_zreturn dX4_isOf_29 (Nat.le_of_ble_eq_true rfl) (Nat.le_of_ble_eq_true rfl) (Or.inl rfl) ⟨_, rfl, rfl, rfl, ok_some h⟩
    · refine p_aload_n dX4_isOf_16 rfl ?_
      refine p_geti dX4_isOf_17 fl_X4_34 (fun _ _ _ => rfl) rfl ?_
      refine p_iload_n dX4_isOf_20 rfl ?_
      refine q_icmp_ne (tgt := 28) dX4_isOf_21 (by decide) h (fun h => ?_) (fun h => ?_)
      · refine p_iconst dX4_isOf_28 ?_
        exact p_zreturn dX4_isOf_29 (Nat.le_of_ble_eq_true rfl) (Nat.le_of_ble_eq_true rfl) (Or.inl rfl) ⟨_, rfl, rfl, rfl, ok_some h⟩
      · refine p_iconst dX4_isOf_24 ?_
        refine p_goto (tgt := 29) dX4_isOf_25 (by decide) ?_
        exact p_zreturn dX4_isOf_29 (Nat.le_of_ble_eq_true rfl) (Nat.le_of_ble_eq_true rfl) (Or.inr rfl) ⟨_, rfl, rfl, rfl, ok_some h⟩
theorem s_X4_isOf {l : Launch} {g : GH} (hG : G0 l g) {n : Nat} {v1 : Int} {v2 : Int} {v3 : Int} {D : DT} {K : Int → Prop} (h : ok (m_X4_isOf v1 v2 v3 D) K) : Sat l g yX4_isOf cX4_isOf 4 (some .boolean) 0 0 0 [vR g 70, vI v1, vI v2, vI v3] (LF n) D (PIr n D K) := Sat.of hG (by decide) (Nat.le_of_ble_eq_true rfl) (by simp [Value.category]) (x_X4_isOf hG h)
abbrev E_X4_keepAs (l : Launch) (g : GH) (P : PT) : ENV := mkE l g yX4_keepAs cX4_keepAs 4 none [] 0 0 0 P
set_option maxRecDepth 100000 in
set_option maxHeartbeats 4000000 in
theorem x_X4_keepAs {l : Launch} {g : GH} (hG : G0 l g) {n : Nat} {v1 : Int} {v2 : Int} {v3 : Int} {D : DT} {K : DT → Prop} (h : ok (m_X4_keepAs v1 v2 v3 D) K) : Px (E_X4_keepAs l g (PVw n K)) 0 [some (vR g 70), some (vI v1), some (vI v2), some (vI v3)] [] (LF n) D 0 0 := by
  refine p_aload_n dX4_keepAs_0 rfl ?_
  refine p_iload_n dX4_keepAs_1 rfl ?_
  refine q_puti dX4_keepAs_2 fq_X4_28 rfl rfl h (fun D2 h => ?_)
  refine p_aload_n dX4_keepAs_5 rfl ?_
  refine p_iload_n dX4_keepAs_6 rfl ?_
  refine q_puti dX4_keepAs_7 fq_X4_31 rfl rfl h (fun D7 h => ?_)
  refine p_aload_n dX4_keepAs_10 rfl ?_
  refine p_iload_n dX4_keepAs_11 rfl ?_
  refine q_puti dX4_keepAs_12 fq_X4_34 rfl rfl h (fun D12 h => ?_)
  exact p_return dX4_keepAs_15 (Nat.le_of_ble_eq_true rfl) (Nat.le_of_ble_eq_true rfl) ⟨rfl, rfl, ok_some h⟩
theorem s_X4_keepAs {l : Launch} {g : GH} (hG : G0 l g) {n : Nat} {v1 : Int} {v2 : Int} {v3 : Int} {D : DT} {K : DT → Prop} (h : ok (m_X4_keepAs v1 v2 v3 D) K) : Sat l g yX4_keepAs cX4_keepAs 4 none 0 0 0 [vR g 70, vI v1, vI v2, vI v3] (LF n) D (PVw n K) := Sat.of hG (by decide) (Nat.le_of_ble_eq_true rfl) (by simp [Value.category]) (x_X4_keepAs hG h)
abbrev E_X4_stopAt (l : Launch) (g : GH) (P : PT) : ENV := mkE l g yX4_stopAt cX4_stopAt 2 (some .int) [] 0 0 0 P
set_option maxRecDepth 100000 in
set_option maxHeartbeats 4000000 in
theorem x_X4_stopAt {l : Launch} {g : GH} (hG : G0 l g) {n : Nat} {v1 : Int} {D : DT} {K : Int → Prop} (h : ok (m_X4_stopAt v1 D) K) : Px (E_X4_stopAt l g (PIr n D K)) 0 [some (vR g 70), some (vI v1)] [] (LF n) D 0 0 := by
  refine p_iload_n dX4_stopAt_0 rfl ?_
  refine q_if_lt (tgt := 21) dX4_stopAt_1 (by decide) h (fun h => ?_) (fun h => ?_)
  · refine p_iconst dX4_stopAt_21 ?_
    exact p_ireturn dX4_stopAt_22 (Nat.le_of_ble_eq_true rfl) (Nat.le_of_ble_eq_true rfl) ⟨_, rfl, rfl, rfl, ok_some h⟩
  · refine p_iload_n dX4_stopAt_4 rfl ?_
    refine p_aload_n dX4_stopAt_5 rfl ?_
    refine p_geti dX4_stopAt_6 fl_X4_9 (fun _ _ _ => rfl) rfl ?_
    refine q_icmp_ge (tgt := 21) dX4_stopAt_9 (by decide) h (fun h => ?_) (fun h => ?_)
    · refine p_iconst dX4_stopAt_21 ?_
      exact p_ireturn dX4_stopAt_22 (Nat.le_of_ble_eq_true rfl) (Nat.le_of_ble_eq_true rfl) ⟨_, rfl, rfl, rfl, ok_some h⟩
    · refine p_aload_n dX4_stopAt_12 rfl ?_
      refine p_getr dX4_stopAt_13 fl_X4_18 (fun _ _ _ => rfl) rfl rfl ?_
      refine p_iload_n dX4_stopAt_16 rfl ?_
      refine q_iald dX4_stopAt_17 rfl rfl h (fun h => ?_)
      refine p_goto (tgt := 22) dX4_stopAt_18 (by decide) ?_
      exact p_ireturn dX4_stopAt_22 (Nat.le_of_ble_eq_true rfl) (Nat.le_of_ble_eq_true rfl) ⟨_, rfl, rfl, rfl, ok_some h⟩
theorem s_X4_stopAt {l : Launch} {g : GH} (hG : G0 l g) {n : Nat} {v1 : Int} {D : DT} {K : Int → Prop} (h : ok (m_X4_stopAt v1 D) K) : Sat l g yX4_stopAt cX4_stopAt 2 (some .int) 0 0 0 [vR g 70, vI v1] (LF n) D (PIr n D K) := Sat.of hG (by decide) (Nat.le_of_ble_eq_true rfl) (by simp [Value.category]) (x_X4_stopAt hG h)
abbrev E_X4_isApart (l : Launch) (g : GH) (P : PT) : ENV := mkE l g yX4_isApart cX4_isApart 5 (some .boolean) [] 1 0 0 P
abbrev P_X4_isApart_3 (l : Launch) (g : GH) (n : Nat) (K : Int → Prop) (h1 : Nat) (v2 : Int) (v3 : Int) (D : DT) : Int → Prop := fun s => Px (E_X4_isApart l g (PIr n D K)) 3 [some (vR g 70), some (vR g h1), some (vI v2), some (vI v3), some (vI s)] [] (LF n) D 0 0
set_option maxRecDepth 100000 in
set_option maxHeartbeats 4000000 in
theorem x_X4_isApart_3 {l : Launch} {g : GH} (hG : G0 l g) {n : Nat} {h1 : Nat} {v2 v3 : Int} (w1 : WX1 h1) {D : DT} {K : Int → Prop} {s : Int} (h : ok (m_X4_isApart_3 h1 v2 v3 D s) K) : Px (E_X4_isApart l g (PIr n D K)) 3 [some (vR g 70), some (vR g h1), some (vI v2), some (vI v3), some (vI s)] [] (LF n) D 0 0 := by
  refine ok_loop (P := (P_X4_isApart_3 l g n K h1 v2 v3 D)) (fun s h => ?_) h
  refine p_iload dX4_isApart_3 rfl ?_
  refine p_aload_n dX4_isApart_5 rfl ?_
  refine p_geti dX4_isApart_6 fl_X4_9 (fun _ _ _ => rfl) rfl ?_
  refine q_icmp_ge (tgt := 36) dX4_isApart_9 (by decide) h (fun h => ?_) (fun h => ?_)
  · have h := kl_inr h
    refine p_iconst dX4_isApart_36 ?_
    exact p_zreturn dX4_isApart_37 (Nat.le_of_ble_eq_true rfl) (Nat.le_of_ble_eq_true rfl) (Or.inr rfl) ⟨_, rfl, rfl, rfl, ok_some h⟩
  · refine p_aload_n dX4_isApart_12 rfl ?_
    refine p_iload_n dX4_isApart_13 rfl ?_
    refine p_aload_n dX4_isApart_14 rfl ?_
    refine p_getr dX4_isApart_15 fl_X4_18 (fun _ _ _ => rfl) rfl rfl ?_
    refine p_iload dX4_isApart_18 rfl ?_
    refine q_iald dX4_isApart_20 rfl rfl h (fun h => ?_)
    refine cV_Ir [vI v2, vI (D.2 71 (Int.toNat s))] [] dX4_isApart_21 yv_X1_far ml_X4_64 (r := (RX1, TX1, 11)) rfl rfl (Nat.le_of_ble_eq_true rfl) rfl (Nat.le_of_ble_eq_true rfl) (Nat.le_of_ble_eq_true rfl) (Nat.le_of_ble_eq_true rfl) (wc_X1 w1) h (fun K h => s_X1_far hG w1 h) (fun r21 h => ?_)
    refine p_iload_n dX4_isApart_24 rfl ?_
    refine q_icmp_ge (tgt := 30) dX4_isApart_25 (by decide) h (fun h => ?_) (fun h => ?_)
    · refine p_iinc dX4_isApart_30 rfl (Nat.le_of_ble_eq_true rfl) rfl ?_
      refine p_goto (tgt := 3) dX4_isApart_33 (by decide) ?_
      exact p_weak (leL.same (leL.same (leL.same (leL.same (leL.same leL.nil))))) (kl_inl (P := (P_X4_isApart_3 l g n K h1 v2 v3 D)) h)
    · have h := kl_inr h
      refine p_iconst dX4_isApart_28 ?_
      exact p_zreturn dX4_isApart_29 (Nat.le_of_ble_eq_true rfl) (Nat.le_of_ble_eq_true rfl) (Or.inl rfl) ⟨_, rfl, rfl, rfl, ok_some h⟩
set_option maxRecDepth 100000 in
set_option maxHeartbeats 4000000 in
theorem x_X4_isApart {l : Launch} {g : GH} (hG : G0 l g) {n : Nat} {h1 : Nat} {v2 : Int} {v3 : Int} (w1 : WX1 h1) {D : DT} {K : Int → Prop} (h : ok (m_X4_isApart h1 v2 v3 D) K) : Px (E_X4_isApart l g (PIr n D K)) 0 [some (vR g 70), some (vR g h1), some (vI v2), some (vI v3), none] [] (LF n) D 0 0 := by
  refine p_iconst dX4_isApart_0 ?_
  refine p_istore dX4_isApart_1 (Nat.le_of_ble_eq_true rfl) rfl ?_
  exact p_weak (leL.same (leL.same (leL.same (leL.same (leL.same leL.nil))))) (x_X4_isApart_3 hG w1 h)
theorem s_X4_isApart {l : Launch} {g : GH} (hG : G0 l g) {n : Nat} {h1 : Nat} {v2 : Int} {v3 : Int} (w1 : WX1 h1) {D : DT} {K : Int → Prop} (h : ok (m_X4_isApart h1 v2 v3 D) K) : Sat l g yX4_isApart cX4_isApart 5 (some .boolean) 1 0 0 [vR g 70, vR g h1, vI v2, vI v3] (LF n) D (PIr n D K) := Sat.of hG (by decide) (Nat.le_of_ble_eq_true rfl) (by simp [Value.category]) (x_X4_isApart hG w1 h)
abbrev E_X4_push (l : Launch) (g : GH) (P : PT) : ENV := mkE l g yX4_push cX4_push 2 none [] 0 0 0 P
set_option maxRecDepth 100000 in
set_option maxHeartbeats 4000000 in
theorem x_X4_push {l : Launch} {g : GH} (hG : G0 l g) {n : Nat} {v1 : Int} {D : DT} {K : DT → Prop} (h : ok (m_X4_push v1 D) K) : Px (E_X4_push l g (PVw n K)) 0 [some (vR g 70), some (vI v1)] [] (LF n) D 0 0 := by
  refine p_aload_n dX4_push_0 rfl ?_
  refine p_geti dX4_push_1 fl_X4_9 (fun _ _ _ => rfl) rfl ?_
  refine p_sipush dX4_push_4 (by decide) ?_
  refine q_icmp_ge (tgt := 30) dX4_push_7 (by decide) h (fun h => ?_) (fun h => ?_)
  · exact p_return dX4_push_30 (Nat.le_of_ble_eq_true rfl) (Nat.le_of_ble_eq_true rfl) ⟨rfl, rfl, ok_some h⟩
  · refine p_aload_n dX4_push_10 rfl ?_
    refine p_getr dX4_push_11 fl_X4_18 (fun _ _ _ => rfl) rfl rfl ?_
    refine p_aload_n dX4_push_14 rfl ?_
    refine p_geti dX4_push_15 fl_X4_9 (fun _ _ _ => rfl) rfl ?_
    refine p_iload_n dX4_push_18 rfl ?_
    refine q_iast dX4_push_19 rfl rfl h (fun D19 h => ?_)
    refine p_aload_n dX4_push_20 rfl ?_
    refine p_dup dX4_push_21 rfl ?_
    refine p_geti dX4_push_22 fl_X4_9 (fun _ _ _ => rfl) rfl ?_
    refine p_iconst dX4_push_25 ?_
    refine p_iadd dX4_push_26 ?_
    refine q_puti dX4_push_27 fq_X4_9 rfl rfl h (fun D27 h => ?_)
    exact p_return dX4_push_30 (Nat.le_of_ble_eq_true rfl) (Nat.le_of_ble_eq_true rfl) ⟨rfl, rfl, ok_some h⟩
theorem s_X4_push {l : Launch} {g : GH} (hG : G0 l g) {n : Nat} {v1 : Int} {D : DT} {K : DT → Prop} (h : ok (m_X4_push v1 D) K) : Sat l g yX4_push cX4_push 2 none 0 0 0 [vR g 70, vI v1] (LF n) D (PVw n K) := Sat.of hG (by decide) (Nat.le_of_ble_eq_true rfl) (by simp [Value.category]) (x_X4_push hG h)
abbrev E_X4_keep (l : Launch) (g : GH) (P : PT) : ENV := mkE l g yX4_keep cX4_keep 5 none [] 2 0 0 P
abbrev P_X4_keep_3 (l : Launch) (g : GH) (n : Nat) (K : DT → Prop) (h1 : Nat) (h2 : Nat) (v3 : Int) : (Int × DT) → Prop := fun s => Px (E_X4_keep l g (PVw n K)) 3 [some (vR g 70), some (vR g h1), some (vR g h2), some (vI v3), some (vI s.1)] [] (LF n) s.2 0 0
set_option maxRecDepth 100000 in
set_option maxHeartbeats 4000000 in
theorem x_X4_keep_3 {l : Launch} {g : GH} (hG : G0 l g) {n : Nat} {h1 h2 : Nat} {v3 : Int} (w1 : WX1 h1) (w2 : WX2 h2) {K : DT → Prop} {s : (Int × DT)} (h : ok (m_X4_keep_3 h1 h2 v3 s) K) : Px (E_X4_keep l g (PVw n K)) 3 [some (vR g 70), some (vR g h1), some (vR g h2), some (vI v3), some (vI s.1)] [] (LF n) s.2 0 0 := by
  refine ok_loop (P := (P_X4_keep_3 l g n K h1 h2 v3)) (fun s h => ?_) h
  refine p_iload dX4_keep_3 rfl ?_
  refine p_aload_n dX4_keep_5 rfl ?_
  refine p_geti dX4_keep_6 fl_X4_48 (fun _ _ _ => rfl) (wc_X2 w2) ?_
  refine q_icmp_ge (tgt := 45) dX4_keep_9 (by decide) h (fun h => ?_) (fun h => ?_)
  · have h := kl_inr h
    exact p_return dX4_keep_45 (Nat.le_of_ble_eq_true rfl) (Nat.le_of_ble_eq_true rfl) ⟨rfl, rfl, ok_some h⟩
  · refine p_aload_n dX4_keep_12 rfl ?_
    refine p_aload_n dX4_keep_13 rfl ?_
    refine p_aload_n dX4_keep_14 rfl ?_
    refine p_getr dX4_keep_15 fl_X4_53 (fun _ _ _ => rfl) (wc_X2 w2) (wf_X2_4 w2) ?_
    refine p_iload dX4_keep_18 rfl ?_
    refine q_iald dX4_keep_20 (wa_X2_4 w2) rfl h (fun h => ?_)
    refine p_iload_n dX4_keep_21 rfl ?_
    refine cV_Ir [vR g h1, vI (s.2.2 (h2 + 3) (Int.toNat s.1)), vI v3] [] dX4_keep_22 yv_X4_isApart ml_X4_56 (r := (RX4, TX4, 8)) rfl rfl (Nat.le_of_ble_eq_true rfl) rfl (Nat.le_of_ble_eq_true rfl) (Nat.le_of_ble_eq_true rfl) (Nat.le_of_ble_eq_true rfl) rfl h (fun K h => s_X4_isApart hG w1 h) (fun r22 h => ?_)
    refine q_if_eq (tgt := 39) dX4_keep_25 (by decide) h (fun h => ?_) (fun h => ?_)
    · refine p_iinc dX4_keep_39 rfl (Nat.le_of_ble_eq_true rfl) rfl ?_
      refine p_goto (tgt := 3) dX4_keep_42 (by decide) ?_
      exact p_weak (leL.same (leL.same (leL.same (leL.same (leL.same leL.nil))))) (kl_inl (P := (P_X4_keep_3 l g n K h1 h2 v3)) h)
    · refine p_aload_n dX4_keep_28 rfl ?_
      refine p_aload_n dX4_keep_29 rfl ?_
      refine p_getr dX4_keep_30 fl_X4_53 (fun _ _ _ => rfl) (wc_X2 w2) (wf_X2_4 w2) ?_
      refine p_iload dX4_keep_33 rfl ?_
      refine q_iald dX4_keep_35 (wa_X2_4 w2) rfl h (fun h => ?_)
      refine cV_Vw [vI (s.2.2 (h2 + 3) (Int.toNat s.1))] [] dX4_keep_36 yv_X4_push ml_X4_60 (r := (RX4, TX4, 8)) rfl rfl (Nat.le_of_ble_eq_true rfl) rfl (Nat.le_of_ble_eq_true rfl) (Nat.le_of_ble_eq_true rfl) (Nat.le_of_ble_eq_true rfl) rfl h (fun K h => s_X4_push hG h) (fun D36 h => ?_)
      refine p_iinc dX4_keep_39 rfl (Nat.le_of_ble_eq_true rfl) rfl ?_
      refine p_goto (tgt := 3) dX4_keep_42 (by decide) ?_
      exact p_weak (leL.same (leL.same (leL.same (leL.same (leL.same leL.nil))))) (kl_inl (P := (P_X4_keep_3 l g n K h1 h2 v3)) h)
set_option maxRecDepth 100000 in
set_option maxHeartbeats 4000000 in
theorem x_X4_keep {l : Launch} {g : GH} (hG : G0 l g) {n : Nat} {h1 : Nat} {h2 : Nat} {v3 : Int} (w1 : WX1 h1) (w2 : WX2 h2) {D : DT} {K : DT → Prop} (h : ok (m_X4_keep h1 h2 v3 D) K) : Px (E_X4_keep l g (PVw n K)) 0 [some (vR g 70), some (vR g h1), some (vR g h2), some (vI v3), none] [] (LF n) D 0 0 := by
  refine p_iconst dX4_keep_0 ?_
  refine p_istore dX4_keep_1 (Nat.le_of_ble_eq_true rfl) rfl ?_
  exact p_weak (leL.same (leL.same (leL.same (leL.same (leL.same leL.nil))))) (x_X4_keep_3 hG w1 w2 h)
theorem s_X4_keep {l : Launch} {g : GH} (hG : G0 l g) {n : Nat} {h1 : Nat} {h2 : Nat} {v3 : Int} (w1 : WX1 h1) (w2 : WX2 h2) {D : DT} {K : DT → Prop} (h : ok (m_X4_keep h1 h2 v3 D) K) : Sat l g yX4_keep cX4_keep 5 none 2 0 0 [vR g 70, vR g h1, vR g h2, vI v3] (LF n) D (PVw n K) := Sat.of hG (by decide) (Nat.le_of_ble_eq_true rfl) (by simp [Value.category]) (x_X4_keep hG w1 w2 h)
abbrev E_X4_nextAfter (l : Launch) (g : GH) (P : PT) : ENV := mkE l g yX4_nextAfter cX4_nextAfter 9 (some .int) [] 1 0 0 P
abbrev P_X4_nextAfter_11 (l : Launch) (g : GH) (n : Nat) (K : (Int × DT) → Prop) (h1 : Nat) (v2 : Int) : (Int × Int × Int × Int × DT) → Prop := fun s => Px (E_X4_nextAfter l g (PIw n K)) 11 [some (vR g 70), some (vR g h1), some (vI v2), some (vI s.1), some (vI s.2.1), some (vI s.2.2.1), some (vI s.2.2.2.1), none, none] [] (LF n) s.2.2.2.2 0 0
set_option maxRecDepth 100000 in
set_option maxHeartbeats 4000000 in
theorem x_X4_nextAfter_11 {l : Launch} {g : GH} (hG : G0 l g) {n : Nat} {h1 : Nat} {v2 : Int} (w1 : WX1 h1) {K : (Int × DT) → Prop} {s : (Int × Int × Int × Int × DT)} (h : ok (m_X4_nextAfter_11 h1 v2 s) K) : Px (E_X4_nextAfter l g (PIw n K)) 11 [some (vR g 70), some (vR g h1), some (vI v2), some (vI s.1), some (vI s.2.1), some (vI s.2.2.1), some (vI s.2.2.2.1), none, none] [] (LF n) s.2.2.2.2 0 0 := by
  refine ok_loop (P := (P_X4_nextAfter_11 l g n K h1 v2)) (fun s h => ?_) h
  refine p_iload dX4_nextAfter_11 rfl ?_
  refine p_aload_n dX4_nextAfter_13 rfl ?_
  refine p_geti dX4_nextAfter_14 fl_X4_25 (fun _ _ _ => rfl) rfl ?_
  refine q_icmp_ge (tgt := 81) dX4_nextAfter_17 (by decide) h (fun h => ?_) (fun h => ?_)
  · have h := kl_inr h
    refine p_aload_n dX4_nextAfter_81 rfl ?_
    refine p_iload dX4_nextAfter_82 rfl ?_
    refine q_puti dX4_nextAfter_84 fq_X4_25 rfl rfl h (fun D84 h => ?_)
    refine p_iload_n dX4_nextAfter_87 rfl ?_
    exact p_ireturn dX4_nextAfter_88 (Nat.le_of_ble_eq_true rfl) (Nat.le_of_ble_eq_true rfl) ⟨_, rfl, rfl, ok_some h⟩
  · refine p_aload_n dX4_nextAfter_20 rfl ?_
    refine p_getr dX4_nextAfter_21 fl_X4_22 (fun _ _ _ => rfl) rfl rfl ?_
    refine p_iload dX4_nextAfter_24 rfl ?_
    refine q_iald dX4_nextAfter_26 rfl rfl h (fun h => ?_)
    refine p_istore dX4_nextAfter_27 (Nat.le_of_ble_eq_true rfl) rfl ?_
    refine p_iload dX4_nextAfter_29 rfl ?_
    refine p_iload_n dX4_nextAfter_31 rfl ?_
    refine q_icmp_eq (tgt := 75) dX4_nextAfter_32 (by decide) h (fun h => ?_) (fun h => ?_)
    · refine p_iinc dX4_nextAfter_75 rfl (Nat.le_of_ble_eq_true rfl) rfl ?_
      refine p_goto (tgt := 11) dX4_nextAfter_78 (by decide) ?_
      exact p_weak (leL.same (leL.same (leL.same (leL.same (leL.same (leL.same (leL.same (leL.drop (leL.drop leL.nil))))))))) (kl_inl (P := (P_X4_nextAfter_11 l g n K h1 v2)) h)
    · refine p_aload_n dX4_nextAfter_35 rfl ?_
      refine p_getr dX4_nextAfter_36 fl_X4_22 (fun _ _ _ => rfl) rfl rfl ?_
      refine p_iload dX4_nextAfter_39 rfl ?_
      refine p_iload dX4_nextAfter_41 rfl ?_
      refine q_iast dX4_nextAfter_43 rfl rfl h (fun D43 h => ?_)
      refine p_iinc dX4_nextAfter_44 rfl (Nat.le_of_ble_eq_true rfl) rfl ?_
      refine p_aload_n dX4_nextAfter_47 rfl ?_
      refine p_iload dX4_nextAfter_48 rfl ?_
      refine p_iload_n dX4_nextAfter_50 rfl ?_
      refine cV_Ir [vI (s.2.2.2.2.2 72 (Int.toNat s.2.2.2.1)), vI v2] [] dX4_nextAfter_51 yv_X1_far ml_X4_64 (r := (RX1, TX1, 11)) rfl rfl (Nat.le_of_ble_eq_true rfl) rfl (Nat.le_of_ble_eq_true rfl) (Nat.le_of_ble_eq_true rfl) (Nat.le_of_ble_eq_true rfl) (wc_X1 w1) h (fun K h => s_X1_far hG w1 h) (fun r51 h => ?_)
      refine p_istore dX4_nextAfter_54 (Nat.le_of_ble_eq_true rfl) rfl ?_
      refine p_iload_n dX4_nextAfter_56 rfl ?_
      refine p_iconst dX4_nextAfter_57 ?_
      refine q_icmp_eq (tgt := 68) dX4_nextAfter_58 (by decide) h (fun h => ?_) (fun h => ?_)
      · refine p_iload dX4_nextAfter_68 rfl ?_
        refine p_istore_n dX4_nextAfter_70 (Nat.le_of_ble_eq_true rfl) rfl ?_
        refine p_iload dX4_nextAfter_71 rfl ?_
        refine p_istore dX4_nextAfter_73 (Nat.le_of_ble_eq_true rfl) rfl ?_
        refine p_iinc dX4_nextAfter_75 rfl (Nat.le_of_ble_eq_true rfl) rfl ?_
        refine p_goto (tgt := 11) dX4_nextAfter_78 (by decide) ?_
        exact p_weak (leL.same (leL.same (leL.same (leL.same (leL.same (leL.same (leL.same (leL.drop (leL.drop leL.nil))))))))) (kl_inl (P := (P_X4_nextAfter_11 l g n K h1 v2)) h)
      · refine p_iload dX4_nextAfter_61 rfl ?_
        refine p_iload dX4_nextAfter_63 rfl ?_
        refine q_icmp_ge (tgt := 75) dX4_nextAfter_65 (by decide) h (fun h => ?_) (fun h => ?_)
        · refine p_iinc dX4_nextAfter_75 rfl (Nat.le_of_ble_eq_true rfl) rfl ?_
          refine p_goto (tgt := 11) dX4_nextAfter_78 (by decide) ?_
          exact p_weak (leL.same (leL.same (leL.same (leL.same (leL.same (leL.same (leL.same (leL.drop (leL.drop leL.nil))))))))) (kl_inl (P := (P_X4_nextAfter_11 l g n K h1 v2)) h)
        · refine p_iload dX4_nextAfter_68 rfl ?_
          refine p_istore_n dX4_nextAfter_70 (Nat.le_of_ble_eq_true rfl) rfl ?_
          refine p_iload dX4_nextAfter_71 rfl ?_
          refine p_istore dX4_nextAfter_73 (Nat.le_of_ble_eq_true rfl) rfl ?_
          refine p_iinc dX4_nextAfter_75 rfl (Nat.le_of_ble_eq_true rfl) rfl ?_
          refine p_goto (tgt := 11) dX4_nextAfter_78 (by decide) ?_
          exact p_weak (leL.same (leL.same (leL.same (leL.same (leL.same (leL.same (leL.same (leL.drop (leL.drop leL.nil))))))))) (kl_inl (P := (P_X4_nextAfter_11 l g n K h1 v2)) h)
set_option maxRecDepth 100000 in
set_option maxHeartbeats 4000000 in
theorem x_X4_nextAfter {l : Launch} {g : GH} (hG : G0 l g) {n : Nat} {h1 : Nat} {v2 : Int} (w1 : WX1 h1) {D : DT} {K : (Int × DT) → Prop} (h : ok (m_X4_nextAfter h1 v2 D) K) : Px (E_X4_nextAfter l g (PIw n K)) 0 [some (vR g 70), some (vR g h1), some (vI v2), none, none, none, none, none, none] [] (LF n) D 0 0 := by
  refine p_iconst dX4_nextAfter_0 ?_
  refine p_istore_n dX4_nextAfter_1 (Nat.le_of_ble_eq_true rfl) rfl ?_
  refine p_iconst dX4_nextAfter_2 ?_
  refine p_istore dX4_nextAfter_3 (Nat.le_of_ble_eq_true rfl) rfl ?_
  refine p_iconst dX4_nextAfter_5 ?_
  refine p_istore dX4_nextAfter_6 (Nat.le_of_ble_eq_true rfl) rfl ?_
  refine p_iconst dX4_nextAfter_8 ?_
  refine p_istore dX4_nextAfter_9 (Nat.le_of_ble_eq_true rfl) rfl ?_
  exact p_weak (leL.same (leL.same (leL.same (leL.same (leL.same (leL.same (leL.same (leL.drop (leL.drop leL.nil))))))))) (x_X4_nextAfter_11 hG w1 h)
theorem s_X4_nextAfter {l : Launch} {g : GH} (hG : G0 l g) {n : Nat} {h1 : Nat} {v2 : Int} (w1 : WX1 h1) {D : DT} {K : (Int × DT) → Prop} (h : ok (m_X4_nextAfter h1 v2 D) K) : Sat l g yX4_nextAfter cX4_nextAfter 9 (some .int) 1 0 0 [vR g 70, vR g h1, vI v2] (LF n) D (PIw n K) := Sat.of hG (by decide) (Nat.le_of_ble_eq_true rfl) (by simp [Value.category]) (x_X4_nextAfter hG w1 h)
abbrev E_X4_walk (l : Launch) (g : GH) (P : PT) : ENV := mkE l g yX4_walk cX4_walk 6 none [] 2 0 0 P
abbrev P_X4_walk_46 (l : Launch) (g : GH) (n : Nat) (K : DT → Prop) (h1 : Nat) (h2 : Nat) : (Int × Int × DT) → Prop := fun s => Px (E_X4_walk l g (PVw n K)) 46 [some (vR g 70), some (vR g h1), none, some (vI s.1), some (vI s.2.1), none] [] (LF n) s.2.2 0 0
set_option maxRecDepth 100000 in
set_option maxHeartbeats 4000000 in
theorem x_X4_walk_46 {l : Launch} {g : GH} (hG : G0 l g) {n : Nat} {h1 h2 : Nat} (w1 : WX1 h1) (w2 : WX2 h2) {K : DT → Prop} {s : (Int × Int × DT)} (h : ok (m_X4_walk_46 h1 h2 s) K) : Px (E_X4_walk l g (PVw n K)) 46 [some (vR g 70), some (vR g h1), none, some (vI s.1), some (vI s.2.1), none] [] (LF n) s.2.2 0 0 := by
  refine ok_loop (P := (P_X4_walk_46 l g n K h1 h2)) (fun s h => ?_) h
  refine p_iload_n dX4_walk_46 rfl ?_
  refine p_iconst dX4_walk_47 ?_
  refine q_icmp_eq (tgt := 107) dX4_walk_48 (by decide) h (fun h => ?_) (fun h => ?_)
  · have h := kl_inr h
    exact p_return dX4_walk_107 (Nat.le_of_ble_eq_true rfl) (Nat.le_of_ble_eq_true rfl) ⟨rfl, rfl, ok_some h⟩
  · refine p_iload dX4_walk_51 rfl ?_
    refine p_sipush dX4_walk_53 (by decide) ?_
    refine q_icmp_ge (tgt := 107) dX4_walk_56 (by decide) h (fun h => ?_) (fun h => ?_)
    · have h := kl_inr h
      exact p_return dX4_walk_107 (Nat.le_of_ble_eq_true rfl) (Nat.le_of_ble_eq_true rfl) ⟨rfl, rfl, ok_some h⟩
    · refine p_aload_n dX4_walk_59 rfl ?_
      refine p_iload_n dX4_walk_60 rfl ?_
      refine cV_Vw [vI s.1] [] dX4_walk_61 yv_X4_push ml_X4_60 (r := (RX4, TX4, 8)) rfl rfl (Nat.le_of_ble_eq_true rfl) rfl (Nat.le_of_ble_eq_true rfl) (Nat.le_of_ble_eq_true rfl) (Nat.le_of_ble_eq_true rfl) rfl h (fun K h => s_X4_push hG h) (fun D61 h => ?_)
      refine p_aload_n dX4_walk_64 rfl ?_
      refine p_aload_n dX4_walk_65 rfl ?_
      refine p_iload_n dX4_walk_66 rfl ?_
      refine cV_Iw [vR g h1, vI s.1] [] dX4_walk_67 yv_X4_nextAfter ml_X4_76 (r := (RX4, TX4, 8)) rfl rfl (Nat.le_of_ble_eq_true rfl) rfl (Nat.le_of_ble_eq_true rfl) (Nat.le_of_ble_eq_true rfl) (Nat.le_of_ble_eq_true rfl) rfl h (fun K h => s_X4_nextAfter hG w1 h) (fun r67 D67 h => ?_)
      refine p_istore dX4_walk_70 (Nat.le_of_ble_eq_true rfl) rfl ?_
      refine p_aload_n dX4_walk_72 rfl ?_
      refine p_dup dX4_walk_73 rfl ?_
      refine p_geti dX4_walk_74 fl_X4_15 (fun _ _ _ => rfl) rfl ?_
      refine p_iload dX4_walk_77 rfl ?_
      refine p_iconst dX4_walk_79 ?_
      refine q_icmp_ne (tgt := 87) dX4_walk_80 (by decide) h (fun h => ?_) (fun h => ?_)
      · refine p_aload_n dX4_walk_87 rfl ?_
        refine p_iload_n dX4_walk_88 rfl ?_
        refine p_iload dX4_walk_89 rfl ?_
        refine cV_Ir [vI s.1, vI r67] [vI (D67.1 70 1), vR g 70] dX4_walk_91 yv_X1_far ml_X4_64 (r := (RX1, TX1, 11)) rfl rfl (Nat.le_of_ble_eq_true rfl) rfl (Nat.le_of_ble_eq_true rfl) (Nat.le_of_ble_eq_true rfl) (Nat.le_of_ble_eq_true rfl) (wc_X1 w1) h (fun K h => s_X1_far hG w1 h) (fun r91 h => ?_)
        refine p_iadd dX4_walk_94 ?_
        refine q_puti dX4_walk_95 fq_X4_15 rfl rfl h (fun D95 h => ?_)
        refine p_iload dX4_walk_98 rfl ?_
        refine p_istore_n dX4_walk_100 (Nat.le_of_ble_eq_true rfl) rfl ?_
        refine p_iinc dX4_walk_101 rfl (Nat.le_of_ble_eq_true rfl) rfl ?_
        refine p_goto (tgt := 46) dX4_walk_104 (by decide) ?_
        exact p_weak (leL.same (leL.same (leL.drop (leL.same (leL.same (leL.drop leL.nil)))))) (kl_inl (P := (P_X4_walk_46 l g n K h1 h2)) h)
      · refine p_iconst dX4_walk_83 ?_
        refine p_goto (tgt := 94) dX4_walk_84 (by decide) ?_
        refine p_iadd dX4_walk_94 ?_
        refine q_puti dX4_walk_95 fq_X4_15 rfl rfl h (fun D95 h => ?_)
        refine p_iload dX4_walk_98 rfl ?_
        refine p_istore_n dX4_walk_100 (Nat.le_of_ble_eq_true rfl) rfl ?_
        refine p_iinc dX4_walk_101 rfl (Nat.le_of_ble_eq_true rfl) rfl ?_
        refine p_goto (tgt := 46) dX4_walk_104 (by decide) ?_
        exact p_weak (leL.same (leL.same (leL.drop (leL.same (leL.same (leL.drop leL.nil)))))) (kl_inl (P := (P_X4_walk_46 l g n K h1 h2)) h)
set_option maxRecDepth 100000 in
set_option maxHeartbeats 4000000 in
theorem x_X4_walk {l : Launch} {g : GH} (hG : G0 l g) {n : Nat} {h1 : Nat} {h2 : Nat} (w1 : WX1 h1) (w2 : WX2 h2) {D : DT} {K : DT → Prop} (h : ok (m_X4_walk h1 h2 D) K) : Px (E_X4_walk l g (PVw n K)) 0 [some (vR g 70), some (vR g h1), some (vR g h2), none, none, none] [] (LF n) D 0 0 := by
  refine p_aload_n dX4_walk_0 rfl ?_
  refine p_getr dX4_walk_1 fl_X4_53 (fun _ _ _ => rfl) (wc_X2 w2) (wf_X2_4 w2) ?_
  refine p_iconst dX4_walk_4 ?_
  refine p_aload_n dX4_walk_5 rfl ?_
  refine p_getr dX4_walk_6 fl_X4_22 (fun _ _ _ => rfl) rfl rfl ?_
  refine p_iconst dX4_walk_9 ?_
  refine p_aload_n dX4_walk_10 rfl ?_
  refine p_geti dX4_walk_11 fl_X4_48 (fun _ _ _ => rfl) (wc_X2 w2) ?_
  refine q_copyi [] dX4_walk_14 (wa_X2_4 w2) rfl ml_X4_70 acw (Nat.le_of_ble_eq_true rfl) (Nat.le_of_ble_eq_true rfl) rfl rfl h (fun D14 h => ?_)
  refine p_aload_n dX4_walk_17 rfl ?_
  refine p_aload_n dX4_walk_18 rfl ?_
  refine p_geti dX4_walk_19 fl_X4_48 (fun _ _ _ => rfl) (wc_X2 w2) ?_
  refine q_puti dX4_walk_22 fq_X4_25 rfl rfl h (fun D22 h => ?_)
  refine p_aload_n dX4_walk_25 rfl ?_
  refine p_geti dX4_walk_26 fl_X4_25 (fun _ _ _ => rfl) rfl ?_
  refine q_if_le (tgt := 41) dX4_walk_29 (by decide) h (fun h => ?_) (fun h => ?_)
  · refine p_iconst dX4_walk_41 ?_
    refine p_istore_n dX4_walk_42 (Nat.le_of_ble_eq_true rfl) rfl ?_
    refine p_iconst dX4_walk_43 ?_
    refine p_istore dX4_walk_44 (Nat.le_of_ble_eq_true rfl) rfl ?_
    exact p_weak (leL.same (leL.same (leL.drop (leL.same (leL.same (leL.drop leL.nil)))))) (x_X4_walk_46 hG w1 w2 h)
  · refine p_aload_n dX4_walk_32 rfl ?_
    refine p_getr dX4_walk_33 fl_X4_22 (fun _ _ _ => rfl) rfl rfl ?_
    refine p_iconst dX4_walk_36 ?_
    refine q_iald dX4_walk_37 rfl rfl h (fun h => ?_)
    refine p_goto (tgt := 42) dX4_walk_38 (by decide) ?_
    refine p_istore_n dX4_walk_42 (Nat.le_of_ble_eq_true rfl) rfl ?_
    refine p_iconst dX4_walk_43 ?_
    refine p_istore dX4_walk_44 (Nat.le_of_ble_eq_true rfl) rfl ?_
    exact p_weak (leL.same (leL.same (leL.drop (leL.same (leL.same (leL.drop leL.nil)))))) (x_X4_walk_46 hG w1 w2 h)
theorem s_X4_walk {l : Launch} {g : GH} (hG : G0 l g) {n : Nat} {h1 : Nat} {h2 : Nat} (w1 : WX1 h1) (w2 : WX2 h2) {D : DT} {K : DT → Prop} (h : ok (m_X4_walk h1 h2 D) K) : Sat l g yX4_walk cX4_walk 6 none 2 0 0 [vR g 70, vR g h1, vR g h2] (LF n) D (PVw n K) := Sat.of hG (by decide) (Nat.le_of_ble_eq_true rfl) (by simp [Value.category]) (x_X4_walk hG w1 w2 h)
abbrev E_X4_turn (l : Launch) (g : GH) (P : PT) : ENV := mkE l g yX4_turn cX4_turn 8 (some .int) [] 0 0 0 P
set_option maxRecDepth 100000 in
set_option maxHeartbeats 4000000 in
theorem x_X4_turn {l : Launch} {g : GH} (hG : G0 l g) {n : Nat} {h0 : Nat} {v1 : Int} {v2 : Int} {v3 : Int} (w0 : WX1 h0) {D : DT} {K : Int → Prop} (h : ok (m_X4_turn h0 v1 v2 v3 D) K) : Px (E_X4_turn l g (PIr n D K)) 0 [some (vR g h0), some (vI v1), some (vI v2), some (vI v3), none, none, none, none] [] (LF n) D 0 0 := by
  refine p_aload_n dX4_turn_0 rfl ?_
  refine p_getr dX4_turn_1 fl_X4_88 (fun _ _ _ => rfl) (wc_X1 w0) (wf_X1_6 w0) ?_
  refine p_iload_n dX4_turn_4 rfl ?_
  refine q_iald dX4_turn_5 (wa_X1_6 w0) rfl h (fun h => ?_)
  refine p_aload_n dX4_turn_6 rfl ?_
  refine p_getr dX4_turn_7 fl_X4_88 (fun _ _ _ => rfl) (wc_X1 w0) (wf_X1_6 w0) ?_
  refine p_iload_n dX4_turn_10 rfl ?_
  refine q_iald dX4_turn_11 (wa_X1_6 w0) rfl h (fun h => ?_)
  refine p_isub dX4_turn_12 ?_
  refine p_istore dX4_turn_13 (Nat.le_of_ble_eq_true rfl) rfl ?_
  refine p_aload_n dX4_turn_15 rfl ?_
  refine p_getr dX4_turn_16 fl_X4_91 (fun _ _ _ => rfl) (wc_X1 w0) (wf_X1_7 w0) ?_
  refine p_iload_n dX4_turn_19 rfl ?_
  refine q_iald dX4_turn_20 (wa_X1_7 w0) rfl h (fun h => ?_)
  refine p_aload_n dX4_turn_21 rfl ?_
  refine p_getr dX4_turn_22 fl_X4_91 (fun _ _ _ => rfl) (wc_X1 w0) (wf_X1_7 w0) ?_
  refine p_iload_n dX4_turn_25 rfl ?_
  refine q_iald dX4_turn_26 (wa_X1_7 w0) rfl h (fun h => ?_)
  refine p_isub dX4_turn_27 ?_
  refine p_istore dX4_turn_28 (Nat.le_of_ble_eq_true rfl) rfl ?_
  refine p_aload_n dX4_turn_30 rfl ?_
  refine p_getr dX4_turn_31 fl_X4_88 (fun _ _ _ => rfl) (wc_X1 w0) (wf_X1_6 w0) ?_
  refine p_iload_n dX4_turn_34 rfl ?_
  refine q_iald dX4_turn_35 (wa_X1_6 w0) rfl h (fun h => ?_)
  refine p_aload_n dX4_turn_36 rfl ?_
  refine p_getr dX4_turn_37 fl_X4_88 (fun _ _ _ => rfl) (wc_X1 w0) (wf_X1_6 w0) ?_
  refine p_iload_n dX4_turn_40 rfl ?_
  refine q_iald dX4_turn_41 (wa_X1_6 w0) rfl h (fun h => ?_)
  refine p_isub dX4_turn_42 ?_
  refine p_istore dX4_turn_43 (Nat.le_of_ble_eq_true rfl) rfl ?_
  refine p_aload_n dX4_turn_45 rfl ?_
  refine p_getr dX4_turn_46 fl_X4_91 (fun _ _ _ => rfl) (wc_X1 w0) (wf_X1_7 w0) ?_
  refine p_iload_n dX4_turn_49 rfl ?_
  refine q_iald dX4_turn_50 (wa_X1_7 w0) rfl h (fun h => ?_)
  refine p_aload_n dX4_turn_51 rfl ?_
  refine p_getr dX4_turn_52 fl_X4_91 (fun _ _ _ => rfl) (wc_X1 w0) (wf_X1_7 w0) ?_
  refine p_iload_n dX4_turn_55 rfl ?_
  refine q_iald dX4_turn_56 (wa_X1_7 w0) rfl h (fun h => ?_)
  refine p_isub dX4_turn_57 ?_
  refine p_istore dX4_turn_58 (Nat.le_of_ble_eq_true rfl) rfl ?_
  refine p_iload dX4_turn_60 rfl ?_
  refine p_iload dX4_turn_62 rfl ?_
  refine p_imul dX4_turn_64 ?_
  refine p_iload dX4_turn_65 rfl ?_
  refine p_iload dX4_turn_67 rfl ?_
  refine p_imul dX4_turn_69 ?_
  refine p_isub dX4_turn_70 ?_
  exact p_ireturn dX4_turn_71 (Nat.le_of_ble_eq_true rfl) (Nat.le_of_ble_eq_true rfl) ⟨_, rfl, rfl, rfl, ok_some h⟩
theorem s_X4_turn {l : Launch} {g : GH} (hG : G0 l g) {n : Nat} {h0 : Nat} {v1 : Int} {v2 : Int} {v3 : Int} (w0 : WX1 h0) {D : DT} {K : Int → Prop} (h : ok (m_X4_turn h0 v1 v2 v3 D) K) : Sat l g yX4_turn cX4_turn 8 (some .int) 0 0 0 [vR g h0, vI v1, vI v2, vI v3] (LF n) D (PIr n D K) := Sat.of hG (by decide) (Nat.le_of_ble_eq_true rfl) (by simp [Value.category]) (x_X4_turn hG w0 h)
abbrev E_X4_turnTo (l : Launch) (g : GH) (P : PT) : ENV := mkE l g yX4_turnTo cX4_turnTo 4 none [] 1 0 0 P
abbrev P_X4_turnTo_0 (l : Launch) (g : GH) (n : Nat) (K : DT → Prop) (h1 : Nat) (v2 : Int) (v3 : Int) : DT → Prop := fun s => Px (E_X4_turnTo l g (PVw n K)) 0 [some (vR g 70), some (vR g h1), some (vI v2), some (vI v3)] [] (LF n) s 0 0
set_option maxRecDepth 100000 in
set_option maxHeartbeats 4000000 in
theorem x_X4_turnTo_0 {l : Launch} {g : GH} (hG : G0 l g) {n : Nat} {h1 : Nat} {v2 v3 : Int} (w1 : WX1 h1) {K : DT → Prop} {s : DT} (h : ok (m_X4_turnTo_0 h1 v2 v3 s) K) : Px (E_X4_turnTo l g (PVw n K)) 0 [some (vR g 70), some (vR g h1), some (vI v2), some (vI v3)] [] (LF n) s 0 0 := by
  refine ok_loop (P := (P_X4_turnTo_0 l g n K h1 v2 v3)) (fun s h => ?_) h
  refine p_aload_n dX4_turnTo_0 rfl ?_
  refine p_geti dX4_turnTo_1 fl_X4_9 (fun _ _ _ => rfl) rfl ?_
  refine p_iload_n dX4_turnTo_4 rfl ?_
  refine q_icmp_le (tgt := 59) dX4_turnTo_5 (by decide) h (fun h => ?_) (fun h => ?_)
  · have h := kl_inr h
    refine p_aload_n dX4_turnTo_59 rfl ?_
    refine p_iload_n dX4_turnTo_60 rfl ?_
    refine cV_Vw [vI v2] [] dX4_turnTo_61 yv_X4_push ml_X4_60 (r := (RX4, TX4, 8)) rfl rfl (Nat.le_of_ble_eq_true rfl) rfl (Nat.le_of_ble_eq_true rfl) (Nat.le_of_ble_eq_true rfl) (Nat.le_of_ble_eq_true rfl) rfl h (fun K h => s_X4_push hG h) (fun D61 h => ?_)
    exact p_return dX4_turnTo_64 (Nat.le_of_ble_eq_true rfl) (Nat.le_of_ble_eq_true rfl) ⟨rfl, rfl, ok_some h⟩
  · refine p_aload_n dX4_turnTo_8 rfl ?_
    refine p_geti dX4_turnTo_9 fl_X4_9 (fun _ _ _ => rfl) rfl ?_
    refine p_iconst dX4_turnTo_12 ?_
    refine q_icmp_le (tgt := 59) dX4_turnTo_13 (by decide) h (fun h => ?_) (fun h => ?_)
    · have h := kl_inr h
      refine p_aload_n dX4_turnTo_59 rfl ?_
      refine p_iload_n dX4_turnTo_60 rfl ?_
      refine cV_Vw [vI v2] [] dX4_turnTo_61 yv_X4_push ml_X4_60 (r := (RX4, TX4, 8)) rfl rfl (Nat.le_of_ble_eq_true rfl) rfl (Nat.le_of_ble_eq_true rfl) (Nat.le_of_ble_eq_true rfl) (Nat.le_of_ble_eq_true rfl) rfl h (fun K h => s_X4_push hG h) (fun D61 h => ?_)
      exact p_return dX4_turnTo_64 (Nat.le_of_ble_eq_true rfl) (Nat.le_of_ble_eq_true rfl) ⟨rfl, rfl, ok_some h⟩
    · refine p_aload_n dX4_turnTo_16 rfl ?_
      refine p_aload_n dX4_turnTo_17 rfl ?_
      refine p_getr dX4_turnTo_18 fl_X4_18 (fun _ _ _ => rfl) rfl rfl ?_
      refine p_aload_n dX4_turnTo_21 rfl ?_
      refine p_geti dX4_turnTo_22 fl_X4_9 (fun _ _ _ => rfl) rfl ?_
      refine p_iconst dX4_turnTo_25 ?_
      refine p_isub dX4_turnTo_26 ?_
      refine q_iald dX4_turnTo_27 rfl rfl h (fun h => ?_)
      refine p_aload_n dX4_turnTo_28 rfl ?_
      refine p_getr dX4_turnTo_29 fl_X4_18 (fun _ _ _ => rfl) rfl rfl ?_
      refine p_aload_n dX4_turnTo_32 rfl ?_
      refine p_geti dX4_turnTo_33 fl_X4_9 (fun _ _ _ => rfl) rfl ?_
      refine p_iconst dX4_turnTo_36 ?_
      refine p_isub dX4_turnTo_37 ?_
      refine q_iald dX4_turnTo_38 rfl rfl h (fun h => ?_)
      refine p_iload_n dX4_turnTo_39 rfl ?_
      refine cS_Ir [vR g h1, vI (s.2 71 (Int.toNat ((s.1 70 0) - 2))), vI (s.2 71 (Int.toNat ((s.1 70 0) - 1))), vI v2] [] dX4_turnTo_40 ys_X4_turn ml_X4_84 (Nat.le_of_ble_eq_true rfl) rfl (Nat.le_of_ble_eq_true rfl) (Nat.le_of_ble_eq_true rfl) (Nat.le_of_ble_eq_true rfl) h (fun K h => s_X4_turn hG w1 h) (fun r40 h => ?_)
      refine q_if_gt (tgt := 59) dX4_turnTo_43 (by decide) h (fun h => ?_) (fun h => ?_)
      · have h := kl_inr h
        refine p_aload_n dX4_turnTo_59 rfl ?_
        refine p_iload_n dX4_turnTo_60 rfl ?_
        refine cV_Vw [vI v2] [] dX4_turnTo_61 yv_X4_push ml_X4_60 (r := (RX4, TX4, 8)) rfl rfl (Nat.le_of_ble_eq_true rfl) rfl (Nat.le_of_ble_eq_true rfl) (Nat.le_of_ble_eq_true rfl) (Nat.le_of_ble_eq_true rfl) rfl h (fun K h => s_X4_push hG h) (fun D61 h => ?_)
        exact p_return dX4_turnTo_64 (Nat.le_of_ble_eq_true rfl) (Nat.le_of_ble_eq_true rfl) ⟨rfl, rfl, ok_some h⟩
      · refine p_aload_n dX4_turnTo_46 rfl ?_
        refine p_dup dX4_turnTo_47 rfl ?_
        refine p_geti dX4_turnTo_48 fl_X4_9 (fun _ _ _ => rfl) rfl ?_
        refine p_iconst dX4_turnTo_51 ?_
        refine p_isub dX4_turnTo_52 ?_
        refine q_puti dX4_turnTo_53 fq_X4_9 rfl rfl h (fun D53 h => ?_)
        refine p_goto (tgt := 0) dX4_turnTo_56 (by decide) ?_
        exact p_weak (leL.same (leL.same (leL.same (leL.same leL.nil)))) (kl_inl (P := (P_X4_turnTo_0 l g n K h1 v2 v3)) h)
set_option maxRecDepth 100000 in
set_option maxHeartbeats 4000000 in
theorem x_X4_turnTo {l : Launch} {g : GH} (hG : G0 l g) {n : Nat} {h1 : Nat} {v2 : Int} {v3 : Int} (w1 : WX1 h1) {D : DT} {K : DT → Prop} (h : ok (m_X4_turnTo h1 v2 v3 D) K) : Px (E_X4_turnTo l g (PVw n K)) 0 [some (vR g 70), some (vR g h1), some (vI v2), some (vI v3)] [] (LF n) D 0 0 := by
  exact p_weak (leL.same (leL.same (leL.same (leL.same leL.nil)))) (x_X4_turnTo_0 hG w1 h)
theorem s_X4_turnTo {l : Launch} {g : GH} (hG : G0 l g) {n : Nat} {h1 : Nat} {v2 : Int} {v3 : Int} (w1 : WX1 h1) {D : DT} {K : DT → Prop} (h : ok (m_X4_turnTo h1 v2 v3 D) K) : Sat l g yX4_turnTo cX4_turnTo 4 none 1 0 0 [vR g 70, vR g h1, vI v2, vI v3] (LF n) D (PVw n K) := Sat.of hG (by decide) (Nat.le_of_ble_eq_true rfl) (by simp [Value.category]) (x_X4_turnTo hG w1 h)
abbrev E_X4_wrap (l : Launch) (g : GH) (P : PT) : ENV := mkE l g yX4_wrap cX4_wrap 5 none [] 2 0 0 P
abbrev P_X4_wrap_2 (l : Launch) (g : GH) (n : Nat) (K : DT → Prop) (h1 : Nat) (h2 : Nat) : (Int × DT) → Prop := fun s => Px (E_X4_wrap l g (PVw n K)) 2 [some (vR g 70), some (vR g h1), some (vR g h2), some (vI s.1), none] [] (LF n) s.2 0 0
abbrev P_X4_wrap_41 (l : Launch) (g : GH) (n : Nat) (K : DT → Prop) (h1 : Nat) (h2 : Nat) (v3 : Int) : (Int × DT) → Prop := fun s => Px (E_X4_wrap l g (PVw n K)) 41 [some (vR g 70), some (vR g h1), some (vR g h2), some (vI v3), some (vI s.1)] [] (LF n) s.2 0 0
set_option maxRecDepth 100000 in
set_option maxHeartbeats 4000000 in
theorem x_X4_wrap_41 {l : Launch} {g : GH} (hG : G0 l g) {n : Nat} {h1 h2 : Nat} {v3 : Int} (w1 : WX1 h1) (w2 : WX2 h2) {K : DT → Prop} {s : (Int × DT)} (h : ok (m_X4_wrap_41 h1 h2 v3 s) K) : Px (E_X4_wrap l g (PVw n K)) 41 [some (vR g 70), some (vR g h1), some (vR g h2), some (vI v3), some (vI s.1)] [] (LF n) s.2 0 0 := by
  refine ok_loop (P := (P_X4_wrap_41 l g n K h1 h2 v3)) (fun s h => ?_) h
  refine p_iload dX4_wrap_41 rfl ?_
  refine q_if_lt (tgt := 65) dX4_wrap_43 (by decide) h (fun h => ?_) (fun h => ?_)
  · have h := kl_inr h
    refine p_aload_n dX4_wrap_65 rfl ?_
    refine p_geti dX4_wrap_66 fl_X4_9 (fun _ _ _ => rfl) rfl ?_
    refine p_iconst dX4_wrap_69 ?_
    refine q_icmp_le (tgt := 83) dX4_wrap_70 (by decide) h (fun h => ?_) (fun h => ?_)
    · exact p_return dX4_wrap_83 (Nat.le_of_ble_eq_true rfl) (Nat.le_of_ble_eq_true rfl) ⟨rfl, rfl, ok_some h⟩
    · refine p_aload_n dX4_wrap_73 rfl ?_
      refine p_dup dX4_wrap_74 rfl ?_
      refine p_geti dX4_wrap_75 fl_X4_9 (fun _ _ _ => rfl) rfl ?_
      refine p_iconst dX4_wrap_78 ?_
      refine p_isub dX4_wrap_79 ?_
      refine q_puti dX4_wrap_80 fq_X4_9 rfl rfl h (fun D80 h => ?_)
      exact p_return dX4_wrap_83 (Nat.le_of_ble_eq_true rfl) (Nat.le_of_ble_eq_true rfl) ⟨rfl, rfl, ok_some h⟩
  · refine p_aload_n dX4_wrap_46 rfl ?_
    refine p_aload_n dX4_wrap_47 rfl ?_
    refine p_aload_n dX4_wrap_48 rfl ?_
    refine p_getr dX4_wrap_49 fl_X4_53 (fun _ _ _ => rfl) (wc_X2 w2) (wf_X2_4 w2) ?_
    refine p_iload dX4_wrap_52 rfl ?_
    refine q_iald dX4_wrap_54 (wa_X2_4 w2) rfl h (fun h => ?_)
    refine p_iload_n dX4_wrap_55 rfl ?_
    refine cV_Vw [vR g h1, vI (s.2.2 (h2 + 3) (Int.toNat s.1)), vI v3] [] dX4_wrap_56 yv_X4_turnTo ml_X4_80 (r := (RX4, TX4, 8)) rfl rfl (Nat.le_of_ble_eq_true rfl) rfl (Nat.le_of_ble_eq_true rfl) (Nat.le_of_ble_eq_true rfl) (Nat.le_of_ble_eq_true rfl) rfl h (fun K h => s_X4_turnTo hG w1 h) (fun D56 h => ?_)
    refine p_iinc dX4_wrap_59 rfl (Nat.le_of_ble_eq_true rfl) rfl ?_
    refine p_goto (tgt := 41) dX4_wrap_62 (by decide) ?_
    exact p_weak (leL.same (leL.same (leL.same (leL.same (leL.same leL.nil))))) (kl_inl (P := (P_X4_wrap_41 l g n K h1 h2 v3)) h)
set_option maxRecDepth 100000 in
set_option maxHeartbeats 4000000 in
theorem x_X4_wrap_2 {l : Launch} {g : GH} (hG : G0 l g) {n : Nat} {h1 h2 : Nat} (w1 : WX1 h1) (w2 : WX2 h2) {K : DT → Prop} {s : (Int × DT)} (h : ok (m_X4_wrap_2 h1 h2 s) K) : Px (E_X4_wrap l g (PVw n K)) 2 [some (vR g 70), some (vR g h1), some (vR g h2), some (vI s.1), none] [] (LF n) s.2 0 0 := by
  refine ok_loop (P := (P_X4_wrap_2 l g n K h1 h2)) (fun s h => ?_) h
  refine p_iload_n dX4_wrap_2 rfl ?_
  refine p_aload_n dX4_wrap_3 rfl ?_
  refine p_geti dX4_wrap_4 fl_X4_48 (fun _ _ _ => rfl) (wc_X2 w2) ?_
  refine q_icmp_ge (tgt := 28) dX4_wrap_7 (by decide) h (fun h => ?_) (fun h => ?_)
  · have h := kl_inr h
    refine p_aload_n dX4_wrap_28 rfl ?_
    refine p_geti dX4_wrap_29 fl_X4_9 (fun _ _ _ => rfl) rfl ?_
    refine p_istore_n dX4_wrap_32 (Nat.le_of_ble_eq_true rfl) rfl ?_
    refine p_aload_n dX4_wrap_33 rfl ?_
    refine p_geti dX4_wrap_34 fl_X4_48 (fun _ _ _ => rfl) (wc_X2 w2) ?_
    refine p_iconst dX4_wrap_37 ?_
    refine p_isub dX4_wrap_38 ?_
    refine p_istore dX4_wrap_39 (Nat.le_of_ble_eq_true rfl) rfl ?_
    exact p_weak (leL.same (leL.same (leL.same (leL.same (leL.same leL.nil))))) (x_X4_wrap_41 hG w1 w2 h)
  · refine p_aload_n dX4_wrap_10 rfl ?_
    refine p_aload_n dX4_wrap_11 rfl ?_
    refine p_aload_n dX4_wrap_12 rfl ?_
    refine p_getr dX4_wrap_13 fl_X4_53 (fun _ _ _ => rfl) (wc_X2 w2) (wf_X2_4 w2) ?_
    refine p_iload_n dX4_wrap_16 rfl ?_
    refine q_iald dX4_wrap_17 (wa_X2_4 w2) rfl h (fun h => ?_)
    refine p_iconst dX4_wrap_18 ?_
    refine cV_Vw [vR g h1, vI (s.2.2 (h2 + 3) (Int.toNat s.1)), vI 1] [] dX4_wrap_19 yv_X4_turnTo ml_X4_80 (r := (RX4, TX4, 8)) rfl rfl (Nat.le_of_ble_eq_true rfl) rfl (Nat.le_of_ble_eq_true rfl) (Nat.le_of_ble_eq_true rfl) (Nat.le_of_ble_eq_true rfl) rfl h (fun K h => s_X4_turnTo hG w1 h) (fun D19 h => ?_)
    refine p_iinc dX4_wrap_22 rfl (Nat.le_of_ble_eq_true rfl) rfl ?_
    refine p_goto (tgt := 2) dX4_wrap_25 (by decide) ?_
    exact p_weak (leL.same (leL.same (leL.same (leL.same (leL.drop leL.nil))))) (kl_inl (P := (P_X4_wrap_2 l g n K h1 h2)) h)
set_option maxRecDepth 100000 in
set_option maxHeartbeats 4000000 in
theorem x_X4_wrap {l : Launch} {g : GH} (hG : G0 l g) {n : Nat} {h1 : Nat} {h2 : Nat} (w1 : WX1 h1) (w2 : WX2 h2) {D : DT} {K : DT → Prop} (h : ok (m_X4_wrap h1 h2 D) K) : Px (E_X4_wrap l g (PVw n K)) 0 [some (vR g 70), some (vR g h1), some (vR g h2), none, none] [] (LF n) D 0 0 := by
  refine p_iconst dX4_wrap_0 ?_
  refine p_istore_n dX4_wrap_1 (Nat.le_of_ble_eq_true rfl) rfl ?_
  exact p_weak (leL.same (leL.same (leL.same (leL.same (leL.drop leL.nil))))) (x_X4_wrap_2 hG w1 w2 h)
theorem s_X4_wrap {l : Launch} {g : GH} (hG : G0 l g) {n : Nat} {h1 : Nat} {h2 : Nat} (w1 : WX1 h1) (w2 : WX2 h2) {D : DT} {K : DT → Prop} (h : ok (m_X4_wrap h1 h2 D) K) : Sat l g yX4_wrap cX4_wrap 5 none 2 0 0 [vR g 70, vR g h1, vR g h2] (LF n) D (PVw n K) := Sat.of hG (by decide) (Nat.le_of_ble_eq_true rfl) (by simp [Value.category]) (x_X4_wrap hG w1 w2 h)
abbrev E_X4_follow (l : Launch) (g : GH) (P : PT) : ENV := mkE l g yX4_follow cX4_follow 5 none [] 3 0 0 P
set_option maxRecDepth 100000 in
set_option maxHeartbeats 4000000 in
theorem x_X4_follow {l : Launch} {g : GH} (hG : G0 l g) {n : Nat} {h1 : Nat} {h2 : Nat} {v3 : Int} {v4 : Int} (w1 : WX1 h1) (w2 : WX2 h2) {D : DT} {K : DT → Prop} (h : ok (m_X4_follow h1 h2 v3 v4 D) K) : Px (E_X4_follow l g (PVw n K)) 0 [some (vR g 70), some (vR g h1), some (vR g h2), some (vI v3), some (vI v4)] [] (LF n) D 0 0 := by
  refine p_aload_n dX4_follow_0 rfl ?_
  refine p_iconst dX4_follow_1 ?_
  refine q_puti dX4_follow_2 fq_X4_9 rfl rfl h (fun D2 h => ?_)
  refine p_aload_n dX4_follow_5 rfl ?_
  refine p_iconst dX4_follow_6 ?_
  refine q_puti dX4_follow_7 fq_X4_15 rfl rfl h (fun D7 h => ?_)
  refine p_iload_n dX4_follow_10 rfl ?_
  obtain ⟨hr, h⟩ := ok_gd h
  by_cases e0 : v3 = 0
  · have h := (ok_ite h).1 e0
    refine p_lookup (tgt := 36) dX4_follow_11 hr (by decide) (by rw [e0]; try rfl) (by decide) ?_
    refine p_aload_n dX4_follow_36 rfl ?_
    refine p_aload_n dX4_follow_37 rfl ?_
    refine p_aload_n dX4_follow_38 rfl ?_
    refine p_iload dX4_follow_39 rfl ?_
    refine cV_Vw [vR g h1, vR g h2, vI v4] [] dX4_follow_41 yv_X4_keep ml_X4_37 (r := (RX4, TX4, 8)) rfl rfl (Nat.le_of_ble_eq_true rfl) rfl (Nat.le_of_ble_eq_true rfl) (Nat.le_of_ble_eq_true rfl) (Nat.le_of_ble_eq_true rfl) rfl h (fun K h => s_X4_keep hG w1 w2 h) (fun D41 h => ?_)
    refine p_goto (tgt := 62) dX4_follow_44 (by decide) ?_
    exact p_return dX4_follow_62 (Nat.le_of_ble_eq_true rfl) (Nat.le_of_ble_eq_true rfl) ⟨rfl, rfl, ok_some h⟩
  have h := (ok_ite h).2 e0
  by_cases e1 : v3 = 1
  · have h := (ok_ite h).1 e1
    refine p_lookup (tgt := 47) dX4_follow_11 hr (by decide) (by rw [e1]; try rfl) (by decide) ?_
    refine p_aload_n dX4_follow_47 rfl ?_
    refine p_aload_n dX4_follow_48 rfl ?_
    refine p_aload_n dX4_follow_49 rfl ?_
    refine cV_Vw [vR g h1, vR g h2] [] dX4_follow_50 yv_X4_walk ml_X4_41 (r := (RX4, TX4, 8)) rfl rfl (Nat.le_of_ble_eq_true rfl) rfl (Nat.le_of_ble_eq_true rfl) (Nat.le_of_ble_eq_true rfl) (Nat.le_of_ble_eq_true rfl) rfl h (fun K h => s_X4_walk hG w1 w2 h) (fun D50 h => ?_)
    refine p_goto (tgt := 62) dX4_follow_53 (by decide) ?_
    exact p_return dX4_follow_62 (Nat.le_of_ble_eq_true rfl) (Nat.le_of_ble_eq_true rfl) ⟨rfl, rfl, ok_some h⟩
  have h := (ok_ite h).2 e1
  refine p_lookup (tgt := 56) (off := 45) dX4_follow_11 hr (by decide) (lk2 e0 e1) (by decide) ?_
  refine p_aload_n dX4_follow_56 rfl ?_
  refine p_aload_n dX4_follow_57 rfl ?_
  refine p_aload_n dX4_follow_58 rfl ?_
  refine cV_Vw [vR g h1, vR g h2] [] dX4_follow_59 yv_X4_wrap ml_X4_45 (r := (RX4, TX4, 8)) rfl rfl (Nat.le_of_ble_eq_true rfl) rfl (Nat.le_of_ble_eq_true rfl) (Nat.le_of_ble_eq_true rfl) (Nat.le_of_ble_eq_true rfl) rfl h (fun K h => s_X4_wrap hG w1 w2 h) (fun D59 h => ?_)
  exact p_return dX4_follow_62 (Nat.le_of_ble_eq_true rfl) (Nat.le_of_ble_eq_true rfl) ⟨rfl, rfl, ok_some h⟩
theorem s_X4_follow {l : Launch} {g : GH} (hG : G0 l g) {n : Nat} {h1 : Nat} {h2 : Nat} {v3 : Int} {v4 : Int} (w1 : WX1 h1) (w2 : WX2 h2) {D : DT} {K : DT → Prop} (h : ok (m_X4_follow h1 h2 v3 v4 D) K) : Sat l g yX4_follow cX4_follow 5 none 3 0 0 [vR g 70, vR g h1, vR g h2, vI v3, vI v4] (LF n) D (PVw n K) := Sat.of hG (by decide) (Nat.le_of_ble_eq_true rfl) (by simp [Value.category]) (x_X4_follow hG w1 w2 h)
abbrev E_X4_doubleArea (l : Launch) (g : GH) (P : PT) : ENV := mkE l g yX4_doubleArea cX4_doubleArea 6 (some .int) [] 0 0 0 P
abbrev P_X4_doubleArea_4 (l : Launch) (g : GH) (n : Nat) (K : Int → Prop) (h1 : Nat) (D : DT) : (Int × Int) → Prop := fun s => Px (E_X4_doubleArea l g (PIr n D K)) 4 [some (vR g 70), some (vR g h1), some (vI s.1), some (vI s.2), none, none] [] (LF n) D 0 0
set_option maxRecDepth 100000 in
set_option maxHeartbeats 4000000 in
theorem x_X4_doubleArea_41 {l : Launch} {g : GH} (hG : G0 l g) {n : Nat} {h1 : Nat} {v2 v3 v4 : Int} {x0 : Int} (w1 : WX1 h1) {D : DT} {K : Int → Prop} (h : ok (m_X4_doubleArea_41 h1 v2 v3 v4 x0 D) (KL (P_X4_doubleArea_4 l g n K h1 D) K)) : Px (E_X4_doubleArea l g (PIr n D K)) 41 [some (vR g 70), some (vR g h1), some (vI v2), some (vI v3), some (vI v4), none] [vI x0, vR g 71] (LF n) D 0 0 := by
  refine q_iald dX4_doubleArea_41 rfl rfl h (fun h => ?_)
  refine p_istore dX4_doubleArea_42 (Nat.le_of_ble_eq_true rfl) rfl ?_
  refine p_iload_n dX4_doubleArea_44 rfl ?_
  refine p_aload_n dX4_doubleArea_45 rfl ?_
  refine p_getr dX4_doubleArea_46 fl_X4_88 (fun _ _ _ => rfl) (wc_X1 w1) (wf_X1_6 w1) ?_
  refine p_iload dX4_doubleArea_49 rfl ?_
  refine q_iald dX4_doubleArea_51 (wa_X1_6 w1) rfl h (fun h => ?_)
  refine p_aload_n dX4_doubleArea_52 rfl ?_
  refine p_getr dX4_doubleArea_53 fl_X4_91 (fun _ _ _ => rfl) (wc_X1 w1) (wf_X1_7 w1) ?_
  refine p_iload dX4_doubleArea_56 rfl ?_
  refine q_iald dX4_doubleArea_58 (wa_X1_7 w1) rfl h (fun h => ?_)
  refine p_imul dX4_doubleArea_59 ?_
  refine p_aload_n dX4_doubleArea_60 rfl ?_
  refine p_getr dX4_doubleArea_61 fl_X4_88 (fun _ _ _ => rfl) (wc_X1 w1) (wf_X1_6 w1) ?_
  refine p_iload dX4_doubleArea_64 rfl ?_
  refine q_iald dX4_doubleArea_66 (wa_X1_6 w1) rfl h (fun h => ?_)
  refine p_aload_n dX4_doubleArea_67 rfl ?_
  refine p_getr dX4_doubleArea_68 fl_X4_91 (fun _ _ _ => rfl) (wc_X1 w1) (wf_X1_7 w1) ?_
  refine p_iload dX4_doubleArea_71 rfl ?_
  refine q_iald dX4_doubleArea_73 (wa_X1_7 w1) rfl h (fun h => ?_)
  refine p_imul dX4_doubleArea_74 ?_
  refine p_isub dX4_doubleArea_75 ?_
  refine p_iadd dX4_doubleArea_76 ?_
  refine p_istore_n dX4_doubleArea_77 (Nat.le_of_ble_eq_true rfl) rfl ?_
  refine p_iinc dX4_doubleArea_78 rfl (Nat.le_of_ble_eq_true rfl) rfl ?_
  refine p_goto (tgt := 4) dX4_doubleArea_81 (by decide) ?_
  exact p_weak (leL.same (leL.same (leL.same (leL.same (leL.drop (leL.drop leL.nil)))))) (kl_inl (P := (P_X4_doubleArea_4 l g n K h1 D)) h)
set_option maxRecDepth 100000 in
set_option maxHeartbeats 4000000 in
theorem x_X4_doubleArea_4 {l : Launch} {g : GH} (hG : G0 l g) {n : Nat} {h1 : Nat} (w1 : WX1 h1) {D : DT} {K : Int → Prop} {s : (Int × Int)} (h : ok (m_X4_doubleArea_4 h1 D s) K) : Px (E_X4_doubleArea l g (PIr n D K)) 4 [some (vR g 70), some (vR g h1), some (vI s.1), some (vI s.2), none, none] [] (LF n) D 0 0 := by
  refine ok_loop (P := (P_X4_doubleArea_4 l g n K h1 D)) (fun s h => ?_) h
  refine p_iload_n dX4_doubleArea_4 rfl ?_
  refine p_aload_n dX4_doubleArea_5 rfl ?_
  refine p_geti dX4_doubleArea_6 fl_X4_9 (fun _ _ _ => rfl) rfl ?_
  refine q_icmp_ge (tgt := 84) dX4_doubleArea_9 (by decide) h (fun h => ?_) (fun h => ?_)
  · have h := kl_inr h
    refine p_iload_n dX4_doubleArea_84 rfl ?_
    exact p_ireturn dX4_doubleArea_85 (Nat.le_of_ble_eq_true rfl) (Nat.le_of_ble_eq_true rfl) ⟨_, rfl, rfl, rfl, ok_some h⟩
  · refine p_aload_n dX4_doubleArea_12 rfl ?_
    refine p_getr dX4_doubleArea_13 fl_X4_18 (fun _ _ _ => rfl) rfl rfl ?_
    refine p_iload_n dX4_doubleArea_16 rfl ?_
    refine q_iald dX4_doubleArea_17 rfl rfl h (fun h => ?_)
    refine p_istore dX4_doubleArea_18 (Nat.le_of_ble_eq_true rfl) rfl ?_
    refine p_aload_n dX4_doubleArea_20 rfl ?_
    refine p_getr dX4_doubleArea_21 fl_X4_18 (fun _ _ _ => rfl) rfl rfl ?_
    refine p_iload_n dX4_doubleArea_24 rfl ?_
    refine p_iconst dX4_doubleArea_25 ?_
    refine p_iadd dX4_doubleArea_26 ?_
    refine p_aload_n dX4_doubleArea_27 rfl ?_
    refine p_geti dX4_doubleArea_28 fl_X4_9 (fun _ _ _ => rfl) rfl ?_
    refine q_icmp_ge (tgt := 40) dX4_doubleArea_31 (by decide) h (fun h => ?_) (fun h => ?_)
    · refine p_iconst dX4_doubleArea_40 ?_
      exact p_weak (leL.same (leL.same (leL.same (leL.same (leL.same (leL.drop leL.nil)))))) (x_X4_doubleArea_41 hG w1 h)
    · refine p_iload_n dX4_doubleArea_34 rfl ?_
      refine p_iconst dX4_doubleArea_35 ?_
      refine p_iadd dX4_doubleArea_36 ?_
      refine p_goto (tgt := 41) dX4_doubleArea_37 (by decide) ?_
      exact p_weak (leL.same (leL.same (leL.same (leL.same (leL.same (leL.drop leL.nil)))))) (x_X4_doubleArea_41 hG w1 h)
set_option maxRecDepth 100000 in
set_option maxHeartbeats 4000000 in
theorem x_X4_doubleArea {l : Launch} {g : GH} (hG : G0 l g) {n : Nat} {h1 : Nat} (w1 : WX1 h1) {D : DT} {K : Int → Prop} (h : ok (m_X4_doubleArea h1 D) K) : Px (E_X4_doubleArea l g (PIr n D K)) 0 [some (vR g 70), some (vR g h1), none, none, none, none] [] (LF n) D 0 0 := by
  refine p_iconst dX4_doubleArea_0 ?_
  refine p_istore_n dX4_doubleArea_1 (Nat.le_of_ble_eq_true rfl) rfl ?_
  refine p_iconst dX4_doubleArea_2 ?_
  refine p_istore_n dX4_doubleArea_3 (Nat.le_of_ble_eq_true rfl) rfl ?_
  exact p_weak (leL.same (leL.same (leL.same (leL.same (leL.drop (leL.drop leL.nil)))))) (x_X4_doubleArea_4 hG w1 h)
theorem s_X4_doubleArea {l : Launch} {g : GH} (hG : G0 l g) {n : Nat} {h1 : Nat} (w1 : WX1 h1) {D : DT} {K : Int → Prop} (h : ok (m_X4_doubleArea h1 D) K) : Sat l g yX4_doubleArea cX4_doubleArea 6 (some .int) 0 0 0 [vR g 70, vR g h1] (LF n) D (PIr n D K) := Sat.of hG (by decide) (Nat.le_of_ble_eq_true rfl) (by simp [Value.category]) (x_X4_doubleArea hG w1 h)
abbrev E_X8_countLand (l : Launch) (g : GH) (P : PT) : ENV := mkE l g yX8_countLand cX8_countLand 3 none [] 1 0 0 P
abbrev P_X8_countLand_10 (l : Launch) (g : GH) (n : Nat) (K : DT → Prop) (h0 : Nat) (h1 : Nat) : (Int × DT) → Prop := fun s => Px (E_X8_countLand l g (PVw n K)) 10 [some (vR g h0), some (vR g h1), some (vI s.1)] [] (LF n) s.2 0 0
set_option maxRecDepth 100000 in
set_option maxHeartbeats 4000000 in
theorem x_X8_countLand_10 {l : Launch} {g : GH} (hG : G0 l g) {n : Nat} {h0 h1 : Nat} (w0 : WX8 h0) (w1 : WX1 h1) {K : DT → Prop} {s : (Int × DT)} (h : ok (m_X8_countLand_10 h0 h1 s) K) : Px (E_X8_countLand l g (PVw n K)) 10 [some (vR g h0), some (vR g h1), some (vI s.1)] [] (LF n) s.2 0 0 := by
  refine ok_loop (P := (P_X8_countLand_10 l g n K h0 h1)) (fun s h => ?_) h
  refine p_iload_n dX8_countLand_10 rfl ?_
  refine p_aload_n dX8_countLand_11 rfl ?_
  refine cV_Ir [] [vI s.1] dX8_countLand_12 yv_X1_cells ml_X8_53 (r := (RX1, TX1, 11)) rfl rfl (Nat.le_of_ble_eq_true rfl) rfl (Nat.le_of_ble_eq_true rfl) (Nat.le_of_ble_eq_true rfl) (Nat.le_of_ble_eq_true rfl) (wc_X1 w1) h (fun K h => s_X1_cells hG w1 h) (fun r12 h => ?_)
  refine q_icmp_ge (tgt := 47) dX8_countLand_15 (by decide) h (fun h => ?_) (fun h => ?_)
  · have h := kl_inr h
    exact p_return dX8_countLand_47 (Nat.le_of_ble_eq_true rfl) (Nat.le_of_ble_eq_true rfl) ⟨rfl, rfl, ok_some h⟩
  · refine p_aload_n dX8_countLand_18 rfl ?_
    refine p_iload_n dX8_countLand_19 rfl ?_
    refine cV_Ir [vI s.1] [] dX8_countLand_20 yv_X1_isLand ml_X8_57 (r := (RX1, TX1, 11)) rfl rfl (Nat.le_of_ble_eq_true rfl) rfl (Nat.le_of_ble_eq_true rfl) (Nat.le_of_ble_eq_true rfl) (Nat.le_of_ble_eq_true rfl) (wc_X1 w1) h (fun K h => s_X1_isLand hG w1 h) (fun r20 h => ?_)
    refine q_if_eq (tgt := 41) dX8_countLand_23 (by decide) h (fun h => ?_) (fun h => ?_)
    · refine p_iinc dX8_countLand_41 rfl (Nat.le_of_ble_eq_true rfl) rfl ?_
      refine p_goto (tgt := 10) dX8_countLand_44 (by decide) ?_
      exact p_weak (leL.same (leL.same (leL.same leL.nil))) (kl_inl (P := (P_X8_countLand_10 l g n K h0 h1)) h)
    · refine p_aload_n dX8_countLand_26 rfl ?_
      refine p_getr dX8_countLand_27 fl_X8_15 (fun _ _ _ => rfl) (wc_X8 w0) (wf_X8_1 w0) ?_
      refine p_aload_n dX8_countLand_30 rfl ?_
      refine p_getr dX8_countLand_31 fl_X8_61 (fun _ _ _ => rfl) (wc_X1 w1) (wf_X1_4 w1) ?_
      refine p_iload_n dX8_countLand_34 rfl ?_
      refine q_iald dX8_countLand_35 (wa_X1_4 w1) rfl h (fun h => ?_)
      refine p_dup2 dX8_countLand_36 rfl rfl ?_
      refine q_iald dX8_countLand_37 (wa_X8_1 w0) rfl h (fun h => ?_)
      refine p_iconst dX8_countLand_38 ?_
      refine p_iadd dX8_countLand_39 ?_
      refine q_iast dX8_countLand_40 (wa_X8_1 w0) rfl h (fun D40 h => ?_)
      refine p_iinc dX8_countLand_41 rfl (Nat.le_of_ble_eq_true rfl) rfl ?_
      refine p_goto (tgt := 10) dX8_countLand_44 (by decide) ?_
      exact p_weak (leL.same (leL.same (leL.same leL.nil))) (kl_inl (P := (P_X8_countLand_10 l g n K h0 h1)) h)
set_option maxRecDepth 100000 in
set_option maxHeartbeats 4000000 in
theorem x_X8_countLand {l : Launch} {g : GH} (hG : G0 l g) {n : Nat} {h0 : Nat} {h1 : Nat} (w0 : WX8 h0) (w1 : WX1 h1) {D : DT} {K : DT → Prop} (h : ok (m_X8_countLand h0 h1 D) K) : Px (E_X8_countLand l g (PVw n K)) 0 [some (vR g h0), some (vR g h1), none] [] (LF n) D 0 0 := by
  refine p_aload_n dX8_countLand_0 rfl ?_
  refine p_getr dX8_countLand_1 fl_X8_15 (fun _ _ _ => rfl) (wc_X8 w0) (wf_X8_1 w0) ?_
  refine p_iconst dX8_countLand_4 ?_
  refine q_fill [] hG dX8_countLand_5 (wa_X8_1 w0) ml_X8_47 (Nat.le_of_ble_eq_true rfl) (Nat.le_of_ble_eq_true rfl) (Nat.le_of_ble_eq_true rfl) (Nat.le_of_ble_eq_true rfl) (Nat.le_of_ble_eq_true rfl) h (fun D5 h => ?_)
  refine p_iconst dX8_countLand_8 ?_
  refine p_istore_n dX8_countLand_9 (Nat.le_of_ble_eq_true rfl) rfl ?_
  exact p_weak (leL.same (leL.same (leL.same leL.nil))) (x_X8_countLand_10 hG w0 w1 h)
theorem s_X8_countLand {l : Launch} {g : GH} (hG : G0 l g) {n : Nat} {h0 : Nat} {h1 : Nat} (w0 : WX8 h0) (w1 : WX1 h1) {D : DT} {K : DT → Prop} (h : ok (m_X8_countLand h0 h1 D) K) : Sat l g yX8_countLand cX8_countLand 3 none 1 0 0 [vR g h0, vR g h1] (LF n) D (PVw n K) := Sat.of hG (by decide) (Nat.le_of_ble_eq_true rfl) (by simp [Value.category]) (x_X8_countLand hG w0 w1 h)
abbrev E_X8_share (l : Launch) (g : GH) (P : PT) : ENV := mkE l g yX8_share cX8_share 8 none [] 2 0 0 P
abbrev P_X8_share_13 (l : Launch) (g : GH) (n : Nat) (K : DT → Prop) (h0 : Nat) (h1 : Nat) (v2 : Int) (v3 : Int) (v4 : Int) : (Int × Int × DT) → Prop := fun s => Px (E_X8_share l g (PVw n K)) 13 [some (vR g h0), some (vR g h1), some (vI v2), some (vI v3), some (vI v4), some (vI s.1), some (vI s.2.1), none] [] (LF n) s.2.2 0 0
set_option maxRecDepth 100000 in
set_option maxHeartbeats 4000000 in
theorem x_X8_share_66 {l : Launch} {g : GH} (hG : G0 l g) {n : Nat} {h0 h1 : Nat} {v2 v3 v4 v6 v7 : Int} {x0 x1 : Int} (w0 : WX8 h0) (w1 : WX1 h1) {D : DT} {K : DT → Prop} (h : ok (m_X8_share_66 h0 h1 v2 v3 v4 v6 v7 x0 x1 D) (KL (P_X8_share_13 l g n K h0 h1 v2 v3 v4) K)) : Px (E_X8_share l g (PVw n K)) 66 [some (vR g h0), some (vR g h1), some (vI v2), some (vI v3), some (vI v4), none, some (vI v6), some (vI v7)] [vI x0, vI x1] (LF n) D 0 0 := by
  refine p_iadd dX8_share_66 ?_
  refine p_istore dX8_share_67 (Nat.le_of_ble_eq_true rfl) rfl ?_
  refine p_aload_n dX8_share_69 rfl ?_
  refine p_getr dX8_share_70 fl_X8_26 (fun _ _ _ => rfl) (wc_X8 w0) (wf_X8_4 w0) ?_
  refine p_iload dX8_share_73 rfl ?_
  refine p_aload_n dX8_share_75 rfl ?_
  refine p_getr dX8_share_76 fl_X8_15 (fun _ _ _ => rfl) (wc_X8 w0) (wf_X8_1 w0) ?_
  refine p_iload dX8_share_79 rfl ?_
  refine q_iald dX8_share_81 (wa_X8_1 w0) rfl h (fun h => ?_)
  refine q_if_le (tgt := 93) dX8_share_82 (by decide) h (fun h => ?_) (fun h => ?_)
  · refine p_iconst dX8_share_93 ?_
    refine q_iast dX8_share_94 (wa_X8_4 w0) rfl h (fun D94 h => ?_)
    refine p_iload dX8_share_95 rfl ?_
    refine p_aload_n dX8_share_97 rfl ?_
    refine p_getr dX8_share_98 fl_X8_26 (fun _ _ _ => rfl) (wc_X8 w0) (wf_X8_4 w0) ?_
    refine p_iload dX8_share_101 rfl ?_
    refine q_iald dX8_share_103 (wa_X8_4 w0) rfl h (fun h => ?_)
    refine p_iload dX8_share_104 rfl ?_
    refine p_imul dX8_share_106 ?_
    refine p_isub dX8_share_107 ?_
    refine p_istore dX8_share_108 (Nat.le_of_ble_eq_true rfl) rfl ?_
    refine p_iinc dX8_share_110 rfl (Nat.le_of_ble_eq_true rfl) rfl ?_
    refine p_goto (tgt := 13) dX8_share_113 (by decide) ?_
    exact p_weak (leL.same (leL.same (leL.same (leL.same (leL.same (leL.same (leL.same (leL.drop leL.nil)))))))) (kl_inl (P := (P_X8_share_13 l g n K h0 h1 v2 v3 v4)) h)
  · refine p_iload dX8_share_85 rfl ?_
    refine p_iload dX8_share_87 rfl ?_
    refine q_idiv dX8_share_89 h (fun h => ?_)
    refine p_goto (tgt := 94) dX8_share_90 (by decide) ?_
    refine q_iast dX8_share_94 (wa_X8_4 w0) rfl h (fun D94 h => ?_)
    refine p_iload dX8_share_95 rfl ?_
    refine p_aload_n dX8_share_97 rfl ?_
    refine p_getr dX8_share_98 fl_X8_26 (fun _ _ _ => rfl) (wc_X8 w0) (wf_X8_4 w0) ?_
    refine p_iload dX8_share_101 rfl ?_
    refine q_iald dX8_share_103 (wa_X8_4 w0) rfl h (fun h => ?_)
    refine p_iload dX8_share_104 rfl ?_
    refine p_imul dX8_share_106 ?_
    refine p_isub dX8_share_107 ?_
    refine p_istore dX8_share_108 (Nat.le_of_ble_eq_true rfl) rfl ?_
    refine p_iinc dX8_share_110 rfl (Nat.le_of_ble_eq_true rfl) rfl ?_
    refine p_goto (tgt := 13) dX8_share_113 (by decide) ?_
    exact p_weak (leL.same (leL.same (leL.same (leL.same (leL.same (leL.same (leL.same (leL.drop leL.nil)))))))) (kl_inl (P := (P_X8_share_13 l g n K h0 h1 v2 v3 v4)) h)
set_option maxRecDepth 100000 in
set_option maxHeartbeats 4000000 in
theorem x_X8_share_13 {l : Launch} {g : GH} (hG : G0 l g) {n : Nat} {h0 h1 : Nat} {v2 v3 v4 : Int} (w0 : WX8 h0) (w1 : WX1 h1) {K : DT → Prop} {s : (Int × Int × DT)} (h : ok (m_X8_share_13 h0 h1 v2 v3 v4 s) K) : Px (E_X8_share l g (PVw n K)) 13 [some (vR g h0), some (vR g h1), some (vI v2), some (vI v3), some (vI v4), some (vI s.1), some (vI s.2.1), none] [] (LF n) s.2.2 0 0 := by
  refine ok_loop (P := (P_X8_share_13 l g n K h0 h1 v2 v3 v4)) (fun s h => ?_) h
  refine p_iload dX8_share_13 rfl ?_
  refine p_aload_n dX8_share_15 rfl ?_
  refine p_geti dX8_share_16 fl_X8_19 (fun _ _ _ => rfl) (wc_X8 w0) ?_
  refine q_icmp_ge (tgt := 116) dX8_share_19 (by decide) h (fun h => ?_) (fun h => ?_)
  · have h := kl_inr h
    refine p_aload_n dX8_share_116 rfl ?_
    refine p_getr dX8_share_117 fl_X8_32 (fun _ _ _ => rfl) (wc_X8 w0) (wf_X8_6 w0) ?_
    refine p_iload_n dX8_share_120 rfl ?_
    refine p_iconst dX8_share_121 ?_
    refine p_imul dX8_share_122 ?_
    refine p_iload_n dX8_share_123 rfl ?_
    refine p_iadd dX8_share_124 ?_
    refine p_iload dX8_share_125 rfl ?_
    refine q_iast dX8_share_127 (wa_X8_6 w0) rfl h (fun D127 h => ?_)
    exact p_return dX8_share_128 (Nat.le_of_ble_eq_true rfl) (Nat.le_of_ble_eq_true rfl) ⟨rfl, rfl, ok_some h⟩
  · refine p_iload dX8_share_22 rfl ?_
    refine p_iload_n dX8_share_24 rfl ?_
    refine p_iload_n dX8_share_25 rfl ?_
    refine cS_Ir [vI s.2.1, vI v2, vI v3] [] dX8_share_26 ys_X8_placeOf ml_X8_64 (Nat.le_of_ble_eq_true rfl) rfl (Nat.le_of_ble_eq_true rfl) (Nat.le_of_ble_eq_true rfl) (Nat.le_of_ble_eq_true rfl) h (fun K h => s_X8_placeOf hG h) (fun r26 h => ?_)
    refine p_istore dX8_share_29 (Nat.le_of_ble_eq_true rfl) rfl ?_
    refine p_aload_n dX8_share_31 rfl ?_
    refine p_getr dX8_share_32 fl_X8_29 (fun _ _ _ => rfl) (wc_X8 w0) (wf_X8_5 w0) ?_
    refine p_iload dX8_share_35 rfl ?_
    refine p_iload dX8_share_37 rfl ?_
    refine q_iast dX8_share_39 (wa_X8_5 w0) rfl h (fun D39 h => ?_)
    refine p_iload dX8_share_40 rfl ?_
    refine p_iload_n dX8_share_42 rfl ?_
    refine q_if_ne (tgt := 56) dX8_share_43 (by decide) h (fun h => ?_) (fun h => ?_)
    · refine p_aload_n dX8_share_56 rfl ?_
      refine p_iload dX8_share_57 rfl ?_
      refine p_iload_n dX8_share_59 rfl ?_
      refine p_iload_n dX8_share_60 rfl ?_
      refine p_iconst dX8_share_61 ?_
      refine p_isub dX8_share_62 ?_
      refine cV_Ir [vI s.2.1, vI v2, vI (v3 - 1)] [vI s.1] dX8_share_63 yv_X8_dotsOf ml_X8_72 (r := (RX8, TX8, 7)) rfl rfl (Nat.le_of_ble_eq_true rfl) rfl (Nat.le_of_ble_eq_true rfl) (Nat.le_of_ble_eq_true rfl) (Nat.le_of_ble_eq_true rfl) (wc_X8 w0) h (fun K h => s_X8_dotsOf hG w0 h) (fun r63 h => ?_)
      exact p_weak (leL.same (leL.same (leL.same (leL.same (leL.same (leL.drop (leL.same (leL.same leL.nil)))))))) (x_X8_share_66 hG w0 w1 h)
    · refine p_aload_n dX8_share_46 rfl ?_
      refine p_iload dX8_share_47 rfl ?_
      refine p_iload_n dX8_share_49 rfl ?_
      refine cV_Ir [vI s.2.1, vI v2] [vI s.1] dX8_share_50 yv_X1_livingIn ml_X8_68 (r := (RX1, TX1, 11)) rfl rfl (Nat.le_of_ble_eq_true rfl) rfl (Nat.le_of_ble_eq_true rfl) (Nat.le_of_ble_eq_true rfl) (Nat.le_of_ble_eq_true rfl) (wc_X1 w1) h (fun K h => s_X1_livingIn hG w1 h) (fun r50 h => ?_)
      refine p_goto (tgt := 66) dX8_share_53 (by decide) ?_
      exact p_weak (leL.same (leL.same (leL.same (leL.same (leL.same (leL.drop (leL.same (leL.same leL.nil)))))))) (x_X8_share_66 hG w0 w1 h)
set_option maxRecDepth 100000 in
set_option maxHeartbeats 4000000 in
theorem x_X8_share {l : Launch} {g : GH} (hG : G0 l g) {n : Nat} {h0 : Nat} {h1 : Nat} {v2 : Int} {v3 : Int} {v4 : Int} (w0 : WX8 h0) (w1 : WX1 h1) {D : DT} {K : DT → Prop} (h : ok (m_X8_share h0 h1 v2 v3 v4 D) K) : Px (E_X8_share l g (PVw n K)) 0 [some (vR g h0), some (vR g h1), some (vI v2), some (vI v3), some (vI v4), none, none, none] [] (LF n) D 0 0 := by
  refine p_iload dX8_share_0 rfl ?_
  refine p_iconst dX8_share_2 ?_
  refine q_icmp_ge (tgt := 7) dX8_share_3 (by decide) h (fun h => ?_) (fun h => ?_)
  · refine p_iconst dX8_share_7 ?_
    refine p_istore dX8_share_8 (Nat.le_of_ble_eq_true rfl) rfl ?_
    refine p_iconst dX8_share_10 ?_
    refine p_istore dX8_share_11 (Nat.le_of_ble_eq_true rfl) rfl ?_
    exact p_weak (leL.same (leL.same (leL.same (leL.same (leL.same (leL.same (leL.same (leL.drop leL.nil)))))))) (x_X8_share_13 hG w0 w1 h)
  · exact p_return dX8_share_6 (Nat.le_of_ble_eq_true rfl) (Nat.le_of_ble_eq_true rfl) ⟨rfl, rfl, ok_some h⟩
theorem s_X8_share {l : Launch} {g : GH} (hG : G0 l g) {n : Nat} {h0 : Nat} {h1 : Nat} {v2 : Int} {v3 : Int} {v4 : Int} (w0 : WX8 h0) (w1 : WX1 h1) {D : DT} {K : DT → Prop} (h : ok (m_X8_share h0 h1 v2 v3 v4 D) K) : Sat l g yX8_share cX8_share 8 none 2 0 0 [vR g h0, vR g h1, vI v2, vI v3, vI v4] (LF n) D (PVw n K) := Sat.of hG (by decide) (Nat.le_of_ble_eq_true rfl) (by simp [Value.category]) (x_X8_share hG w0 w1 h)
abbrev E_X8_reckon (l : Launch) (g : GH) (P : PT) : ENV := mkE l g yX8_reckon cX8_reckon 6 none [] 3 0 0 P
abbrev P_X8_reckon_24 (l : Launch) (g : GH) (n : Nat) (K : DT → Prop) (h0 : Nat) (h1 : Nat) (v2 : Int) (v3 : Int) : (Int × DT) → Prop := fun s => Px (E_X8_reckon l g (PVw n K)) 24 [some (vR g h0), some (vR g h1), some (vI v2), some (vI v3), some (vI s.1), none] [] (LF n) s.2 0 0
abbrev P_X8_reckon_36 (l : Launch) (g : GH) (n : Nat) (K : DT → Prop) (h0 : Nat) (h1 : Nat) (v2 : Int) (v3 : Int) (v4 : Int) : (Int × DT) → Prop := fun s => Px (E_X8_reckon l g (PVw n K)) 36 [some (vR g h0), some (vR g h1), some (vI v2), some (vI v3), some (vI v4), some (vI s.1)] [] (LF n) s.2 0 0
set_option maxRecDepth 100000 in
set_option maxHeartbeats 4000000 in
theorem x_X8_reckon_36 {l : Launch} {g : GH} (hG : G0 l g) {n : Nat} {h0 h1 : Nat} {v2 v3 v4 : Int} (w0 : WX8 h0) (w1 : WX1 h1) {K : DT → Prop} {s : (Int × DT)} (h : ok (m_X8_reckon_36 h0 h1 v2 v3 v4 s) (KL (P_X8_reckon_24 l g n K h0 h1 v2 v3) K)) : Px (E_X8_reckon l g (PVw n K)) 36 [some (vR g h0), some (vR g h1), some (vI v2), some (vI v3), some (vI v4), some (vI s.1)] [] (LF n) s.2 0 0 := by
  refine ok_loop (P := (P_X8_reckon_36 l g n K h0 h1 v2 v3 v4)) (fun s h => ?_) h
  refine p_iload dX8_reckon_36 rfl ?_
  refine p_iconst dX8_reckon_38 ?_
  refine q_icmp_ge (tgt := 67) dX8_reckon_39 (by decide) h (fun h => ?_) (fun h => ?_)
  · have h := kl_inr h
    refine p_iinc dX8_reckon_67 rfl (Nat.le_of_ble_eq_true rfl) rfl ?_
    refine p_goto (tgt := 24) dX8_reckon_70 (by decide) ?_
    exact p_weak (leL.same (leL.same (leL.same (leL.same (leL.same (leL.drop leL.nil)))))) (kl_inl (P := (P_X8_reckon_24 l g n K h0 h1 v2 v3)) h)
  · refine p_aload_n dX8_reckon_42 rfl ?_
    refine p_aload_n dX8_reckon_43 rfl ?_
    refine p_iload dX8_reckon_44 rfl ?_
    refine p_iload dX8_reckon_46 rfl ?_
    refine p_iload dX8_reckon_48 rfl ?_
    refine q_if_ne (tgt := 57) dX8_reckon_50 (by decide) h (fun h => ?_) (fun h => ?_)
    · refine p_iload_n dX8_reckon_57 rfl ?_
      refine cV_Vw [vR g h1, vI v4, vI s.1, vI v3] [] dX8_reckon_58 yv_X8_share ml_X8_43 (r := (RX8, TX8, 7)) rfl rfl (Nat.le_of_ble_eq_true rfl) rfl (Nat.le_of_ble_eq_true rfl) (Nat.le_of_ble_eq_true rfl) (Nat.le_of_ble_eq_true rfl) (wc_X8 w0) h (fun K h => s_X8_share hG w0 w1 h) (fun D58 h => ?_)
      refine p_iinc dX8_reckon_61 rfl (Nat.le_of_ble_eq_true rfl) rfl ?_
      refine p_goto (tgt := 36) dX8_reckon_64 (by decide) ?_
      exact p_weak (leL.same (leL.same (leL.same (leL.same (leL.same (leL.same leL.nil)))))) (kl_inl (P := (P_X8_reckon_36 l g n K h0 h1 v2 v3 v4)) h)
    · refine p_iload_n dX8_reckon_53 rfl ?_
      refine p_goto (tgt := 58) dX8_reckon_54 (by decide) ?_
      refine cV_Vw [vR g h1, vI v4, vI s.1, vI v2] [] dX8_reckon_58 yv_X8_share ml_X8_43 (r := (RX8, TX8, 7)) rfl rfl (Nat.le_of_ble_eq_true rfl) rfl (Nat.le_of_ble_eq_true rfl) (Nat.le_of_ble_eq_true rfl) (Nat.le_of_ble_eq_true rfl) (wc_X8 w0) h (fun K h => s_X8_share hG w0 w1 h) (fun D58 h => ?_)
      refine p_iinc dX8_reckon_61 rfl (Nat.le_of_ble_eq_true rfl) rfl ?_
      refine p_goto (tgt := 36) dX8_reckon_64 (by decide) ?_
      exact p_weak (leL.same (leL.same (leL.same (leL.same (leL.same (leL.same leL.nil)))))) (kl_inl (P := (P_X8_reckon_36 l g n K h0 h1 v2 v3 v4)) h)
set_option maxRecDepth 100000 in
set_option maxHeartbeats 4000000 in
theorem x_X8_reckon_24 {l : Launch} {g : GH} (hG : G0 l g) {n : Nat} {h0 h1 : Nat} {v2 v3 : Int} (w0 : WX8 h0) (w1 : WX1 h1) {K : DT → Prop} {s : (Int × DT)} (h : ok (m_X8_reckon_24 h0 h1 v2 v3 s) K) : Px (E_X8_reckon l g (PVw n K)) 24 [some (vR g h0), some (vR g h1), some (vI v2), some (vI v3), some (vI s.1), none] [] (LF n) s.2 0 0 := by
  refine ok_loop (P := (P_X8_reckon_24 l g n K h0 h1 v2 v3)) (fun s h => ?_) h
  refine p_iload dX8_reckon_24 rfl ?_
  refine p_aload_n dX8_reckon_26 rfl ?_
  refine p_geti dX8_reckon_27 fl_X8_23 (fun _ _ _ => rfl) (wc_X8 w0) ?_
  refine q_icmp_ge (tgt := 73) dX8_reckon_30 (by decide) h (fun h => ?_) (fun h => ?_)
  · have h := kl_inr h
    refine p_aload_n dX8_reckon_73 rfl ?_
    refine p_iconst dX8_reckon_74 ?_
    refine q_putz0 dX8_reckon_75 fq_X8_9 rfl (by decide) (wc_X8 w0) h (fun D75 h => ?_)
    exact p_return dX8_reckon_78 (Nat.le_of_ble_eq_true rfl) (Nat.le_of_ble_eq_true rfl) ⟨rfl, rfl, ok_some h⟩
  · refine p_iconst dX8_reckon_33 ?_
    refine p_istore dX8_reckon_34 (Nat.le_of_ble_eq_true rfl) rfl ?_
    exact p_weak (leL.same (leL.same (leL.same (leL.same (leL.same (leL.same leL.nil)))))) (x_X8_reckon_36 hG w0 w1 h)
set_option maxRecDepth 100000 in
set_option maxHeartbeats 4000000 in
theorem x_X8_reckon {l : Launch} {g : GH} (hG : G0 l g) {n : Nat} {h0 : Nat} {h1 : Nat} {v2 : Int} {v3 : Int} (w0 : WX8 h0) (w1 : WX1 h1) {D : DT} {K : DT → Prop} (h : ok (m_X8_reckon h0 h1 v2 v3 D) K) : Px (E_X8_reckon l g (PVw n K)) 0 [some (vR g h0), some (vR g h1), some (vI v2), some (vI v3), none, none] [] (LF n) D 0 0 := by
  refine p_aload_n dX8_reckon_0 rfl ?_
  refine p_aload_n dX8_reckon_1 rfl ?_
  refine p_geti dX8_reckon_2 fl_X8_35 (fun _ _ _ => rfl) (wc_X1 w1) ?_
  refine q_puti dX8_reckon_5 fq_X8_19 rfl (wc_X8 w0) h (fun D5 h => ?_)
  refine p_aload_n dX8_reckon_8 rfl ?_
  refine p_aload_n dX8_reckon_9 rfl ?_
  refine p_geti dX8_reckon_10 fl_X8_38 (fun _ _ _ => rfl) (wc_X1 w1) ?_
  refine q_puti dX8_reckon_13 fq_X8_23 rfl (wc_X8 w0) h (fun D13 h => ?_)
  refine p_aload_n dX8_reckon_16 rfl ?_
  refine p_aload_n dX8_reckon_17 rfl ?_
  refine cV_Vw [vR g h1] [] dX8_reckon_18 yv_X8_countLand ml_X8_39 (r := (RX8, TX8, 7)) rfl rfl (Nat.le_of_ble_eq_true rfl) rfl (Nat.le_of_ble_eq_true rfl) (Nat.le_of_ble_eq_true rfl) (Nat.le_of_ble_eq_true rfl) (wc_X8 w0) h (fun K h => s_X8_countLand hG w0 w1 h) (fun D18 h => ?_)
  refine p_iconst dX8_reckon_21 ?_
  refine p_istore dX8_reckon_22 (Nat.le_of_ble_eq_true rfl) rfl ?_
  exact p_weak (leL.same (leL.same (leL.same (leL.same (leL.same (leL.drop leL.nil)))))) (x_X8_reckon_24 hG w0 w1 h)
theorem s_X8_reckon {l : Launch} {g : GH} (hG : G0 l g) {n : Nat} {h0 : Nat} {h1 : Nat} {v2 : Int} {v3 : Int} (w0 : WX8 h0) (w1 : WX1 h1) {D : DT} {K : DT → Prop} (h : ok (m_X8_reckon h0 h1 v2 v3 D) K) : Sat l g yX8_reckon cX8_reckon 6 none 3 0 0 [vR g h0, vR g h1, vI v2, vI v3] (LF n) D (PVw n K) := Sat.of hG (by decide) (Nat.le_of_ble_eq_true rfl) (by simp [Value.category]) (x_X8_reckon hG w0 w1 h)
abbrev E_X5_tallied (l : Launch) (g : GH) (P : PT) : ENV := mkE l g yX5_tallied cX5_tallied 1 (some (.object "DotSpreader$Tally")) [] 4 0 0 P
set_option maxRecDepth 100000 in
set_option maxHeartbeats 4000000 in
theorem x_X5_tallied {l : Launch} {g : GH} (hG : G0 l g) {n : Nat} {h0 : Nat} (w0 : WX5 h0) {D : DT} {K : DT → Prop} (h : ok (m_X5_tallied h0 D) K) : Px (E_X5_tallied l g (PAw g (h0 + 9) n K)) 0 [some (vR g h0)] [] (LF n) D 0 0 := by
  refine p_aload_n dX5_tallied_0 rfl ?_
  refine p_getr dX5_tallied_1 fl_X5_28 (fun _ _ _ => rfl) (wc_X5 w0) (wf_X5_3 w0) ?_
  refine p_geti dX5_tallied_4 fl_X5_46 (fun _ _ _ => rfl) (wc_X8 (wo_X5_3 w0)) ?_
  refine q_if_ne (tgt := 29) dX5_tallied_7 (by decide) h (fun h => ?_) (fun h => ?_)
  · refine p_aload_n dX5_tallied_29 rfl ?_
    refine p_getr dX5_tallied_30 fl_X5_28 (fun _ _ _ => rfl) (wc_X5 w0) (wf_X5_3 w0) ?_
    exact p_areturn dX5_tallied_33 (Nat.le_of_ble_eq_true rfl) (Nat.le_of_ble_eq_true rfl) ⟨rfl, rfl, ok_some h⟩
  · refine p_aload_n dX5_tallied_10 rfl ?_
    refine p_getr dX5_tallied_11 fl_X5_28 (fun _ _ _ => rfl) (wc_X5 w0) (wf_X5_3 w0) ?_
    refine p_aload_n dX5_tallied_14 rfl ?_
    refine p_getr dX5_tallied_15 fl_X5_12 (fun _ _ _ => rfl) (wc_X5 w0) (wf_X5_0 w0) ?_
    refine p_aload_n dX5_tallied_18 rfl ?_
    refine p_geti dX5_tallied_19 fl_X5_18 (fun _ _ _ => rfl) (wc_X5 w0) ?_
    refine p_aload_n dX5_tallied_22 rfl ?_
    refine p_geti dX5_tallied_23 fl_X5_22 (fun _ _ _ => rfl) (wc_X5 w0) ?_
    refine cV_Vw [vR g (h0 + 1), vI (D.1 h0 1), vI (D.1 h0 2)] [] dX5_tallied_26 yv_X8_reckon ml_X5_50 (r := (RX8, TX8, 7)) rfl rfl (Nat.le_of_ble_eq_true rfl) rfl (Nat.le_of_ble_eq_true rfl) (Nat.le_of_ble_eq_true rfl) (Nat.le_of_ble_eq_true rfl) (wc_X8 (wo_X5_3 w0)) h (fun K h => s_X8_reckon hG (wo_X5_3 w0) (wo_X5_0 w0) h) (fun D26 h => ?_)
    refine p_aload_n dX5_tallied_29 rfl ?_
    refine p_getr dX5_tallied_30 fl_X5_28 (fun _ _ _ => rfl) (wc_X5 w0) (wf_X5_3 w0) ?_
    exact p_areturn dX5_tallied_33 (Nat.le_of_ble_eq_true rfl) (Nat.le_of_ble_eq_true rfl) ⟨rfl, rfl, ok_some h⟩
theorem s_X5_tallied {l : Launch} {g : GH} (hG : G0 l g) {n : Nat} {h0 : Nat} (w0 : WX5 h0) {D : DT} {K : DT → Prop} (h : ok (m_X5_tallied h0 D) K) : Sat l g yX5_tallied cX5_tallied 1 (some (.object "DotSpreader$Tally")) 4 0 0 [vR g h0] (LF n) D (PAw g (h0 + 9) n K) := Sat.of hG (by decide) (Nat.le_of_ble_eq_true rfl) (by simp [Value.category]) (x_X5_tallied hG w0 h)
abbrev E_X6_gather (l : Launch) (g : GH) (P : PT) : ENV := mkE l g yX6_gather cX6_gather 4 none [] 1 0 0 P
abbrev P_X6_gather_14 (l : Launch) (g : GH) (n : Nat) (K : DT → Prop) (h0 : Nat) (h1 : Nat) (v2 : Int) : (Int × DT) → Prop := fun s => Px (E_X6_gather l g (PVw n K)) 14 [some (vR g h0), some (vR g h1), some (vI v2), some (vI s.1)] [] (LF n) s.2 0 0
set_option maxRecDepth 100000 in
set_option maxHeartbeats 4000000 in
theorem x_X6_gather_14 {l : Launch} {g : GH} (hG : G0 l g) {n : Nat} {h0 h1 : Nat} {v2 : Int} (w0 : WX6 h0) (w1 : WX1 h1) {K : DT → Prop} {s : (Int × DT)} (h : ok (m_X6_gather_14 h0 h1 v2 s) K) : Px (E_X6_gather l g (PVw n K)) 14 [some (vR g h0), some (vR g h1), some (vI v2), some (vI s.1)] [] (LF n) s.2 0 0 := by
  refine ok_loop (P := (P_X6_gather_14 l g n K h0 h1 v2)) (fun s h => ?_) h
  refine p_iload_n dX6_gather_14 rfl ?_
  refine p_aload_n dX6_gather_15 rfl ?_
  refine cV_Ir [] [vI s.1] dX6_gather_16 yv_X1_cells ml_X6_83 (r := (RX1, TX1, 11)) rfl rfl (Nat.le_of_ble_eq_true rfl) rfl (Nat.le_of_ble_eq_true rfl) (Nat.le_of_ble_eq_true rfl) (Nat.le_of_ble_eq_true rfl) (wc_X1 w1) h (fun K h => s_X1_cells hG w1 h) (fun r16 h => ?_)
  refine q_icmp_ge (tgt := 76) dX6_gather_19 (by decide) h (fun h => ?_) (fun h => ?_)
  · have h := kl_inr h
    exact p_return dX6_gather_76 (Nat.le_of_ble_eq_true rfl) (Nat.le_of_ble_eq_true rfl) ⟨rfl, rfl, ok_some h⟩
  · refine p_aload_n dX6_gather_22 rfl ?_
    refine p_iload_n dX6_gather_23 rfl ?_
    refine p_iload_n dX6_gather_24 rfl ?_
    refine cV_Ir [vI s.1, vI v2] [] dX6_gather_25 yv_X1_isLandOf ml_X6_87 (r := (RX1, TX1, 11)) rfl rfl (Nat.le_of_ble_eq_true rfl) rfl (Nat.le_of_ble_eq_true rfl) (Nat.le_of_ble_eq_true rfl) (Nat.le_of_ble_eq_true rfl) (wc_X1 w1) h (fun K h => s_X1_isLandOf hG w1 h) (fun r25 h => ?_)
    refine q_if_eq (tgt := 70) dX6_gather_28 (by decide) h (fun h => ?_) (fun h => ?_)
    · refine p_iinc dX6_gather_70 rfl (Nat.le_of_ble_eq_true rfl) rfl ?_
      refine p_goto (tgt := 14) dX6_gather_73 (by decide) ?_
      exact p_weak (leL.same (leL.same (leL.same (leL.same leL.nil)))) (kl_inl (P := (P_X6_gather_14 l g n K h0 h1 v2)) h)
    · refine p_aload_n dX6_gather_31 rfl ?_
      refine p_getr dX6_gather_32 fl_X6_29 (fun _ _ _ => rfl) (wc_X6 w0) (wf_X6_5 w0) ?_
      refine p_aload_n dX6_gather_35 rfl ?_
      refine p_geti dX6_gather_36 fl_X6_35 (fun _ _ _ => rfl) (wc_X6 w0) ?_
      refine p_iload_n dX6_gather_39 rfl ?_
      refine q_iast dX6_gather_40 (wa_X6_5 w0) rfl h (fun D40 h => ?_)
      refine p_aload_n dX6_gather_41 rfl ?_
      refine p_dup dX6_gather_42 rfl ?_
      refine p_geti dX6_gather_43 fl_X6_35 (fun _ _ _ => rfl) (wc_X6 w0) ?_
      refine p_iconst dX6_gather_46 ?_
      refine p_iadd dX6_gather_47 ?_
      refine q_puti dX6_gather_48 fq_X6_35 rfl (wc_X6 w0) h (fun D48 h => ?_)
      refine p_aload_n dX6_gather_51 rfl ?_
      refine p_getr dX6_gather_52 fl_X6_32 (fun _ _ _ => rfl) (wc_X6 w0) (wf_X6_6 w0) ?_
      refine p_iload_n dX6_gather_55 rfl ?_
      refine p_sipush dX6_gather_56 (by decide) ?_
      refine q_iast dX6_gather_59 (wa_X6_6 w0) rfl h (fun D59 h => ?_)
      refine p_aload_n dX6_gather_60 rfl ?_
      refine p_getr dX6_gather_61 fl_X6_42 (fun _ _ _ => rfl) (wc_X6 w0) (wf_X6_8 w0) ?_
      refine p_aload_n dX6_gather_64 rfl ?_
      refine p_iload_n dX6_gather_65 rfl ?_
      refine p_iconst dX6_gather_66 ?_
      refine cV_Vw [vR g h1, vI s.1, vI 1] [] dX6_gather_67 yv_X0_add ml_X6_91 (r := (RX0, TX0, 3)) rfl rfl (Nat.le_of_ble_eq_true rfl) rfl (Nat.le_of_ble_eq_true rfl) (Nat.le_of_ble_eq_true rfl) (Nat.le_of_ble_eq_true rfl) (wc_X0 (wo_X6_8 w0)) h (fun K h => s_X0_add hG (wo_X6_8 w0) w1 h) (fun D67 h => ?_)
      refine p_iinc dX6_gather_70 rfl (Nat.le_of_ble_eq_true rfl) rfl ?_
      refine p_goto (tgt := 14) dX6_gather_73 (by decide) ?_
      exact p_weak (leL.same (leL.same (leL.same (leL.same leL.nil)))) (kl_inl (P := (P_X6_gather_14 l g n K h0 h1 v2)) h)
set_option maxRecDepth 100000 in
set_option maxHeartbeats 4000000 in
theorem x_X6_gather {l : Launch} {g : GH} (hG : G0 l g) {n : Nat} {h0 : Nat} {h1 : Nat} {v2 : Int} (w0 : WX6 h0) (w1 : WX1 h1) {D : DT} {K : DT → Prop} (h : ok (m_X6_gather h0 h1 v2 D) K) : Px (E_X6_gather l g (PVw n K)) 0 [some (vR g h0), some (vR g h1), some (vI v2), none] [] (LF n) D 0 0 := by
  refine p_aload_n dX6_gather_0 rfl ?_
  refine p_iconst dX6_gather_1 ?_
  refine q_puti dX6_gather_2 fq_X6_35 rfl (wc_X6 w0) h (fun D2 h => ?_)
  refine p_aload_n dX6_gather_5 rfl ?_
  refine p_getr dX6_gather_6 fl_X6_42 (fun _ _ _ => rfl) (wc_X6 w0) (wf_X6_8 w0) ?_
  refine cV_Vw [] [] dX6_gather_9 yv_X0_clear ml_X6_80 (r := (RX0, TX0, 3)) rfl rfl (Nat.le_of_ble_eq_true rfl) rfl (Nat.le_of_ble_eq_true rfl) (Nat.le_of_ble_eq_true rfl) (Nat.le_of_ble_eq_true rfl) (wc_X0 (wo_X6_8 w0)) h (fun K h => s_X0_clear hG (wo_X6_8 w0) h) (fun D9 h => ?_)
  refine p_iconst dX6_gather_12 ?_
  refine p_istore_n dX6_gather_13 (Nat.le_of_ble_eq_true rfl) rfl ?_
  exact p_weak (leL.same (leL.same (leL.same (leL.same leL.nil)))) (x_X6_gather_14 hG w0 w1 h)
theorem s_X6_gather {l : Launch} {g : GH} (hG : G0 l g) {n : Nat} {h0 : Nat} {h1 : Nat} {v2 : Int} (w0 : WX6 h0) (w1 : WX1 h1) {D : DT} {K : DT → Prop} (h : ok (m_X6_gather h0 h1 v2 D) K) : Sat l g yX6_gather cX6_gather 4 none 1 0 0 [vR g h0, vR g h1, vI v2] (LF n) D (PVw n K) := Sat.of hG (by decide) (Nat.le_of_ble_eq_true rfl) (by simp [Value.category]) (x_X6_gather hG w0 w1 h)
abbrev E_X6_firstOf (l : Launch) (g : GH) (P : PT) : ENV := mkE l g yX6_firstOf cX6_firstOf 8 (some .int) [] 1 0 0 P
abbrev P_X6_firstOf_7 (l : Launch) (g : GH) (n : Nat) (K : Int → Prop) (h0 : Nat) (h1 : Nat) (D : DT) : (Int × Int × Int) → Prop := fun s => Px (E_X6_firstOf l g (PIr n D K)) 7 [some (vR g h0), some (vR g h1), some (vI s.1), some (vJ s.2.1), none, some (vI s.2.2), none, none] [] (LF n) D 0 0
set_option maxRecDepth 100000 in
set_option maxHeartbeats 4000000 in
theorem x_X6_firstOf_7 {l : Launch} {g : GH} (hG : G0 l g) {n : Nat} {h0 h1 : Nat} (w0 : WX6 h0) (w1 : WX1 h1) {D : DT} {K : Int → Prop} {s : (Int × Int × Int)} (h : ok (m_X6_firstOf_7 h0 h1 D s) K) : Px (E_X6_firstOf l g (PIr n D K)) 7 [some (vR g h0), some (vR g h1), some (vI s.1), some (vJ s.2.1), none, some (vI s.2.2), none, none] [] (LF n) D 0 0 := by
  refine ok_loop (P := (P_X6_firstOf_7 l g n K h0 h1 D)) (fun s h => ?_) h
  refine p_iload dX6_firstOf_7 rfl ?_
  refine p_aload_n dX6_firstOf_9 rfl ?_
  refine p_geti dX6_firstOf_10 fl_X6_35 (fun _ _ _ => rfl) (wc_X6 w0) ?_
  refine q_icmp_ge (tgt := 62) dX6_firstOf_13 (by decide) h (fun h => ?_) (fun h => ?_)
  · have h := kl_inr h
    refine p_iload_n dX6_firstOf_62 rfl ?_
    exact p_ireturn dX6_firstOf_63 (Nat.le_of_ble_eq_true rfl) (Nat.le_of_ble_eq_true rfl) ⟨_, rfl, rfl, rfl, ok_some h⟩
  · refine p_aload_n dX6_firstOf_16 rfl ?_
    refine p_getr dX6_firstOf_17 fl_X6_42 (fun _ _ _ => rfl) (wc_X6 w0) (wf_X6_8 w0) ?_
    refine p_aload_n dX6_firstOf_20 rfl ?_
    refine p_aload_n dX6_firstOf_21 rfl ?_
    refine p_getr dX6_firstOf_22 fl_X6_29 (fun _ _ _ => rfl) (wc_X6 w0) (wf_X6_5 w0) ?_
    refine p_iload dX6_firstOf_25 rfl ?_
    refine q_iald dX6_firstOf_27 (wa_X6_5 w0) rfl h (fun h => ?_)
    refine cV_Jr [vR g h1, vI (D.2 (h0 + 5) (Int.toNat s.2.2))] [] dX6_firstOf_28 yv_X0_pullFrom ml_X6_95 (r := (RX0, TX0, 3)) rfl rfl (Nat.le_of_ble_eq_true rfl) rfl (Nat.le_of_ble_eq_true rfl) (Nat.le_of_ble_eq_true rfl) (Nat.le_of_ble_eq_true rfl) (wc_X0 (wo_X6_8 w0)) h (fun K h => s_X0_pullFrom hG (wo_X6_8 w0) w1 h) (fun r28 h => ?_)
    refine p_lstore dX6_firstOf_31 (Nat.le_of_ble_eq_true rfl) rfl ?_
    refine p_iload_n dX6_firstOf_33 rfl ?_
    refine p_iconst dX6_firstOf_34 ?_
    refine q_icmp_eq (tgt := 45) dX6_firstOf_35 (by decide) h (fun h => ?_) (fun h => ?_)
    · refine p_aload_n dX6_firstOf_45 rfl ?_
      refine p_getr dX6_firstOf_46 fl_X6_29 (fun _ _ _ => rfl) (wc_X6 w0) (wf_X6_5 w0) ?_
      refine p_iload dX6_firstOf_49 rfl ?_
      refine q_iald dX6_firstOf_51 (wa_X6_5 w0) rfl h (fun h => ?_)
      refine p_istore_n dX6_firstOf_52 (Nat.le_of_ble_eq_true rfl) rfl ?_
      refine p_lload dX6_firstOf_53 rfl ?_
      refine p_lstore_n dX6_firstOf_55 (Nat.le_of_ble_eq_true rfl) rfl ?_
      refine p_iinc dX6_firstOf_56 rfl (Nat.le_of_ble_eq_true rfl) rfl ?_
      refine p_goto (tgt := 7) dX6_firstOf_59 (by decide) ?_
      exact p_weak (leL.same (leL.same (leL.same (leL.same (leL.drop (leL.same (leL.drop (leL.drop leL.nil)))))))) (kl_inl (P := (P_X6_firstOf_7 l g n K h0 h1 D)) h)
    · refine p_lload dX6_firstOf_38 rfl ?_
      refine p_lload_n dX6_firstOf_40 rfl ?_
      refine q_lcmp_ge (tgt := 56) dX6_firstOf_41 dX6_firstOf_42 (by decide) h (fun h => ?_) (fun h => ?_)
      · refine p_iinc dX6_firstOf_56 rfl (Nat.le_of_ble_eq_true rfl) rfl ?_
        refine p_goto (tgt := 7) dX6_firstOf_59 (by decide) ?_
        exact p_weak (leL.same (leL.same (leL.same (leL.same (leL.drop (leL.same (leL.drop (leL.drop leL.nil)))))))) (kl_inl (P := (P_X6_firstOf_7 l g n K h0 h1 D)) h)
      · refine p_aload_n dX6_firstOf_45 rfl ?_
        refine p_getr dX6_firstOf_46 fl_X6_29 (fun _ _ _ => rfl) (wc_X6 w0) (wf_X6_5 w0) ?_
        refine p_iload dX6_firstOf_49 rfl ?_
        refine q_iald dX6_firstOf_51 (wa_X6_5 w0) rfl h (fun h => ?_)
        refine p_istore_n dX6_firstOf_52 (Nat.le_of_ble_eq_true rfl) rfl ?_
        refine p_lload dX6_firstOf_53 rfl ?_
        refine p_lstore_n dX6_firstOf_55 (Nat.le_of_ble_eq_true rfl) rfl ?_
        refine p_iinc dX6_firstOf_56 rfl (Nat.le_of_ble_eq_true rfl) rfl ?_
        refine p_goto (tgt := 7) dX6_firstOf_59 (by decide) ?_
        exact p_weak (leL.same (leL.same (leL.same (leL.same (leL.drop (leL.same (leL.drop (leL.drop leL.nil)))))))) (kl_inl (P := (P_X6_firstOf_7 l g n K h0 h1 D)) h)
set_option maxRecDepth 100000 in
set_option maxHeartbeats 4000000 in
theorem x_X6_firstOf {l : Launch} {g : GH} (hG : G0 l g) {n : Nat} {h0 : Nat} {h1 : Nat} (w0 : WX6 h0) (w1 : WX1 h1) {D : DT} {K : Int → Prop} (h : ok (m_X6_firstOf h0 h1 D) K) : Px (E_X6_firstOf l g (PIr n D K)) 0 [some (vR g h0), some (vR g h1), none, none, none, none, none, none] [] (LF n) D 0 0 := by
  refine p_iconst dX6_firstOf_0 ?_
  refine p_istore_n dX6_firstOf_1 (Nat.le_of_ble_eq_true rfl) rfl ?_
  refine p_lconst 0 dX6_firstOf_2 (by decide) ?_
  refine p_lstore_n dX6_firstOf_3 (Nat.le_of_ble_eq_true rfl) rfl ?_
  refine p_iconst dX6_firstOf_4 ?_
  refine p_istore dX6_firstOf_5 (Nat.le_of_ble_eq_true rfl) rfl ?_
  exact p_weak (leL.same (leL.same (leL.same (leL.same (leL.drop (leL.same (leL.drop (leL.drop leL.nil)))))))) (x_X6_firstOf_7 hG w0 w1 h)
theorem s_X6_firstOf {l : Launch} {g : GH} (hG : G0 l g) {n : Nat} {h0 : Nat} {h1 : Nat} (w0 : WX6 h0) (w1 : WX1 h1) {D : DT} {K : Int → Prop} (h : ok (m_X6_firstOf h0 h1 D) K) : Sat l g yX6_firstOf cX6_firstOf 8 (some .int) 1 0 0 [vR g h0, vR g h1] (LF n) D (PIr n D K) := Sat.of hG (by decide) (Nat.le_of_ble_eq_true rfl) (by simp [Value.category]) (x_X6_firstOf hG w0 w1 h)
abbrev E_X6_nextAfter (l : Launch) (g : GH) (P : PT) : ENV := mkE l g yX6_nextAfter cX6_nextAfter 9 (some .int) [] 1 0 0 P
abbrev P_X6_nextAfter_11 (l : Launch) (g : GH) (n : Nat) (K : (Int × DT) → Prop) (h0 : Nat) (h1 : Nat) (v2 : Int) : (Int × Int × Int × Int × DT) → Prop := fun s => Px (E_X6_nextAfter l g (PIw n K)) 11 [some (vR g h0), some (vR g h1), some (vI v2), some (vI s.1), some (vI s.2.1), some (vI s.2.2.1), some (vI s.2.2.2.1), none, none] [] (LF n) s.2.2.2.2 0 0
set_option maxRecDepth 100000 in
set_option maxHeartbeats 4000000 in
theorem x_X6_nextAfter_11 {l : Launch} {g : GH} (hG : G0 l g) {n : Nat} {h0 h1 : Nat} {v2 : Int} (w0 : WX6 h0) (w1 : WX1 h1) {K : (Int × DT) → Prop} {s : (Int × Int × Int × Int × DT)} (h : ok (m_X6_nextAfter_11 h0 h1 v2 s) K) : Px (E_X6_nextAfter l g (PIw n K)) 11 [some (vR g h0), some (vR g h1), some (vI v2), some (vI s.1), some (vI s.2.1), some (vI s.2.2.1), some (vI s.2.2.2.1), none, none] [] (LF n) s.2.2.2.2 0 0 := by
  refine ok_loop (P := (P_X6_nextAfter_11 l g n K h0 h1 v2)) (fun s h => ?_) h
  refine p_iload dX6_nextAfter_11 rfl ?_
  refine p_aload_n dX6_nextAfter_13 rfl ?_
  refine p_geti dX6_nextAfter_14 fl_X6_35 (fun _ _ _ => rfl) (wc_X6 w0) ?_
  refine q_icmp_ge (tgt := 95) dX6_nextAfter_17 (by decide) h (fun h => ?_) (fun h => ?_)
  · have h := kl_inr h
    refine p_aload_n dX6_nextAfter_95 rfl ?_
    refine p_iload dX6_nextAfter_96 rfl ?_
    refine q_puti dX6_nextAfter_98 fq_X6_35 rfl (wc_X6 w0) h (fun D98 h => ?_)
    refine p_iload_n dX6_nextAfter_101 rfl ?_
    exact p_ireturn dX6_nextAfter_102 (Nat.le_of_ble_eq_true rfl) (Nat.le_of_ble_eq_true rfl) ⟨_, rfl, rfl, ok_some h⟩
  · refine p_aload_n dX6_nextAfter_20 rfl ?_
    refine p_getr dX6_nextAfter_21 fl_X6_29 (fun _ _ _ => rfl) (wc_X6 w0) (wf_X6_5 w0) ?_
    refine p_iload dX6_nextAfter_24 rfl ?_
    refine q_iald dX6_nextAfter_26 (wa_X6_5 w0) rfl h (fun h => ?_)
    refine p_istore dX6_nextAfter_27 (Nat.le_of_ble_eq_true rfl) rfl ?_
    refine p_iload dX6_nextAfter_29 rfl ?_
    refine p_iload_n dX6_nextAfter_31 rfl ?_
    refine q_icmp_eq (tgt := 89) dX6_nextAfter_32 (by decide) h (fun h => ?_) (fun h => ?_)
    · refine p_iinc dX6_nextAfter_89 rfl (Nat.le_of_ble_eq_true rfl) rfl ?_
      refine p_goto (tgt := 11) dX6_nextAfter_92 (by decide) ?_
      exact p_weak (leL.same (leL.same (leL.same (leL.same (leL.same (leL.same (leL.same (leL.drop (leL.drop leL.nil))))))))) (kl_inl (P := (P_X6_nextAfter_11 l g n K h0 h1 v2)) h)
    · refine p_aload_n dX6_nextAfter_35 rfl ?_
      refine p_getr dX6_nextAfter_36 fl_X6_32 (fun _ _ _ => rfl) (wc_X6 w0) (wf_X6_6 w0) ?_
      refine p_iload dX6_nextAfter_39 rfl ?_
      refine q_iald dX6_nextAfter_41 (wa_X6_6 w0) rfl h (fun h => ?_)
      refine p_aload_n dX6_nextAfter_42 rfl ?_
      refine p_iload dX6_nextAfter_43 rfl ?_
      refine p_iload_n dX6_nextAfter_45 rfl ?_
      refine cV_Ir [vI (s.2.2.2.2.2 (h0 + 5) (Int.toNat s.2.2.2.1)), vI v2] [vI (s.2.2.2.2.2 (h0 + 6) (Int.toNat (s.2.2.2.2.2 (h0 + 5) (Int.toNat s.2.2.2.1))))] dX6_nextAfter_46 yv_X1_far ml_X6_99 (r := (RX1, TX1, 11)) rfl rfl (Nat.le_of_ble_eq_true rfl) rfl (Nat.le_of_ble_eq_true rfl) (Nat.le_of_ble_eq_true rfl) (Nat.le_of_ble_eq_true rfl) (wc_X1 w1) h (fun K h => s_X1_far hG w1 h) (fun r46 h => ?_)
      refine q_min [] dX6_nextAfter_49 ml_X6_103 (Nat.le_of_ble_eq_true rfl) (Nat.le_of_ble_eq_true rfl) (Nat.le_of_ble_eq_true rfl) (Nat.le_of_ble_eq_true rfl) h (fun h => ?_)
      refine p_istore dX6_nextAfter_52 (Nat.le_of_ble_eq_true rfl) rfl ?_
      refine p_aload_n dX6_nextAfter_54 rfl ?_
      refine p_getr dX6_nextAfter_55 fl_X6_32 (fun _ _ _ => rfl) (wc_X6 w0) (wf_X6_6 w0) ?_
      refine p_iload dX6_nextAfter_58 rfl ?_
      refine p_iload dX6_nextAfter_60 rfl ?_
      refine q_iast dX6_nextAfter_62 (wa_X6_6 w0) rfl h (fun D62 h => ?_)
      refine p_aload_n dX6_nextAfter_63 rfl ?_
      refine p_getr dX6_nextAfter_64 fl_X6_29 (fun _ _ _ => rfl) (wc_X6 w0) (wf_X6_5 w0) ?_
      refine p_iload dX6_nextAfter_67 rfl ?_
      refine p_iload dX6_nextAfter_69 rfl ?_
      refine q_iast dX6_nextAfter_71 (wa_X6_5 w0) rfl h (fun D71 h => ?_)
      refine p_iinc dX6_nextAfter_72 rfl (Nat.le_of_ble_eq_true rfl) rfl ?_
      refine p_iload dX6_nextAfter_75 rfl ?_
      refine p_iload dX6_nextAfter_77 rfl ?_
      refine q_icmp_le (tgt := 89) dX6_nextAfter_79 (by decide) h (fun h => ?_) (fun h => ?_)
      · refine p_iinc dX6_nextAfter_89 rfl (Nat.le_of_ble_eq_true rfl) rfl ?_
        refine p_goto (tgt := 11) dX6_nextAfter_92 (by decide) ?_
        exact p_weak (leL.same (leL.same (leL.same (leL.same (leL.same (leL.same (leL.same (leL.drop (leL.drop leL.nil))))))))) (kl_inl (P := (P_X6_nextAfter_11 l g n K h0 h1 v2)) h)
      · refine p_iload dX6_nextAfter_82 rfl ?_
        refine p_istore dX6_nextAfter_84 (Nat.le_of_ble_eq_true rfl) rfl ?_
        refine p_iload dX6_nextAfter_86 rfl ?_
        refine p_istore_n dX6_nextAfter_88 (Nat.le_of_ble_eq_true rfl) rfl ?_
        refine p_iinc dX6_nextAfter_89 rfl (Nat.le_of_ble_eq_true rfl) rfl ?_
        refine p_goto (tgt := 11) dX6_nextAfter_92 (by decide) ?_
        exact p_weak (leL.same (leL.same (leL.same (leL.same (leL.same (leL.same (leL.same (leL.drop (leL.drop leL.nil))))))))) (kl_inl (P := (P_X6_nextAfter_11 l g n K h0 h1 v2)) h)
set_option maxRecDepth 100000 in
set_option maxHeartbeats 4000000 in
theorem x_X6_nextAfter {l : Launch} {g : GH} (hG : G0 l g) {n : Nat} {h0 : Nat} {h1 : Nat} {v2 : Int} (w0 : WX6 h0) (w1 : WX1 h1) {D : DT} {K : (Int × DT) → Prop} (h : ok (m_X6_nextAfter h0 h1 v2 D) K) : Px (E_X6_nextAfter l g (PIw n K)) 0 [some (vR g h0), some (vR g h1), some (vI v2), none, none, none, none, none, none] [] (LF n) D 0 0 := by
  refine p_iconst dX6_nextAfter_0 ?_
  refine p_istore_n dX6_nextAfter_1 (Nat.le_of_ble_eq_true rfl) rfl ?_
  refine p_iconst dX6_nextAfter_2 ?_
  refine p_istore dX6_nextAfter_3 (Nat.le_of_ble_eq_true rfl) rfl ?_
  refine p_iconst dX6_nextAfter_5 ?_
  refine p_istore dX6_nextAfter_6 (Nat.le_of_ble_eq_true rfl) rfl ?_
  refine p_iconst dX6_nextAfter_8 ?_
  refine p_istore dX6_nextAfter_9 (Nat.le_of_ble_eq_true rfl) rfl ?_
  exact p_weak (leL.same (leL.same (leL.same (leL.same (leL.same (leL.same (leL.same (leL.drop (leL.drop leL.nil))))))))) (x_X6_nextAfter_11 hG w0 w1 h)
theorem s_X6_nextAfter {l : Launch} {g : GH} (hG : G0 l g) {n : Nat} {h0 : Nat} {h1 : Nat} {v2 : Int} (w0 : WX6 h0) (w1 : WX1 h1) {D : DT} {K : (Int × DT) → Prop} (h : ok (m_X6_nextAfter h0 h1 v2 D) K) : Sat l g yX6_nextAfter cX6_nextAfter 9 (some .int) 1 0 0 [vR g h0, vR g h1, vI v2] (LF n) D (PIw n K) := Sat.of hG (by decide) (Nat.le_of_ble_eq_true rfl) (by simp [Value.category]) (x_X6_nextAfter hG w0 w1 h)
abbrev E_X6_rank (l : Launch) (g : GH) (P : PT) : ENV := mkE l g yX6_rank cX6_rank 5 none [] 2 0 0 P
abbrev P_X6_rank_15 (l : Launch) (g : GH) (n : Nat) (K : DT → Prop) (h0 : Nat) (h1 : Nat) : (Int × Int × DT) → Prop := fun s => Px (E_X6_rank l g (PVw n K)) 15 [some (vR g h0), some (vR g h1), none, some (vI s.1), some (vI s.2.1)] [] (LF n) s.2.2 0 0
set_option maxRecDepth 100000 in
set_option maxHeartbeats 4000000 in
theorem x_X6_rank_15 {l : Launch} {g : GH} (hG : G0 l g) {n : Nat} {h0 h1 : Nat} (w0 : WX6 h0) (w1 : WX1 h1) {K : DT → Prop} {s : (Int × Int × DT)} (h : ok (m_X6_rank_15 h0 h1 s) K) : Px (E_X6_rank l g (PVw n K)) 15 [some (vR g h0), some (vR g h1), none, some (vI s.1), some (vI s.2.1)] [] (LF n) s.2.2 0 0 := by
  refine ok_loop (P := (P_X6_rank_15 l g n K h0 h1)) (fun s h => ?_) h
  refine p_iload_n dX6_rank_15 rfl ?_
  refine p_iconst dX6_rank_16 ?_
  refine q_icmp_eq (tgt := 49) dX6_rank_17 (by decide) h (fun h => ?_) (fun h => ?_)
  · have h := kl_inr h
    exact p_return dX6_rank_49 (Nat.le_of_ble_eq_true rfl) (Nat.le_of_ble_eq_true rfl) ⟨rfl, rfl, ok_some h⟩
  · refine p_iload dX6_rank_20 rfl ?_
    refine p_sipush dX6_rank_22 (by decide) ?_
    refine q_icmp_ge (tgt := 49) dX6_rank_25 (by decide) h (fun h => ?_) (fun h => ?_)
    · have h := kl_inr h
      exact p_return dX6_rank_49 (Nat.le_of_ble_eq_true rfl) (Nat.le_of_ble_eq_true rfl) ⟨rfl, rfl, ok_some h⟩
    · refine p_aload_n dX6_rank_28 rfl ?_
      refine p_getr dX6_rank_29 fl_X6_9 (fun _ _ _ => rfl) (wc_X6 w0) (wf_X6_0 w0) ?_
      refine p_iload_n dX6_rank_32 rfl ?_
      refine p_iload dX6_rank_33 rfl ?_
      refine q_iast dX6_rank_35 (wa_X6_0 w0) rfl h (fun D35 h => ?_)
      refine p_iinc dX6_rank_36 rfl (Nat.le_of_ble_eq_true rfl) rfl ?_
      refine p_aload_n dX6_rank_39 rfl ?_
      refine p_aload_n dX6_rank_40 rfl ?_
      refine p_iload_n dX6_rank_41 rfl ?_
      refine cV_Iw [vR g h1, vI s.1] [] dX6_rank_42 yv_X6_nextAfter ml_X6_76 (r := (RX6, TX6, 9)) rfl rfl (Nat.le_of_ble_eq_true rfl) rfl (Nat.le_of_ble_eq_true rfl) (Nat.le_of_ble_eq_true rfl) (Nat.le_of_ble_eq_true rfl) (wc_X6 w0) h (fun K h => s_X6_nextAfter hG w0 w1 h) (fun r42 D42 h => ?_)
      refine p_istore_n dX6_rank_45 (Nat.le_of_ble_eq_true rfl) rfl ?_
      refine p_goto (tgt := 15) dX6_rank_46 (by decide) ?_
      exact p_weak (leL.same (leL.same (leL.drop (leL.same (leL.same leL.nil))))) (kl_inl (P := (P_X6_rank_15 l g n K h0 h1)) h)
set_option maxRecDepth 100000 in
set_option maxHeartbeats 4000000 in
theorem x_X6_rank {l : Launch} {g : GH} (hG : G0 l g) {n : Nat} {h0 : Nat} {h1 : Nat} {v2 : Int} (w0 : WX6 h0) (w1 : WX1 h1) {D : DT} {K : DT → Prop} (h : ok (m_X6_rank h0 h1 v2 D) K) : Px (E_X6_rank l g (PVw n K)) 0 [some (vR g h0), some (vR g h1), some (vI v2), none, none] [] (LF n) D 0 0 := by
  refine p_aload_n dX6_rank_0 rfl ?_
  refine p_aload_n dX6_rank_1 rfl ?_
  refine p_iload_n dX6_rank_2 rfl ?_
  refine cV_Vw [vR g h1, vI v2] [] dX6_rank_3 yv_X6_gather ml_X6_69 (r := (RX6, TX6, 9)) rfl rfl (Nat.le_of_ble_eq_true rfl) rfl (Nat.le_of_ble_eq_true rfl) (Nat.le_of_ble_eq_true rfl) (Nat.le_of_ble_eq_true rfl) (wc_X6 w0) h (fun K h => s_X6_gather hG w0 w1 h) (fun D3 h => ?_)
  refine p_aload_n dX6_rank_6 rfl ?_
  refine p_aload_n dX6_rank_7 rfl ?_
  refine cV_Ir [vR g h1] [] dX6_rank_8 yv_X6_firstOf ml_X6_72 (r := (RX6, TX6, 9)) rfl rfl (Nat.le_of_ble_eq_true rfl) rfl (Nat.le_of_ble_eq_true rfl) (Nat.le_of_ble_eq_true rfl) (Nat.le_of_ble_eq_true rfl) (wc_X6 w0) h (fun K h => s_X6_firstOf hG w0 w1 h) (fun r8 h => ?_)
  refine p_istore_n dX6_rank_11 (Nat.le_of_ble_eq_true rfl) rfl ?_
  refine p_iconst dX6_rank_12 ?_
  refine p_istore dX6_rank_13 (Nat.le_of_ble_eq_true rfl) rfl ?_
  exact p_weak (leL.same (leL.same (leL.drop (leL.same (leL.same leL.nil))))) (x_X6_rank_15 hG w0 w1 h)
theorem s_X6_rank {l : Launch} {g : GH} (hG : G0 l g) {n : Nat} {h0 : Nat} {h1 : Nat} {v2 : Int} (w0 : WX6 h0) (w1 : WX1 h1) {D : DT} {K : DT → Prop} (h : ok (m_X6_rank h0 h1 v2 D) K) : Sat l g yX6_rank cX6_rank 5 none 2 0 0 [vR g h0, vR g h1, vI v2] (LF n) D (PVw n K) := Sat.of hG (by decide) (Nat.le_of_ble_eq_true rfl) (by simp [Value.category]) (x_X6_rank hG w0 w1 h)
abbrev E_X6_sort (l : Launch) (g : GH) (P : PT) : ENV := mkE l g yX6_sort cX6_sort 5 none [] 1 0 0 P
abbrev P_X6_sort_5 (l : Launch) (g : GH) (n : Nat) (K : DT → Prop) (h0 : Nat) (h1 : Nat) (h2 : Nat) : (Int × Int × DT) → Prop := fun s => Px (E_X6_sort l g (PVw n K)) 5 [some (vR g h0), some (vR g h1), some (vR g h2), some (vI s.1), some (vI s.2.1)] [] (LF n) s.2.2 0 0
abbrev P_X6_sort_38 (l : Launch) (g : GH) (n : Nat) (K : DT → Prop) (h0 : Nat) (h1 : Nat) (h2 : Nat) : (Int × DT) → Prop := fun s => Px (E_X6_sort l g (PVw n K)) 38 [some (vR g h0), some (vR g h1), none, none, some (vI s.1)] [] (LF n) s.2 0 0
set_option maxRecDepth 100000 in
set_option maxHeartbeats 4000000 in
theorem x_X6_sort_38 {l : Launch} {g : GH} (hG : G0 l g) {n : Nat} {h0 h1 h2 : Nat} (w0 : WX6 h0) (w1 : WX1 h1) (w2 : LFa h2 = some (.inr (0, 8))) {K : DT → Prop} {s : (Int × DT)} (h : ok (m_X6_sort_38 h0 h1 h2 s) K) : Px (E_X6_sort l g (PVw n K)) 38 [some (vR g h0), some (vR g h1), none, none, some (vI s.1)] [] (LF n) s.2 0 0 := by
  refine ok_loop (P := (P_X6_sort_38 l g n K h0 h1 h2)) (fun s h => ?_) h
  refine p_iload dX6_sort_38 rfl ?_
  refine p_aload_n dX6_sort_40 rfl ?_
  refine cV_Ir [] [vI s.1] dX6_sort_41 yv_X1_cells ml_X6_83 (r := (RX1, TX1, 11)) rfl rfl (Nat.le_of_ble_eq_true rfl) rfl (Nat.le_of_ble_eq_true rfl) (Nat.le_of_ble_eq_true rfl) (Nat.le_of_ble_eq_true rfl) (wc_X1 w1) h (fun K h => s_X1_cells hG w1 h) (fun r41 h => ?_)
  refine q_icmp_ge (tgt := 100) dX6_sort_44 (by decide) h (fun h => ?_) (fun h => ?_)
  · have h := kl_inr h
    exact p_return dX6_sort_100 (Nat.le_of_ble_eq_true rfl) (Nat.le_of_ble_eq_true rfl) ⟨rfl, rfl, ok_some h⟩
  · refine p_aload_n dX6_sort_47 rfl ?_
    refine p_iload dX6_sort_48 rfl ?_
    refine cV_Ir [vI s.1] [] dX6_sort_50 yv_X1_isLand ml_X6_108 (r := (RX1, TX1, 11)) rfl rfl (Nat.le_of_ble_eq_true rfl) rfl (Nat.le_of_ble_eq_true rfl) (Nat.le_of_ble_eq_true rfl) (Nat.le_of_ble_eq_true rfl) (wc_X1 w1) h (fun K h => s_X1_isLand hG w1 h) (fun r50 h => ?_)
    refine q_if_eq (tgt := 86) dX6_sort_53 (by decide) h (fun h => ?_) (fun h => ?_)
    · refine p_aload_n dX6_sort_86 rfl ?_
      refine p_getr dX6_sort_87 fl_X6_9 (fun _ _ _ => rfl) (wc_X6 w0) (wf_X6_0 w0) ?_
      refine p_iload dX6_sort_90 rfl ?_
      refine p_iconst dX6_sort_92 ?_
      refine q_iast dX6_sort_93 (wa_X6_0 w0) rfl h (fun D93 h => ?_)
      refine p_iinc dX6_sort_94 rfl (Nat.le_of_ble_eq_true rfl) rfl ?_
      refine p_goto (tgt := 38) dX6_sort_97 (by decide) ?_
      exact p_weak (leL.same (leL.same (leL.drop (leL.drop (leL.same leL.nil))))) (kl_inl (P := (P_X6_sort_38 l g n K h0 h1 h2)) h)
    · refine p_aload_n dX6_sort_56 rfl ?_
      refine p_getr dX6_sort_57 fl_X6_15 (fun _ _ _ => rfl) (wc_X6 w0) (wf_X6_1 w0) ?_
      refine p_aload_n dX6_sort_60 rfl ?_
      refine p_getr dX6_sort_61 fl_X6_18 (fun _ _ _ => rfl) (wc_X6 w0) (wf_X6_2 w0) ?_
      refine p_aload_n dX6_sort_64 rfl ?_
      refine p_getr dX6_sort_65 fl_X6_112 (fun _ _ _ => rfl) (wc_X1 w1) (wf_X1_4 w1) ?_
      refine p_iload dX6_sort_68 rfl ?_
      refine q_iald dX6_sort_70 (wa_X1_4 w1) rfl h (fun h => ?_)
      refine q_iald dX6_sort_71 (wa_X6_2 w0) rfl h (fun h => ?_)
      refine p_aload_n dX6_sort_72 rfl ?_
      refine p_getr dX6_sort_73 fl_X6_9 (fun _ _ _ => rfl) (wc_X6 w0) (wf_X6_0 w0) ?_
      refine p_iload dX6_sort_76 rfl ?_
      refine q_iald dX6_sort_78 (wa_X6_0 w0) rfl h (fun h => ?_)
      refine p_iadd dX6_sort_79 ?_
      refine p_iload dX6_sort_80 rfl ?_
      refine q_iast dX6_sort_82 (wa_X6_1 w0) rfl h (fun D82 h => ?_)
      refine p_goto (tgt := 94) dX6_sort_83 (by decide) ?_
      refine p_iinc dX6_sort_94 rfl (Nat.le_of_ble_eq_true rfl) rfl ?_
      refine p_goto (tgt := 38) dX6_sort_97 (by decide) ?_
      exact p_weak (leL.same (leL.same (leL.drop (leL.drop (leL.same leL.nil))))) (kl_inl (P := (P_X6_sort_38 l g n K h0 h1 h2)) h)
set_option maxRecDepth 100000 in
set_option maxHeartbeats 4000000 in
theorem x_X6_sort_5 {l : Launch} {g : GH} (hG : G0 l g) {n : Nat} {h0 h1 h2 : Nat} (w0 : WX6 h0) (w1 : WX1 h1) (w2 : LFa h2 = some (.inr (0, 8))) {K : DT → Prop} {s : (Int × Int × DT)} (h : ok (m_X6_sort_5 h0 h1 h2 s) K) : Px (E_X6_sort l g (PVw n K)) 5 [some (vR g h0), some (vR g h1), some (vR g h2), some (vI s.1), some (vI s.2.1)] [] (LF n) s.2.2 0 0 := by
  refine ok_loop (P := (P_X6_sort_5 l g n K h0 h1 h2)) (fun s h => ?_) h
  refine p_iload dX6_sort_5 rfl ?_
  refine p_aload_n dX6_sort_7 rfl ?_
  refine p_geti dX6_sort_8 fl_X6_56 (fun _ _ _ => rfl) (wc_X1 w1) ?_
  refine q_icmp_ge (tgt := 35) dX6_sort_11 (by decide) h (fun h => ?_) (fun h => ?_)
  · have h := kl_inr h
    refine p_iconst dX6_sort_35 ?_
    refine p_istore dX6_sort_36 (Nat.le_of_ble_eq_true rfl) rfl ?_
    exact p_weak (leL.same (leL.same (leL.drop (leL.drop (leL.same leL.nil))))) (x_X6_sort_38 hG w0 w1 w2 h)
  · refine p_aload_n dX6_sort_14 rfl ?_
    refine p_getr dX6_sort_15 fl_X6_18 (fun _ _ _ => rfl) (wc_X6 w0) (wf_X6_2 w0) ?_
    refine p_iload dX6_sort_18 rfl ?_
    refine p_iload_n dX6_sort_20 rfl ?_
    refine q_iast dX6_sort_21 (wa_X6_2 w0) rfl h (fun D21 h => ?_)
    refine p_iload_n dX6_sort_22 rfl ?_
    refine p_aload_n dX6_sort_23 rfl ?_
    refine p_iload dX6_sort_24 rfl ?_
    refine q_iald dX6_sort_26 w2 rfl h (fun h => ?_)
    refine p_iadd dX6_sort_27 ?_
    refine p_istore_n dX6_sort_28 (Nat.le_of_ble_eq_true rfl) rfl ?_
    refine p_iinc dX6_sort_29 rfl (Nat.le_of_ble_eq_true rfl) rfl ?_
    refine p_goto (tgt := 5) dX6_sort_32 (by decide) ?_
    exact p_weak (leL.same (leL.same (leL.same (leL.same (leL.same leL.nil))))) (kl_inl (P := (P_X6_sort_5 l g n K h0 h1 h2)) h)
set_option maxRecDepth 100000 in
set_option maxHeartbeats 4000000 in
theorem x_X6_sort {l : Launch} {g : GH} (hG : G0 l g) {n : Nat} {h0 : Nat} {h1 : Nat} {h2 : Nat} (w0 : WX6 h0) (w1 : WX1 h1) (w2 : LFa h2 = some (.inr (0, 8))) {D : DT} {K : DT → Prop} (h : ok (m_X6_sort h0 h1 h2 D) K) : Px (E_X6_sort l g (PVw n K)) 0 [some (vR g h0), some (vR g h1), some (vR g h2), none, none] [] (LF n) D 0 0 := by
  refine p_iconst dX6_sort_0 ?_
  refine p_istore_n dX6_sort_1 (Nat.le_of_ble_eq_true rfl) rfl ?_
  refine p_iconst dX6_sort_2 ?_
  refine p_istore dX6_sort_3 (Nat.le_of_ble_eq_true rfl) rfl ?_
  exact p_weak (leL.same (leL.same (leL.same (leL.same (leL.same leL.nil))))) (x_X6_sort_5 hG w0 w1 w2 h)
theorem s_X6_sort {l : Launch} {g : GH} (hG : G0 l g) {n : Nat} {h0 : Nat} {h1 : Nat} {h2 : Nat} (w0 : WX6 h0) (w1 : WX1 h1) (w2 : LFa h2 = some (.inr (0, 8))) {D : DT} {K : DT → Prop} (h : ok (m_X6_sort h0 h1 h2 D) K) : Sat l g yX6_sort cX6_sort 5 none 1 0 0 [vR g h0, vR g h1, vR g h2] (LF n) D (PVw n K) := Sat.of hG (by decide) (Nat.le_of_ble_eq_true rfl) (by simp [Value.category]) (x_X6_sort hG w0 w1 w2 h)
abbrev E_X6_renew (l : Launch) (g : GH) (P : PT) : ENV := mkE l g yX6_renew cX6_renew 4 none [] 3 0 0 P
abbrev P_X6_renew_10 (l : Launch) (g : GH) (n : Nat) (K : DT → Prop) (h0 : Nat) (h1 : Nat) (h2 : Nat) : (Int × DT) → Prop := fun s => Px (E_X6_renew l g (PVw n K)) 10 [some (vR g h0), some (vR g h1), some (vR g h2), some (vI s.1)] [] (LF n) s.2 0 0
set_option maxRecDepth 100000 in
set_option maxHeartbeats 4000000 in
theorem x_X6_renew_10 {l : Launch} {g : GH} (hG : G0 l g) {n : Nat} {h0 h1 h2 : Nat} (w0 : WX6 h0) (w1 : WX1 h1) (w2 : LFa h2 = some (.inr (0, 8))) {K : DT → Prop} {s : (Int × DT)} (h : ok (m_X6_renew_10 h0 h1 h2 s) K) : Px (E_X6_renew l g (PVw n K)) 10 [some (vR g h0), some (vR g h1), some (vR g h2), some (vI s.1)] [] (LF n) s.2 0 0 := by
  refine ok_loop (P := (P_X6_renew_10 l g n K h0 h1 h2)) (fun s h => ?_) h
  refine p_iload_n dX6_renew_10 rfl ?_
  refine p_aload_n dX6_renew_11 rfl ?_
  refine p_geti dX6_renew_12 fl_X6_56 (fun _ _ _ => rfl) (wc_X1 w1) ?_
  refine q_icmp_ge (tgt := 46) dX6_renew_15 (by decide) h (fun h => ?_) (fun h => ?_)
  · have h := kl_inr h
    refine p_aload_n dX6_renew_46 rfl ?_
    refine p_aload_n dX6_renew_47 rfl ?_
    refine p_aload_n dX6_renew_48 rfl ?_
    refine cV_Vw [vR g h1, vR g h2] [] dX6_renew_49 yv_X6_sort ml_X6_65 (r := (RX6, TX6, 9)) rfl rfl (Nat.le_of_ble_eq_true rfl) rfl (Nat.le_of_ble_eq_true rfl) (Nat.le_of_ble_eq_true rfl) (Nat.le_of_ble_eq_true rfl) (wc_X6 w0) h (fun K h => s_X6_sort hG w0 w1 w2 h) (fun D49 h => ?_)
    refine p_aload_n dX6_renew_52 rfl ?_
    refine p_iconst dX6_renew_53 ?_
    refine q_putz0 dX6_renew_54 fq_X6_25 rfl (by decide) (wc_X6 w0) h (fun D54 h => ?_)
    exact p_return dX6_renew_57 (Nat.le_of_ble_eq_true rfl) (Nat.le_of_ble_eq_true rfl) ⟨rfl, rfl, ok_some h⟩
  · refine p_aload_n dX6_renew_18 rfl ?_
    refine p_getr dX6_renew_19 fl_X6_21 (fun _ _ _ => rfl) (wc_X6 w0) (wf_X6_3 w0) ?_
    refine p_iload_n dX6_renew_22 rfl ?_
    refine q_zald dX6_renew_23 (wa_X6_3 w0) rfl h (fun h => ?_)
    refine q_if_ne (tgt := 40) dX6_renew_24 (by decide) h (fun h => ?_) (fun h => ?_)
    · refine p_iinc dX6_renew_40 rfl (Nat.le_of_ble_eq_true rfl) rfl ?_
      refine p_goto (tgt := 10) dX6_renew_43 (by decide) ?_
      exact p_weak (leL.same (leL.same (leL.same (leL.same leL.nil)))) (kl_inl (P := (P_X6_renew_10 l g n K h0 h1 h2)) h)
    · refine p_aload_n dX6_renew_27 rfl ?_
      refine p_aload_n dX6_renew_28 rfl ?_
      refine p_iload_n dX6_renew_29 rfl ?_
      refine cV_Vw [vR g h1, vI s.1] [] dX6_renew_30 yv_X6_rank ml_X6_61 (r := (RX6, TX6, 9)) rfl rfl (Nat.le_of_ble_eq_true rfl) rfl (Nat.le_of_ble_eq_true rfl) (Nat.le_of_ble_eq_true rfl) (Nat.le_of_ble_eq_true rfl) (wc_X6 w0) h (fun K h => s_X6_rank hG w0 w1 h) (fun D30 h => ?_)
      refine p_aload_n dX6_renew_33 rfl ?_
      refine p_getr dX6_renew_34 fl_X6_21 (fun _ _ _ => rfl) (wc_X6 w0) (wf_X6_3 w0) ?_
      refine p_iload_n dX6_renew_37 rfl ?_
      refine p_iconst dX6_renew_38 ?_
      refine q_zast dX6_renew_39 (wa_X6_3 w0) rfl h (fun D39 h => ?_)
      refine p_iinc dX6_renew_40 rfl (Nat.le_of_ble_eq_true rfl) rfl ?_
      refine p_goto (tgt := 10) dX6_renew_43 (by decide) ?_
      exact p_weak (leL.same (leL.same (leL.same (leL.same leL.nil)))) (kl_inl (P := (P_X6_renew_10 l g n K h0 h1 h2)) h)
set_option maxRecDepth 100000 in
set_option maxHeartbeats 4000000 in
theorem x_X6_renew {l : Launch} {g : GH} (hG : G0 l g) {n : Nat} {h0 : Nat} {h1 : Nat} {h2 : Nat} (w0 : WX6 h0) (w1 : WX1 h1) (w2 : LFa h2 = some (.inr (0, 8))) {D : DT} {K : DT → Prop} (h : ok (m_X6_renew h0 h1 h2 D) K) : Px (E_X6_renew l g (PVw n K)) 0 [some (vR g h0), some (vR g h1), some (vR g h2), none] [] (LF n) D 0 0 := by
  refine p_aload_n dX6_renew_0 rfl ?_
  refine p_geti dX6_renew_1 fl_X6_25 (fun _ _ _ => rfl) (wc_X6 w0) ?_
  refine q_if_eq (tgt := 8) dX6_renew_4 (by decide) h (fun h => ?_) (fun h => ?_)
  · refine p_iconst dX6_renew_8 ?_
    refine p_istore_n dX6_renew_9 (Nat.le_of_ble_eq_true rfl) rfl ?_
    exact p_weak (leL.same (leL.same (leL.same (leL.same leL.nil)))) (x_X6_renew_10 hG w0 w1 w2 h)
  · exact p_return dX6_renew_7 (Nat.le_of_ble_eq_true rfl) (Nat.le_of_ble_eq_true rfl) ⟨rfl, rfl, ok_some h⟩
theorem s_X6_renew {l : Launch} {g : GH} (hG : G0 l g) {n : Nat} {h0 : Nat} {h1 : Nat} {h2 : Nat} (w0 : WX6 h0) (w1 : WX1 h1) (w2 : LFa h2 = some (.inr (0, 8))) {D : DT} {K : DT → Prop} (h : ok (m_X6_renew h0 h1 h2 D) K) : Sat l g yX6_renew cX6_renew 4 none 3 0 0 [vR g h0, vR g h1, vR g h2] (LF n) D (PVw n K) := Sat.of hG (by decide) (Nat.le_of_ble_eq_true rfl) (by simp [Value.category]) (x_X6_renew hG w0 w1 w2 h)
abbrev E_X5_ranked (l : Launch) (g : GH) (P : PT) : ENV := mkE l g yX5_ranked cX5_ranked 1 (some (.object "DotSpreader$Ranks")) [] 5 0 0 P
set_option maxRecDepth 100000 in
set_option maxHeartbeats 4000000 in
theorem x_X5_ranked {l : Launch} {g : GH} (hG : G0 l g) {n : Nat} {h0 : Nat} (w0 : WX5 h0) {D : DT} {K : DT → Prop} (h : ok (m_X5_ranked h0 D) K) : Px (E_X5_ranked l g (PAw g (h0 + 14) n K)) 0 [some (vR g h0)] [] (LF n) D 0 0 := by
  refine p_aload_n dX5_ranked_0 rfl ?_
  refine p_getr dX5_ranked_1 fl_X5_35 (fun _ _ _ => rfl) (wc_X5 w0) (wf_X5_4 w0) ?_
  refine p_aload_n dX5_ranked_4 rfl ?_
  refine p_getr dX5_ranked_5 fl_X5_12 (fun _ _ _ => rfl) (wc_X5 w0) (wf_X5_0 w0) ?_
  refine p_aload_n dX5_ranked_8 rfl ?_
  refine cV_Aw [] [vR g (h0 + 1), vR g (h0 + 14)] dX5_ranked_9 yv_X5_tallied ml_X5_54 (r := (RX5, TX5, 6)) rfl rfl (Nat.le_of_ble_eq_true rfl) rfl (Nat.le_of_ble_eq_true rfl) (Nat.le_of_ble_eq_true rfl) (Nat.le_of_ble_eq_true rfl) (wc_X5 w0) h (fun K h => s_X5_tallied hG w0 h) (fun D9 h => ?_)
  refine p_getr dX5_ranked_12 fl_X5_58 (fun _ _ _ => rfl) (wc_X8 (wo_X5_3 w0)) (wf_X8_1 (wo_X5_3 w0)) ?_
  refine cV_Vw [vR g (h0 + 1), vR g (h0 + 10)] [] dX5_ranked_15 yv_X6_renew ml_X5_62 (r := (RX6, TX6, 9)) rfl rfl (Nat.le_of_ble_eq_true rfl) rfl (Nat.le_of_ble_eq_true rfl) (Nat.le_of_ble_eq_true rfl) (Nat.le_of_ble_eq_true rfl) (wc_X6 (wo_X5_4 w0)) h (fun K h => s_X6_renew hG (wo_X5_4 w0) (wo_X5_0 w0) (wa_X8_1 (n := 0) (wo_X5_3 w0)) h) (fun D15 h => ?_)
  refine p_aload_n dX5_ranked_18 rfl ?_
  refine p_getr dX5_ranked_19 fl_X5_35 (fun _ _ _ => rfl) (wc_X5 w0) (wf_X5_4 w0) ?_
  exact p_areturn dX5_ranked_22 (Nat.le_of_ble_eq_true rfl) (Nat.le_of_ble_eq_true rfl) ⟨rfl, rfl, ok_some h⟩
theorem s_X5_ranked {l : Launch} {g : GH} (hG : G0 l g) {n : Nat} {h0 : Nat} (w0 : WX5 h0) {D : DT} {K : DT → Prop} (h : ok (m_X5_ranked h0 D) K) : Sat l g yX5_ranked cX5_ranked 1 (some (.object "DotSpreader$Ranks")) 5 0 0 [vR g h0] (LF n) D (PAw g (h0 + 14) n K) := Sat.of hG (by decide) (Nat.le_of_ble_eq_true rfl) (by simp [Value.category]) (x_X5_ranked hG w0 h)
abbrev E_X5_crowded (l : Launch) (g : GH) (P : PT) : ENV := mkE l g yX5_crowded cX5_crowded 2 (some (.object "DotSpreader$Crowd")) [] 5 0 0 P
set_option maxRecDepth 100000 in
set_option maxHeartbeats 4000000 in
theorem x_X5_crowded {l : Launch} {g : GH} (hG : G0 l g) {n : Nat} {h0 : Nat} {v1 : Int} (w0 : WX5 h0) {D : DT} {K : DT → Prop} (h : ok (m_X5_crowded h0 v1 D) K) : Px (E_X5_crowded l g (PAw g (h0 + 22) n K)) 0 [some (vR g h0), some (vI v1)] [] (LF n) D 0 0 := by
  refine p_aload_n dX5_crowded_0 rfl ?_
  refine p_getr dX5_crowded_1 fl_X5_42 (fun _ _ _ => rfl) (wc_X5 w0) (wf_X5_5 w0) ?_
  refine p_iload_n dX5_crowded_4 rfl ?_
  refine cV_Ir [vI v1] [] dX5_crowded_5 yv_X2_isOf ml_X5_66 (r := (RX2, TX2, 7)) rfl rfl (Nat.le_of_ble_eq_true rfl) rfl (Nat.le_of_ble_eq_true rfl) (Nat.le_of_ble_eq_true rfl) (Nat.le_of_ble_eq_true rfl) (wc_X2 (wo_X5_5 w0)) h (fun K h => s_X2_isOf hG (wo_X5_5 w0) h) (fun r5 h => ?_)
  refine q_if_ne (tgt := 49) dX5_crowded_8 (by decide) h (fun h => ?_) (fun h => ?_)
  · refine p_aload_n dX5_crowded_49 rfl ?_
    refine p_getr dX5_crowded_50 fl_X5_42 (fun _ _ _ => rfl) (wc_X5 w0) (wf_X5_5 w0) ?_
    exact p_areturn dX5_crowded_53 (Nat.le_of_ble_eq_true rfl) (Nat.le_of_ble_eq_true rfl) ⟨rfl, rfl, ok_some h⟩
  · refine p_aload_n dX5_crowded_11 rfl ?_
    refine p_getr dX5_crowded_12 fl_X5_35 (fun _ _ _ => rfl) (wc_X5 w0) (wf_X5_4 w0) ?_
    refine p_aload_n dX5_crowded_15 rfl ?_
    refine p_getr dX5_crowded_16 fl_X5_12 (fun _ _ _ => rfl) (wc_X5 w0) (wf_X5_0 w0) ?_
    refine p_aload_n dX5_crowded_19 rfl ?_
    refine cV_Aw [] [vR g (h0 + 1), vR g (h0 + 14)] dX5_crowded_20 yv_X5_tallied ml_X5_54 (r := (RX5, TX5, 6)) rfl rfl (Nat.le_of_ble_eq_true rfl) rfl (Nat.le_of_ble_eq_true rfl) (Nat.le_of_ble_eq_true rfl) (Nat.le_of_ble_eq_true rfl) (wc_X5 w0) h (fun K h => s_X5_tallied hG w0 h) (fun D20 h => ?_)
    refine p_getr dX5_crowded_23 fl_X5_58 (fun _ _ _ => rfl) (wc_X8 (wo_X5_3 w0)) (wf_X8_1 (wo_X5_3 w0)) ?_
    refine cV_Vw [vR g (h0 + 1), vR g (h0 + 10)] [] dX5_crowded_26 yv_X6_renew ml_X5_62 (r := (RX6, TX6, 9)) rfl rfl (Nat.le_of_ble_eq_true rfl) rfl (Nat.le_of_ble_eq_true rfl) (Nat.le_of_ble_eq_true rfl) (Nat.le_of_ble_eq_true rfl) (wc_X6 (wo_X5_4 w0)) h (fun K h => s_X6_renew hG (wo_X5_4 w0) (wo_X5_0 w0) (wa_X8_1 (n := 0) (wo_X5_3 w0)) h) (fun D26 h => ?_)
    refine p_aload_n dX5_crowded_29 rfl ?_
    refine p_getr dX5_crowded_30 fl_X5_42 (fun _ _ _ => rfl) (wc_X5 w0) (wf_X5_5 w0) ?_
    refine p_aload_n dX5_crowded_33 rfl ?_
    refine p_getr dX5_crowded_34 fl_X5_12 (fun _ _ _ => rfl) (wc_X5 w0) (wf_X5_0 w0) ?_
    refine p_aload_n dX5_crowded_37 rfl ?_
    refine p_getr dX5_crowded_38 fl_X5_28 (fun _ _ _ => rfl) (wc_X5 w0) (wf_X5_3 w0) ?_
    refine p_aload_n dX5_crowded_41 rfl ?_
    refine p_getr dX5_crowded_42 fl_X5_35 (fun _ _ _ => rfl) (wc_X5 w0) (wf_X5_4 w0) ?_
    refine p_iload_n dX5_crowded_45 rfl ?_
    refine cV_Vw [vR g (h0 + 1), vR g (h0 + 9), vR g (h0 + 14), vI v1] [] dX5_crowded_46 yv_X2_gather ml_X5_70 (r := (RX2, TX2, 7)) rfl rfl (Nat.le_of_ble_eq_true rfl) rfl (Nat.le_of_ble_eq_true rfl) (Nat.le_of_ble_eq_true rfl) (Nat.le_of_ble_eq_true rfl) (wc_X2 (wo_X5_5 w0)) h (fun K h => s_X2_gather hG (wo_X5_5 w0) (wo_X5_0 w0) (wo_X5_3 w0) (wo_X5_4 w0) h) (fun D46 h => ?_)
    refine p_aload_n dX5_crowded_49 rfl ?_
    refine p_getr dX5_crowded_50 fl_X5_42 (fun _ _ _ => rfl) (wc_X5 w0) (wf_X5_5 w0) ?_
    exact p_areturn dX5_crowded_53 (Nat.le_of_ble_eq_true rfl) (Nat.le_of_ble_eq_true rfl) ⟨rfl, rfl, ok_some h⟩
theorem s_X5_crowded {l : Launch} {g : GH} (hG : G0 l g) {n : Nat} {h0 : Nat} {v1 : Int} (w0 : WX5 h0) {D : DT} {K : DT → Prop} (h : ok (m_X5_crowded h0 v1 D) K) : Sat l g yX5_crowded cX5_crowded 2 (some (.object "DotSpreader$Crowd")) 5 0 0 [vR g h0, vI v1] (LF n) D (PAw g (h0 + 22) n K) := Sat.of hG (by decide) (Nat.le_of_ble_eq_true rfl) (by simp [Value.category]) (x_X5_crowded hG w0 h)
abbrev E_X5_numbersChanged (l : Launch) (g : GH) (P : PT) : ENV := mkE l g yX5_numbersChanged cX5_numbersChanged 1 none [] 1 0 0 P
set_option maxRecDepth 100000 in
set_option maxHeartbeats 4000000 in
theorem x_X5_numbersChanged {l : Launch} {g : GH} (hG : G0 l g) {n : Nat} {h0 : Nat} (w0 : WX5 h0) {D : DT} {K : DT → Prop} (h : ok (m_X5_numbersChanged h0 D) K) : Px (E_X5_numbersChanged l g (PVw n K)) 0 [some (vR g h0)] [] (LF n) D 0 0 := by
  refine p_aload_n dX5_numbersChanged_0 rfl ?_
  refine p_getr dX5_numbersChanged_1 fl_X5_28 (fun _ _ _ => rfl) (wc_X5 w0) (wf_X5_3 w0) ?_
  refine p_iconst dX5_numbersChanged_4 ?_
  refine q_putz0 dX5_numbersChanged_5 fq_X5_46 rfl (by decide) (wc_X8 (wo_X5_3 w0)) h (fun D5 h => ?_)
  refine p_aload_n dX5_numbersChanged_8 rfl ?_
  refine p_getr dX5_numbersChanged_9 fl_X5_42 (fun _ _ _ => rfl) (wc_X5 w0) (wf_X5_5 w0) ?_
  refine cV_Vw [] [] dX5_numbersChanged_12 yv_X2_forget ml_X5_74 (r := (RX2, TX2, 7)) rfl rfl (Nat.le_of_ble_eq_true rfl) rfl (Nat.le_of_ble_eq_true rfl) (Nat.le_of_ble_eq_true rfl) (Nat.le_of_ble_eq_true rfl) (wc_X2 (wo_X5_5 w0)) h (fun K h => s_X2_forget hG (wo_X5_5 w0) h) (fun D12 h => ?_)
  exact p_return dX5_numbersChanged_15 (Nat.le_of_ble_eq_true rfl) (Nat.le_of_ble_eq_true rfl) ⟨rfl, rfl, ok_some h⟩
theorem s_X5_numbersChanged {l : Launch} {g : GH} (hG : G0 l g) {n : Nat} {h0 : Nat} (w0 : WX5 h0) {D : DT} {K : DT → Prop} (h : ok (m_X5_numbersChanged h0 D) K) : Sat l g yX5_numbersChanged cX5_numbersChanged 1 none 1 0 0 [vR g h0] (LF n) D (PVw n K) := Sat.of hG (by decide) (Nat.le_of_ble_eq_true rfl) (by simp [Value.category]) (x_X5_numbersChanged hG w0 h)
abbrev E_X6_forget (l : Launch) (g : GH) (P : PT) : ENV := mkE l g yX6_forget cX6_forget 2 none [] 0 0 0 P
set_option maxRecDepth 100000 in
set_option maxHeartbeats 4000000 in
theorem x_X6_forget {l : Launch} {g : GH} (hG : G0 l g) {n : Nat} {h0 : Nat} {v1 : Int} (w0 : WX6 h0) {D : DT} {K : DT → Prop} (h : ok (m_X6_forget h0 v1 D) K) : Px (E_X6_forget l g (PVw n K)) 0 [some (vR g h0), some (vI v1)] [] (LF n) D 0 0 := by
  refine p_aload_n dX6_forget_0 rfl ?_
  refine p_getr dX6_forget_1 fl_X6_21 (fun _ _ _ => rfl) (wc_X6 w0) (wf_X6_3 w0) ?_
  refine p_iload_n dX6_forget_4 rfl ?_
  refine p_iconst dX6_forget_5 ?_
  refine q_zast dX6_forget_6 (wa_X6_3 w0) rfl h (fun D6 h => ?_)
  refine p_aload_n dX6_forget_7 rfl ?_
  refine p_iconst dX6_forget_8 ?_
  refine q_putz0 dX6_forget_9 fq_X6_25 rfl (by decide) (wc_X6 w0) h (fun D9 h => ?_)
  exact p_return dX6_forget_12 (Nat.le_of_ble_eq_true rfl) (Nat.le_of_ble_eq_true rfl) ⟨rfl, rfl, ok_some h⟩
theorem s_X6_forget {l : Launch} {g : GH} (hG : G0 l g) {n : Nat} {h0 : Nat} {v1 : Int} (w0 : WX6 h0) {D : DT} {K : DT → Prop} (h : ok (m_X6_forget h0 v1 D) K) : Sat l g yX6_forget cX6_forget 2 none 0 0 0 [vR g h0, vI v1] (LF n) D (PVw n K) := Sat.of hG (by decide) (Nat.le_of_ble_eq_true rfl) (by simp [Value.category]) (x_X6_forget hG w0 h)
abbrev E_X5_landChanged (l : Launch) (g : GH) (P : PT) : ENV := mkE l g yX5_landChanged cX5_landChanged 2 none [] 2 0 0 P
set_option maxRecDepth 100000 in
set_option maxHeartbeats 4000000 in
theorem x_X5_landChanged {l : Launch} {g : GH} (hG : G0 l g) {n : Nat} {h0 : Nat} {v1 : Int} (w0 : WX5 h0) {D : DT} {K : DT → Prop} (h : ok (m_X5_landChanged h0 v1 D) K) : Px (E_X5_landChanged l g (PVw n K)) 0 [some (vR g h0), some (vI v1)] [] (LF n) D 0 0 := by
  refine p_iload_n dX5_landChanged_0 rfl ?_
  refine p_iconst dX5_landChanged_1 ?_
  refine q_icmp_eq (tgt := 17) dX5_landChanged_2 (by decide) h (fun h => ?_) (fun h => ?_)
  · exact p_return dX5_landChanged_17 (Nat.le_of_ble_eq_true rfl) (Nat.le_of_ble_eq_true rfl) ⟨rfl, rfl, ok_some h⟩
  · refine p_aload_n dX5_landChanged_5 rfl ?_
    refine p_getr dX5_landChanged_6 fl_X5_35 (fun _ _ _ => rfl) (wc_X5 w0) (wf_X5_4 w0) ?_
    refine p_iload_n dX5_landChanged_9 rfl ?_
    refine cV_Vw [vI v1] [] dX5_landChanged_10 yv_X6_forget ml_X5_77 (r := (RX6, TX6, 9)) rfl rfl (Nat.le_of_ble_eq_true rfl) rfl (Nat.le_of_ble_eq_true rfl) (Nat.le_of_ble_eq_true rfl) (Nat.le_of_ble_eq_true rfl) (wc_X6 (wo_X5_4 w0)) h (fun K h => s_X6_forget hG (wo_X5_4 w0) h) (fun D10 h => ?_)
    refine p_aload_n dX5_landChanged_13 rfl ?_
    refine cV_Vw [] [] dX5_landChanged_14 yv_X5_numbersChanged ml_X5_80 (r := (RX5, TX5, 6)) rfl rfl (Nat.le_of_ble_eq_true rfl) rfl (Nat.le_of_ble_eq_true rfl) (Nat.le_of_ble_eq_true rfl) (Nat.le_of_ble_eq_true rfl) (wc_X5 w0) h (fun K h => s_X5_numbersChanged hG w0 h) (fun D14 h => ?_)
    exact p_return dX5_landChanged_17 (Nat.le_of_ble_eq_true rfl) (Nat.le_of_ble_eq_true rfl) ⟨rfl, rfl, ok_some h⟩
theorem s_X5_landChanged {l : Launch} {g : GH} (hG : G0 l g) {n : Nat} {h0 : Nat} {v1 : Int} (w0 : WX5 h0) {D : DT} {K : DT → Prop} (h : ok (m_X5_landChanged h0 v1 D) K) : Sat l g yX5_landChanged cX5_landChanged 2 none 2 0 0 [vR g h0, vI v1] (LF n) D (PVw n K) := Sat.of hG (by decide) (Nat.le_of_ble_eq_true rfl) (by simp [Value.category]) (x_X5_landChanged hG w0 h)
abbrev E_X6_forgetAll (l : Launch) (g : GH) (P : PT) : ENV := mkE l g yX6_forgetAll cX6_forgetAll 2 none [] 1 0 0 P
abbrev P_X6_forgetAll_2 (l : Launch) (g : GH) (n : Nat) (K : DT → Prop) (h0 : Nat) : (Int × DT) → Prop := fun s => Px (E_X6_forgetAll l g (PVw n K)) 2 [some (vR g h0), some (vI s.1)] [] (LF n) s.2 0 0
set_option maxRecDepth 100000 in
set_option maxHeartbeats 4000000 in
theorem x_X6_forgetAll_2 {l : Launch} {g : GH} (hG : G0 l g) {n : Nat} {h0 : Nat} (w0 : WX6 h0) {K : DT → Prop} {s : (Int × DT)} (h : ok (m_X6_forgetAll_2 h0 s) K) : Px (E_X6_forgetAll l g (PVw n K)) 2 [some (vR g h0), some (vI s.1)] [] (LF n) s.2 0 0 := by
  refine ok_loop (P := (P_X6_forgetAll_2 l g n K h0)) (fun s h => ?_) h
  refine p_iload_n dX6_forgetAll_2 rfl ?_
  refine p_bipush dX6_forgetAll_3 (by decide) ?_
  refine q_icmp_ge (tgt := 19) dX6_forgetAll_5 (by decide) h (fun h => ?_) (fun h => ?_)
  · have h := kl_inr h
    exact p_return dX6_forgetAll_19 (Nat.le_of_ble_eq_true rfl) (Nat.le_of_ble_eq_true rfl) ⟨rfl, rfl, ok_some h⟩
  · refine p_aload_n dX6_forgetAll_8 rfl ?_
    refine p_iload_n dX6_forgetAll_9 rfl ?_
    refine cV_Vw [vI s.1] [] dX6_forgetAll_10 yv_X6_forget ml_X6_46 (r := (RX6, TX6, 9)) rfl rfl (Nat.le_of_ble_eq_true rfl) rfl (Nat.le_of_ble_eq_true rfl) (Nat.le_of_ble_eq_true rfl) (Nat.le_of_ble_eq_true rfl) (wc_X6 w0) h (fun K h => s_X6_forget hG w0 h) (fun D10 h => ?_)
    refine p_iinc dX6_forgetAll_13 rfl (Nat.le_of_ble_eq_true rfl) rfl ?_
    refine p_goto (tgt := 2) dX6_forgetAll_16 (by decide) ?_
    exact p_weak (leL.same (leL.same leL.nil)) (kl_inl (P := (P_X6_forgetAll_2 l g n K h0)) h)
set_option maxRecDepth 100000 in
set_option maxHeartbeats 4000000 in
theorem x_X6_forgetAll {l : Launch} {g : GH} (hG : G0 l g) {n : Nat} {h0 : Nat} (w0 : WX6 h0) {D : DT} {K : DT → Prop} (h : ok (m_X6_forgetAll h0 D) K) : Px (E_X6_forgetAll l g (PVw n K)) 0 [some (vR g h0), none] [] (LF n) D 0 0 := by
  refine p_iconst dX6_forgetAll_0 ?_
  refine p_istore_n dX6_forgetAll_1 (Nat.le_of_ble_eq_true rfl) rfl ?_
  exact p_weak (leL.same (leL.same leL.nil)) (x_X6_forgetAll_2 hG w0 h)
theorem s_X6_forgetAll {l : Launch} {g : GH} (hG : G0 l g) {n : Nat} {h0 : Nat} (w0 : WX6 h0) {D : DT} {K : DT → Prop} (h : ok (m_X6_forgetAll h0 D) K) : Sat l g yX6_forgetAll cX6_forgetAll 2 none 1 0 0 [vR g h0] (LF n) D (PVw n K) := Sat.of hG (by decide) (Nat.le_of_ble_eq_true rfl) (by simp [Value.category]) (x_X6_forgetAll hG w0 h)
abbrev E_X5_mapChanged (l : Launch) (g : GH) (P : PT) : ENV := mkE l g yX5_mapChanged cX5_mapChanged 1 none [] 2 0 0 P
set_option maxRecDepth 100000 in
set_option maxHeartbeats 4000000 in
theorem x_X5_mapChanged {l : Launch} {g : GH} (hG : G0 l g) {n : Nat} {h0 : Nat} (w0 : WX5 h0) {D : DT} {K : DT → Prop} (h : ok (m_X5_mapChanged h0 D) K) : Px (E_X5_mapChanged l g (PVw n K)) 0 [some (vR g h0)] [] (LF n) D 0 0 := by
  refine p_aload_n dX5_mapChanged_0 rfl ?_
  refine p_getr dX5_mapChanged_1 fl_X5_35 (fun _ _ _ => rfl) (wc_X5 w0) (wf_X5_4 w0) ?_
  refine cV_Vw [] [] dX5_mapChanged_4 yv_X6_forgetAll ml_X5_83 (r := (RX6, TX6, 9)) rfl rfl (Nat.le_of_ble_eq_true rfl) rfl (Nat.le_of_ble_eq_true rfl) (Nat.le_of_ble_eq_true rfl) (Nat.le_of_ble_eq_true rfl) (wc_X6 (wo_X5_4 w0)) h (fun K h => s_X6_forgetAll hG (wo_X5_4 w0) h) (fun D4 h => ?_)
  refine p_aload_n dX5_mapChanged_7 rfl ?_
  refine cV_Vw [] [] dX5_mapChanged_8 yv_X5_numbersChanged ml_X5_80 (r := (RX5, TX5, 6)) rfl rfl (Nat.le_of_ble_eq_true rfl) rfl (Nat.le_of_ble_eq_true rfl) (Nat.le_of_ble_eq_true rfl) (Nat.le_of_ble_eq_true rfl) (wc_X5 w0) h (fun K h => s_X5_numbersChanged hG w0 h) (fun D8 h => ?_)
  exact p_return dX5_mapChanged_11 (Nat.le_of_ble_eq_true rfl) (Nat.le_of_ble_eq_true rfl) ⟨rfl, rfl, ok_some h⟩
theorem s_X5_mapChanged {l : Launch} {g : GH} (hG : G0 l g) {n : Nat} {h0 : Nat} (w0 : WX5 h0) {D : DT} {K : DT → Prop} (h : ok (m_X5_mapChanged h0 D) K) : Sat l g yX5_mapChanged cX5_mapChanged 1 none 2 0 0 [vR g h0] (LF n) D (PVw n K) := Sat.of hG (by decide) (Nat.le_of_ble_eq_true rfl) (by simp [Value.category]) (x_X5_mapChanged hG w0 h)
abbrev E_X6_copyFrom (l : Launch) (g : GH) (P : PT) : ENV := mkE l g yX6_copyFrom cX6_copyFrom 3 none [] 1 0 0 P
abbrev P_X6_copyFrom_18 (l : Launch) (g : GH) (n : Nat) (K : DT → Prop) (h0 : Nat) (h1 : Nat) : (Int × DT) → Prop := fun s => Px (E_X6_copyFrom l g (PVw n K)) 18 [some (vR g h0), some (vR g h1), some (vI s.1)] [] (LF n) s.2 0 0
set_option maxRecDepth 100000 in
set_option maxHeartbeats 4000000 in
theorem x_X6_copyFrom_18 {l : Launch} {g : GH} (hG : G0 l g) {n : Nat} {h0 h1 : Nat} (w0 : WX6 h0) (w1 : WX6 h1) {K : DT → Prop} {s : (Int × DT)} (h : ok (m_X6_copyFrom_18 h0 h1 s) K) : Px (E_X6_copyFrom l g (PVw n K)) 18 [some (vR g h0), some (vR g h1), some (vI s.1)] [] (LF n) s.2 0 0 := by
  refine ok_loop (P := (P_X6_copyFrom_18 l g n K h0 h1)) (fun s h => ?_) h
  refine p_iload_n dX6_copyFrom_18 rfl ?_
  refine p_bipush dX6_copyFrom_19 (by decide) ?_
  refine q_icmp_ge (tgt := 42) dX6_copyFrom_21 (by decide) h (fun h => ?_) (fun h => ?_)
  · have h := kl_inr h
    refine p_aload_n dX6_copyFrom_42 rfl ?_
    refine p_iconst dX6_copyFrom_43 ?_
    refine q_putz0 dX6_copyFrom_44 fq_X6_25 rfl (by decide) (wc_X6 w0) h (fun D44 h => ?_)
    exact p_return dX6_copyFrom_47 (Nat.le_of_ble_eq_true rfl) (Nat.le_of_ble_eq_true rfl) ⟨rfl, rfl, ok_some h⟩
  · refine p_aload_n dX6_copyFrom_24 rfl ?_
    refine p_getr dX6_copyFrom_25 fl_X6_21 (fun _ _ _ => rfl) (wc_X6 w0) (wf_X6_3 w0) ?_
    refine p_iload_n dX6_copyFrom_28 rfl ?_
    refine p_aload_n dX6_copyFrom_29 rfl ?_
    refine p_getr dX6_copyFrom_30 fl_X6_21 (fun _ _ _ => rfl) (wc_X6 w1) (wf_X6_3 w1) ?_
    refine p_iload_n dX6_copyFrom_33 rfl ?_
    refine q_zald dX6_copyFrom_34 (wa_X6_3 w1) rfl h (fun h => ?_)
    refine q_zast dX6_copyFrom_35 (wa_X6_3 w0) rfl h (fun D35 h => ?_)
    refine p_iinc dX6_copyFrom_36 rfl (Nat.le_of_ble_eq_true rfl) rfl ?_
    refine p_goto (tgt := 18) dX6_copyFrom_39 (by decide) ?_
    exact p_weak (leL.same (leL.same (leL.same leL.nil))) (kl_inl (P := (P_X6_copyFrom_18 l g n K h0 h1)) h)
set_option maxRecDepth 100000 in
set_option maxHeartbeats 4000000 in
theorem x_X6_copyFrom {l : Launch} {g : GH} (hG : G0 l g) {n : Nat} {h0 : Nat} {h1 : Nat} (w0 : WX6 h0) (w1 : WX6 h1) {D : DT} {K : DT → Prop} (h : ok (m_X6_copyFrom h0 h1 D) K) : Px (E_X6_copyFrom l g (PVw n K)) 0 [some (vR g h0), some (vR g h1), none] [] (LF n) D 0 0 := by
  refine p_aload_n dX6_copyFrom_0 rfl ?_
  refine p_getr dX6_copyFrom_1 fl_X6_9 (fun _ _ _ => rfl) (wc_X6 w1) (wf_X6_0 w1) ?_
  refine p_iconst dX6_copyFrom_4 ?_
  refine p_aload_n dX6_copyFrom_5 rfl ?_
  refine p_getr dX6_copyFrom_6 fl_X6_9 (fun _ _ _ => rfl) (wc_X6 w0) (wf_X6_0 w0) ?_
  refine p_iconst dX6_copyFrom_9 ?_
  refine p_sipush dX6_copyFrom_10 (by decide) ?_
  refine q_copyi [] dX6_copyFrom_13 (wa_X6_0 w1) (wa_X6_0 w0) ml_X6_50 acw (Nat.le_of_ble_eq_true rfl) (Nat.le_of_ble_eq_true rfl) rfl rfl h (fun D13 h => ?_)
  refine p_iconst dX6_copyFrom_16 ?_
  refine p_istore_n dX6_copyFrom_17 (Nat.le_of_ble_eq_true rfl) rfl ?_
  exact p_weak (leL.same (leL.same (leL.same leL.nil))) (x_X6_copyFrom_18 hG w0 w1 h)
theorem s_X6_copyFrom {l : Launch} {g : GH} (hG : G0 l g) {n : Nat} {h0 : Nat} {h1 : Nat} (w0 : WX6 h0) (w1 : WX6 h1) {D : DT} {K : DT → Prop} (h : ok (m_X6_copyFrom h0 h1 D) K) : Sat l g yX6_copyFrom cX6_copyFrom 3 none 1 0 0 [vR g h0, vR g h1] (LF n) D (PVw n K) := Sat.of hG (by decide) (Nat.le_of_ble_eq_true rfl) (by simp [Value.category]) (x_X6_copyFrom hG w0 w1 h)
abbrev E_X5_copyFrom (l : Launch) (g : GH) (P : PT) : ENV := mkE l g yX5_copyFrom cX5_copyFrom 2 none [] 2 0 0 P
set_option maxRecDepth 100000 in
set_option maxHeartbeats 4000000 in
theorem x_X5_copyFrom {l : Launch} {g : GH} (hG : G0 l g) {n : Nat} {h0 : Nat} {h1 : Nat} (w0 : WX5 h0) (w1 : WX5 h1) {D : DT} {K : DT → Prop} (h : ok (m_X5_copyFrom h0 h1 D) K) : Px (E_X5_copyFrom l g (PVw n K)) 0 [some (vR g h0), some (vR g h1)] [] (LF n) D 0 0 := by
  refine p_aload_n dX5_copyFrom_0 rfl ?_
  refine p_getr dX5_copyFrom_1 fl_X5_12 (fun _ _ _ => rfl) (wc_X5 w0) (wf_X5_0 w0) ?_
  refine p_aload_n dX5_copyFrom_4 rfl ?_
  refine p_getr dX5_copyFrom_5 fl_X5_12 (fun _ _ _ => rfl) (wc_X5 w1) (wf_X5_0 w1) ?_
  refine cV_Vw [vR g (h1 + 1)] [] dX5_copyFrom_8 yv_X1_copyFrom ml_X5_86 (r := (RX1, TX1, 11)) rfl rfl (Nat.le_of_ble_eq_true rfl) rfl (Nat.le_of_ble_eq_true rfl) (Nat.le_of_ble_eq_true rfl) (Nat.le_of_ble_eq_true rfl) (wc_X1 (wo_X5_0 w0)) h (fun K h => s_X1_copyFrom hG (wo_X5_0 w0) (wo_X5_0 w1) h) (fun D8 h => ?_)
  refine p_aload_n dX5_copyFrom_11 rfl ?_
  refine p_aload_n dX5_copyFrom_12 rfl ?_
  refine p_geti dX5_copyFrom_13 fl_X5_18 (fun _ _ _ => rfl) (wc_X5 w1) ?_
  refine q_puti dX5_copyFrom_16 fq_X5_18 rfl (wc_X5 w0) h (fun D16 h => ?_)
  refine p_aload_n dX5_copyFrom_19 rfl ?_
  refine p_aload_n dX5_copyFrom_20 rfl ?_
  refine p_geti dX5_copyFrom_21 fl_X5_22 (fun _ _ _ => rfl) (wc_X5 w1) ?_
  refine q_puti dX5_copyFrom_24 fq_X5_22 rfl (wc_X5 w0) h (fun D24 h => ?_)
  refine p_aload_n dX5_copyFrom_27 rfl ?_
  refine p_getr dX5_copyFrom_28 fl_X5_35 (fun _ _ _ => rfl) (wc_X5 w0) (wf_X5_4 w0) ?_
  refine p_aload_n dX5_copyFrom_31 rfl ?_
  refine p_getr dX5_copyFrom_32 fl_X5_35 (fun _ _ _ => rfl) (wc_X5 w1) (wf_X5_4 w1) ?_
  refine cV_Vw [vR g (h1 + 14)] [] dX5_copyFrom_35 yv_X6_copyFrom ml_X5_90 (r := (RX6, TX6, 9)) rfl rfl (Nat.le_of_ble_eq_true rfl) rfl (Nat.le_of_ble_eq_true rfl) (Nat.le_of_ble_eq_true rfl) (Nat.le_of_ble_eq_true rfl) (wc_X6 (wo_X5_4 w0)) h (fun K h => s_X6_copyFrom hG (wo_X5_4 w0) (wo_X5_4 w1) h) (fun D35 h => ?_)
  refine p_aload_n dX5_copyFrom_38 rfl ?_
  refine cV_Vw [] [] dX5_copyFrom_39 yv_X5_numbersChanged ml_X5_80 (r := (RX5, TX5, 6)) rfl rfl (Nat.le_of_ble_eq_true rfl) rfl (Nat.le_of_ble_eq_true rfl) (Nat.le_of_ble_eq_true rfl) (Nat.le_of_ble_eq_true rfl) (wc_X5 w0) h (fun K h => s_X5_numbersChanged hG w0 h) (fun D39 h => ?_)
  exact p_return dX5_copyFrom_42 (Nat.le_of_ble_eq_true rfl) (Nat.le_of_ble_eq_true rfl) ⟨rfl, rfl, ok_some h⟩
theorem s_X5_copyFrom {l : Launch} {g : GH} (hG : G0 l g) {n : Nat} {h0 : Nat} {h1 : Nat} (w0 : WX5 h0) (w1 : WX5 h1) {D : DT} {K : DT → Prop} (h : ok (m_X5_copyFrom h0 h1 D) K) : Sat l g yX5_copyFrom cX5_copyFrom 2 none 2 0 0 [vR g h0, vR g h1] (LF n) D (PVw n K) := Sat.of hG (by decide) (Nat.le_of_ble_eq_true rfl) (by simp [Value.category]) (x_X5_copyFrom hG w0 w1 h)
abbrev E_X7_put (l : Launch) (g : GH) (P : PT) : ENV := mkE l g yX7_put cX7_put 2 none [] 0 0 0 P
set_option maxRecDepth 100000 in
set_option maxHeartbeats 4000000 in
theorem x_X7_put {l : Launch} {g : GH} (hG : G0 l g) {n : Nat} {v1 : Int} {D : DT} {K : DT → Prop} (h : ok (m_X7_put v1 D) K) : Px (E_X7_put l g (PVw n K)) 0 [some (vR g 65), some (vI v1)] [] (LF n) D 0 0 := by
  refine p_aload_n dX7_put_0 rfl ?_
  refine p_geti dX7_put_1 fl_X7_9 (fun _ _ _ => rfl) rfl ?_
  refine p_sipush dX7_put_4 (by decide) ?_
  refine q_icmp_ge (tgt := 31) dX7_put_7 (by decide) h (fun h => ?_) (fun h => ?_)
  · exact p_return dX7_put_31 (Nat.le_of_ble_eq_true rfl) (Nat.le_of_ble_eq_true rfl) ⟨rfl, rfl, ok_some h⟩
  · refine p_aload_n dX7_put_10 rfl ?_
    refine p_getr dX7_put_11 fl_X7_15 (fun _ _ _ => rfl) rfl rfl ?_
    refine p_aload_n dX7_put_14 rfl ?_
    refine p_geti dX7_put_15 fl_X7_9 (fun _ _ _ => rfl) rfl ?_
    refine p_iload_n dX7_put_18 rfl ?_
    refine p_i2b dX7_put_19 ?_
    refine q_bast dX7_put_20 rfl rfl h (fun D20 h => ?_)
    refine p_aload_n dX7_put_21 rfl ?_
    refine p_dup dX7_put_22 rfl ?_
    refine p_geti dX7_put_23 fl_X7_9 (fun _ _ _ => rfl) rfl ?_
    refine p_iconst dX7_put_26 ?_
    refine p_iadd dX7_put_27 ?_
    refine q_puti dX7_put_28 fq_X7_9 rfl rfl h (fun D28 h => ?_)
    exact p_return dX7_put_31 (Nat.le_of_ble_eq_true rfl) (Nat.le_of_ble_eq_true rfl) ⟨rfl, rfl, ok_some h⟩
theorem s_X7_put {l : Launch} {g : GH} (hG : G0 l g) {n : Nat} {v1 : Int} {D : DT} {K : DT → Prop} (h : ok (m_X7_put v1 D) K) : Sat l g yX7_put cX7_put 2 none 0 0 0 [vR g 65, vI v1] (LF n) D (PVw n K) := Sat.of hG (by decide) (Nat.le_of_ble_eq_true rfl) (by simp [Value.category]) (x_X7_put hG h)
abbrev E_X7_putText (l : Launch) (g : GH) (P : PT) : ENV := mkE l g yX7_putText cX7_putText 3 none [] 6 0 0 P
abbrev P_X7_putText_2 (l : Launch) (g : GH) (n : Nat) (K : DT → Prop) (t1 : Nat) : (Int × DT) → Prop := fun s => Px (E_X7_putText l g (PVw n K)) 2 [some (vR g 65), some (vS g t1), some (vI s.1)] [] (LF n) s.2 0 0
set_option maxRecDepth 100000 in
set_option maxHeartbeats 4000000 in
theorem x_X7_putText_2 {l : Launch} {g : GH} (hG : G0 l g) {n : Nat} {t1 : Nat} (w1 : t1 < 22) {K : DT → Prop} {s : (Int × DT)} (h : ok (m_X7_putText_2 t1 s) K) : Px (E_X7_putText l g (PVw n K)) 2 [some (vR g 65), some (vS g t1), some (vI s.1)] [] (LF n) s.2 0 0 := by
  refine ok_loop (P := (P_X7_putText_2 l g n K t1)) (fun s h => ?_) h
  refine p_iload_n dX7_putText_2 rfl ?_
  refine p_aload_n dX7_putText_3 rfl ?_
  refine q_slen [vI s.1] hG dX7_putText_4 w1 ml_X7_72 (Nat.le_of_ble_eq_true rfl) (Nat.le_of_ble_eq_true rfl) (Nat.le_of_ble_eq_true rfl) (Nat.le_of_ble_eq_true rfl) ?_
  refine q_icmp_ge (tgt := 25) dX7_putText_7 (by decide) h (fun h => ?_) (fun h => ?_)
  · have h := kl_inr h
    exact p_return dX7_putText_25 (Nat.le_of_ble_eq_true rfl) (Nat.le_of_ble_eq_true rfl) ⟨rfl, rfl, ok_some h⟩
  · refine p_aload_n dX7_putText_10 rfl ?_
    refine p_aload_n dX7_putText_11 rfl ?_
    refine p_iload_n dX7_putText_12 rfl ?_
    refine q_schar [vR g 65] hG dX7_putText_13 w1 ml_X7_77 (Nat.le_of_ble_eq_true rfl) (Nat.le_of_ble_eq_true rfl) (Nat.le_of_ble_eq_true rfl) (Nat.le_of_ble_eq_true rfl) h (fun h => ?_)
    refine cV_Vw [vI (strC t1 (Int.toNat s.1))] [] dX7_putText_16 yv_X7_put ml_X7_49 (r := (RX7, TX7, 2)) rfl rfl (Nat.le_of_ble_eq_true rfl) rfl (Nat.le_of_ble_eq_true rfl) (Nat.le_of_ble_eq_true rfl) (Nat.le_of_ble_eq_true rfl) rfl h (fun K h => s_X7_put hG h) (fun D16 h => ?_)
    refine p_iinc dX7_putText_19 rfl (Nat.le_of_ble_eq_true rfl) rfl ?_
    refine p_goto (tgt := 2) dX7_putText_22 (by decide) ?_
    exact p_weak (leL.same (leL.same (leL.same leL.nil))) (kl_inl (P := (P_X7_putText_2 l g n K t1)) h)
set_option maxRecDepth 100000 in
set_option maxHeartbeats 4000000 in
theorem x_X7_putText {l : Launch} {g : GH} (hG : G0 l g) {n : Nat} {t1 : Nat} (w1 : t1 < 22) {D : DT} {K : DT → Prop} (h : ok (m_X7_putText t1 D) K) : Px (E_X7_putText l g (PVw n K)) 0 [some (vR g 65), some (vS g t1), none] [] (LF n) D 0 0 := by
  refine p_iconst dX7_putText_0 ?_
  refine p_istore_n dX7_putText_1 (Nat.le_of_ble_eq_true rfl) rfl ?_
  exact p_weak (leL.same (leL.same (leL.same leL.nil))) (x_X7_putText_2 hG w1 h)
theorem s_X7_putText {l : Launch} {g : GH} (hG : G0 l g) {n : Nat} {t1 : Nat} (w1 : t1 < 22) {D : DT} {K : DT → Prop} (h : ok (m_X7_putText t1 D) K) : Sat l g yX7_putText cX7_putText 3 none 6 0 0 [vR g 65, vS g t1] (LF n) D (PVw n K) := Sat.of hG (by decide) (Nat.le_of_ble_eq_true rfl) (by simp [Value.category]) (x_X7_putText hG w1 h)
abbrev E_X7_putNumber (l : Launch) (g : GH) (P : PT) : ENV := mkE l g yX7_putNumber cX7_putNumber 2 none [] 1 0 0 P
set_option maxRecDepth 100000 in
set_option maxHeartbeats 4000000 in
theorem x_X7_putNumber {l : Launch} {g : GH} (hG : G0 l g) {n : Nat} {v1 : Int} {D : DT} {K : DT → Prop} (h : ok (m_X7_putNumber v1 D) K) : Px (E_X7_putNumber l g (PVw n K)) 0 [some (vR g 65), some (vI v1)] [] (LF n) D 0 0 := by
  refine p_iload_n dX7_putNumber_0 rfl ?_
  refine p_bipush dX7_putNumber_1 (by decide) ?_
  refine q_icmp_lt (tgt := 17) dX7_putNumber_3 (by decide) h (fun h => ?_) (fun h => ?_)
  · refine p_aload_n dX7_putNumber_17 rfl ?_
    refine p_bipush dX7_putNumber_18 (by decide) ?_
    refine p_iload_n dX7_putNumber_20 rfl ?_
    refine p_bipush dX7_putNumber_21 (by decide) ?_
    refine q_irem dX7_putNumber_23 h (fun h => ?_)
    refine p_iadd dX7_putNumber_24 ?_
    refine cV_Vw [vI (48 + (v1 % 10))] [] dX7_putNumber_25 yv_X7_put ml_X7_49 (r := (RX7, TX7, 2)) rfl rfl (Nat.le_of_ble_eq_true rfl) rfl (Nat.le_of_ble_eq_true rfl) (Nat.le_of_ble_eq_true rfl) (Nat.le_of_ble_eq_true rfl) rfl h (fun K h => s_X7_put hG h) (fun D25 h => ?_)
    exact p_return dX7_putNumber_28 (Nat.le_of_ble_eq_true rfl) (Nat.le_of_ble_eq_true rfl) ⟨rfl, rfl, ok_some h⟩
  · refine p_aload_n dX7_putNumber_6 rfl ?_
    refine p_bipush dX7_putNumber_7 (by decide) ?_
    refine p_iload_n dX7_putNumber_9 rfl ?_
    refine p_bipush dX7_putNumber_10 (by decide) ?_
    refine q_idiv dX7_putNumber_12 h (fun h => ?_)
    refine p_iadd dX7_putNumber_13 ?_
    refine cV_Vw [vI (48 + (v1 / 10))] [] dX7_putNumber_14 yv_X7_put ml_X7_49 (r := (RX7, TX7, 2)) rfl rfl (Nat.le_of_ble_eq_true rfl) rfl (Nat.le_of_ble_eq_true rfl) (Nat.le_of_ble_eq_true rfl) (Nat.le_of_ble_eq_true rfl) rfl h (fun K h => s_X7_put hG h) (fun D14 h => ?_)
    refine p_aload_n dX7_putNumber_17 rfl ?_
    refine p_bipush dX7_putNumber_18 (by decide) ?_
    refine p_iload_n dX7_putNumber_20 rfl ?_
    refine p_bipush dX7_putNumber_21 (by decide) ?_
    refine q_irem dX7_putNumber_23 h (fun h => ?_)
    refine p_iadd dX7_putNumber_24 ?_
    refine cV_Vw [vI (48 + (v1 % 10))] [] dX7_putNumber_25 yv_X7_put ml_X7_49 (r := (RX7, TX7, 2)) rfl rfl (Nat.le_of_ble_eq_true rfl) rfl (Nat.le_of_ble_eq_true rfl) (Nat.le_of_ble_eq_true rfl) (Nat.le_of_ble_eq_true rfl) rfl h (fun K h => s_X7_put hG h) (fun D25 h => ?_)
    exact p_return dX7_putNumber_28 (Nat.le_of_ble_eq_true rfl) (Nat.le_of_ble_eq_true rfl) ⟨rfl, rfl, ok_some h⟩
theorem s_X7_putNumber {l : Launch} {g : GH} (hG : G0 l g) {n : Nat} {v1 : Int} {D : DT} {K : DT → Prop} (h : ok (m_X7_putNumber v1 D) K) : Sat l g yX7_putNumber cX7_putNumber 2 none 1 0 0 [vR g 65, vI v1] (LF n) D (PVw n K) := Sat.of hG (by decide) (Nat.le_of_ble_eq_true rfl) (by simp [Value.category]) (x_X7_putNumber hG h)
abbrev E_X7_putHead (l : Launch) (g : GH) (P : PT) : ENV := mkE l g yX7_putHead cX7_putHead 5 none [] 7 0 0 P
abbrev P_X7_putHead_9 (l : Launch) (g : GH) (n : Nat) (K : DT → Prop) (h1 : Nat) (v2 : Int) (v3 : Int) : (Int × DT) → Prop := fun s => Px (E_X7_putHead l g (PVw n K)) 9 [some (vR g 65), some (vR g h1), some (vI v2), some (vI v3), some (vI s.1)] [] (LF n) s.2 0 0
set_option maxRecDepth 100000 in
set_option maxHeartbeats 4000000 in
theorem x_X7_putHead_9 {l : Launch} {g : GH} (hG : G0 l g) {n : Nat} {h1 : Nat} {v2 v3 : Int} (w1 : WX1 h1) {K : DT → Prop} {s : (Int × DT)} (h : ok (m_X7_putHead_9 h1 v2 v3 s) K) : Px (E_X7_putHead l g (PVw n K)) 9 [some (vR g 65), some (vR g h1), some (vI v2), some (vI v3), some (vI s.1)] [] (LF n) s.2 0 0 := by
  refine ok_loop (P := (P_X7_putHead_9 l g n K h1 v2 v3)) (fun s h => ?_) h
  refine p_iload dX7_putHead_9 rfl ?_
  refine p_aload_n dX7_putHead_11 rfl ?_
  refine p_getr dX7_putHead_12 fl_X7_42 (fun _ _ _ => rfl) (wc_X1 w1) (wf_X1_10 w1) ?_
  refine p_iload_n dX7_putHead_15 rfl ?_
  refine q_iald dX7_putHead_16 (wa_X1_10 w1) rfl h (fun h => ?_)
  refine q_icmp_ge (tgt := 42) dX7_putHead_17 (by decide) h (fun h => ?_) (fun h => ?_)
  · have h := kl_inr h
    refine p_aload_n dX7_putHead_42 rfl ?_
    refine p_ldcS (i := 7) hG dX7_putHead_43 (by decide) rfl rfl ?_
    refine cV_Vw [vS g 7] [] dX7_putHead_45 yv_X7_putText ml_X7_38 (r := (RX7, TX7, 2)) rfl rfl (Nat.le_of_ble_eq_true rfl) rfl (Nat.le_of_ble_eq_true rfl) (Nat.le_of_ble_eq_true rfl) (Nat.le_of_ble_eq_true rfl) rfl h (fun K h => s_X7_putText hG (by decide) h) (fun D45 h => ?_)
    refine p_aload_n dX7_putHead_48 rfl ?_
    refine p_iload_n dX7_putHead_49 rfl ?_
    refine cV_Vw [vI v3] [] dX7_putHead_50 yv_X7_putNumber ml_X7_55 (r := (RX7, TX7, 2)) rfl rfl (Nat.le_of_ble_eq_true rfl) rfl (Nat.le_of_ble_eq_true rfl) (Nat.le_of_ble_eq_true rfl) (Nat.le_of_ble_eq_true rfl) rfl h (fun K h => s_X7_putNumber hG h) (fun D50 h => ?_)
    refine p_aload_n dX7_putHead_53 rfl ?_
    refine p_ldcS (i := 8) hG dX7_putHead_54 (by decide) rfl rfl ?_
    refine cV_Vw [vS g 8] [] dX7_putHead_56 yv_X7_putText ml_X7_38 (r := (RX7, TX7, 2)) rfl rfl (Nat.le_of_ble_eq_true rfl) rfl (Nat.le_of_ble_eq_true rfl) (Nat.le_of_ble_eq_true rfl) (Nat.le_of_ble_eq_true rfl) rfl h (fun K h => s_X7_putText hG (by decide) h) (fun D56 h => ?_)
    exact p_return dX7_putHead_59 (Nat.le_of_ble_eq_true rfl) (Nat.le_of_ble_eq_true rfl) ⟨rfl, rfl, ok_some h⟩
  · refine p_aload_n dX7_putHead_20 rfl ?_
    refine p_aload_n dX7_putHead_21 rfl ?_
    refine p_getr dX7_putHead_22 fl_X7_46 (fun _ _ _ => rfl) (wc_X1 w1) (wf_X1_9 w1) ?_
    refine p_iload_n dX7_putHead_25 rfl ?_
    refine p_bipush dX7_putHead_26 (by decide) ?_
    refine p_imul dX7_putHead_28 ?_
    refine p_iload dX7_putHead_29 rfl ?_
    refine p_iadd dX7_putHead_31 ?_
    refine q_bald dX7_putHead_32 (wa_X1_9 w1) rfl h (fun h => ?_)
    refine cV_Vw [vI (s.2.2 (h1 + 6) (Int.toNat ((v2 * 6) + s.1)))] [] dX7_putHead_33 yv_X7_put ml_X7_49 (r := (RX7, TX7, 2)) rfl rfl (Nat.le_of_ble_eq_true rfl) rfl (Nat.le_of_ble_eq_true rfl) (Nat.le_of_ble_eq_true rfl) (Nat.le_of_ble_eq_true rfl) rfl h (fun K h => s_X7_put hG h) (fun D33 h => ?_)
    refine p_iinc dX7_putHead_36 rfl (Nat.le_of_ble_eq_true rfl) rfl ?_
    refine p_goto (tgt := 9) dX7_putHead_39 (by decide) ?_
    exact p_weak (leL.same (leL.same (leL.same (leL.same (leL.same leL.nil))))) (kl_inl (P := (P_X7_putHead_9 l g n K h1 v2 v3)) h)
set_option maxRecDepth 100000 in
set_option maxHeartbeats 4000000 in
theorem x_X7_putHead {l : Launch} {g : GH} (hG : G0 l g) {n : Nat} {h1 : Nat} {v2 : Int} {v3 : Int} (w1 : WX1 h1) {D : DT} {K : DT → Prop} (h : ok (m_X7_putHead h1 v2 v3 D) K) : Px (E_X7_putHead l g (PVw n K)) 0 [some (vR g 65), some (vR g h1), some (vI v2), some (vI v3), none] [] (LF n) D 0 0 := by
  refine p_aload_n dX7_putHead_0 rfl ?_
  refine p_ldcS (i := 6) hG dX7_putHead_1 (by decide) rfl rfl ?_
  refine cV_Vw [vS g 6] [] dX7_putHead_3 yv_X7_putText ml_X7_38 (r := (RX7, TX7, 2)) rfl rfl (Nat.le_of_ble_eq_true rfl) rfl (Nat.le_of_ble_eq_true rfl) (Nat.le_of_ble_eq_true rfl) (Nat.le_of_ble_eq_true rfl) rfl h (fun K h => s_X7_putText hG (by decide) h) (fun D3 h => ?_)
  refine p_iconst dX7_putHead_6 ?_
  refine p_istore dX7_putHead_7 (Nat.le_of_ble_eq_true rfl) rfl ?_
  exact p_weak (leL.same (leL.same (leL.same (leL.same (leL.same leL.nil))))) (x_X7_putHead_9 hG w1 h)
theorem s_X7_putHead {l : Launch} {g : GH} (hG : G0 l g) {n : Nat} {h1 : Nat} {v2 : Int} {v3 : Int} (w1 : WX1 h1) {D : DT} {K : DT → Prop} (h : ok (m_X7_putHead h1 v2 v3 D) K) : Sat l g yX7_putHead cX7_putHead 5 none 7 0 0 [vR g 65, vR g h1, vI v2, vI v3] (LF n) D (PVw n K) := Sat.of hG (by decide) (Nat.le_of_ble_eq_true rfl) (by simp [Value.category]) (x_X7_putHead hG w1 h)
abbrev E_X7_putRuns (l : Launch) (g : GH) (P : PT) : ENV := mkE l g yX7_putRuns cX7_putRuns 6 none [] 7 0 0 P
abbrev P_X7_putRuns_3 (l : Launch) (g : GH) (n : Nat) (K : DT → Prop) (h1 : Nat) (v2 : Int) (v3 : Int) (v4 : Int) : (Int × DT) → Prop := fun s => Px (E_X7_putRuns l g (PVw n K)) 3 [some (vR g 65), some (vR g h1), some (vI v2), some (vI v3), some (vI v4), some (vI s.1)] [] (LF n) s.2 0 0
set_option maxRecDepth 100000 in
set_option maxHeartbeats 4000000 in
theorem x_X7_putRuns_3 {l : Launch} {g : GH} (hG : G0 l g) {n : Nat} {h1 : Nat} {v2 v3 v4 : Int} (w1 : WX1 h1) {K : DT → Prop} {s : (Int × DT)} (h : ok (m_X7_putRuns_3 h1 v2 v3 v4 s) K) : Px (E_X7_putRuns l g (PVw n K)) 3 [some (vR g 65), some (vR g h1), some (vI v2), some (vI v3), some (vI v4), some (vI s.1)] [] (LF n) s.2 0 0 := by
  refine ok_loop (P := (P_X7_putRuns_3 l g n K h1 v2 v3 v4)) (fun s h => ?_) h
  refine p_iload dX7_putRuns_3 rfl ?_
  refine p_iload dX7_putRuns_5 rfl ?_
  refine q_icmp_ge (tgt := 64) dX7_putRuns_7 (by decide) h (fun h => ?_) (fun h => ?_)
  · have h := kl_inr h
    refine p_aload_n dX7_putRuns_64 rfl ?_
    refine p_ldcS (i := 12) hG dX7_putRuns_65 (by decide) rfl rfl ?_
    refine cV_Vw [vS g 12] [] dX7_putRuns_67 yv_X7_putText ml_X7_38 (r := (RX7, TX7, 2)) rfl rfl (Nat.le_of_ble_eq_true rfl) rfl (Nat.le_of_ble_eq_true rfl) (Nat.le_of_ble_eq_true rfl) (Nat.le_of_ble_eq_true rfl) rfl h (fun K h => s_X7_putText hG (by decide) h) (fun D67 h => ?_)
    exact p_return dX7_putRuns_70 (Nat.le_of_ble_eq_true rfl) (Nat.le_of_ble_eq_true rfl) ⟨rfl, rfl, ok_some h⟩
  · refine p_aload_n dX7_putRuns_10 rfl ?_
    refine p_iload dX7_putRuns_11 rfl ?_
    refine q_if_le (tgt := 21) dX7_putRuns_13 (by decide) h (fun h => ?_) (fun h => ?_)
    · refine p_ldcS (i := 10) hG dX7_putRuns_21 (by decide) rfl rfl ?_
      refine cV_Vw [vS g 10] [] dX7_putRuns_23 yv_X7_putText ml_X7_38 (r := (RX7, TX7, 2)) rfl rfl (Nat.le_of_ble_eq_true rfl) rfl (Nat.le_of_ble_eq_true rfl) (Nat.le_of_ble_eq_true rfl) (Nat.le_of_ble_eq_true rfl) rfl h (fun K h => s_X7_putText hG (by decide) h) (fun D23 h => ?_)
      refine p_aload_n dX7_putRuns_26 rfl ?_
      refine p_aload_n dX7_putRuns_27 rfl ?_
      refine p_iload_n dX7_putRuns_28 rfl ?_
      refine p_iload_n dX7_putRuns_29 rfl ?_
      refine p_iload dX7_putRuns_30 rfl ?_
      refine p_iconst dX7_putRuns_32 ?_
      refine cV_Ir [vI v2, vI v3, vI s.1, vI 0] [vR g 65] dX7_putRuns_33 yv_X1_runEdge ml_X7_64 (r := (RX1, TX1, 11)) rfl rfl (Nat.le_of_ble_eq_true rfl) rfl (Nat.le_of_ble_eq_true rfl) (Nat.le_of_ble_eq_true rfl) (Nat.le_of_ble_eq_true rfl) (wc_X1 w1) h (fun K h => s_X1_runEdge hG w1 h) (fun r33 h => ?_)
      refine cV_Vw [vI r33] [] dX7_putRuns_36 yv_X7_putNumber ml_X7_55 (r := (RX7, TX7, 2)) rfl rfl (Nat.le_of_ble_eq_true rfl) rfl (Nat.le_of_ble_eq_true rfl) (Nat.le_of_ble_eq_true rfl) (Nat.le_of_ble_eq_true rfl) rfl h (fun K h => s_X7_putNumber hG h) (fun D36 h => ?_)
      refine p_aload_n dX7_putRuns_39 rfl ?_
      refine p_ldcS (i := 11) hG dX7_putRuns_40 (by decide) rfl rfl ?_
      refine cV_Vw [vS g 11] [] dX7_putRuns_42 yv_X7_putText ml_X7_38 (r := (RX7, TX7, 2)) rfl rfl (Nat.le_of_ble_eq_true rfl) rfl (Nat.le_of_ble_eq_true rfl) (Nat.le_of_ble_eq_true rfl) (Nat.le_of_ble_eq_true rfl) rfl h (fun K h => s_X7_putText hG (by decide) h) (fun D42 h => ?_)
      refine p_aload_n dX7_putRuns_45 rfl ?_
      refine p_aload_n dX7_putRuns_46 rfl ?_
      refine p_iload_n dX7_putRuns_47 rfl ?_
      refine p_iload_n dX7_putRuns_48 rfl ?_
      refine p_iload dX7_putRuns_49 rfl ?_
      refine p_iconst dX7_putRuns_51 ?_
      refine cV_Ir [vI v2, vI v3, vI s.1, vI 1] [vR g 65] dX7_putRuns_52 yv_X1_runEdge ml_X7_64 (r := (RX1, TX1, 11)) rfl rfl (Nat.le_of_ble_eq_true rfl) rfl (Nat.le_of_ble_eq_true rfl) (Nat.le_of_ble_eq_true rfl) (Nat.le_of_ble_eq_true rfl) (wc_X1 w1) h (fun K h => s_X1_runEdge hG w1 h) (fun r52 h => ?_)
      refine cV_Vw [vI r52] [] dX7_putRuns_55 yv_X7_putNumber ml_X7_55 (r := (RX7, TX7, 2)) rfl rfl (Nat.le_of_ble_eq_true rfl) rfl (Nat.le_of_ble_eq_true rfl) (Nat.le_of_ble_eq_true rfl) (Nat.le_of_ble_eq_true rfl) rfl h (fun K h => s_X7_putNumber hG h) (fun D55 h => ?_)
      refine p_iinc dX7_putRuns_58 rfl (Nat.le_of_ble_eq_true rfl) rfl ?_
      refine p_goto (tgt := 3) dX7_putRuns_61 (by decide) ?_
      exact p_weak (leL.same (leL.same (leL.same (leL.same (leL.same (leL.same leL.nil)))))) (kl_inl (P := (P_X7_putRuns_3 l g n K h1 v2 v3 v4)) h)
    · refine p_ldcS (i := 9) hG dX7_putRuns_16 (by decide) rfl rfl ?_
      refine p_goto (tgt := 23) dX7_putRuns_18 (by decide) ?_
      refine cV_Vw [vS g 9] [] dX7_putRuns_23 yv_X7_putText ml_X7_38 (r := (RX7, TX7, 2)) rfl rfl (Nat.le_of_ble_eq_true rfl) rfl (Nat.le_of_ble_eq_true rfl) (Nat.le_of_ble_eq_true rfl) (Nat.le_of_ble_eq_true rfl) rfl h (fun K h => s_X7_putText hG (by decide) h) (fun D23 h => ?_)
      refine p_aload_n dX7_putRuns_26 rfl ?_
      refine p_aload_n dX7_putRuns_27 rfl ?_
      refine p_iload_n dX7_putRuns_28 rfl ?_
      refine p_iload_n dX7_putRuns_29 rfl ?_
      refine p_iload dX7_putRuns_30 rfl ?_
      refine p_iconst dX7_putRuns_32 ?_
      refine cV_Ir [vI v2, vI v3, vI s.1, vI 0] [vR g 65] dX7_putRuns_33 yv_X1_runEdge ml_X7_64 (r := (RX1, TX1, 11)) rfl rfl (Nat.le_of_ble_eq_true rfl) rfl (Nat.le_of_ble_eq_true rfl) (Nat.le_of_ble_eq_true rfl) (Nat.le_of_ble_eq_true rfl) (wc_X1 w1) h (fun K h => s_X1_runEdge hG w1 h) (fun r33 h => ?_)
      refine cV_Vw [vI r33] [] dX7_putRuns_36 yv_X7_putNumber ml_X7_55 (r := (RX7, TX7, 2)) rfl rfl (Nat.le_of_ble_eq_true rfl) rfl (Nat.le_of_ble_eq_true rfl) (Nat.le_of_ble_eq_true rfl) (Nat.le_of_ble_eq_true rfl) rfl h (fun K h => s_X7_putNumber hG h) (fun D36 h => ?_)
      refine p_aload_n dX7_putRuns_39 rfl ?_
      refine p_ldcS (i := 11) hG dX7_putRuns_40 (by decide) rfl rfl ?_
      refine cV_Vw [vS g 11] [] dX7_putRuns_42 yv_X7_putText ml_X7_38 (r := (RX7, TX7, 2)) rfl rfl (Nat.le_of_ble_eq_true rfl) rfl (Nat.le_of_ble_eq_true rfl) (Nat.le_of_ble_eq_true rfl) (Nat.le_of_ble_eq_true rfl) rfl h (fun K h => s_X7_putText hG (by decide) h) (fun D42 h => ?_)
      refine p_aload_n dX7_putRuns_45 rfl ?_
      refine p_aload_n dX7_putRuns_46 rfl ?_
      refine p_iload_n dX7_putRuns_47 rfl ?_
      refine p_iload_n dX7_putRuns_48 rfl ?_
      refine p_iload dX7_putRuns_49 rfl ?_
      refine p_iconst dX7_putRuns_51 ?_
      refine cV_Ir [vI v2, vI v3, vI s.1, vI 1] [vR g 65] dX7_putRuns_52 yv_X1_runEdge ml_X7_64 (r := (RX1, TX1, 11)) rfl rfl (Nat.le_of_ble_eq_true rfl) rfl (Nat.le_of_ble_eq_true rfl) (Nat.le_of_ble_eq_true rfl) (Nat.le_of_ble_eq_true rfl) (wc_X1 w1) h (fun K h => s_X1_runEdge hG w1 h) (fun r52 h => ?_)
      refine cV_Vw [vI r52] [] dX7_putRuns_55 yv_X7_putNumber ml_X7_55 (r := (RX7, TX7, 2)) rfl rfl (Nat.le_of_ble_eq_true rfl) rfl (Nat.le_of_ble_eq_true rfl) (Nat.le_of_ble_eq_true rfl) (Nat.le_of_ble_eq_true rfl) rfl h (fun K h => s_X7_putNumber hG h) (fun D55 h => ?_)
      refine p_iinc dX7_putRuns_58 rfl (Nat.le_of_ble_eq_true rfl) rfl ?_
      refine p_goto (tgt := 3) dX7_putRuns_61 (by decide) ?_
      exact p_weak (leL.same (leL.same (leL.same (leL.same (leL.same (leL.same leL.nil)))))) (kl_inl (P := (P_X7_putRuns_3 l g n K h1 v2 v3 v4)) h)
set_option maxRecDepth 100000 in
set_option maxHeartbeats 4000000 in
theorem x_X7_putRuns {l : Launch} {g : GH} (hG : G0 l g) {n : Nat} {h1 : Nat} {v2 : Int} {v3 : Int} {v4 : Int} (w1 : WX1 h1) {D : DT} {K : DT → Prop} (h : ok (m_X7_putRuns h1 v2 v3 v4 D) K) : Px (E_X7_putRuns l g (PVw n K)) 0 [some (vR g 65), some (vR g h1), some (vI v2), some (vI v3), some (vI v4), none] [] (LF n) D 0 0 := by
  refine p_iconst dX7_putRuns_0 ?_
  refine p_istore dX7_putRuns_1 (Nat.le_of_ble_eq_true rfl) rfl ?_
  exact p_weak (leL.same (leL.same (leL.same (leL.same (leL.same (leL.same leL.nil)))))) (x_X7_putRuns_3 hG w1 h)
theorem s_X7_putRuns {l : Launch} {g : GH} (hG : G0 l g) {n : Nat} {h1 : Nat} {v2 : Int} {v3 : Int} {v4 : Int} (w1 : WX1 h1) {D : DT} {K : DT → Prop} (h : ok (m_X7_putRuns h1 v2 v3 v4 D) K) : Sat l g yX7_putRuns cX7_putRuns 6 none 7 0 0 [vR g 65, vR g h1, vI v2, vI v3, vI v4] (LF n) D (PVw n K) := Sat.of hG (by decide) (Nat.le_of_ble_eq_true rfl) (by simp [Value.category]) (x_X7_putRuns hG w1 h)
abbrev E_X7_writeZone (l : Launch) (g : GH) (P : PT) : ENV := mkE l g yX7_writeZone cX7_writeZone 5 none [] 8 0 0 P
abbrev P_X7_writeZone_7 (l : Launch) (g : GH) (n : Nat) (K : DT → Prop) (h1 : Nat) (v2 : Int) : (Int × DT) → Prop := fun s => Px (E_X7_writeZone l g (PVw n K)) 7 [some (vR g 65), some (vR g h1), some (vI v2), some (vI s.1), none] [] (LF n) s.2 0 0
set_option maxRecDepth 100000 in
set_option maxHeartbeats 4000000 in
theorem x_X7_writeZone_7 {l : Launch} {g : GH} (hG : G0 l g) {n : Nat} {h1 : Nat} {v2 : Int} (w1 : WX1 h1) {K : DT → Prop} {s : (Int × DT)} (h : ok (m_X7_writeZone_7 h1 v2 s) K) : Px (E_X7_writeZone l g (PVw n K)) 7 [some (vR g 65), some (vR g h1), some (vI v2), some (vI s.1), none] [] (LF n) s.2 0 0 := by
  refine ok_loop (P := (P_X7_writeZone_7 l g n K h1 v2)) (fun s h => ?_) h
  refine p_iload_n dX7_writeZone_7 rfl ?_
  refine p_aload_n dX7_writeZone_8 rfl ?_
  refine p_geti dX7_writeZone_9 fl_X7_19 (fun _ _ _ => rfl) (wc_X1 w1) ?_
  refine q_icmp_ge (tgt := 50) dX7_writeZone_12 (by decide) h (fun h => ?_) (fun h => ?_)
  · have h := kl_inr h
    exact p_return dX7_writeZone_50 (Nat.le_of_ble_eq_true rfl) (Nat.le_of_ble_eq_true rfl) ⟨rfl, rfl, ok_some h⟩
  · refine p_aload_n dX7_writeZone_15 rfl ?_
    refine p_iload_n dX7_writeZone_16 rfl ?_
    refine p_iload_n dX7_writeZone_17 rfl ?_
    refine cV_Ir [vI v2, vI s.1] [] dX7_writeZone_18 yv_X1_runsOf ml_X7_24 (r := (RX1, TX1, 11)) rfl rfl (Nat.le_of_ble_eq_true rfl) rfl (Nat.le_of_ble_eq_true rfl) (Nat.le_of_ble_eq_true rfl) (Nat.le_of_ble_eq_true rfl) (wc_X1 w1) h (fun K h => s_X1_runsOf hG w1 h) (fun r18 h => ?_)
    refine p_istore dX7_writeZone_21 (Nat.le_of_ble_eq_true rfl) rfl ?_
    refine p_iload dX7_writeZone_23 rfl ?_
    refine q_if_le (tgt := 44) dX7_writeZone_25 (by decide) h (fun h => ?_) (fun h => ?_)
    · refine p_iinc dX7_writeZone_44 rfl (Nat.le_of_ble_eq_true rfl) rfl ?_
      refine p_goto (tgt := 7) dX7_writeZone_47 (by decide) ?_
      exact p_weak (leL.same (leL.same (leL.same (leL.same (leL.drop leL.nil))))) (kl_inl (P := (P_X7_writeZone_7 l g n K h1 v2)) h)
    · refine p_aload_n dX7_writeZone_28 rfl ?_
      refine p_aload_n dX7_writeZone_29 rfl ?_
      refine p_iload_n dX7_writeZone_30 rfl ?_
      refine p_iload_n dX7_writeZone_31 rfl ?_
      refine cV_Vw [vR g h1, vI v2, vI s.1] [] dX7_writeZone_32 yv_X7_putHead ml_X7_28 (r := (RX7, TX7, 2)) rfl rfl (Nat.le_of_ble_eq_true rfl) rfl (Nat.le_of_ble_eq_true rfl) (Nat.le_of_ble_eq_true rfl) (Nat.le_of_ble_eq_true rfl) rfl h (fun K h => s_X7_putHead hG w1 h) (fun D32 h => ?_)
      refine p_aload_n dX7_writeZone_35 rfl ?_
      refine p_aload_n dX7_writeZone_36 rfl ?_
      refine p_iload_n dX7_writeZone_37 rfl ?_
      refine p_iload_n dX7_writeZone_38 rfl ?_
      refine p_iload dX7_writeZone_39 rfl ?_
      refine cV_Vw [vR g h1, vI v2, vI s.1, vI r18] [] dX7_writeZone_41 yv_X7_putRuns ml_X7_32 (r := (RX7, TX7, 2)) rfl rfl (Nat.le_of_ble_eq_true rfl) rfl (Nat.le_of_ble_eq_true rfl) (Nat.le_of_ble_eq_true rfl) (Nat.le_of_ble_eq_true rfl) rfl h (fun K h => s_X7_putRuns hG w1 h) (fun D41 h => ?_)
      refine p_iinc dX7_writeZone_44 rfl (Nat.le_of_ble_eq_true rfl) rfl ?_
      refine p_goto (tgt := 7) dX7_writeZone_47 (by decide) ?_
      exact p_weak (leL.same (leL.same (leL.same (leL.same (leL.drop leL.nil))))) (kl_inl (P := (P_X7_writeZone_7 l g n K h1 v2)) h)
set_option maxRecDepth 100000 in
set_option maxHeartbeats 4000000 in
theorem x_X7_writeZone {l : Launch} {g : GH} (hG : G0 l g) {n : Nat} {h1 : Nat} {v2 : Int} (w1 : WX1 h1) {D : DT} {K : DT → Prop} (h : ok (m_X7_writeZone h1 v2 D) K) : Px (E_X7_writeZone l g (PVw n K)) 0 [some (vR g 65), some (vR g h1), some (vI v2), none, none] [] (LF n) D 0 0 := by
  refine p_aload_n dX7_writeZone_0 rfl ?_
  refine p_iconst dX7_writeZone_1 ?_
  refine q_puti dX7_writeZone_2 fq_X7_9 rfl rfl h (fun D2 h => ?_)
  refine p_iconst dX7_writeZone_5 ?_
  refine p_istore_n dX7_writeZone_6 (Nat.le_of_ble_eq_true rfl) rfl ?_
  exact p_weak (leL.same (leL.same (leL.same (leL.same (leL.drop leL.nil))))) (x_X7_writeZone_7 hG w1 h)
theorem s_X7_writeZone {l : Launch} {g : GH} (hG : G0 l g) {n : Nat} {h1 : Nat} {v2 : Int} (w1 : WX1 h1) {D : DT} {K : DT → Prop} (h : ok (m_X7_writeZone h1 v2 D) K) : Sat l g yX7_writeZone cX7_writeZone 5 none 8 0 0 [vR g 65, vR g h1, vI v2] (LF n) D (PVw n K) := Sat.of hG (by decide) (Nat.le_of_ble_eq_true rfl) (by simp [Value.category]) (x_X7_writeZone hG w1 h)
abbrev E_X8_broughtTo (l : Launch) (g : GH) (P : PT) : ENV := mkE l g yX8_broughtTo cX8_broughtTo 4 (some .int) [] 1 0 0 P
set_option maxRecDepth 100000 in
set_option maxHeartbeats 4000000 in
theorem x_X8_broughtTo {l : Launch} {g : GH} (hG : G0 l g) {n : Nat} {h0 : Nat} {v1 : Int} {v2 : Int} {v3 : Int} (w0 : WX8 h0) {D : DT} {K : Int → Prop} (h : ok (m_X8_broughtTo h0 v1 v2 v3 D) K) : Px (E_X8_broughtTo l g (PIr n D K)) 0 [some (vR g h0), some (vI v1), some (vI v2), some (vI v3)] [] (LF n) D 0 0 := by
  refine p_aload_n dX8_broughtTo_0 rfl ?_
  refine p_getr dX8_broughtTo_1 fl_X8_29 (fun _ _ _ => rfl) (wc_X8 w0) (wf_X8_5 w0) ?_
  refine p_iload_n dX8_broughtTo_4 rfl ?_
  refine p_iload_n dX8_broughtTo_5 rfl ?_
  refine p_iload_n dX8_broughtTo_6 rfl ?_
  refine cS_Ir [vI v1, vI v2, vI v3] [vR g (h0 + 3)] dX8_broughtTo_7 ys_X8_placeOf ml_X8_64 (Nat.le_of_ble_eq_true rfl) rfl (Nat.le_of_ble_eq_true rfl) (Nat.le_of_ble_eq_true rfl) (Nat.le_of_ble_eq_true rfl) h (fun K h => s_X8_placeOf hG h) (fun r7 h => ?_)
  refine q_iald dX8_broughtTo_10 (wa_X8_5 w0) rfl h (fun h => ?_)
  exact p_ireturn dX8_broughtTo_11 (Nat.le_of_ble_eq_true rfl) (Nat.le_of_ble_eq_true rfl) ⟨_, rfl, rfl, rfl, ok_some h⟩
theorem s_X8_broughtTo {l : Launch} {g : GH} (hG : G0 l g) {n : Nat} {h0 : Nat} {v1 : Int} {v2 : Int} {v3 : Int} (w0 : WX8 h0) {D : DT} {K : Int → Prop} (h : ok (m_X8_broughtTo h0 v1 v2 v3 D) K) : Sat l g yX8_broughtTo cX8_broughtTo 4 (some .int) 1 0 0 [vR g h0, vI v1, vI v2, vI v3] (LF n) D (PIr n D K) := Sat.of hG (by decide) (Nat.le_of_ble_eq_true rfl) (by simp [Value.category]) (x_X8_broughtTo hG w0 h)
abbrev E_X8_restOf (l : Launch) (g : GH) (P : PT) : ENV := mkE l g yX8_restOf cX8_restOf 3 (some .int) [] 0 0 0 P
set_option maxRecDepth 100000 in
set_option maxHeartbeats 4000000 in
theorem x_X8_restOf {l : Launch} {g : GH} (hG : G0 l g) {n : Nat} {h0 : Nat} {v1 : Int} {v2 : Int} (w0 : WX8 h0) {D : DT} {K : Int → Prop} (h : ok (m_X8_restOf h0 v1 v2 D) K) : Px (E_X8_restOf l g (PIr n D K)) 0 [some (vR g h0), some (vI v1), some (vI v2)] [] (LF n) D 0 0 := by
  refine p_aload_n dX8_restOf_0 rfl ?_
  refine p_getr dX8_restOf_1 fl_X8_32 (fun _ _ _ => rfl) (wc_X8 w0) (wf_X8_6 w0) ?_
  refine p_iload_n dX8_restOf_4 rfl ?_
  refine p_iconst dX8_restOf_5 ?_
  refine p_imul dX8_restOf_6 ?_
  refine p_iload_n dX8_restOf_7 rfl ?_
  refine p_iadd dX8_restOf_8 ?_
  refine q_iald dX8_restOf_9 (wa_X8_6 w0) rfl h (fun h => ?_)
  exact p_ireturn dX8_restOf_10 (Nat.le_of_ble_eq_true rfl) (Nat.le_of_ble_eq_true rfl) ⟨_, rfl, rfl, rfl, ok_some h⟩
theorem s_X8_restOf {l : Launch} {g : GH} (hG : G0 l g) {n : Nat} {h0 : Nat} {v1 : Int} {v2 : Int} (w0 : WX8 h0) {D : DT} {K : Int → Prop} (h : ok (m_X8_restOf h0 v1 v2 D) K) : Sat l g yX8_restOf cX8_restOf 3 (some .int) 0 0 0 [vR g h0, vI v1, vI v2] (LF n) D (PIr n D K) := Sat.of hG (by decide) (Nat.le_of_ble_eq_true rfl) (by simp [Value.category]) (x_X8_restOf hG w0 h)
abbrev E_X8_sumOfGroup (l : Launch) (g : GH) (P : PT) : ENV := mkE l g yX8_sumOfGroup cX8_sumOfGroup 5 (some .int) [] 2 0 0 P
abbrev P_X8_sumOfGroup_5 (l : Launch) (g : GH) (n : Nat) (K : Int → Prop) (h0 : Nat) (v1 : Int) (v2 : Int) (D : DT) : (Int × Int) → Prop := fun s => Px (E_X8_sumOfGroup l g (PIr n D K)) 5 [some (vR g h0), some (vI v1), some (vI v2), some (vI s.1), some (vI s.2)] [] (LF n) D 0 0
set_option maxRecDepth 100000 in
set_option maxHeartbeats 4000000 in
theorem x_X8_sumOfGroup_5 {l : Launch} {g : GH} (hG : G0 l g) {n : Nat} {h0 : Nat} {v1 v2 : Int} (w0 : WX8 h0) {D : DT} {K : Int → Prop} {s : (Int × Int)} (h : ok (m_X8_sumOfGroup_5 h0 v1 v2 D s) K) : Px (E_X8_sumOfGroup l g (PIr n D K)) 5 [some (vR g h0), some (vI v1), some (vI v2), some (vI s.1), some (vI s.2)] [] (LF n) D 0 0 := by
  refine ok_loop (P := (P_X8_sumOfGroup_5 l g n K h0 v1 v2 D)) (fun s h => ?_) h
  refine p_iload dX8_sumOfGroup_5 rfl ?_
  refine p_aload_n dX8_sumOfGroup_7 rfl ?_
  refine p_geti dX8_sumOfGroup_8 fl_X8_19 (fun _ _ _ => rfl) (wc_X8 w0) ?_
  refine q_icmp_ge (tgt := 31) dX8_sumOfGroup_11 (by decide) h (fun h => ?_) (fun h => ?_)
  · have h := kl_inr h
    refine p_iload_n dX8_sumOfGroup_31 rfl ?_
    exact p_ireturn dX8_sumOfGroup_32 (Nat.le_of_ble_eq_true rfl) (Nat.le_of_ble_eq_true rfl) ⟨_, rfl, rfl, rfl, ok_some h⟩
  · refine p_iload_n dX8_sumOfGroup_14 rfl ?_
    refine p_aload_n dX8_sumOfGroup_15 rfl ?_
    refine p_iload dX8_sumOfGroup_16 rfl ?_
    refine p_iload_n dX8_sumOfGroup_18 rfl ?_
    refine p_iload_n dX8_sumOfGroup_19 rfl ?_
    refine cV_Ir [vI s.2, vI v1, vI v2] [vI s.1] dX8_sumOfGroup_20 yv_X8_dotsOf ml_X8_72 (r := (RX8, TX8, 7)) rfl rfl (Nat.le_of_ble_eq_true rfl) rfl (Nat.le_of_ble_eq_true rfl) (Nat.le_of_ble_eq_true rfl) (Nat.le_of_ble_eq_true rfl) (wc_X8 w0) h (fun K h => s_X8_dotsOf hG w0 h) (fun r20 h => ?_)
    refine p_iadd dX8_sumOfGroup_23 ?_
    refine p_istore_n dX8_sumOfGroup_24 (Nat.le_of_ble_eq_true rfl) rfl ?_
    refine p_iinc dX8_sumOfGroup_25 rfl (Nat.le_of_ble_eq_true rfl) rfl ?_
    refine p_goto (tgt := 5) dX8_sumOfGroup_28 (by decide) ?_
    exact p_weak (leL.same (leL.same (leL.same (leL.same (leL.same leL.nil))))) (kl_inl (P := (P_X8_sumOfGroup_5 l g n K h0 v1 v2 D)) h)
set_option maxRecDepth 100000 in
set_option maxHeartbeats 4000000 in
theorem x_X8_sumOfGroup {l : Launch} {g : GH} (hG : G0 l g) {n : Nat} {h0 : Nat} {v1 : Int} {v2 : Int} (w0 : WX8 h0) {D : DT} {K : Int → Prop} (h : ok (m_X8_sumOfGroup h0 v1 v2 D) K) : Px (E_X8_sumOfGroup l g (PIr n D K)) 0 [some (vR g h0), some (vI v1), some (vI v2), none, none] [] (LF n) D 0 0 := by
  refine p_iconst dX8_sumOfGroup_0 ?_
  refine p_istore_n dX8_sumOfGroup_1 (Nat.le_of_ble_eq_true rfl) rfl ?_
  refine p_iconst dX8_sumOfGroup_2 ?_
  refine p_istore dX8_sumOfGroup_3 (Nat.le_of_ble_eq_true rfl) rfl ?_
  exact p_weak (leL.same (leL.same (leL.same (leL.same (leL.same leL.nil))))) (x_X8_sumOfGroup_5 hG w0 h)
theorem s_X8_sumOfGroup {l : Launch} {g : GH} (hG : G0 l g) {n : Nat} {h0 : Nat} {v1 : Int} {v2 : Int} (w0 : WX8 h0) {D : DT} {K : Int → Prop} (h : ok (m_X8_sumOfGroup h0 v1 v2 D) K) : Sat l g yX8_sumOfGroup cX8_sumOfGroup 5 (some .int) 2 0 0 [vR g h0, vI v1, vI v2] (LF n) D (PIr n D K) := Sat.of hG (by decide) (Nat.le_of_ble_eq_true rfl) (by simp [Value.category]) (x_X8_sumOfGroup hG w0 h)
abbrev E_X8_sumOfLevel (l : Launch) (g : GH) (P : PT) : ENV := mkE l g yX8_sumOfLevel cX8_sumOfLevel 4 (some .int) [] 3 0 0 P
abbrev P_X8_sumOfLevel_4 (l : Launch) (g : GH) (n : Nat) (K : Int → Prop) (h0 : Nat) (v1 : Int) (D : DT) : (Int × Int) → Prop := fun s => Px (E_X8_sumOfLevel l g (PIr n D K)) 4 [some (vR g h0), some (vI v1), some (vI s.1), some (vI s.2)] [] (LF n) D 0 0
set_option maxRecDepth 100000 in
set_option maxHeartbeats 4000000 in
theorem x_X8_sumOfLevel_4 {l : Launch} {g : GH} (hG : G0 l g) {n : Nat} {h0 : Nat} {v1 : Int} (w0 : WX8 h0) {D : DT} {K : Int → Prop} {s : (Int × Int)} (h : ok (m_X8_sumOfLevel_4 h0 v1 D s) K) : Px (E_X8_sumOfLevel l g (PIr n D K)) 4 [some (vR g h0), some (vI v1), some (vI s.1), some (vI s.2)] [] (LF n) D 0 0 := by
  refine ok_loop (P := (P_X8_sumOfLevel_4 l g n K h0 v1 D)) (fun s h => ?_) h
  refine p_iload_n dX8_sumOfLevel_4 rfl ?_
  refine p_aload_n dX8_sumOfLevel_5 rfl ?_
  refine p_geti dX8_sumOfLevel_6 fl_X8_23 (fun _ _ _ => rfl) (wc_X8 w0) ?_
  refine q_icmp_ge (tgt := 27) dX8_sumOfLevel_9 (by decide) h (fun h => ?_) (fun h => ?_)
  · have h := kl_inr h
    refine p_iload_n dX8_sumOfLevel_27 rfl ?_
    exact p_ireturn dX8_sumOfLevel_28 (Nat.le_of_ble_eq_true rfl) (Nat.le_of_ble_eq_true rfl) ⟨_, rfl, rfl, rfl, ok_some h⟩
  · refine p_iload_n dX8_sumOfLevel_12 rfl ?_
    refine p_aload_n dX8_sumOfLevel_13 rfl ?_
    refine p_iload_n dX8_sumOfLevel_14 rfl ?_
    refine p_iload_n dX8_sumOfLevel_15 rfl ?_
    refine cV_Ir [vI s.2, vI v1] [vI s.1] dX8_sumOfLevel_16 yv_X8_sumOfGroup ml_X8_75 (r := (RX8, TX8, 7)) rfl rfl (Nat.le_of_ble_eq_true rfl) rfl (Nat.le_of_ble_eq_true rfl) (Nat.le_of_ble_eq_true rfl) (Nat.le_of_ble_eq_true rfl) (wc_X8 w0) h (fun K h => s_X8_sumOfGroup hG w0 h) (fun r16 h => ?_)
    refine p_iadd dX8_sumOfLevel_19 ?_
    refine p_istore_n dX8_sumOfLevel_20 (Nat.le_of_ble_eq_true rfl) rfl ?_
    refine p_iinc dX8_sumOfLevel_21 rfl (Nat.le_of_ble_eq_true rfl) rfl ?_
    refine p_goto (tgt := 4) dX8_sumOfLevel_24 (by decide) ?_
    exact p_weak (leL.same (leL.same (leL.same (leL.same leL.nil)))) (kl_inl (P := (P_X8_sumOfLevel_4 l g n K h0 v1 D)) h)
set_option maxRecDepth 100000 in
set_option maxHeartbeats 4000000 in
theorem x_X8_sumOfLevel {l : Launch} {g : GH} (hG : G0 l g) {n : Nat} {h0 : Nat} {v1 : Int} (w0 : WX8 h0) {D : DT} {K : Int → Prop} (h : ok (m_X8_sumOfLevel h0 v1 D) K) : Px (E_X8_sumOfLevel l g (PIr n D K)) 0 [some (vR g h0), some (vI v1), none, none] [] (LF n) D 0 0 := by
  refine p_iconst dX8_sumOfLevel_0 ?_
  refine p_istore_n dX8_sumOfLevel_1 (Nat.le_of_ble_eq_true rfl) rfl ?_
  refine p_iconst dX8_sumOfLevel_2 ?_
  refine p_istore_n dX8_sumOfLevel_3 (Nat.le_of_ble_eq_true rfl) rfl ?_
  exact p_weak (leL.same (leL.same (leL.same (leL.same leL.nil)))) (x_X8_sumOfLevel_4 hG w0 h)
theorem s_X8_sumOfLevel {l : Launch} {g : GH} (hG : G0 l g) {n : Nat} {h0 : Nat} {v1 : Int} (w0 : WX8 h0) {D : DT} {K : Int → Prop} (h : ok (m_X8_sumOfLevel h0 v1 D) K) : Sat l g yX8_sumOfLevel cX8_sumOfLevel 4 (some .int) 3 0 0 [vR g h0, vI v1] (LF n) D (PIr n D K) := Sat.of hG (by decide) (Nat.le_of_ble_eq_true rfl) (by simp [Value.category]) (x_X8_sumOfLevel hG w0 h)
abbrev E_X8_sumOfZone (l : Launch) (g : GH) (P : PT) : ENV := mkE l g yX8_sumOfZone cX8_sumOfZone 5 (some .int) [] 2 0 0 P
abbrev P_X8_sumOfZone_5 (l : Launch) (g : GH) (n : Nat) (K : Int → Prop) (h0 : Nat) (v1 : Int) (v2 : Int) (D : DT) : (Int × Int) → Prop := fun s => Px (E_X8_sumOfZone l g (PIr n D K)) 5 [some (vR g h0), some (vI v1), some (vI v2), some (vI s.1), some (vI s.2)] [] (LF n) D 0 0
set_option maxRecDepth 100000 in
set_option maxHeartbeats 4000000 in
theorem x_X8_sumOfZone_5 {l : Launch} {g : GH} (hG : G0 l g) {n : Nat} {h0 : Nat} {v1 v2 : Int} (w0 : WX8 h0) {D : DT} {K : Int → Prop} {s : (Int × Int)} (h : ok (m_X8_sumOfZone_5 h0 v1 v2 D s) K) : Px (E_X8_sumOfZone l g (PIr n D K)) 5 [some (vR g h0), some (vI v1), some (vI v2), some (vI s.1), some (vI s.2)] [] (LF n) D 0 0 := by
  refine ok_loop (P := (P_X8_sumOfZone_5 l g n K h0 v1 v2 D)) (fun s h => ?_) h
  refine p_iload dX8_sumOfZone_5 rfl ?_
  refine p_aload_n dX8_sumOfZone_7 rfl ?_
  refine p_geti dX8_sumOfZone_8 fl_X8_23 (fun _ _ _ => rfl) (wc_X8 w0) ?_
  refine q_icmp_ge (tgt := 31) dX8_sumOfZone_11 (by decide) h (fun h => ?_) (fun h => ?_)
  · have h := kl_inr h
    refine p_iload_n dX8_sumOfZone_31 rfl ?_
    exact p_ireturn dX8_sumOfZone_32 (Nat.le_of_ble_eq_true rfl) (Nat.le_of_ble_eq_true rfl) ⟨_, rfl, rfl, rfl, ok_some h⟩
  · refine p_iload_n dX8_sumOfZone_14 rfl ?_
    refine p_aload_n dX8_sumOfZone_15 rfl ?_
    refine p_iload_n dX8_sumOfZone_16 rfl ?_
    refine p_iload dX8_sumOfZone_17 rfl ?_
    refine p_iload_n dX8_sumOfZone_19 rfl ?_
    refine cV_Ir [vI v1, vI s.2, vI v2] [vI s.1] dX8_sumOfZone_20 yv_X8_dotsOf ml_X8_72 (r := (RX8, TX8, 7)) rfl rfl (Nat.le_of_ble_eq_true rfl) rfl (Nat.le_of_ble_eq_true rfl) (Nat.le_of_ble_eq_true rfl) (Nat.le_of_ble_eq_true rfl) (wc_X8 w0) h (fun K h => s_X8_dotsOf hG w0 h) (fun r20 h => ?_)
    refine p_iadd dX8_sumOfZone_23 ?_
    refine p_istore_n dX8_sumOfZone_24 (Nat.le_of_ble_eq_true rfl) rfl ?_
    refine p_iinc dX8_sumOfZone_25 rfl (Nat.le_of_ble_eq_true rfl) rfl ?_
    refine p_goto (tgt := 5) dX8_sumOfZone_28 (by decide) ?_
    exact p_weak (leL.same (leL.same (leL.same (leL.same (leL.same leL.nil))))) (kl_inl (P := (P_X8_sumOfZone_5 l g n K h0 v1 v2 D)) h)
set_option maxRecDepth 100000 in
set_option maxHeartbeats 4000000 in
theorem x_X8_sumOfZone {l : Launch} {g : GH} (hG : G0 l g) {n : Nat} {h0 : Nat} {v1 : Int} {v2 : Int} (w0 : WX8 h0) {D : DT} {K : Int → Prop} (h : ok (m_X8_sumOfZone h0 v1 v2 D) K) : Px (E_X8_sumOfZone l g (PIr n D K)) 0 [some (vR g h0), some (vI v1), some (vI v2), none, none] [] (LF n) D 0 0 := by
  refine p_iconst dX8_sumOfZone_0 ?_
  refine p_istore_n dX8_sumOfZone_1 (Nat.le_of_ble_eq_true rfl) rfl ?_
  refine p_iconst dX8_sumOfZone_2 ?_
  refine p_istore dX8_sumOfZone_3 (Nat.le_of_ble_eq_true rfl) rfl ?_
  exact p_weak (leL.same (leL.same (leL.same (leL.same (leL.same leL.nil))))) (x_X8_sumOfZone_5 hG w0 h)
theorem s_X8_sumOfZone {l : Launch} {g : GH} (hG : G0 l g) {n : Nat} {h0 : Nat} {v1 : Int} {v2 : Int} (w0 : WX8 h0) {D : DT} {K : Int → Prop} (h : ok (m_X8_sumOfZone h0 v1 v2 D) K) : Sat l g yX8_sumOfZone cX8_sumOfZone 5 (some .int) 2 0 0 [vR g h0, vI v1, vI v2] (LF n) D (PIr n D K) := Sat.of hG (by decide) (Nat.le_of_ble_eq_true rfl) (by simp [Value.category]) (x_X8_sumOfZone hG w0 h)
abbrev E_X8_sumWithUnit (l : Launch) (g : GH) (P : PT) : ENV := mkE l g yX8_sumWithUnit cX8_sumWithUnit 7 (some .int) [] 1 0 0 P
abbrev P_X8_sumWithUnit_5 (l : Launch) (g : GH) (n : Nat) (K : Int → Prop) (h0 : Nat) (h1 : Nat) (v2 : Int) (D : DT) : (Int × Int) → Prop := fun s => Px (E_X8_sumWithUnit l g (PIr n D K)) 5 [some (vR g h0), some (vR g h1), some (vI v2), some (vI s.1), some (vI s.2), none, none] [] (LF n) D 0 0
abbrev P_X8_sumWithUnit_24 (l : Launch) (g : GH) (n : Nat) (K : Int → Prop) (h0 : Nat) (h1 : Nat) (v2 : Int) (v4 : Int) (D : DT) : (Int × Int × Int) → Prop := fun s => Px (E_X8_sumWithUnit l g (PIr n D K)) 24 [some (vR g h0), some (vR g h1), some (vI v2), some (vI s.1), some (vI v4), some (vI s.2.1), some (vI s.2.2)] [] (LF n) D 0 0
set_option maxRecDepth 100000 in
set_option maxHeartbeats 4000000 in
theorem x_X8_sumWithUnit_24 {l : Launch} {g : GH} (hG : G0 l g) {n : Nat} {h0 h1 : Nat} {v2 v4 : Int} (w0 : WX8 h0) (w1 : WX1 h1) {D : DT} {K : Int → Prop} {s : (Int × Int × Int)} (h : ok (m_X8_sumWithUnit_24 h0 h1 v2 v4 D s) (KL (P_X8_sumWithUnit_5 l g n K h0 h1 v2 D) K)) : Px (E_X8_sumWithUnit l g (PIr n D K)) 24 [some (vR g h0), some (vR g h1), some (vI v2), some (vI s.1), some (vI v4), some (vI s.2.1), some (vI s.2.2)] [] (LF n) D 0 0 := by
  refine ok_loop (P := (P_X8_sumWithUnit_24 l g n K h0 h1 v2 v4 D)) (fun s h => ?_) h
  refine p_iload dX8_sumWithUnit_24 rfl ?_
  refine p_aload_n dX8_sumWithUnit_26 rfl ?_
  refine p_geti dX8_sumWithUnit_27 fl_X8_19 (fun _ _ _ => rfl) (wc_X8 w0) ?_
  refine q_icmp_ge (tgt := 75) dX8_sumWithUnit_30 (by decide) h (fun h => ?_) (fun h => ?_)
  · have h := kl_inr h
    refine p_iinc dX8_sumWithUnit_75 rfl (Nat.le_of_ble_eq_true rfl) rfl ?_
    refine p_goto (tgt := 5) dX8_sumWithUnit_78 (by decide) ?_
    exact p_weak (leL.same (leL.same (leL.same (leL.same (leL.same (leL.drop (leL.drop leL.nil))))))) (kl_inl (P := (P_X8_sumWithUnit_5 l g n K h0 h1 v2 D)) h)
  · refine p_iload dX8_sumWithUnit_33 rfl ?_
    refine p_aload_n dX8_sumWithUnit_35 rfl ?_
    refine p_iload dX8_sumWithUnit_36 rfl ?_
    refine p_iload dX8_sumWithUnit_38 rfl ?_
    refine cV_Ir [vI s.2.2, vI v4] [vI s.2.1] dX8_sumWithUnit_40 yv_X1_livingIn ml_X8_68 (r := (RX1, TX1, 11)) rfl rfl (Nat.le_of_ble_eq_true rfl) rfl (Nat.le_of_ble_eq_true rfl) (Nat.le_of_ble_eq_true rfl) (Nat.le_of_ble_eq_true rfl) (wc_X1 w1) h (fun K h => s_X1_livingIn hG w1 h) (fun r40 h => ?_)
    refine p_iadd dX8_sumWithUnit_43 ?_
    refine p_istore dX8_sumWithUnit_44 (Nat.le_of_ble_eq_true rfl) rfl ?_
    refine p_aload_n dX8_sumWithUnit_46 rfl ?_
    refine p_getr dX8_sumWithUnit_47 fl_X8_15 (fun _ _ _ => rfl) (wc_X8 w0) (wf_X8_1 w0) ?_
    refine p_iload dX8_sumWithUnit_50 rfl ?_
    refine q_iald dX8_sumWithUnit_52 (wa_X8_1 w0) rfl h (fun h => ?_)
    refine q_if_le (tgt := 69) dX8_sumWithUnit_53 (by decide) h (fun h => ?_) (fun h => ?_)
    · refine p_iinc dX8_sumWithUnit_69 rfl (Nat.le_of_ble_eq_true rfl) rfl ?_
      refine p_goto (tgt := 24) dX8_sumWithUnit_72 (by decide) ?_
      exact p_weak (leL.same (leL.same (leL.same (leL.same (leL.same (leL.same (leL.same leL.nil))))))) (kl_inl (P := (P_X8_sumWithUnit_24 l g n K h0 h1 v2 v4 D)) h)
    · refine p_iload_n dX8_sumWithUnit_56 rfl ?_
      refine p_iload dX8_sumWithUnit_57 rfl ?_
      refine p_iload_n dX8_sumWithUnit_59 rfl ?_
      refine q_idiv dX8_sumWithUnit_60 h (fun h => ?_)
      refine p_iadd dX8_sumWithUnit_61 ?_
      refine p_istore_n dX8_sumWithUnit_62 (Nat.le_of_ble_eq_true rfl) rfl ?_
      refine p_iload dX8_sumWithUnit_63 rfl ?_
      refine p_iload_n dX8_sumWithUnit_65 rfl ?_
      refine q_irem dX8_sumWithUnit_66 h (fun h => ?_)
      refine p_istore dX8_sumWithUnit_67 (Nat.le_of_ble_eq_true rfl) rfl ?_
      refine p_iinc dX8_sumWithUnit_69 rfl (Nat.le_of_ble_eq_true rfl) rfl ?_
      refine p_goto (tgt := 24) dX8_sumWithUnit_72 (by decide) ?_
      exact p_weak (leL.same (leL.same (leL.same (leL.same (leL.same (leL.same (leL.same leL.nil))))))) (kl_inl (P := (P_X8_sumWithUnit_24 l g n K h0 h1 v2 v4 D)) h)
set_option maxRecDepth 100000 in
set_option maxHeartbeats 4000000 in
theorem x_X8_sumWithUnit_5 {l : Launch} {g : GH} (hG : G0 l g) {n : Nat} {h0 h1 : Nat} {v2 : Int} (w0 : WX8 h0) (w1 : WX1 h1) {D : DT} {K : Int → Prop} {s : (Int × Int)} (h : ok (m_X8_sumWithUnit_5 h0 h1 v2 D s) K) : Px (E_X8_sumWithUnit l g (PIr n D K)) 5 [some (vR g h0), some (vR g h1), some (vI v2), some (vI s.1), some (vI s.2), none, none] [] (LF n) D 0 0 := by
  refine ok_loop (P := (P_X8_sumWithUnit_5 l g n K h0 h1 v2 D)) (fun s h => ?_) h
  refine p_iload dX8_sumWithUnit_5 rfl ?_
  refine p_aload_n dX8_sumWithUnit_7 rfl ?_
  refine p_geti dX8_sumWithUnit_8 fl_X8_23 (fun _ _ _ => rfl) (wc_X8 w0) ?_
  refine q_icmp_ge (tgt := 81) dX8_sumWithUnit_11 (by decide) h (fun h => ?_) (fun h => ?_)
  · have h := kl_inr h
    refine p_iload_n dX8_sumWithUnit_81 rfl ?_
    exact p_ireturn dX8_sumWithUnit_82 (Nat.le_of_ble_eq_true rfl) (Nat.le_of_ble_eq_true rfl) ⟨_, rfl, rfl, rfl, ok_some h⟩
  · refine p_iload_n dX8_sumWithUnit_14 rfl ?_
    refine q_if_le (tgt := 81) dX8_sumWithUnit_15 (by decide) h (fun h => ?_) (fun h => ?_)
    · have h := kl_inr h
      refine p_iload_n dX8_sumWithUnit_81 rfl ?_
      exact p_ireturn dX8_sumWithUnit_82 (Nat.le_of_ble_eq_true rfl) (Nat.le_of_ble_eq_true rfl) ⟨_, rfl, rfl, rfl, ok_some h⟩
    · refine p_iconst dX8_sumWithUnit_18 ?_
      refine p_istore dX8_sumWithUnit_19 (Nat.le_of_ble_eq_true rfl) rfl ?_
      refine p_iconst dX8_sumWithUnit_21 ?_
      refine p_istore dX8_sumWithUnit_22 (Nat.le_of_ble_eq_true rfl) rfl ?_
      exact p_weak (leL.same (leL.same (leL.same (leL.same (leL.same (leL.same (leL.same leL.nil))))))) (x_X8_sumWithUnit_24 hG w0 w1 h)
set_option maxRecDepth 100000 in
set_option maxHeartbeats 4000000 in
theorem x_X8_sumWithUnit {l : Launch} {g : GH} (hG : G0 l g) {n : Nat} {h0 : Nat} {h1 : Nat} {v2 : Int} (w0 : WX8 h0) (w1 : WX1 h1) {D : DT} {K : Int → Prop} (h : ok (m_X8_sumWithUnit h0 h1 v2 D) K) : Px (E_X8_sumWithUnit l g (PIr n D K)) 0 [some (vR g h0), some (vR g h1), some (vI v2), none, none, none, none] [] (LF n) D 0 0 := by
  refine p_iconst dX8_sumWithUnit_0 ?_
  refine p_istore_n dX8_sumWithUnit_1 (Nat.le_of_ble_eq_true rfl) rfl ?_
  refine p_iconst dX8_sumWithUnit_2 ?_
  refine p_istore dX8_sumWithUnit_3 (Nat.le_of_ble_eq_true rfl) rfl ?_
  exact p_weak (leL.same (leL.same (leL.same (leL.same (leL.same (leL.drop (leL.drop leL.nil))))))) (x_X8_sumWithUnit_5 hG w0 w1 h)
theorem s_X8_sumWithUnit {l : Launch} {g : GH} (hG : G0 l g) {n : Nat} {h0 : Nat} {h1 : Nat} {v2 : Int} (w0 : WX8 h0) (w1 : WX1 h1) {D : DT} {K : Int → Prop} (h : ok (m_X8_sumWithUnit h0 h1 v2 D) K) : Sat l g yX8_sumWithUnit cX8_sumWithUnit 7 (some .int) 1 0 0 [vR g h0, vR g h1, vI v2] (LF n) D (PIr n D K) := Sat.of hG (by decide) (Nat.le_of_ble_eq_true rfl) (by simp [Value.category]) (x_X8_sumWithUnit hG w0 w1 h)
abbrev E_X9_takeBytes (l : Launch) (g : GH) (P : PT) : ENV := mkE l g yX9_takeBytes cX9_takeBytes 3 none [] 0 0 0 P
abbrev P_X9_takeBytes_3 (l : Launch) (g : GH) (n : Nat) (K : DT → Prop) (v1 : Int) : (Int × DT) → Prop := fun s => Px (E_X9_takeBytes l g (PVw n K)) 3 [some (vR g 55), some (vI v1), some (vI s.1)] [] (LF n) s.2 0 0
set_option maxRecDepth 100000 in
set_option maxHeartbeats 4000000 in
theorem x_X9_takeBytes_3 {l : Launch} {g : GH} (hG : G0 l g) {n : Nat} {v1 : Int} {K : DT → Prop} {s : (Int × DT)} (h : ok (m_X9_takeBytes_3 v1 s) K) : Px (E_X9_takeBytes l g (PVw n K)) 3 [some (vR g 55), some (vI v1), some (vI s.1)] [] (LF n) s.2 0 0 := by
  refine ok_loop (P := (P_X9_takeBytes_3 l g n K v1)) (fun s h => ?_) h
  refine p_iload_n dX9_takeBytes_3 rfl ?_
  refine q_if_lt (tgt := 46) dX9_takeBytes_4 (by decide) h (fun h => ?_) (fun h => ?_)
  · have h := kl_inr h
    exact p_return dX9_takeBytes_46 (Nat.le_of_ble_eq_true rfl) (Nat.le_of_ble_eq_true rfl) ⟨rfl, rfl, ok_some h⟩
  · refine p_aload_n dX9_takeBytes_7 rfl ?_
    refine p_geti dX9_takeBytes_8 fl_X9_9 (fun _ _ _ => rfl) rfl ?_
    refine p_sipush dX9_takeBytes_11 (by decide) ?_
    refine q_icmp_ge (tgt := 40) dX9_takeBytes_14 (by decide) h (fun h => ?_) (fun h => ?_)
    · refine p_iinc dX9_takeBytes_40 rfl (Nat.le_of_ble_eq_true rfl) rfl ?_
      refine p_goto (tgt := 3) dX9_takeBytes_43 (by decide) ?_
      exact p_weak (leL.same (leL.same (leL.same leL.nil))) (kl_inl (P := (P_X9_takeBytes_3 l g n K v1)) h)
    · refine p_aload_n dX9_takeBytes_17 rfl ?_
      refine p_getr dX9_takeBytes_18 fl_X9_22 (fun _ _ _ => rfl) rfl rfl ?_
      refine p_aload_n dX9_takeBytes_21 rfl ?_
      refine p_geti dX9_takeBytes_22 fl_X9_9 (fun _ _ _ => rfl) rfl ?_
      refine p_iload_n dX9_takeBytes_25 rfl ?_
      refine p_iload_n dX9_takeBytes_26 rfl ?_
      refine p_ishr dX9_takeBytes_27 ?_
      refine p_i2b dX9_takeBytes_28 ?_
      refine q_bast dX9_takeBytes_29 rfl rfl h (fun D29 h => ?_)
      refine p_aload_n dX9_takeBytes_30 rfl ?_
      refine p_dup dX9_takeBytes_31 rfl ?_
      refine p_geti dX9_takeBytes_32 fl_X9_9 (fun _ _ _ => rfl) rfl ?_
      refine p_iconst dX9_takeBytes_35 ?_
      refine p_iadd dX9_takeBytes_36 ?_
      refine q_puti dX9_takeBytes_37 fq_X9_9 rfl rfl h (fun D37 h => ?_)
      refine p_iinc dX9_takeBytes_40 rfl (Nat.le_of_ble_eq_true rfl) rfl ?_
      refine p_goto (tgt := 3) dX9_takeBytes_43 (by decide) ?_
      exact p_weak (leL.same (leL.same (leL.same leL.nil))) (kl_inl (P := (P_X9_takeBytes_3 l g n K v1)) h)
set_option maxRecDepth 100000 in
set_option maxHeartbeats 4000000 in
theorem x_X9_takeBytes {l : Launch} {g : GH} (hG : G0 l g) {n : Nat} {v1 : Int} {D : DT} {K : DT → Prop} (h : ok (m_X9_takeBytes v1 D) K) : Px (E_X9_takeBytes l g (PVw n K)) 0 [some (vR g 55), some (vI v1), none] [] (LF n) D 0 0 := by
  refine p_bipush dX9_takeBytes_0 (by decide) ?_
  refine p_istore_n dX9_takeBytes_2 (Nat.le_of_ble_eq_true rfl) rfl ?_
  exact p_weak (leL.same (leL.same (leL.same leL.nil))) (x_X9_takeBytes_3 hG h)
theorem s_X9_takeBytes {l : Launch} {g : GH} (hG : G0 l g) {n : Nat} {v1 : Int} {D : DT} {K : DT → Prop} (h : ok (m_X9_takeBytes v1 D) K) : Sat l g yX9_takeBytes cX9_takeBytes 3 none 0 0 0 [vR g 55, vI v1] (LF n) D (PVw n K) := Sat.of hG (by decide) (Nat.le_of_ble_eq_true rfl) (by simp [Value.category]) (x_X9_takeBytes hG h)
abbrev E_X9_skipBlanks (l : Launch) (g : GH) (P : PT) : ENV := mkE l g yX9_skipBlanks cX9_skipBlanks 1 none [] 0 0 0 P
abbrev P_X9_skipBlanks_0 (l : Launch) (g : GH) (n : Nat) (K : DT → Prop) : DT → Prop := fun s => Px (E_X9_skipBlanks l g (PVw n K)) 0 [some (vR g 55)] [] (LF n) s 0 0
set_option maxRecDepth 100000 in
set_option maxHeartbeats 4000000 in
theorem x_X9_skipBlanks_53 {l : Launch} {g : GH} (hG : G0 l g) {n : Nat} {D : DT} {K : DT → Prop} (h : ok (m_X9_skipBlanks_53 D) (KL (P_X9_skipBlanks_0 l g n K) K)) : Px (E_X9_skipBlanks l g (PVw n K)) 53 [some (vR g 55)] [] (LF n) D 0 0 := by
  refine p_aload_n dX9_skipBlanks_53 rfl ?_
  refine p_dup dX9_skipBlanks_54 rfl ?_
  refine p_geti dX9_skipBlanks_55 fl_X9_26 (fun _ _ _ => rfl) rfl ?_
  refine p_iconst dX9_skipBlanks_58 ?_
  refine p_iadd dX9_skipBlanks_59 ?_
  refine q_puti dX9_skipBlanks_60 fq_X9_26 rfl rfl h (fun D60 h => ?_)
  refine p_goto (tgt := 0) dX9_skipBlanks_63 (by decide) ?_
  exact p_weak (leL.same leL.nil) (kl_inl (P := (P_X9_skipBlanks_0 l g n K)) h)
set_option maxRecDepth 100000 in
set_option maxHeartbeats 4000000 in
theorem x_X9_skipBlanks_0 {l : Launch} {g : GH} (hG : G0 l g) {n : Nat} {K : DT → Prop} {s : DT} (h : ok (m_X9_skipBlanks_0 s) K) : Px (E_X9_skipBlanks l g (PVw n K)) 0 [some (vR g 55)] [] (LF n) s 0 0 := by
  refine ok_loop (P := (P_X9_skipBlanks_0 l g n K)) (fun s h => ?_) h
  refine p_aload_n dX9_skipBlanks_0 rfl ?_
  refine p_geti dX9_skipBlanks_1 fl_X9_26 (fun _ _ _ => rfl) rfl ?_
  refine p_aload_n dX9_skipBlanks_4 rfl ?_
  refine p_geti dX9_skipBlanks_5 fl_X9_9 (fun _ _ _ => rfl) rfl ?_
  refine q_icmp_ge (tgt := 66) dX9_skipBlanks_8 (by decide) h (fun h => ?_) (fun h => ?_)
  · have h := kl_inr h
    exact p_return dX9_skipBlanks_66 (Nat.le_of_ble_eq_true rfl) (Nat.le_of_ble_eq_true rfl) ⟨rfl, rfl, ok_some h⟩
  · refine p_aload_n dX9_skipBlanks_11 rfl ?_
    refine p_getr dX9_skipBlanks_12 fl_X9_22 (fun _ _ _ => rfl) rfl rfl ?_
    refine p_aload_n dX9_skipBlanks_15 rfl ?_
    refine p_geti dX9_skipBlanks_16 fl_X9_26 (fun _ _ _ => rfl) rfl ?_
    refine q_bald dX9_skipBlanks_19 rfl rfl h (fun h => ?_)
    refine p_bipush dX9_skipBlanks_20 (by decide) ?_
    refine q_icmp_eq (tgt := 53) dX9_skipBlanks_22 (by decide) h (fun h => ?_) (fun h => ?_)
    · exact p_weak (leL.same leL.nil) (x_X9_skipBlanks_53 hG h)
    · refine p_aload_n dX9_skipBlanks_25 rfl ?_
      refine p_getr dX9_skipBlanks_26 fl_X9_22 (fun _ _ _ => rfl) rfl rfl ?_
      refine p_aload_n dX9_skipBlanks_29 rfl ?_
      refine p_geti dX9_skipBlanks_30 fl_X9_26 (fun _ _ _ => rfl) rfl ?_
      refine q_bald dX9_skipBlanks_33 rfl rfl h (fun h => ?_)
      refine p_bipush dX9_skipBlanks_34 (by decide) ?_
      refine q_icmp_eq (tgt := 53) dX9_skipBlanks_36 (by decide) h (fun h => ?_) (fun h => ?_)
      · exact p_weak (leL.same leL.nil) (x_X9_skipBlanks_53 hG h)
      · refine p_aload_n dX9_skipBlanks_39 rfl ?_
        refine p_getr dX9_skipBlanks_40 fl_X9_22 (fun _ _ _ => rfl) rfl rfl ?_
        refine p_aload_n dX9_skipBlanks_43 rfl ?_
        refine p_geti dX9_skipBlanks_44 fl_X9_26 (fun _ _ _ => rfl) rfl ?_
        refine q_bald dX9_skipBlanks_47 rfl rfl h (fun h => ?_)
        refine p_bipush dX9_skipBlanks_48 (by decide) ?_
        refine q_icmp_ne (tgt := 66) dX9_skipBlanks_50 (by decide) h (fun h => ?_) (fun h => ?_)
        · have h := kl_inr h
          exact p_return dX9_skipBlanks_66 (Nat.le_of_ble_eq_true rfl) (Nat.le_of_ble_eq_true rfl) ⟨rfl, rfl, ok_some h⟩
        · exact p_weak (leL.same leL.nil) (x_X9_skipBlanks_53 hG h)
set_option maxRecDepth 100000 in
set_option maxHeartbeats 4000000 in
theorem x_X9_skipBlanks {l : Launch} {g : GH} (hG : G0 l g) {n : Nat} {D : DT} {K : DT → Prop} (h : ok (m_X9_skipBlanks D) K) : Px (E_X9_skipBlanks l g (PVw n K)) 0 [some (vR g 55)] [] (LF n) D 0 0 := by
  exact p_weak (leL.same leL.nil) (x_X9_skipBlanks_0 hG h)
theorem s_X9_skipBlanks {l : Launch} {g : GH} (hG : G0 l g) {n : Nat} {D : DT} {K : DT → Prop} (h : ok (m_X9_skipBlanks D) K) : Sat l g yX9_skipBlanks cX9_skipBlanks 1 none 0 0 0 [vR g 55] (LF n) D (PVw n K) := Sat.of hG (by decide) (Nat.le_of_ble_eq_true rfl) (by simp [Value.category]) (x_X9_skipBlanks hG h)
abbrev E_X9_failAt (l : Launch) (g : GH) (P : PT) : ENV := mkE l g yX9_failAt cX9_failAt 2 (some .boolean) [] 0 0 0 P
set_option maxRecDepth 100000 in
set_option maxHeartbeats 4000000 in
theorem x_X9_failAt {l : Launch} {g : GH} (hG : G0 l g) {n : Nat} {v1 : Int} {D : DT} {K : (Int × DT) → Prop} (h : ok (m_X9_failAt v1 D) K) : Px (E_X9_failAt l g (PIw n K)) 0 [some (vR g 55), some (vI v1)] [] (LF n) D 0 0 := by
  refine p_aload_n dX9_failAt_0 rfl ?_
  refine p_iload_n dX9_failAt_1 rfl ?_
  refine q_puti dX9_failAt_2 fq_X9_41 rfl rfl h (fun D2 h => ?_)
  refine p_iconst dX9_failAt_5 ?_
  exact p_zreturn dX9_failAt_6 (Nat.le_of_ble_eq_true rfl) (Nat.le_of_ble_eq_true rfl) (Or.inl rfl) ⟨_, rfl, rfl, ok_some h⟩
theorem s_X9_failAt {l : Launch} {g : GH} (hG : G0 l g) {n : Nat} {v1 : Int} {D : DT} {K : (Int × DT) → Prop} (h : ok (m_X9_failAt v1 D) K) : Sat l g yX9_failAt cX9_failAt 2 (some .boolean) 0 0 0 [vR g 55, vI v1] (LF n) D (PIw n K) := Sat.of hG (by decide) (Nat.le_of_ble_eq_true rfl) (by simp [Value.category]) (x_X9_failAt hG h)
abbrev E_X9_readWord (l : Launch) (g : GH) (P : PT) : ENV := mkE l g yX9_readWord cX9_readWord 1 (some .boolean) [] 1 0 0 P
abbrev P_X9_readWord_12 (l : Launch) (g : GH) (n : Nat) (K : (Int × DT) → Prop) : DT → Prop := fun s => Px (E_X9_readWord l g (PIw n K)) 12 [some (vR g 55)] [] (LF n) s 0 0
set_option maxRecDepth 100000 in
set_option maxHeartbeats 4000000 in
theorem x_X9_readWord_64 {l : Launch} {g : GH} (hG : G0 l g) {n : Nat} {D : DT} {K : (Int × DT) → Prop} (h : ok (m_X9_readWord_64 D) K) : Px (E_X9_readWord l g (PIw n K)) 64 [some (vR g 55)] [] (LF n) D 0 0 := by
  refine p_aload_n dX9_readWord_64 rfl ?_
  refine p_aload_n dX9_readWord_65 rfl ?_
  refine p_geti dX9_readWord_66 fl_X9_26 (fun _ _ _ => rfl) rfl ?_
  refine p_aload_n dX9_readWord_69 rfl ?_
  refine p_geti dX9_readWord_70 fl_X9_29 (fun _ _ _ => rfl) rfl ?_
  refine p_isub dX9_readWord_73 ?_
  refine q_puti dX9_readWord_74 fq_X9_32 rfl rfl h (fun D74 h => ?_)
  refine p_aload_n dX9_readWord_77 rfl ?_
  refine p_geti dX9_readWord_78 fl_X9_32 (fun _ _ _ => rfl) rfl ?_
  refine q_if_gt (tgt := 95) dX9_readWord_81 (by decide) h (fun h => ?_) (fun h => ?_)
  · refine p_iconst dX9_readWord_95 ?_
    refine p_goto (tgt := 100) dX9_readWord_96 (by decide) ?_
    exact p_zreturn dX9_readWord_100 (Nat.le_of_ble_eq_true rfl) (Nat.le_of_ble_eq_true rfl) (Or.inr rfl) ⟨_, rfl, rfl, ok_some h⟩
  · refine p_aload_n dX9_readWord_84 rfl ?_
    refine p_aload_n dX9_readWord_85 rfl ?_
    refine p_geti dX9_readWord_86 fl_X9_26 (fun _ _ _ => rfl) rfl ?_
    refine cV_Iw [vI (D74.1 55 3)] [] dX9_readWord_89 yv_X9_failAt ml_X9_110 (r := (RX9, TX9, 10)) rfl rfl (Nat.le_of_ble_eq_true rfl) rfl (Nat.le_of_ble_eq_true rfl) (Nat.le_of_ble_eq_true rfl) (Nat.le_of_ble_eq_true rfl) rfl h (fun K h => s_X9_failAt hG h) (fun r89 D89 h => ?_)
    refine q_if_eq (tgt := 99) dX9_readWord_92 (by decide) h (fun h => ?_) (fun h => ?_)
    · refine p_iconst dX9_readWord_99 ?_
      exact p_zreturn dX9_readWord_100 (Nat.le_of_ble_eq_true rfl) (Nat.le_of_ble_eq_true rfl) (Or.inl rfl) ⟨_, rfl, rfl, ok_some h⟩
    · refine p_iconst dX9_readWord_95 ?_
      refine p_goto (tgt := 100) dX9_readWord_96 (by decide) ?_
      exact p_zreturn dX9_readWord_100 (Nat.le_of_ble_eq_true rfl) (Nat.le_of_ble_eq_true rfl) (Or.inr rfl) ⟨_, rfl, rfl, ok_some h⟩
set_option maxRecDepth 100000 in
set_option maxHeartbeats 4000000 in
theorem x_X9_readWord_12 {l : Launch} {g : GH} (hG : G0 l g) {n : Nat} {K : (Int × DT) → Prop} {s : DT} (h : ok (m_X9_readWord_12 s) K) : Px (E_X9_readWord l g (PIw n K)) 12 [some (vR g 55)] [] (LF n) s 0 0 := by
  refine ok_loop (P := (P_X9_readWord_12 l g n K)) (fun s h => ?_) h
  refine p_aload_n dX9_readWord_12 rfl ?_
  refine p_geti dX9_readWord_13 fl_X9_26 (fun _ _ _ => rfl) rfl ?_
  refine p_aload_n dX9_readWord_16 rfl ?_
  refine p_geti dX9_readWord_17 fl_X9_9 (fun _ _ _ => rfl) rfl ?_
  refine q_icmp_ge (tgt := 64) dX9_readWord_20 (by decide) h (fun h => ?_) (fun h => ?_)
  · have h := kl_inr h
    exact p_weak (leL.same leL.nil) (x_X9_readWord_64 hG h)
  · refine p_aload_n dX9_readWord_23 rfl ?_
    refine p_getr dX9_readWord_24 fl_X9_22 (fun _ _ _ => rfl) rfl rfl ?_
    refine p_aload_n dX9_readWord_27 rfl ?_
    refine p_geti dX9_readWord_28 fl_X9_26 (fun _ _ _ => rfl) rfl ?_
    refine q_bald dX9_readWord_31 rfl rfl h (fun h => ?_)
    refine p_bipush dX9_readWord_32 (by decide) ?_
    refine q_icmp_lt (tgt := 64) dX9_readWord_34 (by decide) h (fun h => ?_) (fun h => ?_)
    · have h := kl_inr h
      exact p_weak (leL.same leL.nil) (x_X9_readWord_64 hG h)
    · refine p_aload_n dX9_readWord_37 rfl ?_
      refine p_getr dX9_readWord_38 fl_X9_22 (fun _ _ _ => rfl) rfl rfl ?_
      refine p_aload_n dX9_readWord_41 rfl ?_
      refine p_geti dX9_readWord_42 fl_X9_26 (fun _ _ _ => rfl) rfl ?_
      refine q_bald dX9_readWord_45 rfl rfl h (fun h => ?_)
      refine p_bipush dX9_readWord_46 (by decide) ?_
      refine q_icmp_gt (tgt := 64) dX9_readWord_48 (by decide) h (fun h => ?_) (fun h => ?_)
      · have h := kl_inr h
        exact p_weak (leL.same leL.nil) (x_X9_readWord_64 hG h)
      · refine p_aload_n dX9_readWord_51 rfl ?_
        refine p_dup dX9_readWord_52 rfl ?_
        refine p_geti dX9_readWord_53 fl_X9_26 (fun _ _ _ => rfl) rfl ?_
        refine p_iconst dX9_readWord_56 ?_
        refine p_iadd dX9_readWord_57 ?_
        refine q_puti dX9_readWord_58 fq_X9_26 rfl rfl h (fun D58 h => ?_)
        refine p_goto (tgt := 12) dX9_readWord_61 (by decide) ?_
        exact p_weak (leL.same leL.nil) (kl_inl (P := (P_X9_readWord_12 l g n K)) h)
set_option maxRecDepth 100000 in
set_option maxHeartbeats 4000000 in
theorem x_X9_readWord {l : Launch} {g : GH} (hG : G0 l g) {n : Nat} {D : DT} {K : (Int × DT) → Prop} (h : ok (m_X9_readWord D) K) : Px (E_X9_readWord l g (PIw n K)) 0 [some (vR g 55)] [] (LF n) D 0 0 := by
  refine p_aload_n dX9_readWord_0 rfl ?_
  refine cV_Vw [] [] dX9_readWord_1 yv_X9_skipBlanks ml_X9_55 (r := (RX9, TX9, 10)) rfl rfl (Nat.le_of_ble_eq_true rfl) rfl (Nat.le_of_ble_eq_true rfl) (Nat.le_of_ble_eq_true rfl) (Nat.le_of_ble_eq_true rfl) rfl h (fun K h => s_X9_skipBlanks hG h) (fun D1 h => ?_)
  refine p_aload_n dX9_readWord_4 rfl ?_
  refine p_aload_n dX9_readWord_5 rfl ?_
  refine p_geti dX9_readWord_6 fl_X9_26 (fun _ _ _ => rfl) rfl ?_
  refine q_puti dX9_readWord_9 fq_X9_29 rfl rfl h (fun D9 h => ?_)
  exact p_weak (leL.same leL.nil) (x_X9_readWord_12 hG h)
theorem s_X9_readWord {l : Launch} {g : GH} (hG : G0 l g) {n : Nat} {D : DT} {K : (Int × DT) → Prop} (h : ok (m_X9_readWord D) K) : Sat l g yX9_readWord cX9_readWord 1 (some .boolean) 1 0 0 [vR g 55] (LF n) D (PIw n K) := Sat.of hG (by decide) (Nat.le_of_ble_eq_true rfl) (by simp [Value.category]) (x_X9_readWord hG h)
abbrev E_X9_wordIs (l : Launch) (g : GH) (P : PT) : ENV := mkE l g yX9_wordIs cX9_wordIs 3 (some .boolean) [] 6 0 0 P
abbrev P_X9_wordIs_15 (l : Launch) (g : GH) (n : Nat) (K : Int → Prop) (t1 : Nat) (D : DT) : Int → Prop := fun s => Px (E_X9_wordIs l g (PIr n D K)) 15 [some (vR g 55), some (vS g t1), some (vI s)] [] (LF n) D 0 0
set_option maxRecDepth 100000 in
set_option maxHeartbeats 4000000 in
theorem x_X9_wordIs_15 {l : Launch} {g : GH} (hG : G0 l g) {n : Nat} {t1 : Nat} (w1 : t1 < 22) {D : DT} {K : Int → Prop} {s : Int} (h : ok (m_X9_wordIs_15 t1 D s) K) : Px (E_X9_wordIs l g (PIr n D K)) 15 [some (vR g 55), some (vS g t1), some (vI s)] [] (LF n) D 0 0 := by
  refine ok_loop (P := (P_X9_wordIs_15 l g n K t1 D)) (fun s h => ?_) h
  refine p_iload_n dX9_wordIs_15 rfl ?_
  refine p_aload_n dX9_wordIs_16 rfl ?_
  refine p_geti dX9_wordIs_17 fl_X9_32 (fun _ _ _ => rfl) rfl ?_
  refine q_icmp_ge (tgt := 50) dX9_wordIs_20 (by decide) h (fun h => ?_) (fun h => ?_)
  · have h := kl_inr h
    refine p_iconst dX9_wordIs_50 ?_
    exact p_zreturn dX9_wordIs_51 (Nat.le_of_ble_eq_true rfl) (Nat.le_of_ble_eq_true rfl) (Or.inr rfl) ⟨_, rfl, rfl, rfl, ok_some h⟩
  · refine p_aload_n dX9_wordIs_23 rfl ?_
    refine p_iload_n dX9_wordIs_24 rfl ?_
    refine q_schar [] hG dX9_wordIs_25 w1 ml_X9_175 (Nat.le_of_ble_eq_true rfl) (Nat.le_of_ble_eq_true rfl) (Nat.le_of_ble_eq_true rfl) (Nat.le_of_ble_eq_true rfl) h (fun h => ?_)
    refine p_aload_n dX9_wordIs_28 rfl ?_
    refine p_getr dX9_wordIs_29 fl_X9_22 (fun _ _ _ => rfl) rfl rfl ?_
    refine p_aload_n dX9_wordIs_32 rfl ?_
    refine p_geti dX9_wordIs_33 fl_X9_29 (fun _ _ _ => rfl) rfl ?_
    refine p_iload_n dX9_wordIs_36 rfl ?_
    refine p_iadd dX9_wordIs_37 ?_
    refine q_bald dX9_wordIs_38 rfl rfl h (fun h => ?_)
    refine q_icmp_eq (tgt := 44) dX9_wordIs_39 (by decide) h (fun h => ?_) (fun h => ?_)
    · refine p_iinc dX9_wordIs_44 rfl (Nat.le_of_ble_eq_true rfl) rfl ?_
      refine p_goto (tgt := 15) dX9_wordIs_47 (by decide) ?_
      exact p_weak (leL.same (leL.same (leL.same leL.nil))) (kl_inl (P := (P_X9_wordIs_15 l g n K t1 D)) h)
    · have h := kl_inr h
      refine p_iconst dX9_wordIs_42 ?_
      exact p_zreturn dX9_wordIs_43 (Nat.le_of_ble_eq_true rfl) (Nat.le_of_ble_eq_true rfl) (Or.inl rfl) ⟨_, rfl, rfl, rfl, ok_some h⟩
set_option maxRecDepth 100000 in
set_option maxHeartbeats 4000000 in
theorem x_X9_wordIs {l : Launch} {g : GH} (hG : G0 l g) {n : Nat} {t1 : Nat} (w1 : t1 < 22) {D : DT} {K : Int → Prop} (h : ok (m_X9_wordIs t1 D) K) : Px (E_X9_wordIs l g (PIr n D K)) 0 [some (vR g 55), some (vS g t1), none] [] (LF n) D 0 0 := by
  refine p_aload_n dX9_wordIs_0 rfl ?_
  refine q_slen [] hG dX9_wordIs_1 w1 ml_X9_171 (Nat.le_of_ble_eq_true rfl) (Nat.le_of_ble_eq_true rfl) (Nat.le_of_ble_eq_true rfl) (Nat.le_of_ble_eq_true rfl) ?_
  refine p_aload_n dX9_wordIs_4 rfl ?_
  refine p_geti dX9_wordIs_5 fl_X9_32 (fun _ _ _ => rfl) rfl ?_
  refine q_icmp_eq (tgt := 13) dX9_wordIs_8 (by decide) h (fun h => ?_) (fun h => ?_)
  · refine p_iconst dX9_wordIs_13 ?_
    refine p_istore_n dX9_wordIs_14 (Nat.le_of_ble_eq_true rfl) rfl ?_
    exact p_weak (leL.same (leL.same (leL.same leL.nil))) (x_X9_wordIs_15 hG w1 h)
  · refine p_iconst dX9_wordIs_11 ?_
    exact p_zreturn dX9_wordIs_12 (Nat.le_of_ble_eq_true rfl) (Nat.le_of_ble_eq_true rfl) (Or.inl rfl) ⟨_, rfl, rfl, rfl, ok_some h⟩
theorem s_X9_wordIs {l : Launch} {g : GH} (hG : G0 l g) {n : Nat} {t1 : Nat} (w1 : t1 < 22) {D : DT} {K : Int → Prop} (h : ok (m_X9_wordIs t1 D) K) : Sat l g yX9_wordIs cX9_wordIs 3 (some .boolean) 6 0 0 [vR g 55, vS g t1] (LF n) D (PIr n D K) := Sat.of hG (by decide) (Nat.le_of_ble_eq_true rfl) (by simp [Value.category]) (x_X9_wordIs hG w1 h)
abbrev E_X9_readKeyword (l : Launch) (g : GH) (P : PT) : ENV := mkE l g yX9_readKeyword cX9_readKeyword 2 (some .boolean) [] 7 0 0 P
set_option maxRecDepth 100000 in
set_option maxHeartbeats 4000000 in
theorem x_X9_readKeyword {l : Launch} {g : GH} (hG : G0 l g) {n : Nat} {t1 : Nat} (w1 : t1 < 22) {D : DT} {K : (Int × DT) → Prop} (h : ok (m_X9_readKeyword t1 D) K) : Px (E_X9_readKeyword l g (PIw n K)) 0 [some (vR g 55), some (vS g t1)] [] (LF n) D 0 0 := by
  refine p_aload_n dX9_readKeyword_0 rfl ?_
  refine cV_Iw [] [] dX9_readKeyword_1 yv_X9_readWord ml_X9_79 (r := (RX9, TX9, 10)) rfl rfl (Nat.le_of_ble_eq_true rfl) rfl (Nat.le_of_ble_eq_true rfl) (Nat.le_of_ble_eq_true rfl) (Nat.le_of_ble_eq_true rfl) rfl h (fun K h => s_X9_readWord hG h) (fun r1 D1 h => ?_)
  refine q_if_ne (tgt := 9) dX9_readKeyword_4 (by decide) h (fun h => ?_) (fun h => ?_)
  · refine p_aload_n dX9_readKeyword_9 rfl ?_
    refine p_aload_n dX9_readKeyword_10 rfl ?_
    refine cV_Ir [vS g t1] [] dX9_readKeyword_11 yv_X9_wordIs ml_X9_84 (r := (RX9, TX9, 10)) rfl rfl (Nat.le_of_ble_eq_true rfl) rfl (Nat.le_of_ble_eq_true rfl) (Nat.le_of_ble_eq_true rfl) (Nat.le_of_ble_eq_true rfl) rfl h (fun K h => s_X9_wordIs hG w1 h) (fun r11 h => ?_)
    refine q_if_ne (tgt := 28) dX9_readKeyword_14 (by decide) h (fun h => ?_) (fun h => ?_)
    · refine p_iconst dX9_readKeyword_28 ?_
      refine p_goto (tgt := 33) dX9_readKeyword_29 (by decide) ?_
      exact p_zreturn dX9_readKeyword_33 (Nat.le_of_ble_eq_true rfl) (Nat.le_of_ble_eq_true rfl) (Or.inr rfl) ⟨_, rfl, rfl, ok_some h⟩
    · refine p_aload_n dX9_readKeyword_17 rfl ?_
      refine p_aload_n dX9_readKeyword_18 rfl ?_
      refine p_geti dX9_readKeyword_19 fl_X9_29 (fun _ _ _ => rfl) rfl ?_
      refine cV_Iw [vI (D1.1 55 4)] [] dX9_readKeyword_22 yv_X9_failAt ml_X9_110 (r := (RX9, TX9, 10)) rfl rfl (Nat.le_of_ble_eq_true rfl) rfl (Nat.le_of_ble_eq_true rfl) (Nat.le_of_ble_eq_true rfl) (Nat.le_of_ble_eq_true rfl) rfl h (fun K h => s_X9_failAt hG h) (fun r22 D22 h => ?_)
      refine q_if_eq (tgt := 32) dX9_readKeyword_25 (by decide) h (fun h => ?_) (fun h => ?_)
      · refine p_iconst dX9_readKeyword_32 ?_
        exact p_zreturn dX9_readKeyword_33 (Nat.le_of_ble_eq_true rfl) (Nat.le_of_ble_eq_true rfl) (Or.inl rfl) ⟨_, rfl, rfl, ok_some h⟩
      · refine p_iconst dX9_readKeyword_28 ?_
        refine p_goto (tgt := 33) dX9_readKeyword_29 (by decide) ?_
        exact p_zreturn dX9_readKeyword_33 (Nat.le_of_ble_eq_true rfl) (Nat.le_of_ble_eq_true rfl) (Or.inr rfl) ⟨_, rfl, rfl, ok_some h⟩
  · refine p_iconst dX9_readKeyword_7 ?_
    exact p_zreturn dX9_readKeyword_8 (Nat.le_of_ble_eq_true rfl) (Nat.le_of_ble_eq_true rfl) (Or.inl rfl) ⟨_, rfl, rfl, ok_some h⟩
theorem s_X9_readKeyword {l : Launch} {g : GH} (hG : G0 l g) {n : Nat} {t1 : Nat} (w1 : t1 < 22) {D : DT} {K : (Int × DT) → Prop} (h : ok (m_X9_readKeyword t1 D) K) : Sat l g yX9_readKeyword cX9_readKeyword 2 (some .boolean) 7 0 0 [vR g 55, vS g t1] (LF n) D (PIw n K) := Sat.of hG (by decide) (Nat.le_of_ble_eq_true rfl) (by simp [Value.category]) (x_X9_readKeyword hG w1 h)
abbrev E_X9_readNumber (l : Launch) (g : GH) (P : PT) : ENV := mkE l g yX9_readNumber cX9_readNumber 5 (some .boolean) [] 1 0 0 P
abbrev P_X9_readNumber_17 (l : Launch) (g : GH) (n : Nat) (K : (Int × DT) → Prop) (v1 : Int) (v2 : Int) : DT → Prop := fun s => Px (E_X9_readNumber l g (PIw n K)) 17 [some (vR g 55), some (vI v1), some (vI v2), none, none] [] (LF n) s 0 0
set_option maxRecDepth 100000 in
set_option maxHeartbeats 4000000 in
theorem x_X9_readNumber_146 {l : Launch} {g : GH} (hG : G0 l g) {n : Nat} {x0 : Int} {D : DT} {K : (Int × DT) → Prop} (h : ok (m_X9_readNumber_146 x0 D) K) : Px (E_X9_readNumber l g (PIw n K)) 146 [some (vR g 55), none, none, none, none] [vI x0] (LF n) D 0 0 := by
  refine p_istore dX9_readNumber_146 (Nat.le_of_ble_eq_true rfl) rfl ?_
  refine p_iload dX9_readNumber_148 rfl ?_
  refine q_if_ne (tgt := 164) dX9_readNumber_150 (by decide) h (fun h => ?_) (fun h => ?_)
  · refine p_iconst dX9_readNumber_164 ?_
    refine p_goto (tgt := 169) dX9_readNumber_165 (by decide) ?_
    exact p_zreturn dX9_readNumber_169 (Nat.le_of_ble_eq_true rfl) (Nat.le_of_ble_eq_true rfl) (Or.inr rfl) ⟨_, rfl, rfl, ok_some h⟩
  · refine p_aload_n dX9_readNumber_153 rfl ?_
    refine p_aload_n dX9_readNumber_154 rfl ?_
    refine p_geti dX9_readNumber_155 fl_X9_35 (fun _ _ _ => rfl) rfl ?_
    refine cV_Iw [vI (D.1 55 6)] [] dX9_readNumber_158 yv_X9_failAt ml_X9_110 (r := (RX9, TX9, 10)) rfl rfl (Nat.le_of_ble_eq_true rfl) rfl (Nat.le_of_ble_eq_true rfl) (Nat.le_of_ble_eq_true rfl) (Nat.le_of_ble_eq_true rfl) rfl h (fun K h => s_X9_failAt hG h) (fun r158 D158 h => ?_)
    refine q_if_eq (tgt := 168) dX9_readNumber_161 (by decide) h (fun h => ?_) (fun h => ?_)
    · refine p_iconst dX9_readNumber_168 ?_
      exact p_zreturn dX9_readNumber_169 (Nat.le_of_ble_eq_true rfl) (Nat.le_of_ble_eq_true rfl) (Or.inl rfl) ⟨_, rfl, rfl, ok_some h⟩
    · refine p_iconst dX9_readNumber_164 ?_
      refine p_goto (tgt := 169) dX9_readNumber_165 (by decide) ?_
      exact p_zreturn dX9_readNumber_169 (Nat.le_of_ble_eq_true rfl) (Nat.le_of_ble_eq_true rfl) (Or.inr rfl) ⟨_, rfl, rfl, ok_some h⟩
set_option maxRecDepth 100000 in
set_option maxHeartbeats 4000000 in
theorem x_X9_readNumber_106 {l : Launch} {g : GH} (hG : G0 l g) {n : Nat} {v1 v2 : Int} {D : DT} {K : (Int × DT) → Prop} (h : ok (m_X9_readNumber_106 v1 v2 D) K) : Px (E_X9_readNumber l g (PIw n K)) 106 [some (vR g 55), some (vI v1), some (vI v2), none, none] [] (LF n) D 0 0 := by
  refine p_aload_n dX9_readNumber_106 rfl ?_
  refine p_geti dX9_readNumber_107 fl_X9_26 (fun _ _ _ => rfl) rfl ?_
  refine p_aload_n dX9_readNumber_110 rfl ?_
  refine p_geti dX9_readNumber_111 fl_X9_35 (fun _ _ _ => rfl) rfl ?_
  refine p_isub dX9_readNumber_114 ?_
  refine p_istore_n dX9_readNumber_115 (Nat.le_of_ble_eq_true rfl) rfl ?_
  refine p_iload_n dX9_readNumber_116 rfl ?_
  refine q_if_le (tgt := 145) dX9_readNumber_117 (by decide) h (fun h => ?_) (fun h => ?_)
  · refine p_iconst dX9_readNumber_145 ?_
    exact p_weak (leL.same (leL.drop (leL.drop (leL.drop (leL.drop leL.nil))))) (x_X9_readNumber_146 hG h)
  · refine p_iload_n dX9_readNumber_120 rfl ?_
    refine p_iconst dX9_readNumber_121 ?_
    refine q_icmp_gt (tgt := 145) dX9_readNumber_122 (by decide) h (fun h => ?_) (fun h => ?_)
    · refine p_iconst dX9_readNumber_145 ?_
      exact p_weak (leL.same (leL.drop (leL.drop (leL.drop (leL.drop leL.nil))))) (x_X9_readNumber_146 hG h)
    · refine p_aload_n dX9_readNumber_125 rfl ?_
      refine p_geti dX9_readNumber_126 fl_X9_38 (fun _ _ _ => rfl) rfl ?_
      refine p_iload_n dX9_readNumber_129 rfl ?_
      refine q_icmp_lt (tgt := 145) dX9_readNumber_130 (by decide) h (fun h => ?_) (fun h => ?_)
      · refine p_iconst dX9_readNumber_145 ?_
        exact p_weak (leL.same (leL.drop (leL.drop (leL.drop (leL.drop leL.nil))))) (x_X9_readNumber_146 hG h)
      · refine p_aload_n dX9_readNumber_133 rfl ?_
        refine p_geti dX9_readNumber_134 fl_X9_38 (fun _ _ _ => rfl) rfl ?_
        refine p_iload_n dX9_readNumber_137 rfl ?_
        refine q_icmp_gt (tgt := 145) dX9_readNumber_138 (by decide) h (fun h => ?_) (fun h => ?_)
        · refine p_iconst dX9_readNumber_145 ?_
          exact p_weak (leL.same (leL.drop (leL.drop (leL.drop (leL.drop leL.nil))))) (x_X9_readNumber_146 hG h)
        · refine p_iconst dX9_readNumber_141 ?_
          refine p_goto (tgt := 146) dX9_readNumber_142 (by decide) ?_
          exact p_weak (leL.same (leL.drop (leL.drop (leL.drop (leL.drop leL.nil))))) (x_X9_readNumber_146 hG h)
set_option maxRecDepth 100000 in
set_option maxHeartbeats 4000000 in
theorem x_X9_readNumber_17 {l : Launch} {g : GH} (hG : G0 l g) {n : Nat} {v1 v2 : Int} {K : (Int × DT) → Prop} {s : DT} (h : ok (m_X9_readNumber_17 v1 v2 s) K) : Px (E_X9_readNumber l g (PIw n K)) 17 [some (vR g 55), some (vI v1), some (vI v2), none, none] [] (LF n) s 0 0 := by
  refine ok_loop (P := (P_X9_readNumber_17 l g n K v1 v2)) (fun s h => ?_) h
  refine p_aload_n dX9_readNumber_17 rfl ?_
  refine p_geti dX9_readNumber_18 fl_X9_26 (fun _ _ _ => rfl) rfl ?_
  refine p_aload_n dX9_readNumber_21 rfl ?_
  refine p_geti dX9_readNumber_22 fl_X9_9 (fun _ _ _ => rfl) rfl ?_
  refine q_icmp_ge (tgt := 106) dX9_readNumber_25 (by decide) h (fun h => ?_) (fun h => ?_)
  · have h := kl_inr h
    exact p_weak (leL.same (leL.same (leL.same (leL.drop (leL.drop leL.nil))))) (x_X9_readNumber_106 hG h)
  · refine p_aload_n dX9_readNumber_28 rfl ?_
    refine p_getr dX9_readNumber_29 fl_X9_22 (fun _ _ _ => rfl) rfl rfl ?_
    refine p_aload_n dX9_readNumber_32 rfl ?_
    refine p_geti dX9_readNumber_33 fl_X9_26 (fun _ _ _ => rfl) rfl ?_
    refine q_bald dX9_readNumber_36 rfl rfl h (fun h => ?_)
    refine p_bipush dX9_readNumber_37 (by decide) ?_
    refine q_icmp_lt (tgt := 106) dX9_readNumber_39 (by decide) h (fun h => ?_) (fun h => ?_)
    · have h := kl_inr h
      exact p_weak (leL.same (leL.same (leL.same (leL.drop (leL.drop leL.nil))))) (x_X9_readNumber_106 hG h)
    · refine p_aload_n dX9_readNumber_42 rfl ?_
      refine p_getr dX9_readNumber_43 fl_X9_22 (fun _ _ _ => rfl) rfl rfl ?_
      refine p_aload_n dX9_readNumber_46 rfl ?_
      refine p_geti dX9_readNumber_47 fl_X9_26 (fun _ _ _ => rfl) rfl ?_
      refine q_bald dX9_readNumber_50 rfl rfl h (fun h => ?_)
      refine p_bipush dX9_readNumber_51 (by decide) ?_
      refine q_icmp_gt (tgt := 106) dX9_readNumber_53 (by decide) h (fun h => ?_) (fun h => ?_)
      · have h := kl_inr h
        exact p_weak (leL.same (leL.same (leL.same (leL.drop (leL.drop leL.nil))))) (x_X9_readNumber_106 hG h)
      · refine p_aload_n dX9_readNumber_56 rfl ?_
        refine p_geti dX9_readNumber_57 fl_X9_26 (fun _ _ _ => rfl) rfl ?_
        refine p_aload_n dX9_readNumber_60 rfl ?_
        refine p_geti dX9_readNumber_61 fl_X9_35 (fun _ _ _ => rfl) rfl ?_
        refine p_isub dX9_readNumber_64 ?_
        refine p_iconst dX9_readNumber_65 ?_
        refine q_icmp_ge (tgt := 93) dX9_readNumber_66 (by decide) h (fun h => ?_) (fun h => ?_)
        · refine p_aload_n dX9_readNumber_93 rfl ?_
          refine p_dup dX9_readNumber_94 rfl ?_
          refine p_geti dX9_readNumber_95 fl_X9_26 (fun _ _ _ => rfl) rfl ?_
          refine p_iconst dX9_readNumber_98 ?_
          refine p_iadd dX9_readNumber_99 ?_
          refine q_puti dX9_readNumber_100 fq_X9_26 rfl rfl h (fun D100 h => ?_)
          refine p_goto (tgt := 17) dX9_readNumber_103 (by decide) ?_
          exact p_weak (leL.same (leL.same (leL.same (leL.drop (leL.drop leL.nil))))) (kl_inl (P := (P_X9_readNumber_17 l g n K v1 v2)) h)
        · refine p_aload_n dX9_readNumber_69 rfl ?_
          refine p_aload_n dX9_readNumber_70 rfl ?_
          refine p_geti dX9_readNumber_71 fl_X9_38 (fun _ _ _ => rfl) rfl ?_
          refine p_bipush dX9_readNumber_74 (by decide) ?_
          refine p_imul dX9_readNumber_76 ?_
          refine p_aload_n dX9_readNumber_77 rfl ?_
          refine p_getr dX9_readNumber_78 fl_X9_22 (fun _ _ _ => rfl) rfl rfl ?_
          refine p_aload_n dX9_readNumber_81 rfl ?_
          refine p_geti dX9_readNumber_82 fl_X9_26 (fun _ _ _ => rfl) rfl ?_
          refine q_bald dX9_readNumber_85 rfl rfl h (fun h => ?_)
          refine p_iadd dX9_readNumber_86 ?_
          refine p_bipush dX9_readNumber_87 (by decide) ?_
          refine p_isub dX9_readNumber_89 ?_
          refine q_puti dX9_readNumber_90 fq_X9_38 rfl rfl h (fun D90 h => ?_)
          refine p_aload_n dX9_readNumber_93 rfl ?_
          refine p_dup dX9_readNumber_94 rfl ?_
          refine p_geti dX9_readNumber_95 fl_X9_26 (fun _ _ _ => rfl) rfl ?_
          refine p_iconst dX9_readNumber_98 ?_
          refine p_iadd dX9_readNumber_99 ?_
          refine q_puti dX9_readNumber_100 fq_X9_26 rfl rfl h (fun D100 h => ?_)
          refine p_goto (tgt := 17) dX9_readNumber_103 (by decide) ?_
          exact p_weak (leL.same (leL.same (leL.same (leL.drop (leL.drop leL.nil))))) (kl_inl (P := (P_X9_readNumber_17 l g n K v1 v2)) h)
set_option maxRecDepth 100000 in
set_option maxHeartbeats 4000000 in
theorem x_X9_readNumber {l : Launch} {g : GH} (hG : G0 l g) {n : Nat} {v1 : Int} {v2 : Int} {D : DT} {K : (Int × DT) → Prop} (h : ok (m_X9_readNumber v1 v2 D) K) : Px (E_X9_readNumber l g (PIw n K)) 0 [some (vR g 55), some (vI v1), some (vI v2), none, none] [] (LF n) D 0 0 := by
  refine p_aload_n dX9_readNumber_0 rfl ?_
  refine cV_Vw [] [] dX9_readNumber_1 yv_X9_skipBlanks ml_X9_55 (r := (RX9, TX9, 10)) rfl rfl (Nat.le_of_ble_eq_true rfl) rfl (Nat.le_of_ble_eq_true rfl) (Nat.le_of_ble_eq_true rfl) (Nat.le_of_ble_eq_true rfl) rfl h (fun K h => s_X9_skipBlanks hG h) (fun D1 h => ?_)
  refine p_aload_n dX9_readNumber_4 rfl ?_
  refine p_aload_n dX9_readNumber_5 rfl ?_
  refine p_geti dX9_readNumber_6 fl_X9_26 (fun _ _ _ => rfl) rfl ?_
  refine q_puti dX9_readNumber_9 fq_X9_35 rfl rfl h (fun D9 h => ?_)
  refine p_aload_n dX9_readNumber_12 rfl ?_
  refine p_iconst dX9_readNumber_13 ?_
  refine q_puti dX9_readNumber_14 fq_X9_38 rfl rfl h (fun D14 h => ?_)
  exact p_weak (leL.same (leL.same (leL.same (leL.drop (leL.drop leL.nil))))) (x_X9_readNumber_17 hG h)
theorem s_X9_readNumber {l : Launch} {g : GH} (hG : G0 l g) {n : Nat} {v1 : Int} {v2 : Int} {D : DT} {K : (Int × DT) → Prop} (h : ok (m_X9_readNumber v1 v2 D) K) : Sat l g yX9_readNumber cX9_readNumber 5 (some .boolean) 1 0 0 [vR g 55, vI v1, vI v2] (LF n) D (PIw n K) := Sat.of hG (by decide) (Nat.le_of_ble_eq_true rfl) (by simp [Value.category]) (x_X9_readNumber hG h)
