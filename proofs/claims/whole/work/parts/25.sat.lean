abbrev E_X11_allDots (l : Launch) (g : GH) (P : PT) : ENV := mkE l g yX11_allDots cX11_allDots 6 (some .int) [] 1 0 0 P
abbrev P_X11_allDots_5 (l : Launch) (g : GH) (n : Nat) (K : Int → Prop) (v1 : Int) (v2 : Int) (D : DT) : (Int × Int) → Prop := fun s => Px (E_X11_allDots l g (PIr n D K)) 5 [some (vR g 73), some (vI v1), some (vI v2), some (vI s.1), some (vI s.2), none] [] (LF n) D 0 0
abbrev P_X11_allDots_17 (l : Launch) (g : GH) (n : Nat) (K : Int → Prop) (v1 : Int) (v2 : Int) (v4 : Int) (D : DT) : (Int × Int) → Prop := fun s => Px (E_X11_allDots l g (PIr n D K)) 17 [some (vR g 73), some (vI v1), some (vI v2), some (vI s.1), some (vI v4), some (vI s.2)] [] (LF n) D 0 0
set_option maxRecDepth 100000 in
set_option maxHeartbeats 4000000 in
theorem x_X11_allDots_17 {l : Launch} {g : GH} (hG : G0 l g) {n : Nat} {v1 v2 v4 : Int} {D : DT} {K : Int → Prop} {s : (Int × Int)} (h : ok (m_X11_allDots_17 v1 v2 v4 D s) (KL (P_X11_allDots_5 l g n K v1 v2 D) K)) : Px (E_X11_allDots l g (PIr n D K)) 17 [some (vR g 73), some (vI v1), some (vI v2), some (vI s.1), some (vI v4), some (vI s.2)] [] (LF n) D 0 0 := by
  refine ok_loop (P := (P_X11_allDots_17 l g n K v1 v2 v4 D)) (fun s h => ?_) h
  refine p_iload dX11_allDots_17 rfl ?_
  refine p_aload_n dX11_allDots_19 rfl ?_
  refine p_getr dX11_allDots_20 fl_X11_17 (fun _ _ _ => rfl) rfl rfl ?_
  refine p_iconst dX11_allDots_23 ?_
  refine q_iald dX11_allDots_24 rfl rfl h (fun h => ?_)
  refine q_icmp_ge (tgt := 65) dX11_allDots_25 (by decide) h (fun h => ?_) (fun h => ?_)
  · have h := kl_inr h
    refine p_iinc dX11_allDots_65 rfl (Nat.le_of_ble_eq_true rfl) rfl ?_
    refine p_goto (tgt := 5) dX11_allDots_68 (by decide) ?_
    exact p_weak (leL.same (leL.same (leL.same (leL.same (leL.same (leL.drop leL.nil)))))) (kl_inl (P := (P_X11_allDots_5 l g n K v1 v2 D)) h)
  · refine p_iload_n dX11_allDots_28 rfl ?_
    refine p_iload_n dX11_allDots_29 rfl ?_
    refine p_iconst dX11_allDots_30 ?_
    refine q_icmp_eq (tgt := 40) dX11_allDots_31 (by decide) h (fun h => ?_) (fun h => ?_)
    · refine p_aload_n dX11_allDots_40 rfl ?_
      refine p_getr dX11_allDots_41 fl_X11_70 (fun _ _ _ => rfl) rfl rfl ?_
      refine p_iload_n dX11_allDots_44 rfl ?_
      refine p_iload dX11_allDots_45 rfl ?_
      refine p_iload dX11_allDots_47 rfl ?_
      refine cS_Ir [vI v2, vI v4, vI s.2] [vR g 90, vI s.1] dX11_allDots_49 ys_X11_dotsAt ml_X11_239 (Nat.le_of_ble_eq_true rfl) rfl (Nat.le_of_ble_eq_true rfl) (Nat.le_of_ble_eq_true rfl) (Nat.le_of_ble_eq_true rfl) h (fun K h => s_X11_dotsAt hG h) (fun r49 h => ?_)
      refine q_iald dX11_allDots_52 rfl rfl h (fun h => ?_)
      refine p_goto (tgt := 57) dX11_allDots_53 (by decide) ?_
      refine p_iadd dX11_allDots_57 ?_
      refine p_istore_n dX11_allDots_58 (Nat.le_of_ble_eq_true rfl) rfl ?_
      refine p_iinc dX11_allDots_59 rfl (Nat.le_of_ble_eq_true rfl) rfl ?_
      refine p_goto (tgt := 17) dX11_allDots_62 (by decide) ?_
      exact p_weak (leL.same (leL.same (leL.same (leL.same (leL.same (leL.same leL.nil)))))) (kl_inl (P := (P_X11_allDots_17 l g n K v1 v2 v4 D)) h)
    · refine p_iload dX11_allDots_34 rfl ?_
      refine p_iload_n dX11_allDots_36 rfl ?_
      refine q_icmp_ne (tgt := 56) dX11_allDots_37 (by decide) h (fun h => ?_) (fun h => ?_)
      · refine p_iconst dX11_allDots_56 ?_
        refine p_iadd dX11_allDots_57 ?_
        refine p_istore_n dX11_allDots_58 (Nat.le_of_ble_eq_true rfl) rfl ?_
        refine p_iinc dX11_allDots_59 rfl (Nat.le_of_ble_eq_true rfl) rfl ?_
        refine p_goto (tgt := 17) dX11_allDots_62 (by decide) ?_
        exact p_weak (leL.same (leL.same (leL.same (leL.same (leL.same (leL.same leL.nil)))))) (kl_inl (P := (P_X11_allDots_17 l g n K v1 v2 v4 D)) h)
      · refine p_aload_n dX11_allDots_40 rfl ?_
        refine p_getr dX11_allDots_41 fl_X11_70 (fun _ _ _ => rfl) rfl rfl ?_
        refine p_iload_n dX11_allDots_44 rfl ?_
        refine p_iload dX11_allDots_45 rfl ?_
        refine p_iload dX11_allDots_47 rfl ?_
        refine cS_Ir [vI v2, vI v4, vI s.2] [vR g 90, vI s.1] dX11_allDots_49 ys_X11_dotsAt ml_X11_239 (Nat.le_of_ble_eq_true rfl) rfl (Nat.le_of_ble_eq_true rfl) (Nat.le_of_ble_eq_true rfl) (Nat.le_of_ble_eq_true rfl) h (fun K h => s_X11_dotsAt hG h) (fun r49 h => ?_)
        refine q_iald dX11_allDots_52 rfl rfl h (fun h => ?_)
        refine p_goto (tgt := 57) dX11_allDots_53 (by decide) ?_
        refine p_iadd dX11_allDots_57 ?_
        refine p_istore_n dX11_allDots_58 (Nat.le_of_ble_eq_true rfl) rfl ?_
        refine p_iinc dX11_allDots_59 rfl (Nat.le_of_ble_eq_true rfl) rfl ?_
        refine p_goto (tgt := 17) dX11_allDots_62 (by decide) ?_
        exact p_weak (leL.same (leL.same (leL.same (leL.same (leL.same (leL.same leL.nil)))))) (kl_inl (P := (P_X11_allDots_17 l g n K v1 v2 v4 D)) h)
set_option maxRecDepth 100000 in
set_option maxHeartbeats 4000000 in
theorem x_X11_allDots_5 {l : Launch} {g : GH} (hG : G0 l g) {n : Nat} {v1 v2 : Int} {D : DT} {K : Int → Prop} {s : (Int × Int)} (h : ok (m_X11_allDots_5 v1 v2 D s) K) : Px (E_X11_allDots l g (PIr n D K)) 5 [some (vR g 73), some (vI v1), some (vI v2), some (vI s.1), some (vI s.2), none] [] (LF n) D 0 0 := by
  refine ok_loop (P := (P_X11_allDots_5 l g n K v1 v2 D)) (fun s h => ?_) h
  refine p_iload dX11_allDots_5 rfl ?_
  refine p_aload_n dX11_allDots_7 rfl ?_
  refine cV_Ir [] [vI s.2] dX11_allDots_8 yv_X11_zones ml_X11_222 (r := (RX11, TX11, 41)) rfl rfl (Nat.le_of_ble_eq_true rfl) rfl (Nat.le_of_ble_eq_true rfl) (Nat.le_of_ble_eq_true rfl) (Nat.le_of_ble_eq_true rfl) rfl h (fun K h => s_X11_zones hG h) (fun r8 h => ?_)
  refine q_icmp_ge (tgt := 71) dX11_allDots_11 (by decide) h (fun h => ?_) (fun h => ?_)
  · have h := kl_inr h
    refine p_iload_n dX11_allDots_71 rfl ?_
    exact p_ireturn dX11_allDots_72 (Nat.le_of_ble_eq_true rfl) (Nat.le_of_ble_eq_true rfl) ⟨_, rfl, rfl, rfl, ok_some h⟩
  · refine p_iconst dX11_allDots_14 ?_
    refine p_istore dX11_allDots_15 (Nat.le_of_ble_eq_true rfl) rfl ?_
    exact p_weak (leL.same (leL.same (leL.same (leL.same (leL.same (leL.same leL.nil)))))) (x_X11_allDots_17 hG h)
set_option maxRecDepth 100000 in
set_option maxHeartbeats 4000000 in
theorem x_X11_allDots {l : Launch} {g : GH} (hG : G0 l g) {n : Nat} {v1 : Int} {v2 : Int} {D : DT} {K : Int → Prop} (h : ok (m_X11_allDots v1 v2 D) K) : Px (E_X11_allDots l g (PIr n D K)) 0 [some (vR g 73), some (vI v1), some (vI v2), none, none, none] [] (LF n) D 0 0 := by
  refine p_iconst dX11_allDots_0 ?_
  refine p_istore_n dX11_allDots_1 (Nat.le_of_ble_eq_true rfl) rfl ?_
  refine p_iconst dX11_allDots_2 ?_
  refine p_istore dX11_allDots_3 (Nat.le_of_ble_eq_true rfl) rfl ?_
  exact p_weak (leL.same (leL.same (leL.same (leL.same (leL.same (leL.drop leL.nil)))))) (x_X11_allDots_5 hG h)
theorem s_X11_allDots {l : Launch} {g : GH} (hG : G0 l g) {n : Nat} {v1 : Int} {v2 : Int} {D : DT} {K : Int → Prop} (h : ok (m_X11_allDots v1 v2 D) K) : Sat l g yX11_allDots cX11_allDots 6 (some .int) 1 0 0 [vR g 73, vI v1, vI v2] (LF n) D (PIr n D K) := Sat.of hG (by decide) (Nat.le_of_ble_eq_true rfl) (by simp [Value.category]) (x_X11_allDots hG h)
abbrev E_X11_cellOf (l : Launch) (g : GH) (P : PT) : ENV := mkE l g yX11_cellOf cX11_cellOf 4 (some .int) [] 1 0 0 P
set_option maxRecDepth 100000 in
set_option maxHeartbeats 4000000 in
theorem x_X11_cellOf {l : Launch} {g : GH} (hG : G0 l g) {n : Nat} {v1 : Int} {v2 : Int} {v3 : Int} {D : DT} {K : Int → Prop} (h : ok (m_X11_cellOf v1 v2 v3 D) K) : Px (E_X11_cellOf l g (PIr n D K)) 0 [some (vR g 73), some (vI v1), some (vI v2), some (vI v3)] [] (LF n) D 0 0 := by
  refine p_aload_n dX11_cellOf_0 rfl ?_
  refine p_getr dX11_cellOf_1 fl_X11_58 (fun _ _ _ => rfl) rfl rfl ?_
  refine p_aload_n dX11_cellOf_4 rfl ?_
  refine p_getr dX11_cellOf_5 fl_X11_61 (fun _ _ _ => rfl) rfl rfl ?_
  refine p_iload_n dX11_cellOf_8 rfl ?_
  refine q_iald dX11_cellOf_9 rfl rfl h (fun h => ?_)
  refine p_iload_n dX11_cellOf_10 rfl ?_
  refine q_i2l dX11_cellOf_11 h (fun h => ?_)
  refine p_aload_n dX11_cellOf_12 rfl ?_
  refine p_getr dX11_cellOf_13 fl_X11_17 (fun _ _ _ => rfl) rfl rfl ?_
  refine p_iconst dX11_cellOf_16 ?_
  refine q_iald dX11_cellOf_17 rfl rfl h (fun h => ?_)
  refine q_i2l dX11_cellOf_18 h (fun h => ?_)
  refine p_lmul dX11_cellOf_19 ?_
  refine p_iload_n dX11_cellOf_20 rfl ?_
  refine q_i2l dX11_cellOf_21 h (fun h => ?_)
  refine p_ladd dX11_cellOf_22 ?_
  refine p_aload_n dX11_cellOf_23 rfl ?_
  refine p_iload_n dX11_cellOf_24 rfl ?_
  refine cV_Ir [vI v1] [vJ ((v3 * (D.2 76 (Int.toNat 3))) + v2), vI (D.2 87 (Int.toNat v1)), vR g 86] dX11_cellOf_25 yv_X11_land ml_X11_243 (r := (RX11, TX11, 41)) rfl rfl (Nat.le_of_ble_eq_true rfl) rfl (Nat.le_of_ble_eq_true rfl) (Nat.le_of_ble_eq_true rfl) (Nat.le_of_ble_eq_true rfl) rfl h (fun K h => s_X11_land hG h) (fun r25 h => ?_)
  refine q_i2l dX11_cellOf_28 h (fun h => ?_)
  refine q_lrem dX11_cellOf_29 h (fun h => ?_)
  refine p_l2i dX11_cellOf_30 ?_
  refine p_iadd dX11_cellOf_31 ?_
  refine q_iald dX11_cellOf_32 rfl rfl h (fun h => ?_)
  exact p_ireturn dX11_cellOf_33 (Nat.le_of_ble_eq_true rfl) (Nat.le_of_ble_eq_true rfl) ⟨_, rfl, rfl, rfl, ok_some h⟩
theorem s_X11_cellOf {l : Launch} {g : GH} (hG : G0 l g) {n : Nat} {v1 : Int} {v2 : Int} {v3 : Int} {D : DT} {K : Int → Prop} (h : ok (m_X11_cellOf v1 v2 v3 D) K) : Sat l g yX11_cellOf cX11_cellOf 4 (some .int) 1 0 0 [vR g 73, vI v1, vI v2, vI v3] (LF n) D (PIr n D K) := Sat.of hG (by decide) (Nat.le_of_ble_eq_true rfl) (by simp [Value.category]) (x_X11_cellOf hG h)
abbrev E_X11_laysCrowds (l : Launch) (g : GH) (P : PT) : ENV := mkE l g yX11_laysCrowds cX11_laysCrowds 5 none [] 2 0 0 P
abbrev P_X11_laysCrowds_10 (l : Launch) (g : GH) (n : Nat) (K : DT → Prop) (v1 : Int) : (Int × DT) → Prop := fun s => Px (E_X11_laysCrowds l g (PVw n K)) 10 [some (vR g 73), some (vI v1), some (vI s.1), none, none] [] (LF n) s.2 0 0
abbrev P_X11_laysCrowds_32 (l : Launch) (g : GH) (n : Nat) (K : DT → Prop) (v1 : Int) : (Int × DT) → Prop := fun s => Px (E_X11_laysCrowds l g (PVw n K)) 32 [some (vR g 73), some (vI v1), some (vI s.1), none, none] [] (LF n) s.2 0 0
abbrev P_X11_laysCrowds_42 (l : Launch) (g : GH) (n : Nat) (K : DT → Prop) (v1 : Int) (v2 : Int) : (Int × DT) → Prop := fun s => Px (E_X11_laysCrowds l g (PVw n K)) 42 [some (vR g 73), some (vI v1), some (vI v2), some (vI s.1), none] [] (LF n) s.2 0 0
abbrev P_X11_laysCrowds_55 (l : Launch) (g : GH) (n : Nat) (K : DT → Prop) (v1 : Int) (v2 : Int) (v3 : Int) : (Int × DT) → Prop := fun s => Px (E_X11_laysCrowds l g (PVw n K)) 55 [some (vR g 73), some (vI v1), some (vI v2), some (vI v3), some (vI s.1)] [] (LF n) s.2 0 0
set_option maxRecDepth 100000 in
set_option maxHeartbeats 4000000 in
theorem x_X11_laysCrowds_55 {l : Launch} {g : GH} (hG : G0 l g) {n : Nat} {v1 v2 v3 : Int} {K : DT → Prop} {s : (Int × DT)} (h : ok (m_X11_laysCrowds_55 v1 v2 v3 s) (KL (P_X11_laysCrowds_42 l g n K v1 v2) (KL (P_X11_laysCrowds_32 l g n K v1) K))) : Px (E_X11_laysCrowds l g (PVw n K)) 55 [some (vR g 73), some (vI v1), some (vI v2), some (vI v3), some (vI s.1)] [] (LF n) s.2 0 0 := by
  refine ok_loop (P := (P_X11_laysCrowds_55 l g n K v1 v2 v3)) (fun s h => ?_) h
  refine p_iload dX11_laysCrowds_55 rfl ?_
  refine p_aload_n dX11_laysCrowds_57 rfl ?_
  refine p_getr dX11_laysCrowds_58 fl_X11_70 (fun _ _ _ => rfl) rfl rfl ?_
  refine p_iload_n dX11_laysCrowds_61 rfl ?_
  refine p_iload_n dX11_laysCrowds_62 rfl ?_
  refine p_iload_n dX11_laysCrowds_63 rfl ?_
  refine cS_Ir [vI v1, vI v2, vI v3] [vR g 90, vI s.1] dX11_laysCrowds_64 ys_X11_dotsAt ml_X11_239 (Nat.le_of_ble_eq_true rfl) rfl (Nat.le_of_ble_eq_true rfl) (Nat.le_of_ble_eq_true rfl) (Nat.le_of_ble_eq_true rfl) h (fun K h => s_X11_dotsAt hG h) (fun r64 h => ?_)
  refine q_iald dX11_laysCrowds_67 rfl rfl h (fun h => ?_)
  refine q_icmp_ge (tgt := 98) dX11_laysCrowds_68 (by decide) h (fun h => ?_) (fun h => ?_)
  · have h := kl_inr h
    refine p_iinc dX11_laysCrowds_98 rfl (Nat.le_of_ble_eq_true rfl) rfl ?_
    refine p_goto (tgt := 42) dX11_laysCrowds_101 (by decide) ?_
    exact p_weak (leL.same (leL.same (leL.same (leL.same (leL.drop leL.nil))))) (kl_inl (P := (P_X11_laysCrowds_42 l g n K v1 v2)) h)
  · refine p_aload_n dX11_laysCrowds_71 rfl ?_
    refine p_getr dX11_laysCrowds_72 fl_X11_79 (fun _ _ _ => rfl) rfl rfl ?_
    refine p_iconst dX11_laysCrowds_75 ?_
    refine p_aload_n dX11_laysCrowds_76 rfl ?_
    refine p_iload_n dX11_laysCrowds_77 rfl ?_
    refine p_iload_n dX11_laysCrowds_78 rfl ?_
    refine p_iload dX11_laysCrowds_79 rfl ?_
    refine cV_Ir [vI v2, vI v3, vI s.1] [vI 3, vR g 93] dX11_laysCrowds_81 yv_X11_cellOf ml_X11_249 (r := (RX11, TX11, 41)) rfl rfl (Nat.le_of_ble_eq_true rfl) rfl (Nat.le_of_ble_eq_true rfl) (Nat.le_of_ble_eq_true rfl) (Nat.le_of_ble_eq_true rfl) rfl h (fun K h => s_X11_cellOf hG h) (fun r81 h => ?_)
    refine p_imul dX11_laysCrowds_84 ?_
    refine p_iload_n dX11_laysCrowds_85 rfl ?_
    refine p_iadd dX11_laysCrowds_86 ?_
    refine p_dup2 dX11_laysCrowds_87 rfl rfl ?_
    refine q_iald dX11_laysCrowds_88 rfl rfl h (fun h => ?_)
    refine p_iconst dX11_laysCrowds_89 ?_
    refine p_iadd dX11_laysCrowds_90 ?_
    refine q_iast dX11_laysCrowds_91 rfl rfl h (fun D91 h => ?_)
    refine p_iinc dX11_laysCrowds_92 rfl (Nat.le_of_ble_eq_true rfl) rfl ?_
    refine p_goto (tgt := 55) dX11_laysCrowds_95 (by decide) ?_
    exact p_weak (leL.same (leL.same (leL.same (leL.same (leL.same leL.nil))))) (kl_inl (P := (P_X11_laysCrowds_55 l g n K v1 v2 v3)) h)
set_option maxRecDepth 100000 in
set_option maxHeartbeats 4000000 in
theorem x_X11_laysCrowds_42 {l : Launch} {g : GH} (hG : G0 l g) {n : Nat} {v1 v2 : Int} {K : DT → Prop} {s : (Int × DT)} (h : ok (m_X11_laysCrowds_42 v1 v2 s) (KL (P_X11_laysCrowds_32 l g n K v1) K)) : Px (E_X11_laysCrowds l g (PVw n K)) 42 [some (vR g 73), some (vI v1), some (vI v2), some (vI s.1), none] [] (LF n) s.2 0 0 := by
  refine ok_loop (P := (P_X11_laysCrowds_42 l g n K v1 v2)) (fun s h => ?_) h
  refine p_iload_n dX11_laysCrowds_42 rfl ?_
  refine p_aload_n dX11_laysCrowds_43 rfl ?_
  refine p_getr dX11_laysCrowds_44 fl_X11_17 (fun _ _ _ => rfl) rfl rfl ?_
  refine p_iconst dX11_laysCrowds_47 ?_
  refine q_iald dX11_laysCrowds_48 rfl rfl h (fun h => ?_)
  refine q_icmp_ge (tgt := 104) dX11_laysCrowds_49 (by decide) h (fun h => ?_) (fun h => ?_)
  · have h := kl_inr h
    refine p_iinc dX11_laysCrowds_104 rfl (Nat.le_of_ble_eq_true rfl) rfl ?_
    refine p_goto (tgt := 32) dX11_laysCrowds_107 (by decide) ?_
    exact p_weak (leL.same (leL.same (leL.same (leL.drop (leL.drop leL.nil))))) (kl_inl (P := (P_X11_laysCrowds_32 l g n K v1)) h)
  · refine p_iconst dX11_laysCrowds_52 ?_
    refine p_istore dX11_laysCrowds_53 (Nat.le_of_ble_eq_true rfl) rfl ?_
    exact p_weak (leL.same (leL.same (leL.same (leL.same (leL.same leL.nil))))) (x_X11_laysCrowds_55 hG h)
set_option maxRecDepth 100000 in
set_option maxHeartbeats 4000000 in
theorem x_X11_laysCrowds_32 {l : Launch} {g : GH} (hG : G0 l g) {n : Nat} {v1 : Int} {K : DT → Prop} {s : (Int × DT)} (h : ok (m_X11_laysCrowds_32 v1 s) K) : Px (E_X11_laysCrowds l g (PVw n K)) 32 [some (vR g 73), some (vI v1), some (vI s.1), none, none] [] (LF n) s.2 0 0 := by
  refine ok_loop (P := (P_X11_laysCrowds_32 l g n K v1)) (fun s h => ?_) h
  refine p_iload_n dX11_laysCrowds_32 rfl ?_
  refine p_aload_n dX11_laysCrowds_33 rfl ?_
  refine cV_Ir [] [vI s.1] dX11_laysCrowds_34 yv_X11_zones ml_X11_222 (r := (RX11, TX11, 41)) rfl rfl (Nat.le_of_ble_eq_true rfl) rfl (Nat.le_of_ble_eq_true rfl) (Nat.le_of_ble_eq_true rfl) (Nat.le_of_ble_eq_true rfl) rfl h (fun K h => s_X11_zones hG h) (fun r34 h => ?_)
  refine q_icmp_ge (tgt := 110) dX11_laysCrowds_37 (by decide) h (fun h => ?_) (fun h => ?_)
  · have h := kl_inr h
    exact p_return dX11_laysCrowds_110 (Nat.le_of_ble_eq_true rfl) (Nat.le_of_ble_eq_true rfl) ⟨rfl, rfl, ok_some h⟩
  · refine p_iconst dX11_laysCrowds_40 ?_
    refine p_istore_n dX11_laysCrowds_41 (Nat.le_of_ble_eq_true rfl) rfl ?_
    exact p_weak (leL.same (leL.same (leL.same (leL.same (leL.drop leL.nil))))) (x_X11_laysCrowds_42 hG h)
set_option maxRecDepth 100000 in
set_option maxHeartbeats 4000000 in
theorem x_X11_laysCrowds_10 {l : Launch} {g : GH} (hG : G0 l g) {n : Nat} {v1 : Int} {K : DT → Prop} {s : (Int × DT)} (h : ok (m_X11_laysCrowds_10 v1 s) K) : Px (E_X11_laysCrowds l g (PVw n K)) 10 [some (vR g 73), some (vI v1), some (vI s.1), none, none] [] (LF n) s.2 0 0 := by
  refine ok_loop (P := (P_X11_laysCrowds_10 l g n K v1)) (fun s h => ?_) h
  refine p_iload_n dX11_laysCrowds_10 rfl ?_
  refine p_sipush dX11_laysCrowds_11 (by decide) ?_
  refine q_icmp_ge (tgt := 30) dX11_laysCrowds_14 (by decide) h (fun h => ?_) (fun h => ?_)
  · have h := kl_inr h
    refine p_iconst dX11_laysCrowds_30 ?_
    refine p_istore_n dX11_laysCrowds_31 (Nat.le_of_ble_eq_true rfl) rfl ?_
    exact p_weak (leL.same (leL.same (leL.same (leL.drop (leL.drop leL.nil))))) (x_X11_laysCrowds_32 hG h)
  · refine p_aload_n dX11_laysCrowds_17 rfl ?_
    refine p_getr dX11_laysCrowds_18 fl_X11_79 (fun _ _ _ => rfl) rfl rfl ?_
    refine p_iload_n dX11_laysCrowds_21 rfl ?_
    refine p_iconst dX11_laysCrowds_22 ?_
    refine q_iast dX11_laysCrowds_23 rfl rfl h (fun D23 h => ?_)
    refine p_iinc dX11_laysCrowds_24 rfl (Nat.le_of_ble_eq_true rfl) rfl ?_
    refine p_goto (tgt := 10) dX11_laysCrowds_27 (by decide) ?_
    exact p_weak (leL.same (leL.same (leL.same (leL.drop (leL.drop leL.nil))))) (kl_inl (P := (P_X11_laysCrowds_10 l g n K v1)) h)
set_option maxRecDepth 100000 in
set_option maxHeartbeats 4000000 in
theorem x_X11_laysCrowds {l : Launch} {g : GH} (hG : G0 l g) {n : Nat} {v1 : Int} {D : DT} {K : DT → Prop} (h : ok (m_X11_laysCrowds v1 D) K) : Px (E_X11_laysCrowds l g (PVw n K)) 0 [some (vR g 73), some (vI v1), none, none, none] [] (LF n) D 0 0 := by
  refine p_aload_n dX11_laysCrowds_0 rfl ?_
  refine p_aload_n dX11_laysCrowds_1 rfl ?_
  refine p_geti dX11_laysCrowds_2 fl_X11_48 (fun _ _ _ => rfl) rfl ?_
  refine cV_Vw [vI (D.1 73 14)] [] dX11_laysCrowds_5 yv_X11_laysDots ml_X11_246 (r := (RX11, TX11, 41)) rfl rfl (Nat.le_of_ble_eq_true rfl) rfl (Nat.le_of_ble_eq_true rfl) (Nat.le_of_ble_eq_true rfl) (Nat.le_of_ble_eq_true rfl) rfl h (fun K h => s_X11_laysDots hG h) (fun D5 h => ?_)
  refine p_iconst dX11_laysCrowds_8 ?_
  refine p_istore_n dX11_laysCrowds_9 (Nat.le_of_ble_eq_true rfl) rfl ?_
  exact p_weak (leL.same (leL.same (leL.same (leL.drop (leL.drop leL.nil))))) (x_X11_laysCrowds_10 hG h)
theorem s_X11_laysCrowds {l : Launch} {g : GH} (hG : G0 l g) {n : Nat} {v1 : Int} {D : DT} {K : DT → Prop} (h : ok (m_X11_laysCrowds v1 D) K) : Sat l g yX11_laysCrowds cX11_laysCrowds 5 none 2 0 0 [vR g 73, vI v1] (LF n) D (PVw n K) := Sat.of hG (by decide) (Nat.le_of_ble_eq_true rfl) (by simp [Value.category]) (x_X11_laysCrowds hG h)
abbrev E_X11_crowdOf (l : Launch) (g : GH) (P : PT) : ENV := mkE l g yX11_crowdOf cX11_crowdOf 5 (some .int) [] 0 0 0 P
abbrev P_X11_crowdOf_5 (l : Launch) (g : GH) (n : Nat) (K : Int → Prop) (v1 : Int) (v2 : Int) (D : DT) : (Int × Int) → Prop := fun s => Px (E_X11_crowdOf l g (PIr n D K)) 5 [some (vR g 73), some (vI v1), some (vI v2), some (vI s.1), some (vI s.2)] [] (LF n) D 0 0
set_option maxRecDepth 100000 in
set_option maxHeartbeats 4000000 in
theorem x_X11_crowdOf_5 {l : Launch} {g : GH} (hG : G0 l g) {n : Nat} {v1 v2 : Int} {D : DT} {K : Int → Prop} {s : (Int × Int)} (h : ok (m_X11_crowdOf_5 v1 v2 D s) K) : Px (E_X11_crowdOf l g (PIr n D K)) 5 [some (vR g 73), some (vI v1), some (vI v2), some (vI s.1), some (vI s.2)] [] (LF n) D 0 0 := by
  refine ok_loop (P := (P_X11_crowdOf_5 l g n K v1 v2 D)) (fun s h => ?_) h
  refine p_iload dX11_crowdOf_5 rfl ?_
  refine p_iconst dX11_crowdOf_7 ?_
  refine q_icmp_ge (tgt := 46) dX11_crowdOf_8 (by decide) h (fun h => ?_) (fun h => ?_)
  · have h := kl_inr h
    refine p_iload_n dX11_crowdOf_46 rfl ?_
    exact p_ireturn dX11_crowdOf_47 (Nat.le_of_ble_eq_true rfl) (Nat.le_of_ble_eq_true rfl) ⟨_, rfl, rfl, rfl, ok_some h⟩
  · refine p_iload_n dX11_crowdOf_11 rfl ?_
    refine p_iload_n dX11_crowdOf_12 rfl ?_
    refine p_iconst dX11_crowdOf_13 ?_
    refine q_icmp_eq (tgt := 23) dX11_crowdOf_14 (by decide) h (fun h => ?_) (fun h => ?_)
    · refine p_aload_n dX11_crowdOf_23 rfl ?_
      refine p_getr dX11_crowdOf_24 fl_X11_79 (fun _ _ _ => rfl) rfl rfl ?_
      refine p_iconst dX11_crowdOf_27 ?_
      refine p_iload_n dX11_crowdOf_28 rfl ?_
      refine p_imul dX11_crowdOf_29 ?_
      refine p_iload dX11_crowdOf_30 rfl ?_
      refine p_iadd dX11_crowdOf_32 ?_
      refine q_iald dX11_crowdOf_33 rfl rfl h (fun h => ?_)
      refine p_goto (tgt := 38) dX11_crowdOf_34 (by decide) ?_
      refine p_iadd dX11_crowdOf_38 ?_
      refine p_istore_n dX11_crowdOf_39 (Nat.le_of_ble_eq_true rfl) rfl ?_
      refine p_iinc dX11_crowdOf_40 rfl (Nat.le_of_ble_eq_true rfl) rfl ?_
      refine p_goto (tgt := 5) dX11_crowdOf_43 (by decide) ?_
      exact p_weak (leL.same (leL.same (leL.same (leL.same (leL.same leL.nil))))) (kl_inl (P := (P_X11_crowdOf_5 l g n K v1 v2 D)) h)
    · refine p_iload dX11_crowdOf_17 rfl ?_
      refine p_iload_n dX11_crowdOf_19 rfl ?_
      refine q_icmp_ne (tgt := 37) dX11_crowdOf_20 (by decide) h (fun h => ?_) (fun h => ?_)
      · refine p_iconst dX11_crowdOf_37 ?_
        refine p_iadd dX11_crowdOf_38 ?_
        refine p_istore_n dX11_crowdOf_39 (Nat.le_of_ble_eq_true rfl) rfl ?_
        refine p_iinc dX11_crowdOf_40 rfl (Nat.le_of_ble_eq_true rfl) rfl ?_
        refine p_goto (tgt := 5) dX11_crowdOf_43 (by decide) ?_
        exact p_weak (leL.same (leL.same (leL.same (leL.same (leL.same leL.nil))))) (kl_inl (P := (P_X11_crowdOf_5 l g n K v1 v2 D)) h)
      · refine p_aload_n dX11_crowdOf_23 rfl ?_
        refine p_getr dX11_crowdOf_24 fl_X11_79 (fun _ _ _ => rfl) rfl rfl ?_
        refine p_iconst dX11_crowdOf_27 ?_
        refine p_iload_n dX11_crowdOf_28 rfl ?_
        refine p_imul dX11_crowdOf_29 ?_
        refine p_iload dX11_crowdOf_30 rfl ?_
        refine p_iadd dX11_crowdOf_32 ?_
        refine q_iald dX11_crowdOf_33 rfl rfl h (fun h => ?_)
        refine p_goto (tgt := 38) dX11_crowdOf_34 (by decide) ?_
        refine p_iadd dX11_crowdOf_38 ?_
        refine p_istore_n dX11_crowdOf_39 (Nat.le_of_ble_eq_true rfl) rfl ?_
        refine p_iinc dX11_crowdOf_40 rfl (Nat.le_of_ble_eq_true rfl) rfl ?_
        refine p_goto (tgt := 5) dX11_crowdOf_43 (by decide) ?_
        exact p_weak (leL.same (leL.same (leL.same (leL.same (leL.same leL.nil))))) (kl_inl (P := (P_X11_crowdOf_5 l g n K v1 v2 D)) h)
set_option maxRecDepth 100000 in
set_option maxHeartbeats 4000000 in
theorem x_X11_crowdOf {l : Launch} {g : GH} (hG : G0 l g) {n : Nat} {v1 : Int} {v2 : Int} {D : DT} {K : Int → Prop} (h : ok (m_X11_crowdOf v1 v2 D) K) : Px (E_X11_crowdOf l g (PIr n D K)) 0 [some (vR g 73), some (vI v1), some (vI v2), none, none] [] (LF n) D 0 0 := by
  refine p_iconst dX11_crowdOf_0 ?_
  refine p_istore_n dX11_crowdOf_1 (Nat.le_of_ble_eq_true rfl) rfl ?_
  refine p_iconst dX11_crowdOf_2 ?_
  refine p_istore dX11_crowdOf_3 (Nat.le_of_ble_eq_true rfl) rfl ?_
  exact p_weak (leL.same (leL.same (leL.same (leL.same (leL.same leL.nil))))) (x_X11_crowdOf_5 hG h)
theorem s_X11_crowdOf {l : Launch} {g : GH} (hG : G0 l g) {n : Nat} {v1 : Int} {v2 : Int} {D : DT} {K : Int → Prop} (h : ok (m_X11_crowdOf v1 v2 D) K) : Sat l g yX11_crowdOf cX11_crowdOf 5 (some .int) 0 0 0 [vR g 73, vI v1, vI v2] (LF n) D (PIr n D K) := Sat.of hG (by decide) (Nat.le_of_ble_eq_true rfl) (by simp [Value.category]) (x_X11_crowdOf hG h)
abbrev E_X11_hasDots (l : Launch) (g : GH) (P : PT) : ENV := mkE l g yX11_hasDots cX11_hasDots 2 (some .boolean) [] 1 0 0 P
set_option maxRecDepth 100000 in
set_option maxHeartbeats 4000000 in
theorem x_X11_hasDots {l : Launch} {g : GH} (hG : G0 l g) {n : Nat} {v1 : Int} {D : DT} {K : Int → Prop} (h : ok (m_X11_hasDots v1 D) K) : Px (E_X11_hasDots l g (PIr n D K)) 0 [some (vR g 73), some (vI v1)] [] (LF n) D 0 0 := by
  refine p_aload_n dX11_hasDots_0 rfl ?_
  refine p_iload_n dX11_hasDots_1 rfl ?_
  refine p_iconst dX11_hasDots_2 ?_
  refine cV_Ir [vI v1, vI (-1)] [] dX11_hasDots_3 yv_X11_crowdOf ml_X11_252 (r := (RX11, TX11, 41)) rfl rfl (Nat.le_of_ble_eq_true rfl) rfl (Nat.le_of_ble_eq_true rfl) (Nat.le_of_ble_eq_true rfl) (Nat.le_of_ble_eq_true rfl) rfl h (fun K h => s_X11_crowdOf hG h) (fun r3 h => ?_)
  refine q_if_le (tgt := 13) dX11_hasDots_6 (by decide) h (fun h => ?_) (fun h => ?_)
  · refine p_iconst dX11_hasDots_13 ?_
    exact p_zreturn dX11_hasDots_14 (Nat.le_of_ble_eq_true rfl) (Nat.le_of_ble_eq_true rfl) (Or.inl rfl) ⟨_, rfl, rfl, rfl, ok_some h⟩
  · refine p_iconst dX11_hasDots_9 ?_
    refine p_goto (tgt := 14) dX11_hasDots_10 (by decide) ?_
    exact p_zreturn dX11_hasDots_14 (Nat.le_of_ble_eq_true rfl) (Nat.le_of_ble_eq_true rfl) (Or.inr rfl) ⟨_, rfl, rfl, rfl, ok_some h⟩
theorem s_X11_hasDots {l : Launch} {g : GH} (hG : G0 l g) {n : Nat} {v1 : Int} {D : DT} {K : Int → Prop} (h : ok (m_X11_hasDots v1 D) K) : Sat l g yX11_hasDots cX11_hasDots 2 (some .boolean) 1 0 0 [vR g 73, vI v1] (LF n) D (PIr n D K) := Sat.of hG (by decide) (Nat.le_of_ble_eq_true rfl) (by simp [Value.category]) (x_X11_hasDots hG h)
abbrev E_X11_noCell (l : Launch) (g : GH) (P : PT) : ENV := mkE l g yX11_noCell cX11_noCell 2 (some .boolean) [] 1 0 0 P
set_option maxRecDepth 100000 in
set_option maxHeartbeats 4000000 in
theorem x_X11_noCell {l : Launch} {g : GH} (hG : G0 l g) {n : Nat} {v1 : Int} {D : DT} {K : (Int × DT) → Prop} (h : ok (m_X11_noCell v1 D) K) : Px (E_X11_noCell l g (PIw n K)) 0 [some (vR g 73), some (vI v1)] [] (LF n) D 0 0 := by
  refine p_aload_n dX11_noCell_0 rfl ?_
  refine p_iload_n dX11_noCell_1 rfl ?_
  refine p_iconst dX11_noCell_2 ?_
  refine p_aload_n dX11_noCell_3 rfl ?_
  refine cV_Ir [] [vI 0, vI v1, vR g 73] dX11_noCell_4 yv_X11_cells ml_X11_229 (r := (RX11, TX11, 41)) rfl rfl (Nat.le_of_ble_eq_true rfl) rfl (Nat.le_of_ble_eq_true rfl) (Nat.le_of_ble_eq_true rfl) (Nat.le_of_ble_eq_true rfl) rfl h (fun K h => s_X11_cells hG h) (fun r4 h => ?_)
  refine p_iconst dX11_noCell_7 ?_
  refine p_isub dX11_noCell_8 ?_
  refine cS_Ir [vI v1, vI 0, vI (r4 - 1)] [vR g 73] dX11_noCell_9 ys_X11_in ml_X11_169 (Nat.le_of_ble_eq_true rfl) rfl (Nat.le_of_ble_eq_true rfl) (Nat.le_of_ble_eq_true rfl) (Nat.le_of_ble_eq_true rfl) h (fun K h => s_X11_in hG h) (fun r9 h => ?_)
  refine q_if_ne (tgt := 19) dX11_noCell_12 (by decide) h (fun h => ?_) (fun h => ?_)
  · refine p_iconst dX11_noCell_19 ?_
    refine p_iconst dX11_noCell_20 ?_
    refine cV_Iw [vI 0, vI 1] [] dX11_noCell_21 yv_X11_throwsIf ml_X11_215 (r := (RX11, TX11, 41)) rfl rfl (Nat.le_of_ble_eq_true rfl) rfl (Nat.le_of_ble_eq_true rfl) (Nat.le_of_ble_eq_true rfl) (Nat.le_of_ble_eq_true rfl) rfl h (fun K h => s_X11_throwsIf hG h) (fun r21 D21 h => ?_)
    obtain ⟨hz, h⟩ := ok_gd h
    exact p_zreturn dX11_noCell_24 (Nat.le_of_ble_eq_true rfl) (Nat.le_of_ble_eq_true rfl) hz ⟨_, rfl, rfl, ok_some h⟩
  · refine p_iconst dX11_noCell_15 ?_
    refine p_goto (tgt := 20) dX11_noCell_16 (by decide) ?_
    refine p_iconst dX11_noCell_20 ?_
    refine cV_Iw [vI 1, vI 1] [] dX11_noCell_21 yv_X11_throwsIf ml_X11_215 (r := (RX11, TX11, 41)) rfl rfl (Nat.le_of_ble_eq_true rfl) rfl (Nat.le_of_ble_eq_true rfl) (Nat.le_of_ble_eq_true rfl) (Nat.le_of_ble_eq_true rfl) rfl h (fun K h => s_X11_throwsIf hG h) (fun r21 D21 h => ?_)
    obtain ⟨hz, h⟩ := ok_gd h
    exact p_zreturn dX11_noCell_24 (Nat.le_of_ble_eq_true rfl) (Nat.le_of_ble_eq_true rfl) hz ⟨_, rfl, rfl, ok_some h⟩
theorem s_X11_noCell {l : Launch} {g : GH} (hG : G0 l g) {n : Nat} {v1 : Int} {D : DT} {K : (Int × DT) → Prop} (h : ok (m_X11_noCell v1 D) K) : Sat l g yX11_noCell cX11_noCell 2 (some .boolean) 1 0 0 [vR g 73, vI v1] (LF n) D (PIw n K) := Sat.of hG (by decide) (Nat.le_of_ble_eq_true rfl) (by simp [Value.category]) (x_X11_noCell hG h)
abbrev E_X11_noZone (l : Launch) (g : GH) (P : PT) : ENV := mkE l g yX11_noZone cX11_noZone 2 (some .boolean) [] 1 0 0 P
set_option maxRecDepth 100000 in
set_option maxHeartbeats 4000000 in
theorem x_X11_noZone {l : Launch} {g : GH} (hG : G0 l g) {n : Nat} {v1 : Int} {D : DT} {K : (Int × DT) → Prop} (h : ok (m_X11_noZone v1 D) K) : Px (E_X11_noZone l g (PIw n K)) 0 [some (vR g 73), some (vI v1)] [] (LF n) D 0 0 := by
  refine p_aload_n dX11_noZone_0 rfl ?_
  refine p_iload_n dX11_noZone_1 rfl ?_
  refine p_iconst dX11_noZone_2 ?_
  refine p_aload_n dX11_noZone_3 rfl ?_
  refine cV_Ir [] [vI 0, vI v1, vR g 73] dX11_noZone_4 yv_X11_zones ml_X11_222 (r := (RX11, TX11, 41)) rfl rfl (Nat.le_of_ble_eq_true rfl) rfl (Nat.le_of_ble_eq_true rfl) (Nat.le_of_ble_eq_true rfl) (Nat.le_of_ble_eq_true rfl) rfl h (fun K h => s_X11_zones hG h) (fun r4 h => ?_)
  refine p_iconst dX11_noZone_7 ?_
  refine p_isub dX11_noZone_8 ?_
  refine cS_Ir [vI v1, vI 0, vI (r4 - 1)] [vR g 73] dX11_noZone_9 ys_X11_in ml_X11_169 (Nat.le_of_ble_eq_true rfl) rfl (Nat.le_of_ble_eq_true rfl) (Nat.le_of_ble_eq_true rfl) (Nat.le_of_ble_eq_true rfl) h (fun K h => s_X11_in hG h) (fun r9 h => ?_)
  refine q_if_ne (tgt := 19) dX11_noZone_12 (by decide) h (fun h => ?_) (fun h => ?_)
  · refine p_iconst dX11_noZone_19 ?_
    refine p_iconst dX11_noZone_20 ?_
    refine cV_Iw [vI 0, vI 1] [] dX11_noZone_21 yv_X11_throwsIf ml_X11_215 (r := (RX11, TX11, 41)) rfl rfl (Nat.le_of_ble_eq_true rfl) rfl (Nat.le_of_ble_eq_true rfl) (Nat.le_of_ble_eq_true rfl) (Nat.le_of_ble_eq_true rfl) rfl h (fun K h => s_X11_throwsIf hG h) (fun r21 D21 h => ?_)
    obtain ⟨hz, h⟩ := ok_gd h
    exact p_zreturn dX11_noZone_24 (Nat.le_of_ble_eq_true rfl) (Nat.le_of_ble_eq_true rfl) hz ⟨_, rfl, rfl, ok_some h⟩
  · refine p_iconst dX11_noZone_15 ?_
    refine p_goto (tgt := 20) dX11_noZone_16 (by decide) ?_
    refine p_iconst dX11_noZone_20 ?_
    refine cV_Iw [vI 1, vI 1] [] dX11_noZone_21 yv_X11_throwsIf ml_X11_215 (r := (RX11, TX11, 41)) rfl rfl (Nat.le_of_ble_eq_true rfl) rfl (Nat.le_of_ble_eq_true rfl) (Nat.le_of_ble_eq_true rfl) (Nat.le_of_ble_eq_true rfl) rfl h (fun K h => s_X11_throwsIf hG h) (fun r21 D21 h => ?_)
    obtain ⟨hz, h⟩ := ok_gd h
    exact p_zreturn dX11_noZone_24 (Nat.le_of_ble_eq_true rfl) (Nat.le_of_ble_eq_true rfl) hz ⟨_, rfl, rfl, ok_some h⟩
theorem s_X11_noZone {l : Launch} {g : GH} (hG : G0 l g) {n : Nat} {v1 : Int} {D : DT} {K : (Int × DT) → Prop} (h : ok (m_X11_noZone v1 D) K) : Sat l g yX11_noZone cX11_noZone 2 (some .boolean) 1 0 0 [vR g 73, vI v1] (LF n) D (PIw n K) := Sat.of hG (by decide) (Nat.le_of_ble_eq_true rfl) (by simp [Value.category]) (x_X11_noZone hG h)
abbrev E_X11_noGroup (l : Launch) (g : GH) (P : PT) : ENV := mkE l g yX11_noGroup cX11_noGroup 2 (some .boolean) [] 1 0 0 P
set_option maxRecDepth 100000 in
set_option maxHeartbeats 4000000 in
theorem x_X11_noGroup {l : Launch} {g : GH} (hG : G0 l g) {n : Nat} {v1 : Int} {D : DT} {K : (Int × DT) → Prop} (h : ok (m_X11_noGroup v1 D) K) : Px (E_X11_noGroup l g (PIw n K)) 0 [some (vR g 73), some (vI v1)] [] (LF n) D 0 0 := by
  refine p_aload_n dX11_noGroup_0 rfl ?_
  refine p_iload_n dX11_noGroup_1 rfl ?_
  refine p_iconst dX11_noGroup_2 ?_
  refine p_aload_n dX11_noGroup_3 rfl ?_
  refine p_getr dX11_noGroup_4 fl_X11_17 (fun _ _ _ => rfl) rfl rfl ?_
  refine p_iconst dX11_noGroup_7 ?_
  refine q_iald dX11_noGroup_8 rfl rfl h (fun h => ?_)
  refine p_iconst dX11_noGroup_9 ?_
  refine p_isub dX11_noGroup_10 ?_
  refine cS_Ir [vI v1, vI 0, vI ((D.2 76 (Int.toNat 3)) - 1)] [vR g 73] dX11_noGroup_11 ys_X11_in ml_X11_169 (Nat.le_of_ble_eq_true rfl) rfl (Nat.le_of_ble_eq_true rfl) (Nat.le_of_ble_eq_true rfl) (Nat.le_of_ble_eq_true rfl) h (fun K h => s_X11_in hG h) (fun r11 h => ?_)
  refine q_if_ne (tgt := 21) dX11_noGroup_14 (by decide) h (fun h => ?_) (fun h => ?_)
  · refine p_iconst dX11_noGroup_21 ?_
    refine p_iconst dX11_noGroup_22 ?_
    refine cV_Iw [vI 0, vI 1] [] dX11_noGroup_23 yv_X11_throwsIf ml_X11_215 (r := (RX11, TX11, 41)) rfl rfl (Nat.le_of_ble_eq_true rfl) rfl (Nat.le_of_ble_eq_true rfl) (Nat.le_of_ble_eq_true rfl) (Nat.le_of_ble_eq_true rfl) rfl h (fun K h => s_X11_throwsIf hG h) (fun r23 D23 h => ?_)
    obtain ⟨hz, h⟩ := ok_gd h
    exact p_zreturn dX11_noGroup_26 (Nat.le_of_ble_eq_true rfl) (Nat.le_of_ble_eq_true rfl) hz ⟨_, rfl, rfl, ok_some h⟩
  · refine p_iconst dX11_noGroup_17 ?_
    refine p_goto (tgt := 22) dX11_noGroup_18 (by decide) ?_
    refine p_iconst dX11_noGroup_22 ?_
    refine cV_Iw [vI 1, vI 1] [] dX11_noGroup_23 yv_X11_throwsIf ml_X11_215 (r := (RX11, TX11, 41)) rfl rfl (Nat.le_of_ble_eq_true rfl) rfl (Nat.le_of_ble_eq_true rfl) (Nat.le_of_ble_eq_true rfl) (Nat.le_of_ble_eq_true rfl) rfl h (fun K h => s_X11_throwsIf hG h) (fun r23 D23 h => ?_)
    obtain ⟨hz, h⟩ := ok_gd h
    exact p_zreturn dX11_noGroup_26 (Nat.le_of_ble_eq_true rfl) (Nat.le_of_ble_eq_true rfl) hz ⟨_, rfl, rfl, ok_some h⟩
theorem s_X11_noGroup {l : Launch} {g : GH} (hG : G0 l g) {n : Nat} {v1 : Int} {D : DT} {K : (Int × DT) → Prop} (h : ok (m_X11_noGroup v1 D) K) : Sat l g yX11_noGroup cX11_noGroup 2 (some .boolean) 1 0 0 [vR g 73, vI v1] (LF n) D (PIw n K) := Sat.of hG (by decide) (Nat.le_of_ble_eq_true rfl) (by simp [Value.category]) (x_X11_noGroup hG h)
abbrev E_X11_noLevel (l : Launch) (g : GH) (P : PT) : ENV := mkE l g yX11_noLevel cX11_noLevel 2 (some .boolean) [] 1 0 0 P
set_option maxRecDepth 100000 in
set_option maxHeartbeats 4000000 in
theorem x_X11_noLevel {l : Launch} {g : GH} (hG : G0 l g) {n : Nat} {v1 : Int} {D : DT} {K : (Int × DT) → Prop} (h : ok (m_X11_noLevel v1 D) K) : Px (E_X11_noLevel l g (PIw n K)) 0 [some (vR g 73), some (vI v1)] [] (LF n) D 0 0 := by
  refine p_aload_n dX11_noLevel_0 rfl ?_
  refine p_iload_n dX11_noLevel_1 rfl ?_
  refine p_iconst dX11_noLevel_2 ?_
  refine p_iconst dX11_noLevel_3 ?_
  refine cS_Ir [vI v1, vI 0, vI 4] [vR g 73] dX11_noLevel_4 ys_X11_in ml_X11_169 (Nat.le_of_ble_eq_true rfl) rfl (Nat.le_of_ble_eq_true rfl) (Nat.le_of_ble_eq_true rfl) (Nat.le_of_ble_eq_true rfl) h (fun K h => s_X11_in hG h) (fun r4 h => ?_)
  refine q_if_ne (tgt := 14) dX11_noLevel_7 (by decide) h (fun h => ?_) (fun h => ?_)
  · refine p_iconst dX11_noLevel_14 ?_
    refine p_iconst dX11_noLevel_15 ?_
    refine cV_Iw [vI 0, vI 1] [] dX11_noLevel_16 yv_X11_throwsIf ml_X11_215 (r := (RX11, TX11, 41)) rfl rfl (Nat.le_of_ble_eq_true rfl) rfl (Nat.le_of_ble_eq_true rfl) (Nat.le_of_ble_eq_true rfl) (Nat.le_of_ble_eq_true rfl) rfl h (fun K h => s_X11_throwsIf hG h) (fun r16 D16 h => ?_)
    obtain ⟨hz, h⟩ := ok_gd h
    exact p_zreturn dX11_noLevel_19 (Nat.le_of_ble_eq_true rfl) (Nat.le_of_ble_eq_true rfl) hz ⟨_, rfl, rfl, ok_some h⟩
  · refine p_iconst dX11_noLevel_10 ?_
    refine p_goto (tgt := 15) dX11_noLevel_11 (by decide) ?_
    refine p_iconst dX11_noLevel_15 ?_
    refine cV_Iw [vI 1, vI 1] [] dX11_noLevel_16 yv_X11_throwsIf ml_X11_215 (r := (RX11, TX11, 41)) rfl rfl (Nat.le_of_ble_eq_true rfl) rfl (Nat.le_of_ble_eq_true rfl) (Nat.le_of_ble_eq_true rfl) (Nat.le_of_ble_eq_true rfl) rfl h (fun K h => s_X11_throwsIf hG h) (fun r16 D16 h => ?_)
    obtain ⟨hz, h⟩ := ok_gd h
    exact p_zreturn dX11_noLevel_19 (Nat.le_of_ble_eq_true rfl) (Nat.le_of_ble_eq_true rfl) hz ⟨_, rfl, rfl, ok_some h⟩
theorem s_X11_noLevel {l : Launch} {g : GH} (hG : G0 l g) {n : Nat} {v1 : Int} {D : DT} {K : (Int × DT) → Prop} (h : ok (m_X11_noLevel v1 D) K) : Sat l g yX11_noLevel cX11_noLevel 2 (some .boolean) 1 0 0 [vR g 73, vI v1] (LF n) D (PIw n K) := Sat.of hG (by decide) (Nat.le_of_ble_eq_true rfl) (by simp [Value.category]) (x_X11_noLevel hG h)
abbrev E_X11_noRow (l : Launch) (g : GH) (P : PT) : ENV := mkE l g yX11_noRow cX11_noRow 2 (some .boolean) [] 1 0 0 P
set_option maxRecDepth 100000 in
set_option maxHeartbeats 4000000 in
theorem x_X11_noRow {l : Launch} {g : GH} (hG : G0 l g) {n : Nat} {v1 : Int} {D : DT} {K : (Int × DT) → Prop} (h : ok (m_X11_noRow v1 D) K) : Px (E_X11_noRow l g (PIw n K)) 0 [some (vR g 73), some (vI v1)] [] (LF n) D 0 0 := by
  refine p_aload_n dX11_noRow_0 rfl ?_
  refine p_iload_n dX11_noRow_1 rfl ?_
  refine p_iconst dX11_noRow_2 ?_
  refine p_aload_n dX11_noRow_3 rfl ?_
  refine p_getr dX11_noRow_4 fl_X11_17 (fun _ _ _ => rfl) rfl rfl ?_
  refine p_iconst dX11_noRow_7 ?_
  refine q_iald dX11_noRow_8 rfl rfl h (fun h => ?_)
  refine p_iconst dX11_noRow_9 ?_
  refine p_isub dX11_noRow_10 ?_
  refine cS_Ir [vI v1, vI 0, vI ((D.2 76 (Int.toNat 1)) - 1)] [vR g 73] dX11_noRow_11 ys_X11_in ml_X11_169 (Nat.le_of_ble_eq_true rfl) rfl (Nat.le_of_ble_eq_true rfl) (Nat.le_of_ble_eq_true rfl) (Nat.le_of_ble_eq_true rfl) h (fun K h => s_X11_in hG h) (fun r11 h => ?_)
  refine q_if_ne (tgt := 21) dX11_noRow_14 (by decide) h (fun h => ?_) (fun h => ?_)
  · refine p_iconst dX11_noRow_21 ?_
    refine p_iconst dX11_noRow_22 ?_
    refine cV_Iw [vI 0, vI 1] [] dX11_noRow_23 yv_X11_throwsIf ml_X11_215 (r := (RX11, TX11, 41)) rfl rfl (Nat.le_of_ble_eq_true rfl) rfl (Nat.le_of_ble_eq_true rfl) (Nat.le_of_ble_eq_true rfl) (Nat.le_of_ble_eq_true rfl) rfl h (fun K h => s_X11_throwsIf hG h) (fun r23 D23 h => ?_)
    obtain ⟨hz, h⟩ := ok_gd h
    exact p_zreturn dX11_noRow_26 (Nat.le_of_ble_eq_true rfl) (Nat.le_of_ble_eq_true rfl) hz ⟨_, rfl, rfl, ok_some h⟩
  · refine p_iconst dX11_noRow_17 ?_
    refine p_goto (tgt := 22) dX11_noRow_18 (by decide) ?_
    refine p_iconst dX11_noRow_22 ?_
    refine cV_Iw [vI 1, vI 1] [] dX11_noRow_23 yv_X11_throwsIf ml_X11_215 (r := (RX11, TX11, 41)) rfl rfl (Nat.le_of_ble_eq_true rfl) rfl (Nat.le_of_ble_eq_true rfl) (Nat.le_of_ble_eq_true rfl) (Nat.le_of_ble_eq_true rfl) rfl h (fun K h => s_X11_throwsIf hG h) (fun r23 D23 h => ?_)
    obtain ⟨hz, h⟩ := ok_gd h
    exact p_zreturn dX11_noRow_26 (Nat.le_of_ble_eq_true rfl) (Nat.le_of_ble_eq_true rfl) hz ⟨_, rfl, rfl, ok_some h⟩
theorem s_X11_noRow {l : Launch} {g : GH} (hG : G0 l g) {n : Nat} {v1 : Int} {D : DT} {K : (Int × DT) → Prop} (h : ok (m_X11_noRow v1 D) K) : Sat l g yX11_noRow cX11_noRow 2 (some .boolean) 1 0 0 [vR g 73, vI v1] (LF n) D (PIw n K) := Sat.of hG (by decide) (Nat.le_of_ble_eq_true rfl) (by simp [Value.category]) (x_X11_noRow hG h)
abbrev E_X11_cell (l : Launch) (g : GH) (P : PT) : ENV := mkE l g yX11_cell cX11_cell 3 (some .int) [] 2 0 0 P
set_option maxRecDepth 100000 in
set_option maxHeartbeats 4000000 in
theorem x_X11_cell_28 {l : Launch} {g : GH} (hG : G0 l g) {n : Nat} {v1 v2 : Int} {x0 : Int} {D : DT} {K : (Int × DT) → Prop} (h : ok (m_X11_cell_28 v1 v2 x0 D) K) : Px (E_X11_cell l g (PIw n K)) 28 [some (vR g 73), some (vI v1), some (vI v2)] [vI x0, vR g 73] (LF n) D 0 0 := by
  refine p_iconst dX11_cell_28 ?_
  refine cV_Iw [vI x0, vI 2] [] dX11_cell_29 yv_X11_throwsIf ml_X11_215 (r := (RX11, TX11, 41)) rfl rfl (Nat.le_of_ble_eq_true rfl) rfl (Nat.le_of_ble_eq_true rfl) (Nat.le_of_ble_eq_true rfl) (Nat.le_of_ble_eq_true rfl) rfl h (fun K h => s_X11_throwsIf hG h) (fun r29 D29 h => ?_)
  refine q_if_eq (tgt := 37) dX11_cell_32 (by decide) h (fun h => ?_) (fun h => ?_)
  · refine p_iload_n dX11_cell_37 rfl ?_
    refine q_if_ne (tgt := 50) dX11_cell_38 (by decide) h (fun h => ?_) (fun h => ?_)
    · refine p_aload_n dX11_cell_50 rfl ?_
      refine p_getr dX11_cell_51 fl_X11_29 (fun _ _ _ => rfl) rfl rfl ?_
      refine p_iload_n dX11_cell_54 rfl ?_
      refine q_zald dX11_cell_55 rfl rfl h (fun h => ?_)
      refine q_if_eq (tgt := 63) dX11_cell_56 (by decide) h (fun h => ?_) (fun h => ?_)
      · refine p_iconst dX11_cell_63 ?_
        exact p_ireturn dX11_cell_64 (Nat.le_of_ble_eq_true rfl) (Nat.le_of_ble_eq_true rfl) ⟨_, rfl, rfl, ok_some h⟩
      · refine p_iconst dX11_cell_59 ?_
        refine p_goto (tgt := 64) dX11_cell_60 (by decide) ?_
        exact p_ireturn dX11_cell_64 (Nat.le_of_ble_eq_true rfl) (Nat.le_of_ble_eq_true rfl) ⟨_, rfl, rfl, ok_some h⟩
    · refine p_aload_n dX11_cell_41 rfl ?_
      refine p_getr dX11_cell_42 fl_X11_23 (fun _ _ _ => rfl) rfl rfl ?_
      refine p_iload_n dX11_cell_45 rfl ?_
      refine q_iald dX11_cell_46 rfl rfl h (fun h => ?_)
      refine p_goto (tgt := 64) dX11_cell_47 (by decide) ?_
      exact p_ireturn dX11_cell_64 (Nat.le_of_ble_eq_true rfl) (Nat.le_of_ble_eq_true rfl) ⟨_, rfl, rfl, ok_some h⟩
  · refine p_iconst dX11_cell_35 ?_
    exact p_ireturn dX11_cell_36 (Nat.le_of_ble_eq_true rfl) (Nat.le_of_ble_eq_true rfl) ⟨_, rfl, rfl, ok_some h⟩
set_option maxRecDepth 100000 in
set_option maxHeartbeats 4000000 in
theorem x_X11_cell {l : Launch} {g : GH} (hG : G0 l g) {n : Nat} {v1 : Int} {v2 : Int} {D : DT} {K : (Int × DT) → Prop} (h : ok (m_X11_cell v1 v2 D) K) : Px (E_X11_cell l g (PIw n K)) 0 [some (vR g 73), some (vI v1), some (vI v2)] [] (LF n) D 0 0 := by
  refine p_aload_n dX11_cell_0 rfl ?_
  refine p_iconst dX11_cell_1 ?_
  refine q_puti dX11_cell_2 fq_X11_106 rfl rfl h (fun D2 h => ?_)
  refine p_aload_n dX11_cell_5 rfl ?_
  refine p_iload_n dX11_cell_6 rfl ?_
  refine cV_Iw [vI v1] [] dX11_cell_7 yv_X11_noCell ml_X11_255 (r := (RX11, TX11, 41)) rfl rfl (Nat.le_of_ble_eq_true rfl) rfl (Nat.le_of_ble_eq_true rfl) (Nat.le_of_ble_eq_true rfl) (Nat.le_of_ble_eq_true rfl) rfl h (fun K h => s_X11_noCell hG h) (fun r7 D7 h => ?_)
  refine q_if_ne (tgt := 35) dX11_cell_10 (by decide) h (fun h => ?_) (fun h => ?_)
  · refine p_iconst dX11_cell_35 ?_
    exact p_ireturn dX11_cell_36 (Nat.le_of_ble_eq_true rfl) (Nat.le_of_ble_eq_true rfl) ⟨_, rfl, rfl, ok_some h⟩
  · refine p_aload_n dX11_cell_13 rfl ?_
    refine p_iload_n dX11_cell_14 rfl ?_
    refine p_iconst dX11_cell_15 ?_
    refine p_iconst dX11_cell_16 ?_
    refine cS_Ir [vI v2, vI 0, vI 1] [vR g 73] dX11_cell_17 ys_X11_in ml_X11_169 (Nat.le_of_ble_eq_true rfl) rfl (Nat.le_of_ble_eq_true rfl) (Nat.le_of_ble_eq_true rfl) (Nat.le_of_ble_eq_true rfl) h (fun K h => s_X11_in hG h) (fun r17 h => ?_)
    refine q_if_ne (tgt := 27) dX11_cell_20 (by decide) h (fun h => ?_) (fun h => ?_)
    · refine p_iconst dX11_cell_27 ?_
      exact p_weak (leL.same (leL.same (leL.same leL.nil))) (x_X11_cell_28 hG h)
    · refine p_iconst dX11_cell_23 ?_
      refine p_goto (tgt := 28) dX11_cell_24 (by decide) ?_
      exact p_weak (leL.same (leL.same (leL.same leL.nil))) (x_X11_cell_28 hG h)
theorem s_X11_cell {l : Launch} {g : GH} (hG : G0 l g) {n : Nat} {v1 : Int} {v2 : Int} {D : DT} {K : (Int × DT) → Prop} (h : ok (m_X11_cell v1 v2 D) K) : Sat l g yX11_cell cX11_cell 3 (some .int) 2 0 0 [vR g 73, vI v1, vI v2] (LF n) D (PIw n K) := Sat.of hG (by decide) (Nat.le_of_ble_eq_true rfl) (by simp [Value.category]) (x_X11_cell hG h)
abbrev E_X11_beside (l : Launch) (g : GH) (P : PT) : ENV := mkE l g yX11_beside cX11_beside 5 (some .int) [] 0 0 0 P
set_option maxRecDepth 100000 in
set_option maxHeartbeats 4000000 in
theorem x_X11_beside {l : Launch} {g : GH} (hG : G0 l g) {n : Nat} {v1 : Int} {v2 : Int} {D : DT} {K : Int → Prop} (h : ok (m_X11_beside v1 v2 D) K) : Px (E_X11_beside l g (PIr n D K)) 0 [some (vR g 73), some (vI v1), some (vI v2), none, none] [] (LF n) D 0 0 := by
  refine p_iload_n dX11_beside_0 rfl ?_
  refine p_aload_n dX11_beside_1 rfl ?_
  refine p_getr dX11_beside_2 fl_X11_17 (fun _ _ _ => rfl) rfl rfl ?_
  refine p_iconst dX11_beside_5 ?_
  refine q_iald dX11_beside_6 rfl rfl h (fun h => ?_)
  refine q_irem dX11_beside_7 h (fun h => ?_)
  refine p_istore_n dX11_beside_8 (Nat.le_of_ble_eq_true rfl) rfl ?_
  refine p_iload_n dX11_beside_9 rfl ?_
  refine p_aload_n dX11_beside_10 rfl ?_
  refine p_getr dX11_beside_11 fl_X11_17 (fun _ _ _ => rfl) rfl rfl ?_
  refine p_iconst dX11_beside_14 ?_
  refine q_iald dX11_beside_15 rfl rfl h (fun h => ?_)
  refine q_idiv dX11_beside_16 h (fun h => ?_)
  refine p_istore dX11_beside_17 (Nat.le_of_ble_eq_true rfl) rfl ?_
  refine p_iload_n dX11_beside_19 rfl ?_
  refine q_if_ne (tgt := 35) dX11_beside_20 (by decide) h (fun h => ?_) (fun h => ?_)
  · refine p_iload_n dX11_beside_35 rfl ?_
    refine p_iconst dX11_beside_36 ?_
    refine q_icmp_ne (tgt := 60) dX11_beside_37 (by decide) h (fun h => ?_) (fun h => ?_)
    · refine p_iload_n dX11_beside_60 rfl ?_
      refine p_iconst dX11_beside_61 ?_
      refine q_icmp_ne (tgt := 83) dX11_beside_62 (by decide) h (fun h => ?_) (fun h => ?_)
      · refine p_iload dX11_beside_83 rfl ?_
        refine p_iconst dX11_beside_85 ?_
        refine p_iadd dX11_beside_86 ?_
        refine p_aload_n dX11_beside_87 rfl ?_
        refine p_getr dX11_beside_88 fl_X11_17 (fun _ _ _ => rfl) rfl rfl ?_
        refine p_iconst dX11_beside_91 ?_
        refine q_iald dX11_beside_92 rfl rfl h (fun h => ?_)
        refine q_icmp_ne (tgt := 100) dX11_beside_93 (by decide) h (fun h => ?_) (fun h => ?_)
        · refine p_iload_n dX11_beside_100 rfl ?_
          refine p_aload_n dX11_beside_101 rfl ?_
          refine p_getr dX11_beside_102 fl_X11_17 (fun _ _ _ => rfl) rfl rfl ?_
          refine p_iconst dX11_beside_105 ?_
          refine q_iald dX11_beside_106 rfl rfl h (fun h => ?_)
          refine p_iadd dX11_beside_107 ?_
          exact p_ireturn dX11_beside_108 (Nat.le_of_ble_eq_true rfl) (Nat.le_of_ble_eq_true rfl) ⟨_, rfl, rfl, rfl, ok_some h⟩
        · refine p_iconst dX11_beside_96 ?_
          refine p_goto (tgt := 108) dX11_beside_97 (by decide) ?_
          exact p_ireturn dX11_beside_108 (Nat.le_of_ble_eq_true rfl) (Nat.le_of_ble_eq_true rfl) ⟨_, rfl, rfl, rfl, ok_some h⟩
      · refine p_iload dX11_beside_65 rfl ?_
        refine q_if_ne (tgt := 74) dX11_beside_67 (by decide) h (fun h => ?_) (fun h => ?_)
        · refine p_iload_n dX11_beside_74 rfl ?_
          refine p_aload_n dX11_beside_75 rfl ?_
          refine p_getr dX11_beside_76 fl_X11_17 (fun _ _ _ => rfl) rfl rfl ?_
          refine p_iconst dX11_beside_79 ?_
          refine q_iald dX11_beside_80 rfl rfl h (fun h => ?_)
          refine p_isub dX11_beside_81 ?_
          exact p_ireturn dX11_beside_82 (Nat.le_of_ble_eq_true rfl) (Nat.le_of_ble_eq_true rfl) ⟨_, rfl, rfl, rfl, ok_some h⟩
        · refine p_iconst dX11_beside_70 ?_
          refine p_goto (tgt := 82) dX11_beside_71 (by decide) ?_
          exact p_ireturn dX11_beside_82 (Nat.le_of_ble_eq_true rfl) (Nat.le_of_ble_eq_true rfl) ⟨_, rfl, rfl, rfl, ok_some h⟩
    · refine p_iload_n dX11_beside_40 rfl ?_
      refine p_iconst dX11_beside_41 ?_
      refine p_iadd dX11_beside_42 ?_
      refine p_aload_n dX11_beside_43 rfl ?_
      refine p_getr dX11_beside_44 fl_X11_17 (fun _ _ _ => rfl) rfl rfl ?_
      refine p_iconst dX11_beside_47 ?_
      refine q_iald dX11_beside_48 rfl rfl h (fun h => ?_)
      refine q_icmp_ne (tgt := 56) dX11_beside_49 (by decide) h (fun h => ?_) (fun h => ?_)
      · refine p_iload_n dX11_beside_56 rfl ?_
        refine p_iconst dX11_beside_57 ?_
        refine p_iadd dX11_beside_58 ?_
        exact p_ireturn dX11_beside_59 (Nat.le_of_ble_eq_true rfl) (Nat.le_of_ble_eq_true rfl) ⟨_, rfl, rfl, rfl, ok_some h⟩
      · refine p_iconst dX11_beside_52 ?_
        refine p_goto (tgt := 59) dX11_beside_53 (by decide) ?_
        exact p_ireturn dX11_beside_59 (Nat.le_of_ble_eq_true rfl) (Nat.le_of_ble_eq_true rfl) ⟨_, rfl, rfl, rfl, ok_some h⟩
  · refine p_iload_n dX11_beside_23 rfl ?_
    refine q_if_ne (tgt := 31) dX11_beside_24 (by decide) h (fun h => ?_) (fun h => ?_)
    · refine p_iload_n dX11_beside_31 rfl ?_
      refine p_iconst dX11_beside_32 ?_
      refine p_isub dX11_beside_33 ?_
      exact p_ireturn dX11_beside_34 (Nat.le_of_ble_eq_true rfl) (Nat.le_of_ble_eq_true rfl) ⟨_, rfl, rfl, rfl, ok_some h⟩
    · refine p_iconst dX11_beside_27 ?_
      refine p_goto (tgt := 34) dX11_beside_28 (by decide) ?_
      exact p_ireturn dX11_beside_34 (Nat.le_of_ble_eq_true rfl) (Nat.le_of_ble_eq_true rfl) ⟨_, rfl, rfl, rfl, ok_some h⟩
theorem s_X11_beside {l : Launch} {g : GH} (hG : G0 l g) {n : Nat} {v1 : Int} {v2 : Int} {D : DT} {K : Int → Prop} (h : ok (m_X11_beside v1 v2 D) K) : Sat l g yX11_beside cX11_beside 5 (some .int) 0 0 0 [vR g 73, vI v1, vI v2] (LF n) D (PIr n D K) := Sat.of hG (by decide) (Nat.le_of_ble_eq_true rfl) (by simp [Value.category]) (x_X11_beside hG h)
abbrev E_X11_sides (l : Launch) (g : GH) (P : PT) : ENV := mkE l g yX11_sides cX11_sides 7 (some .int) [] 1 0 0 P
abbrev P_X11_sides_5 (l : Launch) (g : GH) (n : Nat) (K : Int → Prop) (v1 : Int) (v2 : Int) (D : DT) : (Int × Int) → Prop := fun s => Px (E_X11_sides l g (PIr n D K)) 5 [some (vR g 73), some (vI v1), some (vI v2), some (vI s.1), some (vI s.2), none, none] [] (LF n) D 0 0
abbrev P_X11_sides_17 (l : Launch) (g : GH) (n : Nat) (K : Int → Prop) (v1 : Int) (v2 : Int) (v4 : Int) (D : DT) : (Int × Int) → Prop := fun s => Px (E_X11_sides l g (PIr n D K)) 17 [some (vR g 73), some (vI v1), some (vI v2), some (vI s.1), some (vI v4), some (vI s.2), none] [] (LF n) D 0 0
set_option maxRecDepth 100000 in
set_option maxHeartbeats 4000000 in
theorem x_X11_sides_17 {l : Launch} {g : GH} (hG : G0 l g) {n : Nat} {v1 v2 v4 : Int} {D : DT} {K : Int → Prop} {s : (Int × Int)} (h : ok (m_X11_sides_17 v1 v2 v4 D s) (KL (P_X11_sides_5 l g n K v1 v2 D) K)) : Px (E_X11_sides l g (PIr n D K)) 17 [some (vR g 73), some (vI v1), some (vI v2), some (vI s.1), some (vI v4), some (vI s.2), none] [] (LF n) D 0 0 := by
  refine ok_loop (P := (P_X11_sides_17 l g n K v1 v2 v4 D)) (fun s h => ?_) h
  refine p_iload dX11_sides_17 rfl ?_
  refine p_iconst dX11_sides_19 ?_
  refine q_icmp_ge (tgt := 95) dX11_sides_20 (by decide) h (fun h => ?_) (fun h => ?_)
  · have h := kl_inr h
    refine p_iinc dX11_sides_95 rfl (Nat.le_of_ble_eq_true rfl) rfl ?_
    refine p_goto (tgt := 5) dX11_sides_98 (by decide) ?_
    exact p_weak (leL.same (leL.same (leL.same (leL.same (leL.same (leL.drop (leL.drop leL.nil))))))) (kl_inl (P := (P_X11_sides_5 l g n K v1 v2 D)) h)
  · refine p_aload_n dX11_sides_23 rfl ?_
    refine p_iload dX11_sides_24 rfl ?_
    refine p_iload_n dX11_sides_26 rfl ?_
    refine cV_Ir [vI v4, vI v1] [] dX11_sides_27 yv_X11_isLandOf ml_X11_233 (r := (RX11, TX11, 41)) rfl rfl (Nat.le_of_ble_eq_true rfl) rfl (Nat.le_of_ble_eq_true rfl) (Nat.le_of_ble_eq_true rfl) (Nat.le_of_ble_eq_true rfl) rfl h (fun K h => s_X11_isLandOf hG h) (fun r27 h => ?_)
    refine q_if_eq (tgt := 95) dX11_sides_30 (by decide) h (fun h => ?_) (fun h => ?_)
    · have h := kl_inr h
      refine p_iinc dX11_sides_95 rfl (Nat.le_of_ble_eq_true rfl) rfl ?_
      refine p_goto (tgt := 5) dX11_sides_98 (by decide) ?_
      exact p_weak (leL.same (leL.same (leL.same (leL.same (leL.same (leL.drop (leL.drop leL.nil))))))) (kl_inl (P := (P_X11_sides_5 l g n K v1 v2 D)) h)
    · refine p_aload_n dX11_sides_33 rfl ?_
      refine p_iload dX11_sides_34 rfl ?_
      refine p_iload dX11_sides_36 rfl ?_
      refine cV_Ir [vI v4, vI s.2] [] dX11_sides_38 yv_X11_beside ml_X11_258 (r := (RX11, TX11, 41)) rfl rfl (Nat.le_of_ble_eq_true rfl) rfl (Nat.le_of_ble_eq_true rfl) (Nat.le_of_ble_eq_true rfl) (Nat.le_of_ble_eq_true rfl) rfl h (fun K h => s_X11_beside hG h) (fun r38 h => ?_)
      refine p_istore dX11_sides_41 (Nat.le_of_ble_eq_true rfl) rfl ?_
      refine p_iload dX11_sides_43 rfl ?_
      refine p_iconst dX11_sides_45 ?_
      refine q_icmp_eq (tgt := 89) dX11_sides_46 (by decide) h (fun h => ?_) (fun h => ?_)
      · refine p_iinc dX11_sides_89 rfl (Nat.le_of_ble_eq_true rfl) rfl ?_
        refine p_goto (tgt := 17) dX11_sides_92 (by decide) ?_
        exact p_weak (leL.same (leL.same (leL.same (leL.same (leL.same (leL.same (leL.drop leL.nil))))))) (kl_inl (P := (P_X11_sides_17 l g n K v1 v2 v4 D)) h)
      · refine p_iload_n dX11_sides_49 rfl ?_
        refine q_if_eq (tgt := 66) dX11_sides_50 (by decide) h (fun h => ?_) (fun h => ?_)
        · refine p_aload_n dX11_sides_66 rfl ?_
          refine p_iload dX11_sides_67 rfl ?_
          refine cV_Ir [vI r38] [] dX11_sides_69 yv_X11_isLand ml_X11_261 (r := (RX11, TX11, 41)) rfl rfl (Nat.le_of_ble_eq_true rfl) rfl (Nat.le_of_ble_eq_true rfl) (Nat.le_of_ble_eq_true rfl) (Nat.le_of_ble_eq_true rfl) rfl h (fun K h => s_X11_isLand hG h) (fun r69 h => ?_)
          refine q_if_eq (tgt := 89) dX11_sides_72 (by decide) h (fun h => ?_) (fun h => ?_)
          · refine p_iinc dX11_sides_89 rfl (Nat.le_of_ble_eq_true rfl) rfl ?_
            refine p_goto (tgt := 17) dX11_sides_92 (by decide) ?_
            exact p_weak (leL.same (leL.same (leL.same (leL.same (leL.same (leL.same (leL.drop leL.nil))))))) (kl_inl (P := (P_X11_sides_17 l g n K v1 v2 v4 D)) h)
          · refine p_aload_n dX11_sides_75 rfl ?_
            refine p_getr dX11_sides_76 fl_X11_23 (fun _ _ _ => rfl) rfl rfl ?_
            refine p_iload dX11_sides_79 rfl ?_
            refine q_iald dX11_sides_81 rfl rfl h (fun h => ?_)
            refine p_iload_n dX11_sides_82 rfl ?_
            refine q_icmp_eq (tgt := 89) dX11_sides_83 (by decide) h (fun h => ?_) (fun h => ?_)
            · refine p_iinc dX11_sides_89 rfl (Nat.le_of_ble_eq_true rfl) rfl ?_
              refine p_goto (tgt := 17) dX11_sides_92 (by decide) ?_
              exact p_weak (leL.same (leL.same (leL.same (leL.same (leL.same (leL.same (leL.drop leL.nil))))))) (kl_inl (P := (P_X11_sides_17 l g n K v1 v2 v4 D)) h)
            · refine p_iinc dX11_sides_86 rfl (Nat.le_of_ble_eq_true rfl) rfl ?_
              refine p_iinc dX11_sides_89 rfl (Nat.le_of_ble_eq_true rfl) rfl ?_
              refine p_goto (tgt := 17) dX11_sides_92 (by decide) ?_
              exact p_weak (leL.same (leL.same (leL.same (leL.same (leL.same (leL.same (leL.drop leL.nil))))))) (kl_inl (P := (P_X11_sides_17 l g n K v1 v2 v4 D)) h)
        · refine p_aload_n dX11_sides_53 rfl ?_
          refine p_getr dX11_sides_54 fl_X11_29 (fun _ _ _ => rfl) rfl rfl ?_
          refine p_iload dX11_sides_57 rfl ?_
          refine q_zald dX11_sides_59 rfl rfl h (fun h => ?_)
          refine q_if_eq (tgt := 89) dX11_sides_60 (by decide) h (fun h => ?_) (fun h => ?_)
          · refine p_iinc dX11_sides_89 rfl (Nat.le_of_ble_eq_true rfl) rfl ?_
            refine p_goto (tgt := 17) dX11_sides_92 (by decide) ?_
            exact p_weak (leL.same (leL.same (leL.same (leL.same (leL.same (leL.same (leL.drop leL.nil))))))) (kl_inl (P := (P_X11_sides_17 l g n K v1 v2 v4 D)) h)
          · refine p_goto (tgt := 86) dX11_sides_63 (by decide) ?_
            refine p_iinc dX11_sides_86 rfl (Nat.le_of_ble_eq_true rfl) rfl ?_
            refine p_iinc dX11_sides_89 rfl (Nat.le_of_ble_eq_true rfl) rfl ?_
            refine p_goto (tgt := 17) dX11_sides_92 (by decide) ?_
            exact p_weak (leL.same (leL.same (leL.same (leL.same (leL.same (leL.same (leL.drop leL.nil))))))) (kl_inl (P := (P_X11_sides_17 l g n K v1 v2 v4 D)) h)
set_option maxRecDepth 100000 in
set_option maxHeartbeats 4000000 in
theorem x_X11_sides_5 {l : Launch} {g : GH} (hG : G0 l g) {n : Nat} {v1 v2 : Int} {D : DT} {K : Int → Prop} {s : (Int × Int)} (h : ok (m_X11_sides_5 v1 v2 D s) K) : Px (E_X11_sides l g (PIr n D K)) 5 [some (vR g 73), some (vI v1), some (vI v2), some (vI s.1), some (vI s.2), none, none] [] (LF n) D 0 0 := by
  refine ok_loop (P := (P_X11_sides_5 l g n K v1 v2 D)) (fun s h => ?_) h
  refine p_iload dX11_sides_5 rfl ?_
  refine p_aload_n dX11_sides_7 rfl ?_
  refine cV_Ir [] [vI s.2] dX11_sides_8 yv_X11_cells ml_X11_229 (r := (RX11, TX11, 41)) rfl rfl (Nat.le_of_ble_eq_true rfl) rfl (Nat.le_of_ble_eq_true rfl) (Nat.le_of_ble_eq_true rfl) (Nat.le_of_ble_eq_true rfl) rfl h (fun K h => s_X11_cells hG h) (fun r8 h => ?_)
  refine q_icmp_ge (tgt := 101) dX11_sides_11 (by decide) h (fun h => ?_) (fun h => ?_)
  · have h := kl_inr h
    refine p_iload_n dX11_sides_101 rfl ?_
    exact p_ireturn dX11_sides_102 (Nat.le_of_ble_eq_true rfl) (Nat.le_of_ble_eq_true rfl) ⟨_, rfl, rfl, rfl, ok_some h⟩
  · refine p_iconst dX11_sides_14 ?_
    refine p_istore dX11_sides_15 (Nat.le_of_ble_eq_true rfl) rfl ?_
    exact p_weak (leL.same (leL.same (leL.same (leL.same (leL.same (leL.same (leL.drop leL.nil))))))) (x_X11_sides_17 hG h)
set_option maxRecDepth 100000 in
set_option maxHeartbeats 4000000 in
theorem x_X11_sides {l : Launch} {g : GH} (hG : G0 l g) {n : Nat} {v1 : Int} {v2 : Int} {D : DT} {K : Int → Prop} (h : ok (m_X11_sides v1 v2 D) K) : Px (E_X11_sides l g (PIr n D K)) 0 [some (vR g 73), some (vI v1), some (vI v2), none, none, none, none] [] (LF n) D 0 0 := by
  refine p_iconst dX11_sides_0 ?_
  refine p_istore_n dX11_sides_1 (Nat.le_of_ble_eq_true rfl) rfl ?_
  refine p_iconst dX11_sides_2 ?_
  refine p_istore dX11_sides_3 (Nat.le_of_ble_eq_true rfl) rfl ?_
  exact p_weak (leL.same (leL.same (leL.same (leL.same (leL.same (leL.drop (leL.drop leL.nil))))))) (x_X11_sides_5 hG h)
theorem s_X11_sides {l : Launch} {g : GH} (hG : G0 l g) {n : Nat} {v1 : Int} {v2 : Int} {D : DT} {K : Int → Prop} (h : ok (m_X11_sides v1 v2 D) K) : Sat l g yX11_sides cX11_sides 7 (some .int) 1 0 0 [vR g 73, vI v1, vI v2] (LF n) D (PIr n D K) := Sat.of hG (by decide) (Nat.le_of_ble_eq_true rfl) (by simp [Value.category]) (x_X11_sides hG h)
abbrev E_X11_laysParts (l : Launch) (g : GH) (P : PT) : ENV := mkE l g yX11_laysParts cX11_laysParts 8 (some .int) [] 1 0 0 P
abbrev P_X11_laysParts_4 (l : Launch) (g : GH) (n : Nat) (K : (Int × DT) → Prop) (v1 : Int) (v2 : Int) : (Int × DT) → Prop := fun s => Px (E_X11_laysParts l g (PIw n K)) 4 [some (vR g 73), some (vI v1), some (vI v2), some (vI s.1), none, none, none, none] [] (LF n) s.2 0 0
abbrev P_X11_laysParts_27 (l : Launch) (g : GH) (n : Nat) (K : (Int × DT) → Prop) (v1 : Int) : (Int × Int × DT) → Prop := fun s => Px (E_X11_laysParts l g (PIw n K)) 27 [some (vR g 73), some (vI v1), some (vI s.1), some (vI s.2.1), none, none, none, none] [] (LF n) s.2.2 0 0
abbrev P_X11_laysParts_77 (l : Launch) (g : GH) (n : Nat) (K : (Int × DT) → Prop) (v1 : Int) (v2 : Int) (v3 : Int) : (Int × Int × DT) → Prop := fun s => Px (E_X11_laysParts l g (PIw n K)) 77 [some (vR g 73), some (vI v1), some (vI v2), some (vI v3), some (vI s.1), some (vI s.2.1), none, none] [] (LF n) s.2.2 0 0
abbrev P_X11_laysParts_87 (l : Launch) (g : GH) (n : Nat) (K : (Int × DT) → Prop) (v1 : Int) (v2 : Int) (v3 : Int) (v5 : Int) : (Int × Int × DT) → Prop := fun s => Px (E_X11_laysParts l g (PIw n K)) 87 [some (vR g 73), some (vI v1), some (vI v2), some (vI v3), some (vI s.1), some (vI v5), some (vI s.2.1), none] [] (LF n) s.2.2 0 0
set_option maxRecDepth 100000 in
set_option maxHeartbeats 4000000 in
theorem x_X11_laysParts_87 {l : Launch} {g : GH} (hG : G0 l g) {n : Nat} {v1 v2 v3 v5 : Int} {K : (Int × DT) → Prop} {s : (Int × Int × DT)} (h : ok (m_X11_laysParts_87 v1 v2 v3 v5 s) (KL (P_X11_laysParts_77 l g n K v1 v2 v3) (KL (P_X11_laysParts_27 l g n K v1) K))) : Px (E_X11_laysParts l g (PIw n K)) 87 [some (vR g 73), some (vI v1), some (vI v2), some (vI v3), some (vI s.1), some (vI v5), some (vI s.2.1), none] [] (LF n) s.2.2 0 0 := by
  refine ok_loop (P := (P_X11_laysParts_87 l g n K v1 v2 v3 v5)) (fun s h => ?_) h
  refine p_iload dX11_laysParts_87 rfl ?_
  refine p_iconst dX11_laysParts_89 ?_
  refine q_icmp_ge (tgt := 164) dX11_laysParts_90 (by decide) h (fun h => ?_) (fun h => ?_)
  · have h := kl_inr h
    refine p_iinc dX11_laysParts_164 rfl (Nat.le_of_ble_eq_true rfl) rfl ?_
    refine p_goto (tgt := 77) dX11_laysParts_167 (by decide) ?_
    exact p_weak (leL.same (leL.same (leL.same (leL.same (leL.same (leL.same (leL.drop (leL.drop leL.nil)))))))) (kl_inl (P := (P_X11_laysParts_77 l g n K v1 v2 v3)) h)
  · refine p_aload_n dX11_laysParts_93 rfl ?_
    refine p_aload_n dX11_laysParts_94 rfl ?_
    refine p_getr dX11_laysParts_95 fl_X11_88 (fun _ _ _ => rfl) rfl rfl ?_
    refine p_iload dX11_laysParts_98 rfl ?_
    refine q_iald dX11_laysParts_100 rfl rfl h (fun h => ?_)
    refine p_iload dX11_laysParts_101 rfl ?_
    refine cV_Ir [vI (s.2.2.2 96 (Int.toNat v5)), vI s.2.1] [] dX11_laysParts_103 yv_X11_beside ml_X11_258 (r := (RX11, TX11, 41)) rfl rfl (Nat.le_of_ble_eq_true rfl) rfl (Nat.le_of_ble_eq_true rfl) (Nat.le_of_ble_eq_true rfl) (Nat.le_of_ble_eq_true rfl) rfl h (fun K h => s_X11_beside hG h) (fun r103 h => ?_)
    refine p_istore dX11_laysParts_106 (Nat.le_of_ble_eq_true rfl) rfl ?_
    refine p_iload dX11_laysParts_108 rfl ?_
    refine p_iconst dX11_laysParts_110 ?_
    refine q_icmp_eq (tgt := 158) dX11_laysParts_111 (by decide) h (fun h => ?_) (fun h => ?_)
    · refine p_iinc dX11_laysParts_158 rfl (Nat.le_of_ble_eq_true rfl) rfl ?_
      refine p_goto (tgt := 87) dX11_laysParts_161 (by decide) ?_
      exact p_weak (leL.same (leL.same (leL.same (leL.same (leL.same (leL.same (leL.same (leL.drop leL.nil)))))))) (kl_inl (P := (P_X11_laysParts_87 l g n K v1 v2 v3 v5)) h)
    · refine p_aload_n dX11_laysParts_114 rfl ?_
      refine p_iload dX11_laysParts_115 rfl ?_
      refine p_iload_n dX11_laysParts_117 rfl ?_
      refine cV_Ir [vI r103, vI v1] [] dX11_laysParts_118 yv_X11_isLandOf ml_X11_233 (r := (RX11, TX11, 41)) rfl rfl (Nat.le_of_ble_eq_true rfl) rfl (Nat.le_of_ble_eq_true rfl) (Nat.le_of_ble_eq_true rfl) (Nat.le_of_ble_eq_true rfl) rfl h (fun K h => s_X11_isLandOf hG h) (fun r118 h => ?_)
      refine q_if_eq (tgt := 158) dX11_laysParts_121 (by decide) h (fun h => ?_) (fun h => ?_)
      · refine p_iinc dX11_laysParts_158 rfl (Nat.le_of_ble_eq_true rfl) rfl ?_
        refine p_goto (tgt := 87) dX11_laysParts_161 (by decide) ?_
        exact p_weak (leL.same (leL.same (leL.same (leL.same (leL.same (leL.same (leL.same (leL.drop leL.nil)))))))) (kl_inl (P := (P_X11_laysParts_87 l g n K v1 v2 v3 v5)) h)
      · refine p_aload_n dX11_laysParts_124 rfl ?_
        refine p_getr dX11_laysParts_125 fl_X11_85 (fun _ _ _ => rfl) rfl rfl ?_
        refine p_iload dX11_laysParts_128 rfl ?_
        refine q_iald dX11_laysParts_130 rfl rfl h (fun h => ?_)
        refine p_iconst dX11_laysParts_131 ?_
        refine q_icmp_eq (tgt := 138) dX11_laysParts_132 (by decide) h (fun h => ?_) (fun h => ?_)
        · refine p_aload_n dX11_laysParts_138 rfl ?_
          refine p_getr dX11_laysParts_139 fl_X11_85 (fun _ _ _ => rfl) rfl rfl ?_
          refine p_iload dX11_laysParts_142 rfl ?_
          refine p_iload_n dX11_laysParts_144 rfl ?_
          refine q_iast dX11_laysParts_145 rfl rfl h (fun D145 h => ?_)
          refine p_aload_n dX11_laysParts_146 rfl ?_
          refine p_getr dX11_laysParts_147 fl_X11_88 (fun _ _ _ => rfl) rfl rfl ?_
          refine p_iload dX11_laysParts_150 rfl ?_
          refine p_iload dX11_laysParts_152 rfl ?_
          refine q_iast dX11_laysParts_154 rfl rfl h (fun D154 h => ?_)
          refine p_iinc dX11_laysParts_155 rfl (Nat.le_of_ble_eq_true rfl) rfl ?_
          refine p_iinc dX11_laysParts_158 rfl (Nat.le_of_ble_eq_true rfl) rfl ?_
          refine p_goto (tgt := 87) dX11_laysParts_161 (by decide) ?_
          exact p_weak (leL.same (leL.same (leL.same (leL.same (leL.same (leL.same (leL.same (leL.drop leL.nil)))))))) (kl_inl (P := (P_X11_laysParts_87 l g n K v1 v2 v3 v5)) h)
        · refine p_goto (tgt := 158) dX11_laysParts_135 (by decide) ?_
          refine p_iinc dX11_laysParts_158 rfl (Nat.le_of_ble_eq_true rfl) rfl ?_
          refine p_goto (tgt := 87) dX11_laysParts_161 (by decide) ?_
          exact p_weak (leL.same (leL.same (leL.same (leL.same (leL.same (leL.same (leL.same (leL.drop leL.nil)))))))) (kl_inl (P := (P_X11_laysParts_87 l g n K v1 v2 v3 v5)) h)
set_option maxRecDepth 100000 in
set_option maxHeartbeats 4000000 in
theorem x_X11_laysParts_77 {l : Launch} {g : GH} (hG : G0 l g) {n : Nat} {v1 v2 v3 : Int} {K : (Int × DT) → Prop} {s : (Int × Int × DT)} (h : ok (m_X11_laysParts_77 v1 v2 v3 s) (KL (P_X11_laysParts_27 l g n K v1) K)) : Px (E_X11_laysParts l g (PIw n K)) 77 [some (vR g 73), some (vI v1), some (vI v2), some (vI v3), some (vI s.1), some (vI s.2.1), none, none] [] (LF n) s.2.2 0 0 := by
  refine ok_loop (P := (P_X11_laysParts_77 l g n K v1 v2 v3)) (fun s h => ?_) h
  refine p_iload dX11_laysParts_77 rfl ?_
  refine p_iload dX11_laysParts_79 rfl ?_
  refine q_icmp_ge (tgt := 170) dX11_laysParts_81 (by decide) h (fun h => ?_) (fun h => ?_)
  · have h := kl_inr h
    refine p_iinc dX11_laysParts_170 rfl (Nat.le_of_ble_eq_true rfl) rfl ?_
    refine p_iinc dX11_laysParts_173 rfl (Nat.le_of_ble_eq_true rfl) rfl ?_
    refine p_goto (tgt := 27) dX11_laysParts_176 (by decide) ?_
    exact p_weak (leL.same (leL.same (leL.same (leL.same (leL.drop (leL.drop (leL.drop (leL.drop leL.nil)))))))) (kl_inl (P := (P_X11_laysParts_27 l g n K v1)) h)
  · refine p_iconst dX11_laysParts_84 ?_
    refine p_istore dX11_laysParts_85 (Nat.le_of_ble_eq_true rfl) rfl ?_
    exact p_weak (leL.same (leL.same (leL.same (leL.same (leL.same (leL.same (leL.same (leL.drop leL.nil)))))))) (x_X11_laysParts_87 hG h)
set_option maxRecDepth 100000 in
set_option maxHeartbeats 4000000 in
theorem x_X11_laysParts_27 {l : Launch} {g : GH} (hG : G0 l g) {n : Nat} {v1 : Int} {K : (Int × DT) → Prop} {s : (Int × Int × DT)} (h : ok (m_X11_laysParts_27 v1 s) K) : Px (E_X11_laysParts l g (PIw n K)) 27 [some (vR g 73), some (vI v1), some (vI s.1), some (vI s.2.1), none, none, none, none] [] (LF n) s.2.2 0 0 := by
  refine ok_loop (P := (P_X11_laysParts_27 l g n K v1)) (fun s h => ?_) h
  refine p_iload_n dX11_laysParts_27 rfl ?_
  refine p_aload_n dX11_laysParts_28 rfl ?_
  refine cV_Ir [] [vI s.2.1] dX11_laysParts_29 yv_X11_cells ml_X11_229 (r := (RX11, TX11, 41)) rfl rfl (Nat.le_of_ble_eq_true rfl) rfl (Nat.le_of_ble_eq_true rfl) (Nat.le_of_ble_eq_true rfl) (Nat.le_of_ble_eq_true rfl) rfl h (fun K h => s_X11_cells hG h) (fun r29 h => ?_)
  refine q_icmp_ge (tgt := 179) dX11_laysParts_32 (by decide) h (fun h => ?_) (fun h => ?_)
  · have h := kl_inr h
    refine p_iload_n dX11_laysParts_179 rfl ?_
    exact p_ireturn dX11_laysParts_180 (Nat.le_of_ble_eq_true rfl) (Nat.le_of_ble_eq_true rfl) ⟨_, rfl, rfl, ok_some h⟩
  · refine p_aload_n dX11_laysParts_35 rfl ?_
    refine p_iload_n dX11_laysParts_36 rfl ?_
    refine p_iload_n dX11_laysParts_37 rfl ?_
    refine cV_Ir [vI s.2.1, vI v1] [] dX11_laysParts_38 yv_X11_isLandOf ml_X11_233 (r := (RX11, TX11, 41)) rfl rfl (Nat.le_of_ble_eq_true rfl) rfl (Nat.le_of_ble_eq_true rfl) (Nat.le_of_ble_eq_true rfl) (Nat.le_of_ble_eq_true rfl) rfl h (fun K h => s_X11_isLandOf hG h) (fun r38 h => ?_)
    refine q_if_eq (tgt := 173) dX11_laysParts_41 (by decide) h (fun h => ?_) (fun h => ?_)
    · refine p_iinc dX11_laysParts_173 rfl (Nat.le_of_ble_eq_true rfl) rfl ?_
      refine p_goto (tgt := 27) dX11_laysParts_176 (by decide) ?_
      exact p_weak (leL.same (leL.same (leL.same (leL.same (leL.drop (leL.drop (leL.drop (leL.drop leL.nil)))))))) (kl_inl (P := (P_X11_laysParts_27 l g n K v1)) h)
    · refine p_aload_n dX11_laysParts_44 rfl ?_
      refine p_getr dX11_laysParts_45 fl_X11_85 (fun _ _ _ => rfl) rfl rfl ?_
      refine p_iload_n dX11_laysParts_48 rfl ?_
      refine q_iald dX11_laysParts_49 rfl rfl h (fun h => ?_)
      refine p_iconst dX11_laysParts_50 ?_
      refine q_icmp_eq (tgt := 57) dX11_laysParts_51 (by decide) h (fun h => ?_) (fun h => ?_)
      · refine p_iconst dX11_laysParts_57 ?_
        refine p_istore dX11_laysParts_58 (Nat.le_of_ble_eq_true rfl) rfl ?_
        refine p_aload_n dX11_laysParts_60 rfl ?_
        refine p_getr dX11_laysParts_61 fl_X11_88 (fun _ _ _ => rfl) rfl rfl ?_
        refine p_iconst dX11_laysParts_64 ?_
        refine p_iload_n dX11_laysParts_65 rfl ?_
        refine q_iast dX11_laysParts_66 rfl rfl h (fun D66 h => ?_)
        refine p_aload_n dX11_laysParts_67 rfl ?_
        refine p_getr dX11_laysParts_68 fl_X11_85 (fun _ _ _ => rfl) rfl rfl ?_
        refine p_iload_n dX11_laysParts_71 rfl ?_
        refine p_iload_n dX11_laysParts_72 rfl ?_
        refine q_iast dX11_laysParts_73 rfl rfl h (fun D73 h => ?_)
        refine p_iconst dX11_laysParts_74 ?_
        refine p_istore dX11_laysParts_75 (Nat.le_of_ble_eq_true rfl) rfl ?_
        exact p_weak (leL.same (leL.same (leL.same (leL.same (leL.same (leL.same (leL.drop (leL.drop leL.nil)))))))) (x_X11_laysParts_77 hG h)
      · refine p_goto (tgt := 173) dX11_laysParts_54 (by decide) ?_
        refine p_iinc dX11_laysParts_173 rfl (Nat.le_of_ble_eq_true rfl) rfl ?_
        refine p_goto (tgt := 27) dX11_laysParts_176 (by decide) ?_
        exact p_weak (leL.same (leL.same (leL.same (leL.same (leL.drop (leL.drop (leL.drop (leL.drop leL.nil)))))))) (kl_inl (P := (P_X11_laysParts_27 l g n K v1)) h)
set_option maxRecDepth 100000 in
set_option maxHeartbeats 4000000 in
theorem x_X11_laysParts_4 {l : Launch} {g : GH} (hG : G0 l g) {n : Nat} {v1 v2 : Int} {K : (Int × DT) → Prop} {s : (Int × DT)} (h : ok (m_X11_laysParts_4 v1 v2 s) K) : Px (E_X11_laysParts l g (PIw n K)) 4 [some (vR g 73), some (vI v1), some (vI v2), some (vI s.1), none, none, none, none] [] (LF n) s.2 0 0 := by
  refine ok_loop (P := (P_X11_laysParts_4 l g n K v1 v2)) (fun s h => ?_) h
  refine p_iload_n dX11_laysParts_4 rfl ?_
  refine p_aload_n dX11_laysParts_5 rfl ?_
  refine cV_Ir [] [vI s.1] dX11_laysParts_6 yv_X11_cells ml_X11_229 (r := (RX11, TX11, 41)) rfl rfl (Nat.le_of_ble_eq_true rfl) rfl (Nat.le_of_ble_eq_true rfl) (Nat.le_of_ble_eq_true rfl) (Nat.le_of_ble_eq_true rfl) rfl h (fun K h => s_X11_cells hG h) (fun r6 h => ?_)
  refine q_icmp_ge (tgt := 25) dX11_laysParts_9 (by decide) h (fun h => ?_) (fun h => ?_)
  · have h := kl_inr h
    refine p_iconst dX11_laysParts_25 ?_
    refine p_istore_n dX11_laysParts_26 (Nat.le_of_ble_eq_true rfl) rfl ?_
    exact p_weak (leL.same (leL.same (leL.same (leL.same (leL.drop (leL.drop (leL.drop (leL.drop leL.nil)))))))) (x_X11_laysParts_27 hG h)
  · refine p_aload_n dX11_laysParts_12 rfl ?_
    refine p_getr dX11_laysParts_13 fl_X11_85 (fun _ _ _ => rfl) rfl rfl ?_
    refine p_iload_n dX11_laysParts_16 rfl ?_
    refine p_iconst dX11_laysParts_17 ?_
    refine q_iast dX11_laysParts_18 rfl rfl h (fun D18 h => ?_)
    refine p_iinc dX11_laysParts_19 rfl (Nat.le_of_ble_eq_true rfl) rfl ?_
    refine p_goto (tgt := 4) dX11_laysParts_22 (by decide) ?_
    exact p_weak (leL.same (leL.same (leL.same (leL.same (leL.drop (leL.drop (leL.drop (leL.drop leL.nil)))))))) (kl_inl (P := (P_X11_laysParts_4 l g n K v1 v2)) h)
set_option maxRecDepth 100000 in
set_option maxHeartbeats 4000000 in
theorem x_X11_laysParts {l : Launch} {g : GH} (hG : G0 l g) {n : Nat} {v1 : Int} {D : DT} {K : (Int × DT) → Prop} (h : ok (m_X11_laysParts v1 D) K) : Px (E_X11_laysParts l g (PIw n K)) 0 [some (vR g 73), some (vI v1), none, none, none, none, none, none] [] (LF n) D 0 0 := by
  refine p_iconst dX11_laysParts_0 ?_
  refine p_istore_n dX11_laysParts_1 (Nat.le_of_ble_eq_true rfl) rfl ?_
  refine p_iconst dX11_laysParts_2 ?_
  refine p_istore_n dX11_laysParts_3 (Nat.le_of_ble_eq_true rfl) rfl ?_
  exact p_weak (leL.same (leL.same (leL.same (leL.same (leL.drop (leL.drop (leL.drop (leL.drop leL.nil)))))))) (x_X11_laysParts_4 hG h)
theorem s_X11_laysParts {l : Launch} {g : GH} (hG : G0 l g) {n : Nat} {v1 : Int} {D : DT} {K : (Int × DT) → Prop} (h : ok (m_X11_laysParts v1 D) K) : Sat l g yX11_laysParts cX11_laysParts 8 (some .int) 1 0 0 [vR g 73, vI v1] (LF n) D (PIw n K) := Sat.of hG (by decide) (Nat.le_of_ble_eq_true rfl) (by simp [Value.category]) (x_X11_laysParts hG h)
abbrev E_X11_isRunBegin (l : Launch) (g : GH) (P : PT) : ENV := mkE l g yX11_isRunBegin cX11_isRunBegin 3 (some .boolean) [] 1 0 0 P
set_option maxRecDepth 100000 in
set_option maxHeartbeats 4000000 in
theorem x_X11_isRunBegin {l : Launch} {g : GH} (hG : G0 l g) {n : Nat} {v1 : Int} {v2 : Int} {D : DT} {K : Int → Prop} (h : ok (m_X11_isRunBegin v1 v2 D) K) : Px (E_X11_isRunBegin l g (PIr n D K)) 0 [some (vR g 73), some (vI v1), some (vI v2)] [] (LF n) D 0 0 := by
  refine p_aload_n dX11_isRunBegin_0 rfl ?_
  refine p_iload_n dX11_isRunBegin_1 rfl ?_
  refine p_iload_n dX11_isRunBegin_2 rfl ?_
  refine cV_Ir [vI v2, vI v1] [] dX11_isRunBegin_3 yv_X11_isLandOf ml_X11_233 (r := (RX11, TX11, 41)) rfl rfl (Nat.le_of_ble_eq_true rfl) rfl (Nat.le_of_ble_eq_true rfl) (Nat.le_of_ble_eq_true rfl) (Nat.le_of_ble_eq_true rfl) rfl h (fun K h => s_X11_isLandOf hG h) (fun r3 h => ?_)
  refine q_if_eq (tgt := 35) dX11_isRunBegin_6 (by decide) h (fun h => ?_) (fun h => ?_)
  · refine p_iconst dX11_isRunBegin_35 ?_
    exact p_zreturn dX11_isRunBegin_36 (Nat.le_of_ble_eq_true rfl) (Nat.le_of_ble_eq_true rfl) (Or.inl rfl) ⟨_, rfl, rfl, rfl, ok_some h⟩
  · refine p_iload_n dX11_isRunBegin_9 rfl ?_
    refine p_aload_n dX11_isRunBegin_10 rfl ?_
    refine p_getr dX11_isRunBegin_11 fl_X11_17 (fun _ _ _ => rfl) rfl rfl ?_
    refine p_iconst dX11_isRunBegin_14 ?_
    refine q_iald dX11_isRunBegin_15 rfl rfl h (fun h => ?_)
    refine q_irem dX11_isRunBegin_16 h (fun h => ?_)
    refine q_if_eq (tgt := 31) dX11_isRunBegin_17 (by decide) h (fun h => ?_) (fun h => ?_)
    · refine p_iconst dX11_isRunBegin_31 ?_
      refine p_goto (tgt := 36) dX11_isRunBegin_32 (by decide) ?_
      exact p_zreturn dX11_isRunBegin_36 (Nat.le_of_ble_eq_true rfl) (Nat.le_of_ble_eq_true rfl) (Or.inr rfl) ⟨_, rfl, rfl, rfl, ok_some h⟩
    · refine p_aload_n dX11_isRunBegin_20 rfl ?_
      refine p_iload_n dX11_isRunBegin_21 rfl ?_
      refine p_iconst dX11_isRunBegin_22 ?_
      refine p_isub dX11_isRunBegin_23 ?_
      refine p_iload_n dX11_isRunBegin_24 rfl ?_
      refine cV_Ir [vI (v2 - 1), vI v1] [] dX11_isRunBegin_25 yv_X11_isLandOf ml_X11_233 (r := (RX11, TX11, 41)) rfl rfl (Nat.le_of_ble_eq_true rfl) rfl (Nat.le_of_ble_eq_true rfl) (Nat.le_of_ble_eq_true rfl) (Nat.le_of_ble_eq_true rfl) rfl h (fun K h => s_X11_isLandOf hG h) (fun r25 h => ?_)
      refine q_if_ne (tgt := 35) dX11_isRunBegin_28 (by decide) h (fun h => ?_) (fun h => ?_)
      · refine p_iconst dX11_isRunBegin_35 ?_
        exact p_zreturn dX11_isRunBegin_36 (Nat.le_of_ble_eq_true rfl) (Nat.le_of_ble_eq_true rfl) (Or.inl rfl) ⟨_, rfl, rfl, rfl, ok_some h⟩
      · refine p_iconst dX11_isRunBegin_31 ?_
        refine p_goto (tgt := 36) dX11_isRunBegin_32 (by decide) ?_
        exact p_zreturn dX11_isRunBegin_36 (Nat.le_of_ble_eq_true rfl) (Nat.le_of_ble_eq_true rfl) (Or.inr rfl) ⟨_, rfl, rfl, rfl, ok_some h⟩
theorem s_X11_isRunBegin {l : Launch} {g : GH} (hG : G0 l g) {n : Nat} {v1 : Int} {v2 : Int} {D : DT} {K : Int → Prop} (h : ok (m_X11_isRunBegin v1 v2 D) K) : Sat l g yX11_isRunBegin cX11_isRunBegin 3 (some .boolean) 1 0 0 [vR g 73, vI v1, vI v2] (LF n) D (PIr n D K) := Sat.of hG (by decide) (Nat.le_of_ble_eq_true rfl) (by simp [Value.category]) (x_X11_isRunBegin hG h)
abbrev E_X11_runsIn (l : Launch) (g : GH) (P : PT) : ENV := mkE l g yX11_runsIn cX11_runsIn 5 (some .int) [] 2 0 0 P
abbrev P_X11_runsIn_5 (l : Launch) (g : GH) (n : Nat) (K : Int → Prop) (v1 : Int) (v2 : Int) (D : DT) : (Int × Int) → Prop := fun s => Px (E_X11_runsIn l g (PIr n D K)) 5 [some (vR g 73), some (vI v1), some (vI v2), some (vI s.1), some (vI s.2)] [] (LF n) D 0 0
set_option maxRecDepth 100000 in
set_option maxHeartbeats 4000000 in
theorem x_X11_runsIn_5 {l : Launch} {g : GH} (hG : G0 l g) {n : Nat} {v1 v2 : Int} {D : DT} {K : Int → Prop} {s : (Int × Int)} (h : ok (m_X11_runsIn_5 v1 v2 D s) K) : Px (E_X11_runsIn l g (PIr n D K)) 5 [some (vR g 73), some (vI v1), some (vI v2), some (vI s.1), some (vI s.2)] [] (LF n) D 0 0 := by
  refine ok_loop (P := (P_X11_runsIn_5 l g n K v1 v2 D)) (fun s h => ?_) h
  refine p_iload dX11_runsIn_5 rfl ?_
  refine p_aload_n dX11_runsIn_7 rfl ?_
  refine p_getr dX11_runsIn_8 fl_X11_17 (fun _ _ _ => rfl) rfl rfl ?_
  refine p_iconst dX11_runsIn_11 ?_
  refine q_iald dX11_runsIn_12 rfl rfl h (fun h => ?_)
  refine q_icmp_ge (tgt := 49) dX11_runsIn_13 (by decide) h (fun h => ?_) (fun h => ?_)
  · have h := kl_inr h
    refine p_iload_n dX11_runsIn_49 rfl ?_
    exact p_ireturn dX11_runsIn_50 (Nat.le_of_ble_eq_true rfl) (Nat.le_of_ble_eq_true rfl) ⟨_, rfl, rfl, rfl, ok_some h⟩
  · refine p_iload_n dX11_runsIn_16 rfl ?_
    refine p_aload_n dX11_runsIn_17 rfl ?_
    refine p_iload_n dX11_runsIn_18 rfl ?_
    refine p_aload_n dX11_runsIn_19 rfl ?_
    refine p_getr dX11_runsIn_20 fl_X11_17 (fun _ _ _ => rfl) rfl rfl ?_
    refine p_iconst dX11_runsIn_23 ?_
    refine q_iald dX11_runsIn_24 rfl rfl h (fun h => ?_)
    refine p_iload_n dX11_runsIn_25 rfl ?_
    refine p_imul dX11_runsIn_26 ?_
    refine p_iload dX11_runsIn_27 rfl ?_
    refine p_iadd dX11_runsIn_29 ?_
    refine cV_Ir [vI v1, vI (((D.2 76 (Int.toNat 0)) * v2) + s.2)] [vI s.1] dX11_runsIn_30 yv_X11_isRunBegin ml_X11_264 (r := (RX11, TX11, 41)) rfl rfl (Nat.le_of_ble_eq_true rfl) rfl (Nat.le_of_ble_eq_true rfl) (Nat.le_of_ble_eq_true rfl) (Nat.le_of_ble_eq_true rfl) rfl h (fun K h => s_X11_isRunBegin hG h) (fun r30 h => ?_)
    refine q_if_eq (tgt := 40) dX11_runsIn_33 (by decide) h (fun h => ?_) (fun h => ?_)
    · refine p_iconst dX11_runsIn_40 ?_
      refine p_iadd dX11_runsIn_41 ?_
      refine p_istore_n dX11_runsIn_42 (Nat.le_of_ble_eq_true rfl) rfl ?_
      refine p_iinc dX11_runsIn_43 rfl (Nat.le_of_ble_eq_true rfl) rfl ?_
      refine p_goto (tgt := 5) dX11_runsIn_46 (by decide) ?_
      exact p_weak (leL.same (leL.same (leL.same (leL.same (leL.same leL.nil))))) (kl_inl (P := (P_X11_runsIn_5 l g n K v1 v2 D)) h)
    · refine p_iconst dX11_runsIn_36 ?_
      refine p_goto (tgt := 41) dX11_runsIn_37 (by decide) ?_
      refine p_iadd dX11_runsIn_41 ?_
      refine p_istore_n dX11_runsIn_42 (Nat.le_of_ble_eq_true rfl) rfl ?_
      refine p_iinc dX11_runsIn_43 rfl (Nat.le_of_ble_eq_true rfl) rfl ?_
      refine p_goto (tgt := 5) dX11_runsIn_46 (by decide) ?_
      exact p_weak (leL.same (leL.same (leL.same (leL.same (leL.same leL.nil))))) (kl_inl (P := (P_X11_runsIn_5 l g n K v1 v2 D)) h)
set_option maxRecDepth 100000 in
set_option maxHeartbeats 4000000 in
theorem x_X11_runsIn {l : Launch} {g : GH} (hG : G0 l g) {n : Nat} {v1 : Int} {v2 : Int} {D : DT} {K : Int → Prop} (h : ok (m_X11_runsIn v1 v2 D) K) : Px (E_X11_runsIn l g (PIr n D K)) 0 [some (vR g 73), some (vI v1), some (vI v2), none, none] [] (LF n) D 0 0 := by
  refine p_iconst dX11_runsIn_0 ?_
  refine p_istore_n dX11_runsIn_1 (Nat.le_of_ble_eq_true rfl) rfl ?_
  refine p_iconst dX11_runsIn_2 ?_
  refine p_istore dX11_runsIn_3 (Nat.le_of_ble_eq_true rfl) rfl ?_
  exact p_weak (leL.same (leL.same (leL.same (leL.same (leL.same leL.nil))))) (x_X11_runsIn_5 hG h)
theorem s_X11_runsIn {l : Launch} {g : GH} (hG : G0 l g) {n : Nat} {v1 : Int} {v2 : Int} {D : DT} {K : Int → Prop} (h : ok (m_X11_runsIn v1 v2 D) K) : Sat l g yX11_runsIn cX11_runsIn 5 (some .int) 2 0 0 [vR g 73, vI v1, vI v2] (LF n) D (PIr n D K) := Sat.of hG (by decide) (Nat.le_of_ble_eq_true rfl) (by simp [Value.category]) (x_X11_runsIn hG h)
abbrev E_X11_zone (l : Launch) (g : GH) (P : PT) : ENV := mkE l g yX11_zone cX11_zone 5 (some .int) [] 3 0 0 P
abbrev P_X11_zone_79 (l : Launch) (g : GH) (n : Nat) (K : (Int × DT) → Prop) (v1 : Int) (D : DT) : (Int × Int) → Prop := fun s => Px (E_X11_zone l g (PIw n K)) 79 [some (vR g 73), some (vI v1), none, some (vI s.1), some (vI s.2)] [] (LF n) D 0 0
set_option maxRecDepth 100000 in
set_option maxHeartbeats 4000000 in
theorem x_X11_zone_79 {l : Launch} {g : GH} (hG : G0 l g) {n : Nat} {v1 : Int} {D : DT} {K : (Int × DT) → Prop} {s : (Int × Int)} (h : ok (m_X11_zone_79 v1 D s) K) : Px (E_X11_zone l g (PIw n K)) 79 [some (vR g 73), some (vI v1), none, some (vI s.1), some (vI s.2)] [] (LF n) D 0 0 := by
  refine ok_loop (P := (P_X11_zone_79 l g n K v1 D)) (fun s h => ?_) h
  refine p_iload dX11_zone_79 rfl ?_
  refine p_aload_n dX11_zone_81 rfl ?_
  refine cV_Ir [] [vI s.2] dX11_zone_82 yv_X11_cells ml_X11_229 (r := (RX11, TX11, 41)) rfl rfl (Nat.le_of_ble_eq_true rfl) rfl (Nat.le_of_ble_eq_true rfl) (Nat.le_of_ble_eq_true rfl) (Nat.le_of_ble_eq_true rfl) rfl h (fun K h => s_X11_cells hG h) (fun r82 h => ?_)
  refine q_icmp_ge (tgt := 113) dX11_zone_85 (by decide) h (fun h => ?_) (fun h => ?_)
  · have h := kl_inr h
    refine p_iload_n dX11_zone_113 rfl ?_
    exact p_ireturn dX11_zone_114 (Nat.le_of_ble_eq_true rfl) (Nat.le_of_ble_eq_true rfl) ⟨_, rfl, rfl, ok_some h⟩
  · refine p_iload_n dX11_zone_88 rfl ?_
    refine p_aload_n dX11_zone_89 rfl ?_
    refine p_getr dX11_zone_90 fl_X11_23 (fun _ _ _ => rfl) rfl rfl ?_
    refine p_iload dX11_zone_93 rfl ?_
    refine q_iald dX11_zone_95 rfl rfl h (fun h => ?_)
    refine p_iload_n dX11_zone_96 rfl ?_
    refine q_icmp_ne (tgt := 104) dX11_zone_97 (by decide) h (fun h => ?_) (fun h => ?_)
    · refine p_iconst dX11_zone_104 ?_
      refine p_iadd dX11_zone_105 ?_
      refine p_istore_n dX11_zone_106 (Nat.le_of_ble_eq_true rfl) rfl ?_
      refine p_iinc dX11_zone_107 rfl (Nat.le_of_ble_eq_true rfl) rfl ?_
      refine p_goto (tgt := 79) dX11_zone_110 (by decide) ?_
      exact p_weak (leL.same (leL.same (leL.drop (leL.same (leL.same leL.nil))))) (kl_inl (P := (P_X11_zone_79 l g n K v1 D)) h)
    · refine p_iconst dX11_zone_100 ?_
      refine p_goto (tgt := 105) dX11_zone_101 (by decide) ?_
      refine p_iadd dX11_zone_105 ?_
      refine p_istore_n dX11_zone_106 (Nat.le_of_ble_eq_true rfl) rfl ?_
      refine p_iinc dX11_zone_107 rfl (Nat.le_of_ble_eq_true rfl) rfl ?_
      refine p_goto (tgt := 79) dX11_zone_110 (by decide) ?_
      exact p_weak (leL.same (leL.same (leL.drop (leL.same (leL.same leL.nil))))) (kl_inl (P := (P_X11_zone_79 l g n K v1 D)) h)
abbrev P_X11_zone_144 (l : Launch) (g : GH) (n : Nat) (K : (Int × DT) → Prop) (v1 : Int) (D : DT) : (Int × Int) → Prop := fun s => Px (E_X11_zone l g (PIw n K)) 144 [some (vR g 73), some (vI v1), none, some (vI s.1), some (vI s.2)] [] (LF n) D 0 0
set_option maxRecDepth 100000 in
set_option maxHeartbeats 4000000 in
theorem x_X11_zone_144 {l : Launch} {g : GH} (hG : G0 l g) {n : Nat} {v1 : Int} {D : DT} {K : (Int × DT) → Prop} {s : (Int × Int)} (h : ok (m_X11_zone_144 v1 D s) K) : Px (E_X11_zone l g (PIw n K)) 144 [some (vR g 73), some (vI v1), none, some (vI s.1), some (vI s.2)] [] (LF n) D 0 0 := by
  refine ok_loop (P := (P_X11_zone_144 l g n K v1 D)) (fun s h => ?_) h
  refine p_iload dX11_zone_144 rfl ?_
  refine p_aload_n dX11_zone_146 rfl ?_
  refine p_getr dX11_zone_147 fl_X11_17 (fun _ _ _ => rfl) rfl rfl ?_
  refine p_iconst dX11_zone_150 ?_
  refine q_iald dX11_zone_151 rfl rfl h (fun h => ?_)
  refine q_icmp_ge (tgt := 171) dX11_zone_152 (by decide) h (fun h => ?_) (fun h => ?_)
  · have h := kl_inr h
    refine p_iload_n dX11_zone_171 rfl ?_
    exact p_ireturn dX11_zone_172 (Nat.le_of_ble_eq_true rfl) (Nat.le_of_ble_eq_true rfl) ⟨_, rfl, rfl, ok_some h⟩
  · refine p_iload_n dX11_zone_155 rfl ?_
    refine p_aload_n dX11_zone_156 rfl ?_
    refine p_iload_n dX11_zone_157 rfl ?_
    refine p_iload dX11_zone_158 rfl ?_
    refine cV_Ir [vI v1, vI s.2] [vI s.1] dX11_zone_160 yv_X11_runsIn ml_X11_277 (r := (RX11, TX11, 41)) rfl rfl (Nat.le_of_ble_eq_true rfl) rfl (Nat.le_of_ble_eq_true rfl) (Nat.le_of_ble_eq_true rfl) (Nat.le_of_ble_eq_true rfl) rfl h (fun K h => s_X11_runsIn hG h) (fun r160 h => ?_)
    refine p_iadd dX11_zone_163 ?_
    refine p_istore_n dX11_zone_164 (Nat.le_of_ble_eq_true rfl) rfl ?_
    refine p_iinc dX11_zone_165 rfl (Nat.le_of_ble_eq_true rfl) rfl ?_
    refine p_goto (tgt := 144) dX11_zone_168 (by decide) ?_
    exact p_weak (leL.same (leL.same (leL.drop (leL.same (leL.same leL.nil))))) (kl_inl (P := (P_X11_zone_144 l g n K v1 D)) h)
set_option maxRecDepth 100000 in
set_option maxHeartbeats 4000000 in
theorem x_X11_zone_28 {l : Launch} {g : GH} (hG : G0 l g) {n : Nat} {v1 v2 : Int} {x0 : Int} {D : DT} {K : (Int × DT) → Prop} (h : ok (m_X11_zone_28 v1 v2 x0 D) K) : Px (E_X11_zone l g (PIw n K)) 28 [some (vR g 73), some (vI v1), some (vI v2), none, none] [vI x0, vR g 73] (LF n) D 0 0 := by
  refine p_iconst dX11_zone_28 ?_
  refine cV_Iw [vI x0, vI 2] [] dX11_zone_29 yv_X11_throwsIf ml_X11_215 (r := (RX11, TX11, 41)) rfl rfl (Nat.le_of_ble_eq_true rfl) rfl (Nat.le_of_ble_eq_true rfl) (Nat.le_of_ble_eq_true rfl) (Nat.le_of_ble_eq_true rfl) rfl h (fun K h => s_X11_throwsIf hG h) (fun r29 D29 h => ?_)
  refine q_if_eq (tgt := 37) dX11_zone_32 (by decide) h (fun h => ?_) (fun h => ?_)
  · refine p_iconst dX11_zone_37 ?_
    refine p_istore_n dX11_zone_38 (Nat.le_of_ble_eq_true rfl) rfl ?_
    refine p_iload_n dX11_zone_39 rfl ?_
    obtain ⟨hr, h⟩ := ok_gd h
    by_cases e0 : v2 = 0
    · have h := (ok_ite h).1 e0
      refine p_tableIn (tgt := 76) dX11_zone_40 hr (by omega) (by omega) (by rw [e0]; try rfl) (by decide) ?_
      refine p_iconst dX11_zone_76 ?_
      refine p_istore dX11_zone_77 (Nat.le_of_ble_eq_true rfl) rfl ?_
      exact p_weak (leL.same (leL.same (leL.drop (leL.same (leL.same leL.nil))))) (x_X11_zone_79 hG h)
    have h := (ok_ite h).2 e0
    by_cases e1 : v2 = 1
    · have h := (ok_ite h).1 e1
      refine p_tableIn (tgt := 115) dX11_zone_40 hr (by omega) (by omega) (by rw [e1]; try rfl) (by decide) ?_
      refine p_aload_n dX11_zone_115 rfl ?_
      refine p_iload_n dX11_zone_116 rfl ?_
      refine cV_Ir [vI v1] [] dX11_zone_117 yv_X11_land ml_X11_243 (r := (RX11, TX11, 41)) rfl rfl (Nat.le_of_ble_eq_true rfl) rfl (Nat.le_of_ble_eq_true rfl) (Nat.le_of_ble_eq_true rfl) (Nat.le_of_ble_eq_true rfl) rfl h (fun K h => s_X11_land hG h) (fun r117 h => ?_)
      exact p_ireturn dX11_zone_120 (Nat.le_of_ble_eq_true rfl) (Nat.le_of_ble_eq_true rfl) ⟨_, rfl, rfl, ok_some h⟩
    have h := (ok_ite h).2 e1
    by_cases e2 : v2 = 2
    · have h := (ok_ite h).1 e2
      refine p_tableIn (tgt := 121) dX11_zone_40 hr (by omega) (by omega) (by rw [e2]; try rfl) (by decide) ?_
      refine p_aload_n dX11_zone_121 rfl ?_
      refine p_iload_n dX11_zone_122 rfl ?_
      refine cV_Iw [vI v1] [] dX11_zone_123 yv_X11_laysParts ml_X11_270 (r := (RX11, TX11, 41)) rfl rfl (Nat.le_of_ble_eq_true rfl) rfl (Nat.le_of_ble_eq_true rfl) (Nat.le_of_ble_eq_true rfl) (Nat.le_of_ble_eq_true rfl) rfl h (fun K h => s_X11_laysParts hG h) (fun r123 D123 h => ?_)
      exact p_ireturn dX11_zone_126 (Nat.le_of_ble_eq_true rfl) (Nat.le_of_ble_eq_true rfl) ⟨_, rfl, rfl, ok_some h⟩
    have h := (ok_ite h).2 e2
    by_cases e3 : v2 = 3
    · have h := (ok_ite h).1 e3
      refine p_tableIn (tgt := 127) dX11_zone_40 hr (by omega) (by omega) (by rw [e3]; try rfl) (by decide) ?_
      refine p_aload_n dX11_zone_127 rfl ?_
      refine p_iload_n dX11_zone_128 rfl ?_
      refine p_iconst dX11_zone_129 ?_
      refine cV_Ir [vI v1, vI 1] [] dX11_zone_130 yv_X11_sides ml_X11_273 (r := (RX11, TX11, 41)) rfl rfl (Nat.le_of_ble_eq_true rfl) rfl (Nat.le_of_ble_eq_true rfl) (Nat.le_of_ble_eq_true rfl) (Nat.le_of_ble_eq_true rfl) rfl h (fun K h => s_X11_sides hG h) (fun r130 h => ?_)
      exact p_ireturn dX11_zone_133 (Nat.le_of_ble_eq_true rfl) (Nat.le_of_ble_eq_true rfl) ⟨_, rfl, rfl, ok_some h⟩
    have h := (ok_ite h).2 e3
    by_cases e4 : v2 = 4
    · have h := (ok_ite h).1 e4
      refine p_tableIn (tgt := 134) dX11_zone_40 hr (by omega) (by omega) (by rw [e4]; try rfl) (by decide) ?_
      refine p_aload_n dX11_zone_134 rfl ?_
      refine p_iload_n dX11_zone_135 rfl ?_
      refine p_iconst dX11_zone_136 ?_
      refine cV_Ir [vI v1, vI 0] [] dX11_zone_137 yv_X11_sides ml_X11_273 (r := (RX11, TX11, 41)) rfl rfl (Nat.le_of_ble_eq_true rfl) rfl (Nat.le_of_ble_eq_true rfl) (Nat.le_of_ble_eq_true rfl) (Nat.le_of_ble_eq_true rfl) rfl h (fun K h => s_X11_sides hG h) (fun r137 h => ?_)
      exact p_ireturn dX11_zone_140 (Nat.le_of_ble_eq_true rfl) (Nat.le_of_ble_eq_true rfl) ⟨_, rfl, rfl, ok_some h⟩
    have h := (ok_ite h).2 e4
    refine p_tableOut (tgt := 141) dX11_zone_40 hr (by omega) (by decide) ?_
    refine p_iconst dX11_zone_141 ?_
    refine p_istore dX11_zone_142 (Nat.le_of_ble_eq_true rfl) rfl ?_
    exact p_weak (leL.same (leL.same (leL.drop (leL.same (leL.same leL.nil))))) (x_X11_zone_144 hG h)
  · refine p_iconst dX11_zone_35 ?_
    exact p_ireturn dX11_zone_36 (Nat.le_of_ble_eq_true rfl) (Nat.le_of_ble_eq_true rfl) ⟨_, rfl, rfl, ok_some h⟩
set_option maxRecDepth 100000 in
set_option maxHeartbeats 4000000 in
theorem x_X11_zone {l : Launch} {g : GH} (hG : G0 l g) {n : Nat} {v1 : Int} {v2 : Int} {D : DT} {K : (Int × DT) → Prop} (h : ok (m_X11_zone v1 v2 D) K) : Px (E_X11_zone l g (PIw n K)) 0 [some (vR g 73), some (vI v1), some (vI v2), none, none] [] (LF n) D 0 0 := by
  refine p_aload_n dX11_zone_0 rfl ?_
  refine p_iconst dX11_zone_1 ?_
  refine q_puti dX11_zone_2 fq_X11_106 rfl rfl h (fun D2 h => ?_)
  refine p_aload_n dX11_zone_5 rfl ?_
  refine p_iload_n dX11_zone_6 rfl ?_
  refine cV_Iw [vI v1] [] dX11_zone_7 yv_X11_noZone ml_X11_267 (r := (RX11, TX11, 41)) rfl rfl (Nat.le_of_ble_eq_true rfl) rfl (Nat.le_of_ble_eq_true rfl) (Nat.le_of_ble_eq_true rfl) (Nat.le_of_ble_eq_true rfl) rfl h (fun K h => s_X11_noZone hG h) (fun r7 D7 h => ?_)
  refine q_if_ne (tgt := 35) dX11_zone_10 (by decide) h (fun h => ?_) (fun h => ?_)
  · refine p_iconst dX11_zone_35 ?_
    exact p_ireturn dX11_zone_36 (Nat.le_of_ble_eq_true rfl) (Nat.le_of_ble_eq_true rfl) ⟨_, rfl, rfl, ok_some h⟩
  · refine p_aload_n dX11_zone_13 rfl ?_
    refine p_iload_n dX11_zone_14 rfl ?_
    refine p_iconst dX11_zone_15 ?_
    refine p_iconst dX11_zone_16 ?_
    refine cS_Ir [vI v2, vI 0, vI 5] [vR g 73] dX11_zone_17 ys_X11_in ml_X11_169 (Nat.le_of_ble_eq_true rfl) rfl (Nat.le_of_ble_eq_true rfl) (Nat.le_of_ble_eq_true rfl) (Nat.le_of_ble_eq_true rfl) h (fun K h => s_X11_in hG h) (fun r17 h => ?_)
    refine q_if_ne (tgt := 27) dX11_zone_20 (by decide) h (fun h => ?_) (fun h => ?_)
    · refine p_iconst dX11_zone_27 ?_
      exact p_weak (leL.same (leL.same (leL.same (leL.drop (leL.drop leL.nil))))) (x_X11_zone_28 hG h)
    · refine p_iconst dX11_zone_23 ?_
      refine p_goto (tgt := 28) dX11_zone_24 (by decide) ?_
      exact p_weak (leL.same (leL.same (leL.same (leL.drop (leL.drop leL.nil))))) (x_X11_zone_28 hG h)
theorem s_X11_zone {l : Launch} {g : GH} (hG : G0 l g) {n : Nat} {v1 : Int} {v2 : Int} {D : DT} {K : (Int × DT) → Prop} (h : ok (m_X11_zone v1 v2 D) K) : Sat l g yX11_zone cX11_zone 5 (some .int) 3 0 0 [vR g 73, vI v1, vI v2] (LF n) D (PIw n K) := Sat.of hG (by decide) (Nat.le_of_ble_eq_true rfl) (by simp [Value.category]) (x_X11_zone hG h)
abbrev E_X11_name (l : Launch) (g : GH) (P : PT) : ENV := mkE l g yX11_name cX11_name 3 (some .int) [] 2 0 0 P
set_option maxRecDepth 100000 in
set_option maxHeartbeats 4000000 in
theorem x_X11_name {l : Launch} {g : GH} (hG : G0 l g) {n : Nat} {v1 : Int} {v2 : Int} {D : DT} {K : (Int × DT) → Prop} (h : ok (m_X11_name v1 v2 D) K) : Px (E_X11_name l g (PIw n K)) 0 [some (vR g 73), some (vI v1), some (vI v2)] [] (LF n) D 0 0 := by
  refine p_aload_n dX11_name_0 rfl ?_
  refine p_iconst dX11_name_1 ?_
  refine q_puti dX11_name_2 fq_X11_106 rfl rfl h (fun D2 h => ?_)
  refine p_aload_n dX11_name_5 rfl ?_
  refine p_iload_n dX11_name_6 rfl ?_
  refine cV_Iw [vI v1] [] dX11_name_7 yv_X11_noZone ml_X11_267 (r := (RX11, TX11, 41)) rfl rfl (Nat.le_of_ble_eq_true rfl) rfl (Nat.le_of_ble_eq_true rfl) (Nat.le_of_ble_eq_true rfl) (Nat.le_of_ble_eq_true rfl) rfl h (fun K h => s_X11_noZone hG h) (fun r7 D7 h => ?_)
  refine q_if_eq (tgt := 15) dX11_name_10 (by decide) h (fun h => ?_) (fun h => ?_)
  · refine p_iload_n dX11_name_15 rfl ?_
    refine p_iconst dX11_name_16 ?_
    refine p_iconst dX11_name_17 ?_
    refine cS_Ir [vI v2, vI 0, vI 5] [] dX11_name_18 ys_X11_in ml_X11_169 (Nat.le_of_ble_eq_true rfl) rfl (Nat.le_of_ble_eq_true rfl) (Nat.le_of_ble_eq_true rfl) (Nat.le_of_ble_eq_true rfl) h (fun K h => s_X11_in hG h) (fun r18 h => ?_)
    refine q_if_eq (tgt := 52) dX11_name_21 (by decide) h (fun h => ?_) (fun h => ?_)
    · refine p_iconst dX11_name_52 ?_
      exact p_ireturn dX11_name_53 (Nat.le_of_ble_eq_true rfl) (Nat.le_of_ble_eq_true rfl) ⟨_, rfl, rfl, ok_some h⟩
    · refine p_aload_n dX11_name_24 rfl ?_
      refine p_getr dX11_name_25 fl_X11_42 (fun _ _ _ => rfl) rfl rfl ?_
      refine p_bipush dX11_name_28 (by decide) ?_
      refine p_iload_n dX11_name_30 rfl ?_
      refine p_imul dX11_name_31 ?_
      refine p_iload_n dX11_name_32 rfl ?_
      refine p_iadd dX11_name_33 ?_
      refine q_bald dX11_name_34 rfl rfl h (fun h => ?_)
      refine q_if_eq (tgt := 52) dX11_name_35 (by decide) h (fun h => ?_) (fun h => ?_)
      · refine p_iconst dX11_name_52 ?_
        exact p_ireturn dX11_name_53 (Nat.le_of_ble_eq_true rfl) (Nat.le_of_ble_eq_true rfl) ⟨_, rfl, rfl, ok_some h⟩
      · refine p_aload_n dX11_name_38 rfl ?_
        refine p_getr dX11_name_39 fl_X11_42 (fun _ _ _ => rfl) rfl rfl ?_
        refine p_bipush dX11_name_42 (by decide) ?_
        refine p_iload_n dX11_name_44 rfl ?_
        refine p_imul dX11_name_45 ?_
        refine p_iload_n dX11_name_46 rfl ?_
        refine p_iadd dX11_name_47 ?_
        refine q_bald dX11_name_48 rfl rfl h (fun h => ?_)
        refine p_goto (tgt := 53) dX11_name_49 (by decide) ?_
        exact p_ireturn dX11_name_53 (Nat.le_of_ble_eq_true rfl) (Nat.le_of_ble_eq_true rfl) ⟨_, rfl, rfl, ok_some h⟩
  · refine p_iconst dX11_name_13 ?_
    exact p_ireturn dX11_name_14 (Nat.le_of_ble_eq_true rfl) (Nat.le_of_ble_eq_true rfl) ⟨_, rfl, rfl, ok_some h⟩
theorem s_X11_name {l : Launch} {g : GH} (hG : G0 l g) {n : Nat} {v1 : Int} {v2 : Int} {D : DT} {K : (Int × DT) → Prop} (h : ok (m_X11_name v1 v2 D) K) : Sat l g yX11_name cX11_name 3 (some .int) 2 0 0 [vR g 73, vI v1, vI v2] (LF n) D (PIw n K) := Sat.of hG (by decide) (Nat.le_of_ble_eq_true rfl) (by simp [Value.category]) (x_X11_name hG h)
abbrev E_X11_people (l : Launch) (g : GH) (P : PT) : ENV := mkE l g yX11_people cX11_people 5 (some .int) [] 2 0 0 P
set_option maxRecDepth 100000 in
set_option maxHeartbeats 4000000 in
theorem x_X11_people_37 {l : Launch} {g : GH} (hG : G0 l g) {n : Nat} {v1 v2 v3 : Int} {x0 : Int} {D : DT} {K : (Int × DT) → Prop} (h : ok (m_X11_people_37 v1 v2 v3 x0 D) K) : Px (E_X11_people l g (PIw n K)) 37 [some (vR g 73), some (vI v1), some (vI v2), some (vI v3), none] [vI x0, vR g 73] (LF n) D 0 0 := by
  refine p_iconst dX11_people_37 ?_
  refine cV_Iw [vI x0, vI 2] [] dX11_people_38 yv_X11_throwsIf ml_X11_215 (r := (RX11, TX11, 41)) rfl rfl (Nat.le_of_ble_eq_true rfl) rfl (Nat.le_of_ble_eq_true rfl) (Nat.le_of_ble_eq_true rfl) (Nat.le_of_ble_eq_true rfl) rfl h (fun K h => s_X11_throwsIf hG h) (fun r38 D38 h => ?_)
  refine q_if_eq (tgt := 46) dX11_people_41 (by decide) h (fun h => ?_) (fun h => ?_)
  · refine p_aload_n dX11_people_46 rfl ?_
    refine p_getr dX11_people_47 fl_X11_36 (fun _ _ _ => rfl) rfl rfl ?_
    refine p_iconst dX11_people_50 ?_
    refine p_iload_n dX11_people_51 rfl ?_
    refine p_imul dX11_people_52 ?_
    refine p_iload_n dX11_people_53 rfl ?_
    refine p_iadd dX11_people_54 ?_
    refine q_iald dX11_people_55 rfl rfl h (fun h => ?_)
    refine p_istore dX11_people_56 (Nat.le_of_ble_eq_true rfl) rfl ?_
    refine p_aload_n dX11_people_58 rfl ?_
    refine p_getr dX11_people_59 fl_X11_36 (fun _ _ _ => rfl) rfl rfl ?_
    refine p_iconst dX11_people_62 ?_
    refine p_iload_n dX11_people_63 rfl ?_
    refine p_imul dX11_people_64 ?_
    refine p_iload_n dX11_people_65 rfl ?_
    refine p_iadd dX11_people_66 ?_
    refine p_iload_n dX11_people_67 rfl ?_
    refine q_iast dX11_people_68 rfl rfl h (fun D68 h => ?_)
    refine p_iload dX11_people_69 rfl ?_
    exact p_ireturn dX11_people_71 (Nat.le_of_ble_eq_true rfl) (Nat.le_of_ble_eq_true rfl) ⟨_, rfl, rfl, ok_some h⟩
  · refine p_iconst dX11_people_44 ?_
    exact p_ireturn dX11_people_45 (Nat.le_of_ble_eq_true rfl) (Nat.le_of_ble_eq_true rfl) ⟨_, rfl, rfl, ok_some h⟩
set_option maxRecDepth 100000 in
set_option maxHeartbeats 4000000 in
theorem x_X11_people {l : Launch} {g : GH} (hG : G0 l g) {n : Nat} {v1 : Int} {v2 : Int} {v3 : Int} {D : DT} {K : (Int × DT) → Prop} (h : ok (m_X11_people v1 v2 v3 D) K) : Px (E_X11_people l g (PIw n K)) 0 [some (vR g 73), some (vI v1), some (vI v2), some (vI v3), none] [] (LF n) D 0 0 := by
  refine p_aload_n dX11_people_0 rfl ?_
  refine p_iconst dX11_people_1 ?_
  refine q_puti dX11_people_2 fq_X11_106 rfl rfl h (fun D2 h => ?_)
  refine p_aload_n dX11_people_5 rfl ?_
  refine p_iload_n dX11_people_6 rfl ?_
  refine cV_Iw [vI v1] [] dX11_people_7 yv_X11_noZone ml_X11_267 (r := (RX11, TX11, 41)) rfl rfl (Nat.le_of_ble_eq_true rfl) rfl (Nat.le_of_ble_eq_true rfl) (Nat.le_of_ble_eq_true rfl) (Nat.le_of_ble_eq_true rfl) rfl h (fun K h => s_X11_noZone hG h) (fun r7 D7 h => ?_)
  refine q_if_ne (tgt := 44) dX11_people_10 (by decide) h (fun h => ?_) (fun h => ?_)
  · refine p_iconst dX11_people_44 ?_
    exact p_ireturn dX11_people_45 (Nat.le_of_ble_eq_true rfl) (Nat.le_of_ble_eq_true rfl) ⟨_, rfl, rfl, ok_some h⟩
  · refine p_aload_n dX11_people_13 rfl ?_
    refine p_iload_n dX11_people_14 rfl ?_
    refine cV_Iw [vI v2] [] dX11_people_15 yv_X11_noGroup ml_X11_280 (r := (RX11, TX11, 41)) rfl rfl (Nat.le_of_ble_eq_true rfl) rfl (Nat.le_of_ble_eq_true rfl) (Nat.le_of_ble_eq_true rfl) (Nat.le_of_ble_eq_true rfl) rfl h (fun K h => s_X11_noGroup hG h) (fun r15 D15 h => ?_)
    refine q_if_ne (tgt := 44) dX11_people_18 (by decide) h (fun h => ?_) (fun h => ?_)
    · refine p_iconst dX11_people_44 ?_
      exact p_ireturn dX11_people_45 (Nat.le_of_ble_eq_true rfl) (Nat.le_of_ble_eq_true rfl) ⟨_, rfl, rfl, ok_some h⟩
    · refine p_aload_n dX11_people_21 rfl ?_
      refine p_iload_n dX11_people_22 rfl ?_
      refine p_iconst dX11_people_23 ?_
      refine p_ldc (v := 99999) dX11_people_24 cw_X11_194 ?_
      refine cS_Ir [vI v3, vI 0, vI 99999] [vR g 73] dX11_people_26 ys_X11_in ml_X11_169 (Nat.le_of_ble_eq_true rfl) rfl (Nat.le_of_ble_eq_true rfl) (Nat.le_of_ble_eq_true rfl) (Nat.le_of_ble_eq_true rfl) h (fun K h => s_X11_in hG h) (fun r26 h => ?_)
      refine q_if_ne (tgt := 36) dX11_people_29 (by decide) h (fun h => ?_) (fun h => ?_)
      · refine p_iconst dX11_people_36 ?_
        exact p_weak (leL.same (leL.same (leL.same (leL.same (leL.drop leL.nil))))) (x_X11_people_37 hG h)
      · refine p_iconst dX11_people_32 ?_
        refine p_goto (tgt := 37) dX11_people_33 (by decide) ?_
        exact p_weak (leL.same (leL.same (leL.same (leL.same (leL.drop leL.nil))))) (x_X11_people_37 hG h)
theorem s_X11_people {l : Launch} {g : GH} (hG : G0 l g) {n : Nat} {v1 : Int} {v2 : Int} {v3 : Int} {D : DT} {K : (Int × DT) → Prop} (h : ok (m_X11_people v1 v2 v3 D) K) : Sat l g yX11_people cX11_people 5 (some .int) 2 0 0 [vR g 73, vI v1, vI v2, vI v3] (LF n) D (PIw n K) := Sat.of hG (by decide) (Nat.le_of_ble_eq_true rfl) (by simp [Value.category]) (x_X11_people hG h)
abbrev E_X11_lives (l : Launch) (g : GH) (P : PT) : ENV := mkE l g yX11_lives cX11_lives 3 (some .int) [] 2 0 0 P
set_option maxRecDepth 100000 in
set_option maxHeartbeats 4000000 in
theorem x_X11_lives {l : Launch} {g : GH} (hG : G0 l g) {n : Nat} {v1 : Int} {v2 : Int} {D : DT} {K : (Int × DT) → Prop} (h : ok (m_X11_lives v1 v2 D) K) : Px (E_X11_lives l g (PIw n K)) 0 [some (vR g 73), some (vI v1), some (vI v2)] [] (LF n) D 0 0 := by
  refine p_aload_n dX11_lives_0 rfl ?_
  refine p_iconst dX11_lives_1 ?_
  refine q_puti dX11_lives_2 fq_X11_106 rfl rfl h (fun D2 h => ?_)
  refine p_aload_n dX11_lives_5 rfl ?_
  refine p_iload_n dX11_lives_6 rfl ?_
  refine cV_Iw [vI v1] [] dX11_lives_7 yv_X11_noZone ml_X11_267 (r := (RX11, TX11, 41)) rfl rfl (Nat.le_of_ble_eq_true rfl) rfl (Nat.le_of_ble_eq_true rfl) (Nat.le_of_ble_eq_true rfl) (Nat.le_of_ble_eq_true rfl) rfl h (fun K h => s_X11_noZone hG h) (fun r7 D7 h => ?_)
  refine q_if_ne (tgt := 21) dX11_lives_10 (by decide) h (fun h => ?_) (fun h => ?_)
  · refine p_iconst dX11_lives_21 ?_
    refine p_goto (tgt := 35) dX11_lives_22 (by decide) ?_
    exact p_ireturn dX11_lives_35 (Nat.le_of_ble_eq_true rfl) (Nat.le_of_ble_eq_true rfl) ⟨_, rfl, rfl, ok_some h⟩
  · refine p_aload_n dX11_lives_13 rfl ?_
    refine p_iload_n dX11_lives_14 rfl ?_
    refine cV_Iw [vI v2] [] dX11_lives_15 yv_X11_noGroup ml_X11_280 (r := (RX11, TX11, 41)) rfl rfl (Nat.le_of_ble_eq_true rfl) rfl (Nat.le_of_ble_eq_true rfl) (Nat.le_of_ble_eq_true rfl) (Nat.le_of_ble_eq_true rfl) rfl h (fun K h => s_X11_noGroup hG h) (fun r15 D15 h => ?_)
    refine q_if_eq (tgt := 25) dX11_lives_18 (by decide) h (fun h => ?_) (fun h => ?_)
    · refine p_aload_n dX11_lives_25 rfl ?_
      refine p_getr dX11_lives_26 fl_X11_36 (fun _ _ _ => rfl) rfl rfl ?_
      refine p_iconst dX11_lives_29 ?_
      refine p_iload_n dX11_lives_30 rfl ?_
      refine p_imul dX11_lives_31 ?_
      refine p_iload_n dX11_lives_32 rfl ?_
      refine p_iadd dX11_lives_33 ?_
      refine q_iald dX11_lives_34 rfl rfl h (fun h => ?_)
      exact p_ireturn dX11_lives_35 (Nat.le_of_ble_eq_true rfl) (Nat.le_of_ble_eq_true rfl) ⟨_, rfl, rfl, ok_some h⟩
    · refine p_iconst dX11_lives_21 ?_
      refine p_goto (tgt := 35) dX11_lives_22 (by decide) ?_
      exact p_ireturn dX11_lives_35 (Nat.le_of_ble_eq_true rfl) (Nat.le_of_ble_eq_true rfl) ⟨_, rfl, rfl, ok_some h⟩
theorem s_X11_lives {l : Launch} {g : GH} (hG : G0 l g) {n : Nat} {v1 : Int} {v2 : Int} {D : DT} {K : (Int × DT) → Prop} (h : ok (m_X11_lives v1 v2 D) K) : Sat l g yX11_lives cX11_lives 3 (some .int) 2 0 0 [vR g 73, vI v1, vI v2] (LF n) D (PIw n K) := Sat.of hG (by decide) (Nat.le_of_ble_eq_true rfl) (by simp [Value.category]) (x_X11_lives hG h)
abbrev E_X11_flood (l : Launch) (g : GH) (P : PT) : ENV := mkE l g yX11_flood cX11_flood 4 (some .boolean) [] 3 0 0 P
set_option maxRecDepth 100000 in
set_option maxHeartbeats 4000000 in
theorem x_X11_flood {l : Launch} {g : GH} (hG : G0 l g) {n : Nat} {v1 : Int} {v2 : Int} {D : DT} {K : (Int × DT) → Prop} (h : ok (m_X11_flood v1 v2 D) K) : Px (E_X11_flood l g (PIw n K)) 0 [some (vR g 73), some (vI v1), some (vI v2), none] [] (LF n) D 0 0 := by
  refine p_aload_n dX11_flood_0 rfl ?_
  refine p_iconst dX11_flood_1 ?_
  refine q_puti dX11_flood_2 fq_X11_106 rfl rfl h (fun D2 h => ?_)
  refine p_aload_n dX11_flood_5 rfl ?_
  refine p_iload_n dX11_flood_6 rfl ?_
  refine cV_Iw [vI v1] [] dX11_flood_7 yv_X11_noCell ml_X11_255 (r := (RX11, TX11, 41)) rfl rfl (Nat.le_of_ble_eq_true rfl) rfl (Nat.le_of_ble_eq_true rfl) (Nat.le_of_ble_eq_true rfl) (Nat.le_of_ble_eq_true rfl) rfl h (fun K h => s_X11_noCell hG h) (fun r7 D7 h => ?_)
  refine q_if_eq (tgt := 15) dX11_flood_10 (by decide) h (fun h => ?_) (fun h => ?_)
  · refine p_aload_n dX11_flood_15 rfl ?_
    refine p_getr dX11_flood_16 fl_X11_29 (fun _ _ _ => rfl) rfl rfl ?_
    refine p_iload_n dX11_flood_19 rfl ?_
    refine q_zald dX11_flood_20 rfl rfl h (fun h => ?_)
    refine p_istore_n dX11_flood_21 (Nat.le_of_ble_eq_true rfl) rfl ?_
    refine p_aload_n dX11_flood_22 rfl ?_
    refine p_getr dX11_flood_23 fl_X11_29 (fun _ _ _ => rfl) rfl rfl ?_
    refine p_iload_n dX11_flood_26 rfl ?_
    refine p_iload_n dX11_flood_27 rfl ?_
    refine q_zast dX11_flood_28 rfl rfl h (fun D28 h => ?_)
    refine p_aload_n dX11_flood_29 rfl ?_
    refine cV_Vw [] [] dX11_flood_30 yv_X11_laysOrders ml_X11_219 (r := (RX11, TX11, 41)) rfl rfl (Nat.le_of_ble_eq_true rfl) rfl (Nat.le_of_ble_eq_true rfl) (Nat.le_of_ble_eq_true rfl) (Nat.le_of_ble_eq_true rfl) rfl h (fun K h => s_X11_laysOrders hG h) (fun D30 h => ?_)
    refine p_iload_n dX11_flood_33 rfl ?_
    refine p_iload_n dX11_flood_34 rfl ?_
    refine q_icmp_eq (tgt := 42) dX11_flood_35 (by decide) h (fun h => ?_) (fun h => ?_)
    · refine p_iconst dX11_flood_42 ?_
      exact p_zreturn dX11_flood_43 (Nat.le_of_ble_eq_true rfl) (Nat.le_of_ble_eq_true rfl) (Or.inl rfl) ⟨_, rfl, rfl, ok_some h⟩
    · refine p_iconst dX11_flood_38 ?_
      refine p_goto (tgt := 43) dX11_flood_39 (by decide) ?_
      exact p_zreturn dX11_flood_43 (Nat.le_of_ble_eq_true rfl) (Nat.le_of_ble_eq_true rfl) (Or.inr rfl) ⟨_, rfl, rfl, ok_some h⟩
  · refine p_iconst dX11_flood_13 ?_
    exact p_zreturn dX11_flood_14 (Nat.le_of_ble_eq_true rfl) (Nat.le_of_ble_eq_true rfl) (Or.inl rfl) ⟨_, rfl, rfl, ok_some h⟩
theorem s_X11_flood {l : Launch} {g : GH} (hG : G0 l g) {n : Nat} {v1 : Int} {v2 : Int} {D : DT} {K : (Int × DT) → Prop} (h : ok (m_X11_flood v1 v2 D) K) : Sat l g yX11_flood cX11_flood 4 (some .boolean) 3 0 0 [vR g 73, vI v1, vI v2] (LF n) D (PIw n K) := Sat.of hG (by decide) (Nat.le_of_ble_eq_true rfl) (by simp [Value.category]) (x_X11_flood hG h)
abbrev E_X11_unit (l : Launch) (g : GH) (P : PT) : ENV := mkE l g yX11_unit cX11_unit 3 (some .int) [] 1 0 0 P
set_option maxRecDepth 100000 in
set_option maxHeartbeats 4000000 in
theorem x_X11_unit {l : Launch} {g : GH} (hG : G0 l g) {n : Nat} {v1 : Int} {D : DT} {K : (Int × DT) → Prop} (h : ok (m_X11_unit v1 D) K) : Px (E_X11_unit l g (PIw n K)) 0 [some (vR g 73), some (vI v1), none] [] (LF n) D 0 0 := by
  refine p_aload_n dX11_unit_0 rfl ?_
  refine p_iconst dX11_unit_1 ?_
  refine q_puti dX11_unit_2 fq_X11_106 rfl rfl h (fun D2 h => ?_)
  refine p_aload_n dX11_unit_5 rfl ?_
  refine p_iload_n dX11_unit_6 rfl ?_
  refine p_iconst dX11_unit_7 ?_
  refine p_sipush dX11_unit_8 (by decide) ?_
  refine cS_Ir [vI v1, vI 1, vI 9999] [vR g 73] dX11_unit_11 ys_X11_in ml_X11_169 (Nat.le_of_ble_eq_true rfl) rfl (Nat.le_of_ble_eq_true rfl) (Nat.le_of_ble_eq_true rfl) (Nat.le_of_ble_eq_true rfl) h (fun K h => s_X11_in hG h) (fun r11 h => ?_)
  refine q_if_ne (tgt := 21) dX11_unit_14 (by decide) h (fun h => ?_) (fun h => ?_)
  · refine p_iconst dX11_unit_21 ?_
    refine p_iconst dX11_unit_22 ?_
    refine cV_Iw [vI 0, vI 1] [] dX11_unit_23 yv_X11_throwsIf ml_X11_215 (r := (RX11, TX11, 41)) rfl rfl (Nat.le_of_ble_eq_true rfl) rfl (Nat.le_of_ble_eq_true rfl) (Nat.le_of_ble_eq_true rfl) (Nat.le_of_ble_eq_true rfl) rfl h (fun K h => s_X11_throwsIf hG h) (fun r23 D23 h => ?_)
    refine q_if_eq (tgt := 31) dX11_unit_26 (by decide) h (fun h => ?_) (fun h => ?_)
    · refine p_aload_n dX11_unit_31 rfl ?_
      refine p_geti dX11_unit_32 fl_X11_48 (fun _ _ _ => rfl) rfl ?_
      refine p_istore_n dX11_unit_35 (Nat.le_of_ble_eq_true rfl) rfl ?_
      refine p_aload_n dX11_unit_36 rfl ?_
      refine p_iload_n dX11_unit_37 rfl ?_
      refine q_puti dX11_unit_38 fq_X11_48 rfl rfl h (fun D38 h => ?_)
      refine p_iload_n dX11_unit_41 rfl ?_
      exact p_ireturn dX11_unit_42 (Nat.le_of_ble_eq_true rfl) (Nat.le_of_ble_eq_true rfl) ⟨_, rfl, rfl, ok_some h⟩
    · refine p_iconst dX11_unit_29 ?_
      exact p_ireturn dX11_unit_30 (Nat.le_of_ble_eq_true rfl) (Nat.le_of_ble_eq_true rfl) ⟨_, rfl, rfl, ok_some h⟩
  · refine p_iconst dX11_unit_17 ?_
    refine p_goto (tgt := 22) dX11_unit_18 (by decide) ?_
    refine p_iconst dX11_unit_22 ?_
    refine cV_Iw [vI 1, vI 1] [] dX11_unit_23 yv_X11_throwsIf ml_X11_215 (r := (RX11, TX11, 41)) rfl rfl (Nat.le_of_ble_eq_true rfl) rfl (Nat.le_of_ble_eq_true rfl) (Nat.le_of_ble_eq_true rfl) (Nat.le_of_ble_eq_true rfl) rfl h (fun K h => s_X11_throwsIf hG h) (fun r23 D23 h => ?_)
    refine q_if_eq (tgt := 31) dX11_unit_26 (by decide) h (fun h => ?_) (fun h => ?_)
    · refine p_aload_n dX11_unit_31 rfl ?_
      refine p_geti dX11_unit_32 fl_X11_48 (fun _ _ _ => rfl) rfl ?_
      refine p_istore_n dX11_unit_35 (Nat.le_of_ble_eq_true rfl) rfl ?_
      refine p_aload_n dX11_unit_36 rfl ?_
      refine p_iload_n dX11_unit_37 rfl ?_
      refine q_puti dX11_unit_38 fq_X11_48 rfl rfl h (fun D38 h => ?_)
      refine p_iload_n dX11_unit_41 rfl ?_
      exact p_ireturn dX11_unit_42 (Nat.le_of_ble_eq_true rfl) (Nat.le_of_ble_eq_true rfl) ⟨_, rfl, rfl, ok_some h⟩
    · refine p_iconst dX11_unit_29 ?_
      exact p_ireturn dX11_unit_30 (Nat.le_of_ble_eq_true rfl) (Nat.le_of_ble_eq_true rfl) ⟨_, rfl, rfl, ok_some h⟩
theorem s_X11_unit {l : Launch} {g : GH} (hG : G0 l g) {n : Nat} {v1 : Int} {D : DT} {K : (Int × DT) → Prop} (h : ok (m_X11_unit v1 D) K) : Sat l g yX11_unit cX11_unit 3 (some .int) 1 0 0 [vR g 73, vI v1] (LF n) D (PIw n K) := Sat.of hG (by decide) (Nat.le_of_ble_eq_true rfl) (by simp [Value.category]) (x_X11_unit hG h)
abbrev E_X11_factor (l : Launch) (g : GH) (P : PT) : ENV := mkE l g yX11_factor cX11_factor 3 (some .int) [] 1 0 0 P
set_option maxRecDepth 100000 in
set_option maxHeartbeats 4000000 in
theorem x_X11_factor {l : Launch} {g : GH} (hG : G0 l g) {n : Nat} {v1 : Int} {D : DT} {K : (Int × DT) → Prop} (h : ok (m_X11_factor v1 D) K) : Px (E_X11_factor l g (PIw n K)) 0 [some (vR g 73), some (vI v1), none] [] (LF n) D 0 0 := by
  refine p_aload_n dX11_factor_0 rfl ?_
  refine p_iconst dX11_factor_1 ?_
  refine q_puti dX11_factor_2 fq_X11_106 rfl rfl h (fun D2 h => ?_)
  refine p_aload_n dX11_factor_5 rfl ?_
  refine p_iload_n dX11_factor_6 rfl ?_
  refine p_iconst dX11_factor_7 ?_
  refine p_bipush dX11_factor_8 (by decide) ?_
  refine cS_Ir [vI v1, vI 2, vI 10] [vR g 73] dX11_factor_10 ys_X11_in ml_X11_169 (Nat.le_of_ble_eq_true rfl) rfl (Nat.le_of_ble_eq_true rfl) (Nat.le_of_ble_eq_true rfl) (Nat.le_of_ble_eq_true rfl) h (fun K h => s_X11_in hG h) (fun r10 h => ?_)
  refine q_if_ne (tgt := 20) dX11_factor_13 (by decide) h (fun h => ?_) (fun h => ?_)
  · refine p_iconst dX11_factor_20 ?_
    refine p_iconst dX11_factor_21 ?_
    refine cV_Iw [vI 0, vI 1] [] dX11_factor_22 yv_X11_throwsIf ml_X11_215 (r := (RX11, TX11, 41)) rfl rfl (Nat.le_of_ble_eq_true rfl) rfl (Nat.le_of_ble_eq_true rfl) (Nat.le_of_ble_eq_true rfl) (Nat.le_of_ble_eq_true rfl) rfl h (fun K h => s_X11_throwsIf hG h) (fun r22 D22 h => ?_)
    refine q_if_eq (tgt := 30) dX11_factor_25 (by decide) h (fun h => ?_) (fun h => ?_)
    · refine p_aload_n dX11_factor_30 rfl ?_
      refine p_geti dX11_factor_31 fl_X11_52 (fun _ _ _ => rfl) rfl ?_
      refine p_istore_n dX11_factor_34 (Nat.le_of_ble_eq_true rfl) rfl ?_
      refine p_aload_n dX11_factor_35 rfl ?_
      refine p_iload_n dX11_factor_36 rfl ?_
      refine q_puti dX11_factor_37 fq_X11_52 rfl rfl h (fun D37 h => ?_)
      refine p_iload_n dX11_factor_40 rfl ?_
      exact p_ireturn dX11_factor_41 (Nat.le_of_ble_eq_true rfl) (Nat.le_of_ble_eq_true rfl) ⟨_, rfl, rfl, ok_some h⟩
    · refine p_iconst dX11_factor_28 ?_
      exact p_ireturn dX11_factor_29 (Nat.le_of_ble_eq_true rfl) (Nat.le_of_ble_eq_true rfl) ⟨_, rfl, rfl, ok_some h⟩
  · refine p_iconst dX11_factor_16 ?_
    refine p_goto (tgt := 21) dX11_factor_17 (by decide) ?_
    refine p_iconst dX11_factor_21 ?_
    refine cV_Iw [vI 1, vI 1] [] dX11_factor_22 yv_X11_throwsIf ml_X11_215 (r := (RX11, TX11, 41)) rfl rfl (Nat.le_of_ble_eq_true rfl) rfl (Nat.le_of_ble_eq_true rfl) (Nat.le_of_ble_eq_true rfl) (Nat.le_of_ble_eq_true rfl) rfl h (fun K h => s_X11_throwsIf hG h) (fun r22 D22 h => ?_)
    refine q_if_eq (tgt := 30) dX11_factor_25 (by decide) h (fun h => ?_) (fun h => ?_)
    · refine p_aload_n dX11_factor_30 rfl ?_
      refine p_geti dX11_factor_31 fl_X11_52 (fun _ _ _ => rfl) rfl ?_
      refine p_istore_n dX11_factor_34 (Nat.le_of_ble_eq_true rfl) rfl ?_
      refine p_aload_n dX11_factor_35 rfl ?_
      refine p_iload_n dX11_factor_36 rfl ?_
      refine q_puti dX11_factor_37 fq_X11_52 rfl rfl h (fun D37 h => ?_)
      refine p_iload_n dX11_factor_40 rfl ?_
      exact p_ireturn dX11_factor_41 (Nat.le_of_ble_eq_true rfl) (Nat.le_of_ble_eq_true rfl) ⟨_, rfl, rfl, ok_some h⟩
    · refine p_iconst dX11_factor_28 ?_
      exact p_ireturn dX11_factor_29 (Nat.le_of_ble_eq_true rfl) (Nat.le_of_ble_eq_true rfl) ⟨_, rfl, rfl, ok_some h⟩
theorem s_X11_factor {l : Launch} {g : GH} (hG : G0 l g) {n : Nat} {v1 : Int} {D : DT} {K : (Int × DT) → Prop} (h : ok (m_X11_factor v1 D) K) : Sat l g yX11_factor cX11_factor 3 (some .int) 1 0 0 [vR g 73, vI v1] (LF n) D (PIw n K) := Sat.of hG (by decide) (Nat.le_of_ble_eq_true rfl) (by simp [Value.category]) (x_X11_factor hG h)
abbrev E_X11_order (l : Launch) (g : GH) (P : PT) : ENV := mkE l g yX11_order cX11_order 3 (some .int) [] 2 0 0 P
set_option maxRecDepth 100000 in
set_option maxHeartbeats 4000000 in
theorem x_X11_order {l : Launch} {g : GH} (hG : G0 l g) {n : Nat} {v1 : Int} {v2 : Int} {D : DT} {K : (Int × DT) → Prop} (h : ok (m_X11_order v1 v2 D) K) : Px (E_X11_order l g (PIw n K)) 0 [some (vR g 73), some (vI v1), some (vI v2)] [] (LF n) D 0 0 := by
  refine p_aload_n dX11_order_0 rfl ?_
  refine p_iconst dX11_order_1 ?_
  refine q_puti dX11_order_2 fq_X11_106 rfl rfl h (fun D2 h => ?_)
  refine p_aload_n dX11_order_5 rfl ?_
  refine p_iload_n dX11_order_6 rfl ?_
  refine cV_Iw [vI v1] [] dX11_order_7 yv_X11_noZone ml_X11_267 (r := (RX11, TX11, 41)) rfl rfl (Nat.le_of_ble_eq_true rfl) rfl (Nat.le_of_ble_eq_true rfl) (Nat.le_of_ble_eq_true rfl) (Nat.le_of_ble_eq_true rfl) rfl h (fun K h => s_X11_noZone hG h) (fun r7 D7 h => ?_)
  refine q_if_eq (tgt := 15) dX11_order_10 (by decide) h (fun h => ?_) (fun h => ?_)
  · refine p_iload_n dX11_order_15 rfl ?_
    refine p_iconst dX11_order_16 ?_
    refine p_aload_n dX11_order_17 rfl ?_
    refine p_iload_n dX11_order_18 rfl ?_
    refine cV_Ir [vI v1] [vI 0, vI v2] dX11_order_19 yv_X11_land ml_X11_243 (r := (RX11, TX11, 41)) rfl rfl (Nat.le_of_ble_eq_true rfl) rfl (Nat.le_of_ble_eq_true rfl) (Nat.le_of_ble_eq_true rfl) (Nat.le_of_ble_eq_true rfl) rfl h (fun K h => s_X11_land hG h) (fun r19 h => ?_)
    refine p_iconst dX11_order_22 ?_
    refine p_isub dX11_order_23 ?_
    refine cS_Ir [vI v2, vI 0, vI (r19 - 1)] [] dX11_order_24 ys_X11_in ml_X11_169 (Nat.le_of_ble_eq_true rfl) rfl (Nat.le_of_ble_eq_true rfl) (Nat.le_of_ble_eq_true rfl) (Nat.le_of_ble_eq_true rfl) h (fun K h => s_X11_in hG h) (fun r24 h => ?_)
    refine q_if_eq (tgt := 46) dX11_order_27 (by decide) h (fun h => ?_) (fun h => ?_)
    · refine p_iconst dX11_order_46 ?_
      exact p_ireturn dX11_order_47 (Nat.le_of_ble_eq_true rfl) (Nat.le_of_ble_eq_true rfl) ⟨_, rfl, rfl, ok_some h⟩
    · refine p_aload_n dX11_order_30 rfl ?_
      refine p_getr dX11_order_31 fl_X11_58 (fun _ _ _ => rfl) rfl rfl ?_
      refine p_aload_n dX11_order_34 rfl ?_
      refine p_getr dX11_order_35 fl_X11_61 (fun _ _ _ => rfl) rfl rfl ?_
      refine p_iload_n dX11_order_38 rfl ?_
      refine q_iald dX11_order_39 rfl rfl h (fun h => ?_)
      refine p_iload_n dX11_order_40 rfl ?_
      refine p_iadd dX11_order_41 ?_
      refine q_iald dX11_order_42 rfl rfl h (fun h => ?_)
      refine p_goto (tgt := 47) dX11_order_43 (by decide) ?_
      exact p_ireturn dX11_order_47 (Nat.le_of_ble_eq_true rfl) (Nat.le_of_ble_eq_true rfl) ⟨_, rfl, rfl, ok_some h⟩
  · refine p_iconst dX11_order_13 ?_
    exact p_ireturn dX11_order_14 (Nat.le_of_ble_eq_true rfl) (Nat.le_of_ble_eq_true rfl) ⟨_, rfl, rfl, ok_some h⟩
theorem s_X11_order {l : Launch} {g : GH} (hG : G0 l g) {n : Nat} {v1 : Int} {v2 : Int} {D : DT} {K : (Int × DT) → Prop} (h : ok (m_X11_order v1 v2 D) K) : Sat l g yX11_order cX11_order 3 (some .int) 2 0 0 [vR g 73, vI v1, vI v2] (LF n) D (PIw n K) := Sat.of hG (by decide) (Nat.le_of_ble_eq_true rfl) (by simp [Value.category]) (x_X11_order hG h)
abbrev E_X11_stands (l : Launch) (g : GH) (P : PT) : ENV := mkE l g yX11_stands cX11_stands 2 (some .int) [] 2 0 0 P
set_option maxRecDepth 100000 in
set_option maxHeartbeats 4000000 in
theorem x_X11_stands {l : Launch} {g : GH} (hG : G0 l g) {n : Nat} {v1 : Int} {D : DT} {K : (Int × DT) → Prop} (h : ok (m_X11_stands v1 D) K) : Px (E_X11_stands l g (PIw n K)) 0 [some (vR g 73), some (vI v1)] [] (LF n) D 0 0 := by
  refine p_aload_n dX11_stands_0 rfl ?_
  refine p_iconst dX11_stands_1 ?_
  refine q_puti dX11_stands_2 fq_X11_106 rfl rfl h (fun D2 h => ?_)
  refine p_aload_n dX11_stands_5 rfl ?_
  refine p_iload_n dX11_stands_6 rfl ?_
  refine cV_Iw [vI v1] [] dX11_stands_7 yv_X11_noCell ml_X11_255 (r := (RX11, TX11, 41)) rfl rfl (Nat.le_of_ble_eq_true rfl) rfl (Nat.le_of_ble_eq_true rfl) (Nat.le_of_ble_eq_true rfl) (Nat.le_of_ble_eq_true rfl) rfl h (fun K h => s_X11_noCell hG h) (fun r7 D7 h => ?_)
  refine q_if_eq (tgt := 17) dX11_stands_10 (by decide) h (fun h => ?_) (fun h => ?_)
  · refine p_aload_n dX11_stands_17 rfl ?_
    refine p_getr dX11_stands_18 fl_X11_64 (fun _ _ _ => rfl) rfl rfl ?_
    refine p_iload_n dX11_stands_21 rfl ?_
    refine q_iald dX11_stands_22 rfl rfl h (fun h => ?_)
    exact p_ireturn dX11_stands_23 (Nat.le_of_ble_eq_true rfl) (Nat.le_of_ble_eq_true rfl) ⟨_, rfl, rfl, ok_some h⟩
  · refine p_iconst dX11_stands_13 ?_
    refine p_goto (tgt := 23) dX11_stands_14 (by decide) ?_
    exact p_ireturn dX11_stands_23 (Nat.le_of_ble_eq_true rfl) (Nat.le_of_ble_eq_true rfl) ⟨_, rfl, rfl, ok_some h⟩
theorem s_X11_stands {l : Launch} {g : GH} (hG : G0 l g) {n : Nat} {v1 : Int} {D : DT} {K : (Int × DT) → Prop} (h : ok (m_X11_stands v1 D) K) : Sat l g yX11_stands cX11_stands 2 (some .int) 2 0 0 [vR g 73, vI v1] (LF n) D (PIw n K) := Sat.of hG (by decide) (Nat.le_of_ble_eq_true rfl) (by simp [Value.category]) (x_X11_stands hG h)
abbrev E_X11_dots (l : Launch) (g : GH) (P : PT) : ENV := mkE l g yX11_dots cX11_dots 4 (some .int) [] 2 0 0 P
set_option maxRecDepth 100000 in
set_option maxHeartbeats 4000000 in
theorem x_X11_dots {l : Launch} {g : GH} (hG : G0 l g) {n : Nat} {v1 : Int} {v2 : Int} {v3 : Int} {D : DT} {K : (Int × DT) → Prop} (h : ok (m_X11_dots v1 v2 v3 D) K) : Px (E_X11_dots l g (PIw n K)) 0 [some (vR g 73), some (vI v1), some (vI v2), some (vI v3)] [] (LF n) D 0 0 := by
  refine p_aload_n dX11_dots_0 rfl ?_
  refine p_iconst dX11_dots_1 ?_
  refine q_puti dX11_dots_2 fq_X11_106 rfl rfl h (fun D2 h => ?_)
  refine p_aload_n dX11_dots_5 rfl ?_
  refine p_iload_n dX11_dots_6 rfl ?_
  refine cV_Iw [vI v1] [] dX11_dots_7 yv_X11_noZone ml_X11_267 (r := (RX11, TX11, 41)) rfl rfl (Nat.le_of_ble_eq_true rfl) rfl (Nat.le_of_ble_eq_true rfl) (Nat.le_of_ble_eq_true rfl) (Nat.le_of_ble_eq_true rfl) rfl h (fun K h => s_X11_noZone hG h) (fun r7 D7 h => ?_)
  refine q_if_ne (tgt := 29) dX11_dots_10 (by decide) h (fun h => ?_) (fun h => ?_)
  · refine p_iconst dX11_dots_29 ?_
    exact p_ireturn dX11_dots_30 (Nat.le_of_ble_eq_true rfl) (Nat.le_of_ble_eq_true rfl) ⟨_, rfl, rfl, ok_some h⟩
  · refine p_aload_n dX11_dots_13 rfl ?_
    refine p_iload_n dX11_dots_14 rfl ?_
    refine cV_Iw [vI v2] [] dX11_dots_15 yv_X11_noGroup ml_X11_280 (r := (RX11, TX11, 41)) rfl rfl (Nat.le_of_ble_eq_true rfl) rfl (Nat.le_of_ble_eq_true rfl) (Nat.le_of_ble_eq_true rfl) (Nat.le_of_ble_eq_true rfl) rfl h (fun K h => s_X11_noGroup hG h) (fun r15 D15 h => ?_)
    refine q_if_ne (tgt := 29) dX11_dots_18 (by decide) h (fun h => ?_) (fun h => ?_)
    · refine p_iconst dX11_dots_29 ?_
      exact p_ireturn dX11_dots_30 (Nat.le_of_ble_eq_true rfl) (Nat.le_of_ble_eq_true rfl) ⟨_, rfl, rfl, ok_some h⟩
    · refine p_aload_n dX11_dots_21 rfl ?_
      refine p_iload_n dX11_dots_22 rfl ?_
      refine cV_Iw [vI v3] [] dX11_dots_23 yv_X11_noLevel ml_X11_283 (r := (RX11, TX11, 41)) rfl rfl (Nat.le_of_ble_eq_true rfl) rfl (Nat.le_of_ble_eq_true rfl) (Nat.le_of_ble_eq_true rfl) (Nat.le_of_ble_eq_true rfl) rfl h (fun K h => s_X11_noLevel hG h) (fun r23 D23 h => ?_)
      refine q_if_eq (tgt := 31) dX11_dots_26 (by decide) h (fun h => ?_) (fun h => ?_)
      · refine p_aload_n dX11_dots_31 rfl ?_
        refine p_aload_n dX11_dots_32 rfl ?_
        refine p_geti dX11_dots_33 fl_X11_48 (fun _ _ _ => rfl) rfl ?_
        refine cV_Vw [vI (D23.1 73 14)] [] dX11_dots_36 yv_X11_laysDots ml_X11_246 (r := (RX11, TX11, 41)) rfl rfl (Nat.le_of_ble_eq_true rfl) rfl (Nat.le_of_ble_eq_true rfl) (Nat.le_of_ble_eq_true rfl) (Nat.le_of_ble_eq_true rfl) rfl h (fun K h => s_X11_laysDots hG h) (fun D36 h => ?_)
        refine p_aload_n dX11_dots_39 rfl ?_
        refine p_getr dX11_dots_40 fl_X11_70 (fun _ _ _ => rfl) rfl rfl ?_
        refine p_iload_n dX11_dots_43 rfl ?_
        refine p_iload_n dX11_dots_44 rfl ?_
        refine p_iload_n dX11_dots_45 rfl ?_
        refine cS_Ir [vI v3, vI v1, vI v2] [vR g 90] dX11_dots_46 ys_X11_dotsAt ml_X11_239 (Nat.le_of_ble_eq_true rfl) rfl (Nat.le_of_ble_eq_true rfl) (Nat.le_of_ble_eq_true rfl) (Nat.le_of_ble_eq_true rfl) h (fun K h => s_X11_dotsAt hG h) (fun r46 h => ?_)
        refine q_iald dX11_dots_49 rfl rfl h (fun h => ?_)
        exact p_ireturn dX11_dots_50 (Nat.le_of_ble_eq_true rfl) (Nat.le_of_ble_eq_true rfl) ⟨_, rfl, rfl, ok_some h⟩
      · refine p_iconst dX11_dots_29 ?_
        exact p_ireturn dX11_dots_30 (Nat.le_of_ble_eq_true rfl) (Nat.le_of_ble_eq_true rfl) ⟨_, rfl, rfl, ok_some h⟩
theorem s_X11_dots {l : Launch} {g : GH} (hG : G0 l g) {n : Nat} {v1 : Int} {v2 : Int} {v3 : Int} {D : DT} {K : (Int × DT) → Prop} (h : ok (m_X11_dots v1 v2 v3 D) K) : Sat l g yX11_dots cX11_dots 4 (some .int) 2 0 0 [vR g 73, vI v1, vI v2, vI v3] (LF n) D (PIw n K) := Sat.of hG (by decide) (Nat.le_of_ble_eq_true rfl) (by simp [Value.category]) (x_X11_dots hG h)
abbrev E_X11_carried (l : Launch) (g : GH) (P : PT) : ENV := mkE l g yX11_carried cX11_carried 4 (some .int) [] 2 0 0 P
set_option maxRecDepth 100000 in
set_option maxHeartbeats 4000000 in
theorem x_X11_carried {l : Launch} {g : GH} (hG : G0 l g) {n : Nat} {v1 : Int} {v2 : Int} {v3 : Int} {D : DT} {K : (Int × DT) → Prop} (h : ok (m_X11_carried v1 v2 v3 D) K) : Px (E_X11_carried l g (PIw n K)) 0 [some (vR g 73), some (vI v1), some (vI v2), some (vI v3)] [] (LF n) D 0 0 := by
  refine p_aload_n dX11_carried_0 rfl ?_
  refine p_iconst dX11_carried_1 ?_
  refine q_puti dX11_carried_2 fq_X11_106 rfl rfl h (fun D2 h => ?_)
  refine p_aload_n dX11_carried_5 rfl ?_
  refine p_iload_n dX11_carried_6 rfl ?_
  refine cV_Iw [vI v1] [] dX11_carried_7 yv_X11_noZone ml_X11_267 (r := (RX11, TX11, 41)) rfl rfl (Nat.le_of_ble_eq_true rfl) rfl (Nat.le_of_ble_eq_true rfl) (Nat.le_of_ble_eq_true rfl) (Nat.le_of_ble_eq_true rfl) rfl h (fun K h => s_X11_noZone hG h) (fun r7 D7 h => ?_)
  refine q_if_ne (tgt := 29) dX11_carried_10 (by decide) h (fun h => ?_) (fun h => ?_)
  · refine p_iconst dX11_carried_29 ?_
    exact p_ireturn dX11_carried_30 (Nat.le_of_ble_eq_true rfl) (Nat.le_of_ble_eq_true rfl) ⟨_, rfl, rfl, ok_some h⟩
  · refine p_aload_n dX11_carried_13 rfl ?_
    refine p_iload_n dX11_carried_14 rfl ?_
    refine cV_Iw [vI v2] [] dX11_carried_15 yv_X11_noGroup ml_X11_280 (r := (RX11, TX11, 41)) rfl rfl (Nat.le_of_ble_eq_true rfl) rfl (Nat.le_of_ble_eq_true rfl) (Nat.le_of_ble_eq_true rfl) (Nat.le_of_ble_eq_true rfl) rfl h (fun K h => s_X11_noGroup hG h) (fun r15 D15 h => ?_)
    refine q_if_ne (tgt := 29) dX11_carried_18 (by decide) h (fun h => ?_) (fun h => ?_)
    · refine p_iconst dX11_carried_29 ?_
      exact p_ireturn dX11_carried_30 (Nat.le_of_ble_eq_true rfl) (Nat.le_of_ble_eq_true rfl) ⟨_, rfl, rfl, ok_some h⟩
    · refine p_aload_n dX11_carried_21 rfl ?_
      refine p_iload_n dX11_carried_22 rfl ?_
      refine cV_Iw [vI v3] [] dX11_carried_23 yv_X11_noLevel ml_X11_283 (r := (RX11, TX11, 41)) rfl rfl (Nat.le_of_ble_eq_true rfl) rfl (Nat.le_of_ble_eq_true rfl) (Nat.le_of_ble_eq_true rfl) (Nat.le_of_ble_eq_true rfl) rfl h (fun K h => s_X11_noLevel hG h) (fun r23 D23 h => ?_)
      refine q_if_eq (tgt := 31) dX11_carried_26 (by decide) h (fun h => ?_) (fun h => ?_)
      · refine p_aload_n dX11_carried_31 rfl ?_
        refine p_aload_n dX11_carried_32 rfl ?_
        refine p_geti dX11_carried_33 fl_X11_48 (fun _ _ _ => rfl) rfl ?_
        refine cV_Vw [vI (D23.1 73 14)] [] dX11_carried_36 yv_X11_laysDots ml_X11_246 (r := (RX11, TX11, 41)) rfl rfl (Nat.le_of_ble_eq_true rfl) rfl (Nat.le_of_ble_eq_true rfl) (Nat.le_of_ble_eq_true rfl) (Nat.le_of_ble_eq_true rfl) rfl h (fun K h => s_X11_laysDots hG h) (fun D36 h => ?_)
        refine p_aload_n dX11_carried_39 rfl ?_
        refine p_getr dX11_carried_40 fl_X11_73 (fun _ _ _ => rfl) rfl rfl ?_
        refine p_iload_n dX11_carried_43 rfl ?_
        refine p_iload_n dX11_carried_44 rfl ?_
        refine p_iload_n dX11_carried_45 rfl ?_
        refine cS_Ir [vI v3, vI v1, vI v2] [vR g 91] dX11_carried_46 ys_X11_dotsAt ml_X11_239 (Nat.le_of_ble_eq_true rfl) rfl (Nat.le_of_ble_eq_true rfl) (Nat.le_of_ble_eq_true rfl) (Nat.le_of_ble_eq_true rfl) h (fun K h => s_X11_dotsAt hG h) (fun r46 h => ?_)
        refine q_iald dX11_carried_49 rfl rfl h (fun h => ?_)
        exact p_ireturn dX11_carried_50 (Nat.le_of_ble_eq_true rfl) (Nat.le_of_ble_eq_true rfl) ⟨_, rfl, rfl, ok_some h⟩
      · refine p_iconst dX11_carried_29 ?_
        exact p_ireturn dX11_carried_30 (Nat.le_of_ble_eq_true rfl) (Nat.le_of_ble_eq_true rfl) ⟨_, rfl, rfl, ok_some h⟩
theorem s_X11_carried {l : Launch} {g : GH} (hG : G0 l g) {n : Nat} {v1 : Int} {v2 : Int} {v3 : Int} {D : DT} {K : (Int × DT) → Prop} (h : ok (m_X11_carried v1 v2 v3 D) K) : Sat l g yX11_carried cX11_carried 4 (some .int) 2 0 0 [vR g 73, vI v1, vI v2, vI v3] (LF n) D (PIw n K) := Sat.of hG (by decide) (Nat.le_of_ble_eq_true rfl) (by simp [Value.category]) (x_X11_carried hG h)
abbrev E_X11_left (l : Launch) (g : GH) (P : PT) : ENV := mkE l g yX11_left cX11_left 3 (some .int) [] 2 0 0 P
set_option maxRecDepth 100000 in
set_option maxHeartbeats 4000000 in
theorem x_X11_left {l : Launch} {g : GH} (hG : G0 l g) {n : Nat} {v1 : Int} {v2 : Int} {D : DT} {K : (Int × DT) → Prop} (h : ok (m_X11_left v1 v2 D) K) : Px (E_X11_left l g (PIw n K)) 0 [some (vR g 73), some (vI v1), some (vI v2)] [] (LF n) D 0 0 := by
  refine p_aload_n dX11_left_0 rfl ?_
  refine p_iconst dX11_left_1 ?_
  refine q_puti dX11_left_2 fq_X11_106 rfl rfl h (fun D2 h => ?_)
  refine p_aload_n dX11_left_5 rfl ?_
  refine p_iload_n dX11_left_6 rfl ?_
  refine cV_Iw [vI v1] [] dX11_left_7 yv_X11_noGroup ml_X11_280 (r := (RX11, TX11, 41)) rfl rfl (Nat.le_of_ble_eq_true rfl) rfl (Nat.le_of_ble_eq_true rfl) (Nat.le_of_ble_eq_true rfl) (Nat.le_of_ble_eq_true rfl) rfl h (fun K h => s_X11_noGroup hG h) (fun r7 D7 h => ?_)
  refine q_if_ne (tgt := 21) dX11_left_10 (by decide) h (fun h => ?_) (fun h => ?_)
  · refine p_iconst dX11_left_21 ?_
    exact p_ireturn dX11_left_22 (Nat.le_of_ble_eq_true rfl) (Nat.le_of_ble_eq_true rfl) ⟨_, rfl, rfl, ok_some h⟩
  · refine p_aload_n dX11_left_13 rfl ?_
    refine p_iload_n dX11_left_14 rfl ?_
    refine cV_Iw [vI v2] [] dX11_left_15 yv_X11_noLevel ml_X11_283 (r := (RX11, TX11, 41)) rfl rfl (Nat.le_of_ble_eq_true rfl) rfl (Nat.le_of_ble_eq_true rfl) (Nat.le_of_ble_eq_true rfl) (Nat.le_of_ble_eq_true rfl) rfl h (fun K h => s_X11_noLevel hG h) (fun r15 D15 h => ?_)
    refine q_if_eq (tgt := 23) dX11_left_18 (by decide) h (fun h => ?_) (fun h => ?_)
    · refine p_aload_n dX11_left_23 rfl ?_
      refine p_aload_n dX11_left_24 rfl ?_
      refine p_geti dX11_left_25 fl_X11_48 (fun _ _ _ => rfl) rfl ?_
      refine cV_Vw [vI (D15.1 73 14)] [] dX11_left_28 yv_X11_laysDots ml_X11_246 (r := (RX11, TX11, 41)) rfl rfl (Nat.le_of_ble_eq_true rfl) rfl (Nat.le_of_ble_eq_true rfl) (Nat.le_of_ble_eq_true rfl) (Nat.le_of_ble_eq_true rfl) rfl h (fun K h => s_X11_laysDots hG h) (fun D28 h => ?_)
      refine p_aload_n dX11_left_31 rfl ?_
      refine p_getr dX11_left_32 fl_X11_76 (fun _ _ _ => rfl) rfl rfl ?_
      refine p_iconst dX11_left_35 ?_
      refine p_iload_n dX11_left_36 rfl ?_
      refine p_imul dX11_left_37 ?_
      refine p_iload_n dX11_left_38 rfl ?_
      refine p_iadd dX11_left_39 ?_
      refine q_iald dX11_left_40 rfl rfl h (fun h => ?_)
      exact p_ireturn dX11_left_41 (Nat.le_of_ble_eq_true rfl) (Nat.le_of_ble_eq_true rfl) ⟨_, rfl, rfl, ok_some h⟩
    · refine p_iconst dX11_left_21 ?_
      exact p_ireturn dX11_left_22 (Nat.le_of_ble_eq_true rfl) (Nat.le_of_ble_eq_true rfl) ⟨_, rfl, rfl, ok_some h⟩
theorem s_X11_left {l : Launch} {g : GH} (hG : G0 l g) {n : Nat} {v1 : Int} {v2 : Int} {D : DT} {K : (Int × DT) → Prop} (h : ok (m_X11_left v1 v2 D) K) : Sat l g yX11_left cX11_left 3 (some .int) 2 0 0 [vR g 73, vI v1, vI v2] (LF n) D (PIw n K) := Sat.of hG (by decide) (Nat.le_of_ble_eq_true rfl) (by simp [Value.category]) (x_X11_left hG h)
abbrev E_X11_all (l : Launch) (g : GH) (P : PT) : ENV := mkE l g yX11_all cX11_all 3 (some .int) [] 2 0 0 P
set_option maxRecDepth 100000 in
set_option maxHeartbeats 4000000 in
theorem x_X11_all_18 {l : Launch} {g : GH} (hG : G0 l g) {n : Nat} {v1 v2 : Int} {D : DT} {K : (Int × DT) → Prop} (h : ok (m_X11_all_18 v1 v2 D) K) : Px (E_X11_all l g (PIw n K)) 18 [some (vR g 73), some (vI v1), some (vI v2)] [] (LF n) D 0 0 := by
  refine p_aload_n dX11_all_18 rfl ?_
  refine p_iload_n dX11_all_19 rfl ?_
  refine cV_Iw [vI v2] [] dX11_all_20 yv_X11_noLevel ml_X11_283 (r := (RX11, TX11, 41)) rfl rfl (Nat.le_of_ble_eq_true rfl) rfl (Nat.le_of_ble_eq_true rfl) (Nat.le_of_ble_eq_true rfl) (Nat.le_of_ble_eq_true rfl) rfl h (fun K h => s_X11_noLevel hG h) (fun r20 D20 h => ?_)
  refine q_if_eq (tgt := 28) dX11_all_23 (by decide) h (fun h => ?_) (fun h => ?_)
  · refine p_aload_n dX11_all_28 rfl ?_
    refine p_aload_n dX11_all_29 rfl ?_
    refine p_geti dX11_all_30 fl_X11_48 (fun _ _ _ => rfl) rfl ?_
    refine cV_Vw [vI (D20.1 73 14)] [] dX11_all_33 yv_X11_laysDots ml_X11_246 (r := (RX11, TX11, 41)) rfl rfl (Nat.le_of_ble_eq_true rfl) rfl (Nat.le_of_ble_eq_true rfl) (Nat.le_of_ble_eq_true rfl) (Nat.le_of_ble_eq_true rfl) rfl h (fun K h => s_X11_laysDots hG h) (fun D33 h => ?_)
    refine p_aload_n dX11_all_36 rfl ?_
    refine p_iload_n dX11_all_37 rfl ?_
    refine p_iload_n dX11_all_38 rfl ?_
    refine cV_Ir [vI v1, vI v2] [] dX11_all_39 yv_X11_allDots ml_X11_286 (r := (RX11, TX11, 41)) rfl rfl (Nat.le_of_ble_eq_true rfl) rfl (Nat.le_of_ble_eq_true rfl) (Nat.le_of_ble_eq_true rfl) (Nat.le_of_ble_eq_true rfl) rfl h (fun K h => s_X11_allDots hG h) (fun r39 h => ?_)
    exact p_ireturn dX11_all_42 (Nat.le_of_ble_eq_true rfl) (Nat.le_of_ble_eq_true rfl) ⟨_, rfl, rfl, ok_some h⟩
  · refine p_iconst dX11_all_26 ?_
    exact p_ireturn dX11_all_27 (Nat.le_of_ble_eq_true rfl) (Nat.le_of_ble_eq_true rfl) ⟨_, rfl, rfl, ok_some h⟩
set_option maxRecDepth 100000 in
set_option maxHeartbeats 4000000 in
theorem x_X11_all {l : Launch} {g : GH} (hG : G0 l g) {n : Nat} {v1 : Int} {v2 : Int} {D : DT} {K : (Int × DT) → Prop} (h : ok (m_X11_all v1 v2 D) K) : Px (E_X11_all l g (PIw n K)) 0 [some (vR g 73), some (vI v1), some (vI v2)] [] (LF n) D 0 0 := by
  refine p_aload_n dX11_all_0 rfl ?_
  refine p_iconst dX11_all_1 ?_
  refine q_puti dX11_all_2 fq_X11_106 rfl rfl h (fun D2 h => ?_)
  refine p_iload_n dX11_all_5 rfl ?_
  refine p_iconst dX11_all_6 ?_
  refine q_icmp_eq (tgt := 18) dX11_all_7 (by decide) h (fun h => ?_) (fun h => ?_)
  · exact p_weak (leL.same (leL.same (leL.same leL.nil))) (x_X11_all_18 hG h)
  · refine p_aload_n dX11_all_10 rfl ?_
    refine p_iload_n dX11_all_11 rfl ?_
    refine cV_Iw [vI v1] [] dX11_all_12 yv_X11_noGroup ml_X11_280 (r := (RX11, TX11, 41)) rfl rfl (Nat.le_of_ble_eq_true rfl) rfl (Nat.le_of_ble_eq_true rfl) (Nat.le_of_ble_eq_true rfl) (Nat.le_of_ble_eq_true rfl) rfl h (fun K h => s_X11_noGroup hG h) (fun r12 D12 h => ?_)
    refine q_if_ne (tgt := 26) dX11_all_15 (by decide) h (fun h => ?_) (fun h => ?_)
    · refine p_iconst dX11_all_26 ?_
      exact p_ireturn dX11_all_27 (Nat.le_of_ble_eq_true rfl) (Nat.le_of_ble_eq_true rfl) ⟨_, rfl, rfl, ok_some h⟩
    · exact p_weak (leL.same (leL.same (leL.same leL.nil))) (x_X11_all_18 hG h)
theorem s_X11_all {l : Launch} {g : GH} (hG : G0 l g) {n : Nat} {v1 : Int} {v2 : Int} {D : DT} {K : (Int × DT) → Prop} (h : ok (m_X11_all v1 v2 D) K) : Sat l g yX11_all cX11_all 3 (some .int) 2 0 0 [vR g 73, vI v1, vI v2] (LF n) D (PIw n K) := Sat.of hG (by decide) (Nat.le_of_ble_eq_true rfl) (by simp [Value.category]) (x_X11_all hG h)
abbrev E_X11_dot (l : Launch) (g : GH) (P : PT) : ENV := mkE l g yX11_dot cX11_dot 5 (some .int) [] 2 0 0 P
set_option maxRecDepth 100000 in
set_option maxHeartbeats 4000000 in
theorem x_X11_dot {l : Launch} {g : GH} (hG : G0 l g) {n : Nat} {v1 : Int} {v2 : Int} {v3 : Int} {v4 : Int} {D : DT} {K : (Int × DT) → Prop} (h : ok (m_X11_dot v1 v2 v3 v4 D) K) : Px (E_X11_dot l g (PIw n K)) 0 [some (vR g 73), some (vI v1), some (vI v2), some (vI v3), some (vI v4)] [] (LF n) D 0 0 := by
  refine p_aload_n dX11_dot_0 rfl ?_
  refine p_iconst dX11_dot_1 ?_
  refine q_puti dX11_dot_2 fq_X11_106 rfl rfl h (fun D2 h => ?_)
  refine p_aload_n dX11_dot_5 rfl ?_
  refine p_iload_n dX11_dot_6 rfl ?_
  refine cV_Iw [vI v1] [] dX11_dot_7 yv_X11_noZone ml_X11_267 (r := (RX11, TX11, 41)) rfl rfl (Nat.le_of_ble_eq_true rfl) rfl (Nat.le_of_ble_eq_true rfl) (Nat.le_of_ble_eq_true rfl) (Nat.le_of_ble_eq_true rfl) rfl h (fun K h => s_X11_noZone hG h) (fun r7 D7 h => ?_)
  refine q_if_ne (tgt := 29) dX11_dot_10 (by decide) h (fun h => ?_) (fun h => ?_)
  · refine p_iconst dX11_dot_29 ?_
    exact p_ireturn dX11_dot_30 (Nat.le_of_ble_eq_true rfl) (Nat.le_of_ble_eq_true rfl) ⟨_, rfl, rfl, ok_some h⟩
  · refine p_aload_n dX11_dot_13 rfl ?_
    refine p_iload_n dX11_dot_14 rfl ?_
    refine cV_Iw [vI v2] [] dX11_dot_15 yv_X11_noGroup ml_X11_280 (r := (RX11, TX11, 41)) rfl rfl (Nat.le_of_ble_eq_true rfl) rfl (Nat.le_of_ble_eq_true rfl) (Nat.le_of_ble_eq_true rfl) (Nat.le_of_ble_eq_true rfl) rfl h (fun K h => s_X11_noGroup hG h) (fun r15 D15 h => ?_)
    refine q_if_ne (tgt := 29) dX11_dot_18 (by decide) h (fun h => ?_) (fun h => ?_)
    · refine p_iconst dX11_dot_29 ?_
      exact p_ireturn dX11_dot_30 (Nat.le_of_ble_eq_true rfl) (Nat.le_of_ble_eq_true rfl) ⟨_, rfl, rfl, ok_some h⟩
    · refine p_aload_n dX11_dot_21 rfl ?_
      refine p_iload_n dX11_dot_22 rfl ?_
      refine cV_Iw [vI v3] [] dX11_dot_23 yv_X11_noLevel ml_X11_283 (r := (RX11, TX11, 41)) rfl rfl (Nat.le_of_ble_eq_true rfl) rfl (Nat.le_of_ble_eq_true rfl) (Nat.le_of_ble_eq_true rfl) (Nat.le_of_ble_eq_true rfl) rfl h (fun K h => s_X11_noLevel hG h) (fun r23 D23 h => ?_)
      refine q_if_eq (tgt := 31) dX11_dot_26 (by decide) h (fun h => ?_) (fun h => ?_)
      · refine p_aload_n dX11_dot_31 rfl ?_
        refine p_aload_n dX11_dot_32 rfl ?_
        refine p_geti dX11_dot_33 fl_X11_48 (fun _ _ _ => rfl) rfl ?_
        refine cV_Vw [vI (D23.1 73 14)] [] dX11_dot_36 yv_X11_laysDots ml_X11_246 (r := (RX11, TX11, 41)) rfl rfl (Nat.le_of_ble_eq_true rfl) rfl (Nat.le_of_ble_eq_true rfl) (Nat.le_of_ble_eq_true rfl) (Nat.le_of_ble_eq_true rfl) rfl h (fun K h => s_X11_laysDots hG h) (fun D36 h => ?_)
        refine p_aload_n dX11_dot_39 rfl ?_
        refine p_iload dX11_dot_40 rfl ?_
        refine p_iconst dX11_dot_42 ?_
        refine p_aload_n dX11_dot_43 rfl ?_
        refine p_getr dX11_dot_44 fl_X11_70 (fun _ _ _ => rfl) rfl rfl ?_
        refine p_iload_n dX11_dot_47 rfl ?_
        refine p_iload_n dX11_dot_48 rfl ?_
        refine p_iload_n dX11_dot_49 rfl ?_
        refine cS_Ir [vI v3, vI v1, vI v2] [vR g 90, vI 0, vI v4, vR g 73] dX11_dot_50 ys_X11_dotsAt ml_X11_239 (Nat.le_of_ble_eq_true rfl) rfl (Nat.le_of_ble_eq_true rfl) (Nat.le_of_ble_eq_true rfl) (Nat.le_of_ble_eq_true rfl) h (fun K h => s_X11_dotsAt hG h) (fun r50 h => ?_)
        refine q_iald dX11_dot_53 rfl rfl h (fun h => ?_)
        refine p_iconst dX11_dot_54 ?_
        refine p_isub dX11_dot_55 ?_
        refine cS_Ir [vI v4, vI 0, vI ((D36.2 90 (Int.toNat r50)) - 1)] [vR g 73] dX11_dot_56 ys_X11_in ml_X11_169 (Nat.le_of_ble_eq_true rfl) rfl (Nat.le_of_ble_eq_true rfl) (Nat.le_of_ble_eq_true rfl) (Nat.le_of_ble_eq_true rfl) h (fun K h => s_X11_in hG h) (fun r56 h => ?_)
        refine q_if_ne (tgt := 66) dX11_dot_59 (by decide) h (fun h => ?_) (fun h => ?_)
        · refine p_iconst dX11_dot_66 ?_
          refine p_iconst dX11_dot_67 ?_
          refine cV_Iw [vI 0, vI 2] [] dX11_dot_68 yv_X11_throwsIf ml_X11_215 (r := (RX11, TX11, 41)) rfl rfl (Nat.le_of_ble_eq_true rfl) rfl (Nat.le_of_ble_eq_true rfl) (Nat.le_of_ble_eq_true rfl) (Nat.le_of_ble_eq_true rfl) rfl h (fun K h => s_X11_throwsIf hG h) (fun r68 D68 h => ?_)
          refine q_if_eq (tgt := 78) dX11_dot_71 (by decide) h (fun h => ?_) (fun h => ?_)
          · refine p_aload_n dX11_dot_78 rfl ?_
            refine p_iload_n dX11_dot_79 rfl ?_
            refine p_iload_n dX11_dot_80 rfl ?_
            refine p_iload dX11_dot_81 rfl ?_
            refine cV_Ir [vI v1, vI v2, vI v4] [] dX11_dot_83 yv_X11_cellOf ml_X11_249 (r := (RX11, TX11, 41)) rfl rfl (Nat.le_of_ble_eq_true rfl) rfl (Nat.le_of_ble_eq_true rfl) (Nat.le_of_ble_eq_true rfl) (Nat.le_of_ble_eq_true rfl) rfl h (fun K h => s_X11_cellOf hG h) (fun r83 h => ?_)
            exact p_ireturn dX11_dot_86 (Nat.le_of_ble_eq_true rfl) (Nat.le_of_ble_eq_true rfl) ⟨_, rfl, rfl, ok_some h⟩
          · refine p_iconst dX11_dot_74 ?_
            refine p_goto (tgt := 86) dX11_dot_75 (by decide) ?_
            exact p_ireturn dX11_dot_86 (Nat.le_of_ble_eq_true rfl) (Nat.le_of_ble_eq_true rfl) ⟨_, rfl, rfl, ok_some h⟩
        · refine p_iconst dX11_dot_62 ?_
          refine p_goto (tgt := 67) dX11_dot_63 (by decide) ?_
          refine p_iconst dX11_dot_67 ?_
          refine cV_Iw [vI 1, vI 2] [] dX11_dot_68 yv_X11_throwsIf ml_X11_215 (r := (RX11, TX11, 41)) rfl rfl (Nat.le_of_ble_eq_true rfl) rfl (Nat.le_of_ble_eq_true rfl) (Nat.le_of_ble_eq_true rfl) (Nat.le_of_ble_eq_true rfl) rfl h (fun K h => s_X11_throwsIf hG h) (fun r68 D68 h => ?_)
          refine q_if_eq (tgt := 78) dX11_dot_71 (by decide) h (fun h => ?_) (fun h => ?_)
          · refine p_aload_n dX11_dot_78 rfl ?_
            refine p_iload_n dX11_dot_79 rfl ?_
            refine p_iload_n dX11_dot_80 rfl ?_
            refine p_iload dX11_dot_81 rfl ?_
            refine cV_Ir [vI v1, vI v2, vI v4] [] dX11_dot_83 yv_X11_cellOf ml_X11_249 (r := (RX11, TX11, 41)) rfl rfl (Nat.le_of_ble_eq_true rfl) rfl (Nat.le_of_ble_eq_true rfl) (Nat.le_of_ble_eq_true rfl) (Nat.le_of_ble_eq_true rfl) rfl h (fun K h => s_X11_cellOf hG h) (fun r83 h => ?_)
            exact p_ireturn dX11_dot_86 (Nat.le_of_ble_eq_true rfl) (Nat.le_of_ble_eq_true rfl) ⟨_, rfl, rfl, ok_some h⟩
          · refine p_iconst dX11_dot_74 ?_
            refine p_goto (tgt := 86) dX11_dot_75 (by decide) ?_
            exact p_ireturn dX11_dot_86 (Nat.le_of_ble_eq_true rfl) (Nat.le_of_ble_eq_true rfl) ⟨_, rfl, rfl, ok_some h⟩
      · refine p_iconst dX11_dot_29 ?_
        exact p_ireturn dX11_dot_30 (Nat.le_of_ble_eq_true rfl) (Nat.le_of_ble_eq_true rfl) ⟨_, rfl, rfl, ok_some h⟩
theorem s_X11_dot {l : Launch} {g : GH} (hG : G0 l g) {n : Nat} {v1 : Int} {v2 : Int} {v3 : Int} {v4 : Int} {D : DT} {K : (Int × DT) → Prop} (h : ok (m_X11_dot v1 v2 v3 v4 D) K) : Sat l g yX11_dot cX11_dot 5 (some .int) 2 0 0 [vR g 73, vI v1, vI v2, vI v3, vI v4] (LF n) D (PIw n K) := Sat.of hG (by decide) (Nat.le_of_ble_eq_true rfl) (by simp [Value.category]) (x_X11_dot hG h)
abbrev E_X11_crowd (l : Launch) (g : GH) (P : PT) : ENV := mkE l g yX11_crowd cX11_crowd 4 (some .int) [] 3 0 0 P
set_option maxRecDepth 100000 in
set_option maxHeartbeats 4000000 in
theorem x_X11_crowd {l : Launch} {g : GH} (hG : G0 l g) {n : Nat} {v1 : Int} {v2 : Int} {v3 : Int} {D : DT} {K : (Int × DT) → Prop} (h : ok (m_X11_crowd v1 v2 v3 D) K) : Px (E_X11_crowd l g (PIw n K)) 0 [some (vR g 73), some (vI v1), some (vI v2), some (vI v3)] [] (LF n) D 0 0 := by
  refine p_aload_n dX11_crowd_0 rfl ?_
  refine p_iconst dX11_crowd_1 ?_
  refine q_puti dX11_crowd_2 fq_X11_106 rfl rfl h (fun D2 h => ?_)
  refine p_aload_n dX11_crowd_5 rfl ?_
  refine p_iload_n dX11_crowd_6 rfl ?_
  refine cV_Iw [vI v1] [] dX11_crowd_7 yv_X11_noCell ml_X11_255 (r := (RX11, TX11, 41)) rfl rfl (Nat.le_of_ble_eq_true rfl) rfl (Nat.le_of_ble_eq_true rfl) (Nat.le_of_ble_eq_true rfl) (Nat.le_of_ble_eq_true rfl) rfl h (fun K h => s_X11_noCell hG h) (fun r7 D7 h => ?_)
  refine q_if_ne (tgt := 34) dX11_crowd_10 (by decide) h (fun h => ?_) (fun h => ?_)
  · refine p_iconst dX11_crowd_34 ?_
    exact p_ireturn dX11_crowd_35 (Nat.le_of_ble_eq_true rfl) (Nat.le_of_ble_eq_true rfl) ⟨_, rfl, rfl, ok_some h⟩
  · refine p_iload_n dX11_crowd_13 rfl ?_
    refine p_iconst dX11_crowd_14 ?_
    refine q_icmp_eq (tgt := 26) dX11_crowd_15 (by decide) h (fun h => ?_) (fun h => ?_)
    · refine p_aload_n dX11_crowd_26 rfl ?_
      refine p_iload_n dX11_crowd_27 rfl ?_
      refine cV_Iw [vI v3] [] dX11_crowd_28 yv_X11_noLevel ml_X11_283 (r := (RX11, TX11, 41)) rfl rfl (Nat.le_of_ble_eq_true rfl) rfl (Nat.le_of_ble_eq_true rfl) (Nat.le_of_ble_eq_true rfl) (Nat.le_of_ble_eq_true rfl) rfl h (fun K h => s_X11_noLevel hG h) (fun r28 D28 h => ?_)
      refine q_if_eq (tgt := 36) dX11_crowd_31 (by decide) h (fun h => ?_) (fun h => ?_)
      · refine p_aload_n dX11_crowd_36 rfl ?_
        refine p_iload_n dX11_crowd_37 rfl ?_
        refine cV_Vw [vI v3] [] dX11_crowd_38 yv_X11_laysCrowds ml_X11_289 (r := (RX11, TX11, 41)) rfl rfl (Nat.le_of_ble_eq_true rfl) rfl (Nat.le_of_ble_eq_true rfl) (Nat.le_of_ble_eq_true rfl) (Nat.le_of_ble_eq_true rfl) rfl h (fun K h => s_X11_laysCrowds hG h) (fun D38 h => ?_)
        refine p_aload_n dX11_crowd_41 rfl ?_
        refine p_iload_n dX11_crowd_42 rfl ?_
        refine p_iload_n dX11_crowd_43 rfl ?_
        refine cV_Ir [vI v1, vI v2] [] dX11_crowd_44 yv_X11_crowdOf ml_X11_252 (r := (RX11, TX11, 41)) rfl rfl (Nat.le_of_ble_eq_true rfl) rfl (Nat.le_of_ble_eq_true rfl) (Nat.le_of_ble_eq_true rfl) (Nat.le_of_ble_eq_true rfl) rfl h (fun K h => s_X11_crowdOf hG h) (fun r44 h => ?_)
        exact p_ireturn dX11_crowd_47 (Nat.le_of_ble_eq_true rfl) (Nat.le_of_ble_eq_true rfl) ⟨_, rfl, rfl, ok_some h⟩
      · refine p_iconst dX11_crowd_34 ?_
        exact p_ireturn dX11_crowd_35 (Nat.le_of_ble_eq_true rfl) (Nat.le_of_ble_eq_true rfl) ⟨_, rfl, rfl, ok_some h⟩
    · refine p_aload_n dX11_crowd_18 rfl ?_
      refine p_iload_n dX11_crowd_19 rfl ?_
      refine cV_Iw [vI v2] [] dX11_crowd_20 yv_X11_noGroup ml_X11_280 (r := (RX11, TX11, 41)) rfl rfl (Nat.le_of_ble_eq_true rfl) rfl (Nat.le_of_ble_eq_true rfl) (Nat.le_of_ble_eq_true rfl) (Nat.le_of_ble_eq_true rfl) rfl h (fun K h => s_X11_noGroup hG h) (fun r20 D20 h => ?_)
      refine q_if_ne (tgt := 34) dX11_crowd_23 (by decide) h (fun h => ?_) (fun h => ?_)
      · refine p_iconst dX11_crowd_34 ?_
        exact p_ireturn dX11_crowd_35 (Nat.le_of_ble_eq_true rfl) (Nat.le_of_ble_eq_true rfl) ⟨_, rfl, rfl, ok_some h⟩
      · refine p_aload_n dX11_crowd_26 rfl ?_
        refine p_iload_n dX11_crowd_27 rfl ?_
        refine cV_Iw [vI v3] [] dX11_crowd_28 yv_X11_noLevel ml_X11_283 (r := (RX11, TX11, 41)) rfl rfl (Nat.le_of_ble_eq_true rfl) rfl (Nat.le_of_ble_eq_true rfl) (Nat.le_of_ble_eq_true rfl) (Nat.le_of_ble_eq_true rfl) rfl h (fun K h => s_X11_noLevel hG h) (fun r28 D28 h => ?_)
        refine q_if_eq (tgt := 36) dX11_crowd_31 (by decide) h (fun h => ?_) (fun h => ?_)
        · refine p_aload_n dX11_crowd_36 rfl ?_
          refine p_iload_n dX11_crowd_37 rfl ?_
          refine cV_Vw [vI v3] [] dX11_crowd_38 yv_X11_laysCrowds ml_X11_289 (r := (RX11, TX11, 41)) rfl rfl (Nat.le_of_ble_eq_true rfl) rfl (Nat.le_of_ble_eq_true rfl) (Nat.le_of_ble_eq_true rfl) (Nat.le_of_ble_eq_true rfl) rfl h (fun K h => s_X11_laysCrowds hG h) (fun D38 h => ?_)
          refine p_aload_n dX11_crowd_41 rfl ?_
          refine p_iload_n dX11_crowd_42 rfl ?_
          refine p_iload_n dX11_crowd_43 rfl ?_
          refine cV_Ir [vI v1, vI v2] [] dX11_crowd_44 yv_X11_crowdOf ml_X11_252 (r := (RX11, TX11, 41)) rfl rfl (Nat.le_of_ble_eq_true rfl) rfl (Nat.le_of_ble_eq_true rfl) (Nat.le_of_ble_eq_true rfl) (Nat.le_of_ble_eq_true rfl) rfl h (fun K h => s_X11_crowdOf hG h) (fun r44 h => ?_)
          exact p_ireturn dX11_crowd_47 (Nat.le_of_ble_eq_true rfl) (Nat.le_of_ble_eq_true rfl) ⟨_, rfl, rfl, ok_some h⟩
        · refine p_iconst dX11_crowd_34 ?_
          exact p_ireturn dX11_crowd_35 (Nat.le_of_ble_eq_true rfl) (Nat.le_of_ble_eq_true rfl) ⟨_, rfl, rfl, ok_some h⟩
theorem s_X11_crowd {l : Launch} {g : GH} (hG : G0 l g) {n : Nat} {v1 : Int} {v2 : Int} {v3 : Int} {D : DT} {K : (Int × DT) → Prop} (h : ok (m_X11_crowd v1 v2 v3 D) K) : Sat l g yX11_crowd cX11_crowd 4 (some .int) 3 0 0 [vR g 73, vI v1, vI v2, vI v3] (LF n) D (PIw n K) := Sat.of hG (by decide) (Nat.le_of_ble_eq_true rfl) (by simp [Value.category]) (x_X11_crowd hG h)
abbrev E_X11_apart (l : Launch) (g : GH) (P : PT) : ENV := mkE l g yX11_apart cX11_apart 5 (some .int) [] 3 0 0 P
abbrev P_X11_apart_25 (l : Launch) (g : GH) (n : Nat) (K : (Int × DT) → Prop) (D : DT) : (Int × Int) → Prop := fun s => Px (E_X11_apart l g (PIw n K)) 25 [some (vR g 73), none, some (vI s.1), some (vI s.2), none] [] (LF n) D 0 0
abbrev P_X11_apart_36 (l : Launch) (g : GH) (n : Nat) (K : (Int × DT) → Prop) (v3 : Int) (D : DT) : (Int × Int) → Prop := fun s => Px (E_X11_apart l g (PIw n K)) 36 [some (vR g 73), none, some (vI s.1), some (vI v3), some (vI s.2)] [] (LF n) D 0 0
set_option maxRecDepth 100000 in
set_option maxHeartbeats 4000000 in
theorem x_X11_apart_36 {l : Launch} {g : GH} (hG : G0 l g) {n : Nat} {v3 : Int} {D : DT} {K : (Int × DT) → Prop} {s : (Int × Int)} (h : ok (m_X11_apart_36 v3 D s) (KL (P_X11_apart_25 l g n K D) K)) : Px (E_X11_apart l g (PIw n K)) 36 [some (vR g 73), none, some (vI s.1), some (vI v3), some (vI s.2)] [] (LF n) D 0 0 := by
  refine ok_loop (P := (P_X11_apart_36 l g n K v3 D)) (fun s h => ?_) h
  refine p_iload dX11_apart_36 rfl ?_
  refine p_iload_n dX11_apart_38 rfl ?_
  refine q_icmp_ge (tgt := 84) dX11_apart_39 (by decide) h (fun h => ?_) (fun h => ?_)
  · have h := kl_inr h
    refine p_iinc dX11_apart_84 rfl (Nat.le_of_ble_eq_true rfl) rfl ?_
    refine p_goto (tgt := 25) dX11_apart_87 (by decide) ?_
    exact p_weak (leL.same (leL.drop (leL.same (leL.same (leL.drop leL.nil))))) (kl_inl (P := (P_X11_apart_25 l g n K D)) h)
  · refine p_aload_n dX11_apart_42 rfl ?_
    refine p_iload_n dX11_apart_43 rfl ?_
    refine cV_Ir [vI v3] [] dX11_apart_44 yv_X11_hasDots ml_X11_292 (r := (RX11, TX11, 41)) rfl rfl (Nat.le_of_ble_eq_true rfl) rfl (Nat.le_of_ble_eq_true rfl) (Nat.le_of_ble_eq_true rfl) (Nat.le_of_ble_eq_true rfl) rfl h (fun K h => s_X11_hasDots hG h) (fun r44 h => ?_)
    refine q_if_eq (tgt := 84) dX11_apart_47 (by decide) h (fun h => ?_) (fun h => ?_)
    · have h := kl_inr h
      refine p_iinc dX11_apart_84 rfl (Nat.le_of_ble_eq_true rfl) rfl ?_
      refine p_goto (tgt := 25) dX11_apart_87 (by decide) ?_
      exact p_weak (leL.same (leL.drop (leL.same (leL.same (leL.drop leL.nil))))) (kl_inl (P := (P_X11_apart_25 l g n K D)) h)
    · refine p_aload_n dX11_apart_50 rfl ?_
      refine p_iload dX11_apart_51 rfl ?_
      refine cV_Ir [vI s.2] [] dX11_apart_53 yv_X11_hasDots ml_X11_292 (r := (RX11, TX11, 41)) rfl rfl (Nat.le_of_ble_eq_true rfl) rfl (Nat.le_of_ble_eq_true rfl) (Nat.le_of_ble_eq_true rfl) (Nat.le_of_ble_eq_true rfl) rfl h (fun K h => s_X11_hasDots hG h) (fun r53 h => ?_)
      refine q_if_eq (tgt := 78) dX11_apart_56 (by decide) h (fun h => ?_) (fun h => ?_)
      · refine p_iinc dX11_apart_78 rfl (Nat.le_of_ble_eq_true rfl) rfl ?_
        refine p_goto (tgt := 36) dX11_apart_81 (by decide) ?_
        exact p_weak (leL.same (leL.drop (leL.same (leL.same (leL.same leL.nil))))) (kl_inl (P := (P_X11_apart_36 l g n K v3 D)) h)
      · refine p_aload_n dX11_apart_59 rfl ?_
        refine p_iload_n dX11_apart_60 rfl ?_
        refine p_iload dX11_apart_61 rfl ?_
        refine cV_Ir [vI v3, vI s.2] [] dX11_apart_63 yv_X11_far ml_X11_236 (r := (RX11, TX11, 41)) rfl rfl (Nat.le_of_ble_eq_true rfl) rfl (Nat.le_of_ble_eq_true rfl) (Nat.le_of_ble_eq_true rfl) (Nat.le_of_ble_eq_true rfl) rfl h (fun K h => s_X11_far hG h) (fun r63 h => ?_)
        refine p_iload_n dX11_apart_66 rfl ?_
        refine q_icmp_ge (tgt := 78) dX11_apart_67 (by decide) h (fun h => ?_) (fun h => ?_)
        · refine p_iinc dX11_apart_78 rfl (Nat.le_of_ble_eq_true rfl) rfl ?_
          refine p_goto (tgt := 36) dX11_apart_81 (by decide) ?_
          exact p_weak (leL.same (leL.drop (leL.same (leL.same (leL.same leL.nil))))) (kl_inl (P := (P_X11_apart_36 l g n K v3 D)) h)
        · refine p_aload_n dX11_apart_70 rfl ?_
          refine p_iload_n dX11_apart_71 rfl ?_
          refine p_iload dX11_apart_72 rfl ?_
          refine cV_Ir [vI v3, vI s.2] [] dX11_apart_74 yv_X11_far ml_X11_236 (r := (RX11, TX11, 41)) rfl rfl (Nat.le_of_ble_eq_true rfl) rfl (Nat.le_of_ble_eq_true rfl) (Nat.le_of_ble_eq_true rfl) (Nat.le_of_ble_eq_true rfl) rfl h (fun K h => s_X11_far hG h) (fun r74 h => ?_)
          refine p_istore_n dX11_apart_77 (Nat.le_of_ble_eq_true rfl) rfl ?_
          refine p_iinc dX11_apart_78 rfl (Nat.le_of_ble_eq_true rfl) rfl ?_
          refine p_goto (tgt := 36) dX11_apart_81 (by decide) ?_
          exact p_weak (leL.same (leL.drop (leL.same (leL.same (leL.same leL.nil))))) (kl_inl (P := (P_X11_apart_36 l g n K v3 D)) h)
set_option maxRecDepth 100000 in
set_option maxHeartbeats 4000000 in
theorem x_X11_apart_25 {l : Launch} {g : GH} (hG : G0 l g) {n : Nat} {D : DT} {K : (Int × DT) → Prop} {s : (Int × Int)} (h : ok (m_X11_apart_25 D s) K) : Px (E_X11_apart l g (PIw n K)) 25 [some (vR g 73), none, some (vI s.1), some (vI s.2), none] [] (LF n) D 0 0 := by
  refine ok_loop (P := (P_X11_apart_25 l g n K D)) (fun s h => ?_) h
  refine p_iload_n dX11_apart_25 rfl ?_
  refine p_aload_n dX11_apart_26 rfl ?_
  refine cV_Ir [] [vI s.2] dX11_apart_27 yv_X11_cells ml_X11_229 (r := (RX11, TX11, 41)) rfl rfl (Nat.le_of_ble_eq_true rfl) rfl (Nat.le_of_ble_eq_true rfl) (Nat.le_of_ble_eq_true rfl) (Nat.le_of_ble_eq_true rfl) rfl h (fun K h => s_X11_cells hG h) (fun r27 h => ?_)
  refine q_icmp_ge (tgt := 90) dX11_apart_30 (by decide) h (fun h => ?_) (fun h => ?_)
  · have h := kl_inr h
    refine p_iload_n dX11_apart_90 rfl ?_
    refine p_ldc (v := 268435456) dX11_apart_91 cw_X11_232 ?_
    refine q_icmp_ne (tgt := 100) dX11_apart_93 (by decide) h (fun h => ?_) (fun h => ?_)
    · refine p_iload_n dX11_apart_100 rfl ?_
      exact p_ireturn dX11_apart_101 (Nat.le_of_ble_eq_true rfl) (Nat.le_of_ble_eq_true rfl) ⟨_, rfl, rfl, ok_some h⟩
    · refine p_iconst dX11_apart_96 ?_
      refine p_goto (tgt := 101) dX11_apart_97 (by decide) ?_
      exact p_ireturn dX11_apart_101 (Nat.le_of_ble_eq_true rfl) (Nat.le_of_ble_eq_true rfl) ⟨_, rfl, rfl, ok_some h⟩
  · refine p_iconst dX11_apart_33 ?_
    refine p_istore dX11_apart_34 (Nat.le_of_ble_eq_true rfl) rfl ?_
    exact p_weak (leL.same (leL.drop (leL.same (leL.same (leL.same leL.nil))))) (x_X11_apart_36 hG h)
set_option maxRecDepth 100000 in
set_option maxHeartbeats 4000000 in
theorem x_X11_apart {l : Launch} {g : GH} (hG : G0 l g) {n : Nat} {v1 : Int} {D : DT} {K : (Int × DT) → Prop} (h : ok (m_X11_apart v1 D) K) : Px (E_X11_apart l g (PIw n K)) 0 [some (vR g 73), some (vI v1), none, none, none] [] (LF n) D 0 0 := by
  refine p_aload_n dX11_apart_0 rfl ?_
  refine p_iconst dX11_apart_1 ?_
  refine q_puti dX11_apart_2 fq_X11_106 rfl rfl h (fun D2 h => ?_)
  refine p_aload_n dX11_apart_5 rfl ?_
  refine p_iload_n dX11_apart_6 rfl ?_
  refine cV_Iw [vI v1] [] dX11_apart_7 yv_X11_noLevel ml_X11_283 (r := (RX11, TX11, 41)) rfl rfl (Nat.le_of_ble_eq_true rfl) rfl (Nat.le_of_ble_eq_true rfl) (Nat.le_of_ble_eq_true rfl) (Nat.le_of_ble_eq_true rfl) rfl h (fun K h => s_X11_noLevel hG h) (fun r7 D7 h => ?_)
  refine q_if_eq (tgt := 15) dX11_apart_10 (by decide) h (fun h => ?_) (fun h => ?_)
  · refine p_aload_n dX11_apart_15 rfl ?_
    refine p_iload_n dX11_apart_16 rfl ?_
    refine cV_Vw [vI v1] [] dX11_apart_17 yv_X11_laysCrowds ml_X11_289 (r := (RX11, TX11, 41)) rfl rfl (Nat.le_of_ble_eq_true rfl) rfl (Nat.le_of_ble_eq_true rfl) (Nat.le_of_ble_eq_true rfl) (Nat.le_of_ble_eq_true rfl) rfl h (fun K h => s_X11_laysCrowds hG h) (fun D17 h => ?_)
    refine p_ldc (v := 268435456) dX11_apart_20 cw_X11_232 ?_
    refine p_istore_n dX11_apart_22 (Nat.le_of_ble_eq_true rfl) rfl ?_
    refine p_iconst dX11_apart_23 ?_
    refine p_istore_n dX11_apart_24 (Nat.le_of_ble_eq_true rfl) rfl ?_
    exact p_weak (leL.same (leL.drop (leL.same (leL.same (leL.drop leL.nil))))) (x_X11_apart_25 hG h)
  · refine p_iconst dX11_apart_13 ?_
    exact p_ireturn dX11_apart_14 (Nat.le_of_ble_eq_true rfl) (Nat.le_of_ble_eq_true rfl) ⟨_, rfl, rfl, ok_some h⟩
theorem s_X11_apart {l : Launch} {g : GH} (hG : G0 l g) {n : Nat} {v1 : Int} {D : DT} {K : (Int × DT) → Prop} (h : ok (m_X11_apart v1 D) K) : Sat l g yX11_apart cX11_apart 5 (some .int) 3 0 0 [vR g 73, vI v1] (LF n) D (PIw n K) := Sat.of hG (by decide) (Nat.le_of_ble_eq_true rfl) (by simp [Value.category]) (x_X11_apart hG h)
abbrev E_X11_off (l : Launch) (g : GH) (P : PT) : ENV := mkE l g yX11_off cX11_off 3 (some .int) [] 2 0 0 P
set_option maxRecDepth 100000 in
set_option maxHeartbeats 4000000 in
theorem x_X11_off {l : Launch} {g : GH} (hG : G0 l g) {n : Nat} {v1 : Int} {v2 : Int} {D : DT} {K : (Int × DT) → Prop} (h : ok (m_X11_off v1 v2 D) K) : Px (E_X11_off l g (PIw n K)) 0 [some (vR g 73), some (vI v1), some (vI v2)] [] (LF n) D 0 0 := by
  refine p_aload_n dX11_off_0 rfl ?_
  refine p_iconst dX11_off_1 ?_
  refine q_puti dX11_off_2 fq_X11_106 rfl rfl h (fun D2 h => ?_)
  refine p_aload_n dX11_off_5 rfl ?_
  refine p_iload_n dX11_off_6 rfl ?_
  refine cV_Iw [vI v1] [] dX11_off_7 yv_X11_noZone ml_X11_267 (r := (RX11, TX11, 41)) rfl rfl (Nat.le_of_ble_eq_true rfl) rfl (Nat.le_of_ble_eq_true rfl) (Nat.le_of_ble_eq_true rfl) (Nat.le_of_ble_eq_true rfl) rfl h (fun K h => s_X11_noZone hG h) (fun r7 D7 h => ?_)
  refine q_if_ne (tgt := 21) dX11_off_10 (by decide) h (fun h => ?_) (fun h => ?_)
  · refine p_iconst dX11_off_21 ?_
    exact p_ireturn dX11_off_22 (Nat.le_of_ble_eq_true rfl) (Nat.le_of_ble_eq_true rfl) ⟨_, rfl, rfl, ok_some h⟩
  · refine p_aload_n dX11_off_13 rfl ?_
    refine p_iload_n dX11_off_14 rfl ?_
    refine cV_Iw [vI v2] [] dX11_off_15 yv_X11_noGroup ml_X11_280 (r := (RX11, TX11, 41)) rfl rfl (Nat.le_of_ble_eq_true rfl) rfl (Nat.le_of_ble_eq_true rfl) (Nat.le_of_ble_eq_true rfl) (Nat.le_of_ble_eq_true rfl) rfl h (fun K h => s_X11_noGroup hG h) (fun r15 D15 h => ?_)
    refine q_if_eq (tgt := 23) dX11_off_18 (by decide) h (fun h => ?_) (fun h => ?_)
    · refine p_aload_n dX11_off_23 rfl ?_
      refine p_aload_n dX11_off_24 rfl ?_
      refine p_geti dX11_off_25 fl_X11_48 (fun _ _ _ => rfl) rfl ?_
      refine cV_Vw [vI (D15.1 73 14)] [] dX11_off_28 yv_X11_laysDots ml_X11_246 (r := (RX11, TX11, 41)) rfl rfl (Nat.le_of_ble_eq_true rfl) rfl (Nat.le_of_ble_eq_true rfl) (Nat.le_of_ble_eq_true rfl) (Nat.le_of_ble_eq_true rfl) rfl h (fun K h => s_X11_laysDots hG h) (fun D28 h => ?_)
      refine p_aload_n dX11_off_31 rfl ?_
      refine p_getr dX11_off_32 fl_X11_70 (fun _ _ _ => rfl) rfl rfl ?_
      refine p_iconst dX11_off_35 ?_
      refine p_iload_n dX11_off_36 rfl ?_
      refine p_iload_n dX11_off_37 rfl ?_
      refine cS_Ir [vI 0, vI v1, vI v2] [vR g 90] dX11_off_38 ys_X11_dotsAt ml_X11_239 (Nat.le_of_ble_eq_true rfl) rfl (Nat.le_of_ble_eq_true rfl) (Nat.le_of_ble_eq_true rfl) (Nat.le_of_ble_eq_true rfl) h (fun K h => s_X11_dotsAt hG h) (fun r38 h => ?_)
      refine q_iald dX11_off_41 rfl rfl h (fun h => ?_)
      refine p_aload_n dX11_off_42 rfl ?_
      refine p_geti dX11_off_43 fl_X11_48 (fun _ _ _ => rfl) rfl ?_
      refine p_imul dX11_off_46 ?_
      refine p_aload_n dX11_off_47 rfl ?_
      refine p_getr dX11_off_48 fl_X11_36 (fun _ _ _ => rfl) rfl rfl ?_
      refine p_iconst dX11_off_51 ?_
      refine p_iload_n dX11_off_52 rfl ?_
      refine p_imul dX11_off_53 ?_
      refine p_iload_n dX11_off_54 rfl ?_
      refine p_iadd dX11_off_55 ?_
      refine q_iald dX11_off_56 rfl rfl h (fun h => ?_)
      refine p_isub dX11_off_57 ?_
      exact p_ireturn dX11_off_58 (Nat.le_of_ble_eq_true rfl) (Nat.le_of_ble_eq_true rfl) ⟨_, rfl, rfl, ok_some h⟩
    · refine p_iconst dX11_off_21 ?_
      exact p_ireturn dX11_off_22 (Nat.le_of_ble_eq_true rfl) (Nat.le_of_ble_eq_true rfl) ⟨_, rfl, rfl, ok_some h⟩
theorem s_X11_off {l : Launch} {g : GH} (hG : G0 l g) {n : Nat} {v1 : Int} {v2 : Int} {D : DT} {K : (Int × DT) → Prop} (h : ok (m_X11_off v1 v2 D) K) : Sat l g yX11_off cX11_off 3 (some .int) 2 0 0 [vR g 73, vI v1, vI v2] (LF n) D (PIw n K) := Sat.of hG (by decide) (Nat.le_of_ble_eq_true rfl) (by simp [Value.category]) (x_X11_off hG h)
abbrev E_X11_noEdge (l : Launch) (g : GH) (P : PT) : ENV := mkE l g yX11_noEdge cX11_noEdge 6 (some .boolean) [] 2 0 0 P
set_option maxRecDepth 100000 in
set_option maxHeartbeats 4000000 in
theorem x_X11_noEdge {l : Launch} {g : GH} (hG : G0 l g) {n : Nat} {v1 : Int} {v2 : Int} {v3 : Int} {v4 : Int} {v5 : Int} {D : DT} {K : (Int × DT) → Prop} (h : ok (m_X11_noEdge v1 v2 v3 v4 v5 D) K) : Px (E_X11_noEdge l g (PIw n K)) 0 [some (vR g 73), some (vI v1), some (vI v2), some (vI v3), some (vI v4), some (vI v5)] [] (LF n) D 0 0 := by
  refine p_aload_n dX11_noEdge_0 rfl ?_
  refine p_iload_n dX11_noEdge_1 rfl ?_
  refine cV_Iw [vI v1] [] dX11_noEdge_2 yv_X11_noZone ml_X11_267 (r := (RX11, TX11, 41)) rfl rfl (Nat.le_of_ble_eq_true rfl) rfl (Nat.le_of_ble_eq_true rfl) (Nat.le_of_ble_eq_true rfl) (Nat.le_of_ble_eq_true rfl) rfl h (fun K h => s_X11_noZone hG h) (fun r2 D2 h => ?_)
  refine q_if_ne (tgt := 24) dX11_noEdge_5 (by decide) h (fun h => ?_) (fun h => ?_)
  · refine p_iconst dX11_noEdge_24 ?_
    refine p_goto (tgt := 29) dX11_noEdge_25 (by decide) ?_
    exact p_zreturn dX11_noEdge_29 (Nat.le_of_ble_eq_true rfl) (Nat.le_of_ble_eq_true rfl) (Or.inr rfl) ⟨_, rfl, rfl, ok_some h⟩
  · refine p_aload_n dX11_noEdge_8 rfl ?_
    refine p_iload_n dX11_noEdge_9 rfl ?_
    refine cV_Iw [vI v2] [] dX11_noEdge_10 yv_X11_noZone ml_X11_267 (r := (RX11, TX11, 41)) rfl rfl (Nat.le_of_ble_eq_true rfl) rfl (Nat.le_of_ble_eq_true rfl) (Nat.le_of_ble_eq_true rfl) (Nat.le_of_ble_eq_true rfl) rfl h (fun K h => s_X11_noZone hG h) (fun r10 D10 h => ?_)
    refine q_if_ne (tgt := 24) dX11_noEdge_13 (by decide) h (fun h => ?_) (fun h => ?_)
    · refine p_iconst dX11_noEdge_24 ?_
      refine p_goto (tgt := 29) dX11_noEdge_25 (by decide) ?_
      exact p_zreturn dX11_noEdge_29 (Nat.le_of_ble_eq_true rfl) (Nat.le_of_ble_eq_true rfl) (Or.inr rfl) ⟨_, rfl, rfl, ok_some h⟩
    · refine p_aload_n dX11_noEdge_16 rfl ?_
      refine p_iload_n dX11_noEdge_17 rfl ?_
      refine cV_Iw [vI v3] [] dX11_noEdge_18 yv_X11_noRow ml_X11_295 (r := (RX11, TX11, 41)) rfl rfl (Nat.le_of_ble_eq_true rfl) rfl (Nat.le_of_ble_eq_true rfl) (Nat.le_of_ble_eq_true rfl) (Nat.le_of_ble_eq_true rfl) rfl h (fun K h => s_X11_noRow hG h) (fun r18 D18 h => ?_)
      refine q_if_eq (tgt := 28) dX11_noEdge_21 (by decide) h (fun h => ?_) (fun h => ?_)
      · refine p_iconst dX11_noEdge_28 ?_
        exact p_zreturn dX11_noEdge_29 (Nat.le_of_ble_eq_true rfl) (Nat.le_of_ble_eq_true rfl) (Or.inl rfl) ⟨_, rfl, rfl, ok_some h⟩
      · refine p_iconst dX11_noEdge_24 ?_
        refine p_goto (tgt := 29) dX11_noEdge_25 (by decide) ?_
        exact p_zreturn dX11_noEdge_29 (Nat.le_of_ble_eq_true rfl) (Nat.le_of_ble_eq_true rfl) (Or.inr rfl) ⟨_, rfl, rfl, ok_some h⟩
theorem s_X11_noEdge {l : Launch} {g : GH} (hG : G0 l g) {n : Nat} {v1 : Int} {v2 : Int} {v3 : Int} {v4 : Int} {v5 : Int} {D : DT} {K : (Int × DT) → Prop} (h : ok (m_X11_noEdge v1 v2 v3 v4 v5 D) K) : Sat l g yX11_noEdge cX11_noEdge 6 (some .boolean) 2 0 0 [vR g 73, vI v1, vI v2, vI v3, vI v4, vI v5] (LF n) D (PIw n K) := Sat.of hG (by decide) (Nat.le_of_ble_eq_true rfl) (by simp [Value.category]) (x_X11_noEdge hG h)
abbrev E_X11_moves (l : Launch) (g : GH) (P : PT) : ENV := mkE l g yX11_moves cX11_moves 12 (some .int) [] 3 0 0 P
abbrev P_X11_moves_14 (l : Launch) (g : GH) (n : Nat) (K : (Int × DT) → Prop) (v1 : Int) (v2 : Int) (v3 : Int) (v5 : Int) (v7 : Int) : (Int × Int × DT) → Prop := fun s => Px (E_X11_moves l g (PIw n K)) 14 [some (vR g 73), some (vI v1), some (vI v2), some (vI v3), none, some (vI v5), some (vI s.1), some (vI v7), some (vI s.2.1), none, none, none] [] (LF n) s.2.2 0 0
abbrev P_X11_moves_82 (l : Launch) (g : GH) (n : Nat) (K : (Int × DT) → Prop) (v1 : Int) (v2 : Int) (v6 : Int) (v7 : Int) (v8 : Int) : (Int × DT) → Prop := fun s => Px (E_X11_moves l g (PIw n K)) 82 [some (vR g 73), some (vI v1), some (vI v2), none, none, none, some (vI v6), some (vI v7), some (vI v8), some (vI s.1), none, none] [] (LF n) s.2 0 0
set_option maxRecDepth 100000 in
set_option maxHeartbeats 4000000 in
theorem x_X11_moves_82 {l : Launch} {g : GH} (hG : G0 l g) {n : Nat} {v1 v2 v6 v7 v8 : Int} {K : (Int × DT) → Prop} {s : (Int × DT)} (h : ok (m_X11_moves_82 v1 v2 v6 v7 v8 s) K) : Px (E_X11_moves l g (PIw n K)) 82 [some (vR g 73), some (vI v1), some (vI v2), none, none, none, some (vI v6), some (vI v7), some (vI v8), some (vI s.1), none, none] [] (LF n) s.2 0 0 := by
  refine ok_loop (P := (P_X11_moves_82 l g n K v1 v2 v6 v7 v8)) (fun s h => ?_) h
  refine p_iload dX11_moves_82 rfl ?_
  refine p_aload_n dX11_moves_84 rfl ?_
  refine p_getr dX11_moves_85 fl_X11_17 (fun _ _ _ => rfl) rfl rfl ?_
  refine p_iconst dX11_moves_88 ?_
  refine q_iald dX11_moves_89 rfl rfl h (fun h => ?_)
  refine q_icmp_ge (tgt := 184) dX11_moves_90 (by decide) h (fun h => ?_) (fun h => ?_)
  · have h := kl_inr h
    refine p_iload dX11_moves_184 rfl ?_
    exact p_ireturn dX11_moves_186 (Nat.le_of_ble_eq_true rfl) (Nat.le_of_ble_eq_true rfl) ⟨_, rfl, rfl, ok_some h⟩
  · refine p_iload dX11_moves_93 rfl ?_
    refine q_if_le (tgt := 184) dX11_moves_95 (by decide) h (fun h => ?_) (fun h => ?_)
    · have h := kl_inr h
      refine p_iload dX11_moves_184 rfl ?_
      exact p_ireturn dX11_moves_186 (Nat.le_of_ble_eq_true rfl) (Nat.le_of_ble_eq_true rfl) ⟨_, rfl, rfl, ok_some h⟩
    · refine p_aload_n dX11_moves_98 rfl ?_
      refine p_getr dX11_moves_99 fl_X11_36 (fun _ _ _ => rfl) rfl rfl ?_
      refine p_iconst dX11_moves_102 ?_
      refine p_iload_n dX11_moves_103 rfl ?_
      refine p_imul dX11_moves_104 ?_
      refine p_iload dX11_moves_105 rfl ?_
      refine p_iadd dX11_moves_107 ?_
      refine q_iald dX11_moves_108 rfl rfl h (fun h => ?_)
      refine q_i2l dX11_moves_109 h (fun h => ?_)
      refine p_iload dX11_moves_110 rfl ?_
      refine q_i2l dX11_moves_112 h (fun h => ?_)
      refine p_lmul dX11_moves_113 ?_
      refine p_iload dX11_moves_114 rfl ?_
      refine q_i2l dX11_moves_116 h (fun h => ?_)
      refine q_ldiv dX11_moves_117 h (fun h => ?_)
      refine p_l2i dX11_moves_118 ?_
      refine p_istore dX11_moves_119 (Nat.le_of_ble_eq_true rfl) rfl ?_
      refine p_aload_n dX11_moves_121 rfl ?_
      refine p_getr dX11_moves_122 fl_X11_36 (fun _ _ _ => rfl) rfl rfl ?_
      refine p_iconst dX11_moves_125 ?_
      refine p_iload_n dX11_moves_126 rfl ?_
      refine p_imul dX11_moves_127 ?_
      refine p_iload dX11_moves_128 rfl ?_
      refine p_iadd dX11_moves_130 ?_
      refine p_dup2 dX11_moves_131 rfl rfl ?_
      refine q_iald dX11_moves_132 rfl rfl h (fun h => ?_)
      refine p_iload dX11_moves_133 rfl ?_
      refine p_isub dX11_moves_135 ?_
      refine q_iast dX11_moves_136 rfl rfl h (fun D136 h => ?_)
      refine p_aload_n dX11_moves_137 rfl ?_
      refine p_getr dX11_moves_138 fl_X11_36 (fun _ _ _ => rfl) rfl rfl ?_
      refine p_iconst dX11_moves_141 ?_
      refine p_iload_n dX11_moves_142 rfl ?_
      refine p_imul dX11_moves_143 ?_
      refine p_iload dX11_moves_144 rfl ?_
      refine p_iadd dX11_moves_146 ?_
      refine q_iald dX11_moves_147 rfl rfl h (fun h => ?_)
      refine p_iload dX11_moves_148 rfl ?_
      refine p_iadd dX11_moves_150 ?_
      refine p_istore dX11_moves_151 (Nat.le_of_ble_eq_true rfl) rfl ?_
      refine p_aload_n dX11_moves_153 rfl ?_
      refine p_getr dX11_moves_154 fl_X11_36 (fun _ _ _ => rfl) rfl rfl ?_
      refine p_iconst dX11_moves_157 ?_
      refine p_iload_n dX11_moves_158 rfl ?_
      refine p_imul dX11_moves_159 ?_
      refine p_iload dX11_moves_160 rfl ?_
      refine p_iadd dX11_moves_162 ?_
      refine p_iload dX11_moves_163 rfl ?_
      refine p_ldc (v := 99999) dX11_moves_165 cw_X11_194 ?_
      refine q_icmp_le (tgt := 175) dX11_moves_167 (by decide) h (fun h => ?_) (fun h => ?_)
      · refine p_iload dX11_moves_175 rfl ?_
        refine q_iast dX11_moves_177 rfl rfl h (fun D177 h => ?_)
        refine p_iinc dX11_moves_178 rfl (Nat.le_of_ble_eq_true rfl) rfl ?_
        refine p_goto (tgt := 82) dX11_moves_181 (by decide) ?_
        exact p_weak (leL.same (leL.same (leL.same (leL.drop (leL.drop (leL.drop (leL.same (leL.same (leL.same (leL.same (leL.drop (leL.drop leL.nil)))))))))))) (kl_inl (P := (P_X11_moves_82 l g n K v1 v2 v6 v7 v8)) h)
      · refine p_ldc (v := 99999) dX11_moves_170 cw_X11_194 ?_
        refine p_goto (tgt := 177) dX11_moves_172 (by decide) ?_
        refine q_iast dX11_moves_177 rfl rfl h (fun D177 h => ?_)
        refine p_iinc dX11_moves_178 rfl (Nat.le_of_ble_eq_true rfl) rfl ?_
        refine p_goto (tgt := 82) dX11_moves_181 (by decide) ?_
        exact p_weak (leL.same (leL.same (leL.same (leL.drop (leL.drop (leL.drop (leL.same (leL.same (leL.same (leL.same (leL.drop (leL.drop leL.nil)))))))))))) (kl_inl (P := (P_X11_moves_82 l g n K v1 v2 v6 v7 v8)) h)
set_option maxRecDepth 100000 in
set_option maxHeartbeats 4000000 in
theorem x_X11_moves_14 {l : Launch} {g : GH} (hG : G0 l g) {n : Nat} {v1 v2 v3 v5 v7 : Int} {K : (Int × DT) → Prop} {s : (Int × Int × DT)} (h : ok (m_X11_moves_14 v1 v2 v3 v5 v7 s) K) : Px (E_X11_moves l g (PIw n K)) 14 [some (vR g 73), some (vI v1), some (vI v2), some (vI v3), none, some (vI v5), some (vI s.1), some (vI v7), some (vI s.2.1), none, none, none] [] (LF n) s.2.2 0 0 := by
  refine ok_loop (P := (P_X11_moves_14 l g n K v1 v2 v3 v5 v7)) (fun s h => ?_) h
  refine p_iload dX11_moves_14 rfl ?_
  refine p_iload dX11_moves_16 rfl ?_
  refine q_icmp_gt (tgt := 65) dX11_moves_18 (by decide) h (fun h => ?_) (fun h => ?_)
  · have h := kl_inr h
    refine p_aload_n dX11_moves_65 rfl ?_
    refine cV_Vw [] [] dX11_moves_66 yv_X11_laysOrders ml_X11_219 (r := (RX11, TX11, 41)) rfl rfl (Nat.le_of_ble_eq_true rfl) rfl (Nat.le_of_ble_eq_true rfl) (Nat.le_of_ble_eq_true rfl) (Nat.le_of_ble_eq_true rfl) rfl h (fun K h => s_X11_laysOrders hG h) (fun D66 h => ?_)
    refine p_iload dX11_moves_69 rfl ?_
    refine p_aload_n dX11_moves_71 rfl ?_
    refine p_iload_n dX11_moves_72 rfl ?_
    refine cV_Ir [vI v1] [vI v7] dX11_moves_73 yv_X11_land ml_X11_243 (r := (RX11, TX11, 41)) rfl rfl (Nat.le_of_ble_eq_true rfl) rfl (Nat.le_of_ble_eq_true rfl) (Nat.le_of_ble_eq_true rfl) (Nat.le_of_ble_eq_true rfl) rfl h (fun K h => s_X11_land hG h) (fun r73 h => ?_)
    refine p_isub dX11_moves_76 ?_
    refine p_istore dX11_moves_77 (Nat.le_of_ble_eq_true rfl) rfl ?_
    refine p_iconst dX11_moves_79 ?_
    refine p_istore dX11_moves_80 (Nat.le_of_ble_eq_true rfl) rfl ?_
    exact p_weak (leL.same (leL.same (leL.same (leL.drop (leL.drop (leL.drop (leL.same (leL.same (leL.same (leL.same (leL.drop (leL.drop leL.nil)))))))))))) (x_X11_moves_82 hG h)
  · refine p_aload_n dX11_moves_21 rfl ?_
    refine p_getr dX11_moves_22 fl_X11_17 (fun _ _ _ => rfl) rfl rfl ?_
    refine p_iconst dX11_moves_25 ?_
    refine q_iald dX11_moves_26 rfl rfl h (fun h => ?_)
    refine p_iload_n dX11_moves_27 rfl ?_
    refine p_imul dX11_moves_28 ?_
    refine p_iload dX11_moves_29 rfl ?_
    refine p_iadd dX11_moves_31 ?_
    refine p_istore dX11_moves_32 (Nat.le_of_ble_eq_true rfl) rfl ?_
    refine p_aload_n dX11_moves_34 rfl ?_
    refine p_getr dX11_moves_35 fl_X11_23 (fun _ _ _ => rfl) rfl rfl ?_
    refine p_iload dX11_moves_38 rfl ?_
    refine q_iald dX11_moves_40 rfl rfl h (fun h => ?_)
    refine p_iload_n dX11_moves_41 rfl ?_
    refine q_icmp_eq (tgt := 48) dX11_moves_42 (by decide) h (fun h => ?_) (fun h => ?_)
    · refine p_aload_n dX11_moves_48 rfl ?_
      refine p_getr dX11_moves_49 fl_X11_23 (fun _ _ _ => rfl) rfl rfl ?_
      refine p_iload dX11_moves_52 rfl ?_
      refine p_iload_n dX11_moves_54 rfl ?_
      refine q_iast dX11_moves_55 rfl rfl h (fun D55 h => ?_)
      refine p_iinc dX11_moves_56 rfl (Nat.le_of_ble_eq_true rfl) rfl ?_
      refine p_iinc dX11_moves_59 rfl (Nat.le_of_ble_eq_true rfl) rfl ?_
      refine p_goto (tgt := 14) dX11_moves_62 (by decide) ?_
      exact p_weak (leL.same (leL.same (leL.same (leL.same (leL.drop (leL.same (leL.same (leL.same (leL.same (leL.drop (leL.drop (leL.drop leL.nil)))))))))))) (kl_inl (P := (P_X11_moves_14 l g n K v1 v2 v3 v5 v7)) h)
    · refine p_goto (tgt := 59) dX11_moves_45 (by decide) ?_
      refine p_iinc dX11_moves_59 rfl (Nat.le_of_ble_eq_true rfl) rfl ?_
      refine p_goto (tgt := 14) dX11_moves_62 (by decide) ?_
      exact p_weak (leL.same (leL.same (leL.same (leL.same (leL.drop (leL.same (leL.same (leL.same (leL.same (leL.drop (leL.drop (leL.drop leL.nil)))))))))))) (kl_inl (P := (P_X11_moves_14 l g n K v1 v2 v3 v5 v7)) h)
set_option maxRecDepth 100000 in
set_option maxHeartbeats 4000000 in
theorem x_X11_moves {l : Launch} {g : GH} (hG : G0 l g) {n : Nat} {v1 : Int} {v2 : Int} {v3 : Int} {v4 : Int} {v5 : Int} {D : DT} {K : (Int × DT) → Prop} (h : ok (m_X11_moves v1 v2 v3 v4 v5 D) K) : Px (E_X11_moves l g (PIw n K)) 0 [some (vR g 73), some (vI v1), some (vI v2), some (vI v3), some (vI v4), some (vI v5), none, none, none, none, none, none] [] (LF n) D 0 0 := by
  refine p_iconst dX11_moves_0 ?_
  refine p_istore dX11_moves_1 (Nat.le_of_ble_eq_true rfl) rfl ?_
  refine p_aload_n dX11_moves_3 rfl ?_
  refine p_iload_n dX11_moves_4 rfl ?_
  refine cV_Ir [vI v1] [] dX11_moves_5 yv_X11_land ml_X11_243 (r := (RX11, TX11, 41)) rfl rfl (Nat.le_of_ble_eq_true rfl) rfl (Nat.le_of_ble_eq_true rfl) (Nat.le_of_ble_eq_true rfl) (Nat.le_of_ble_eq_true rfl) rfl h (fun K h => s_X11_land hG h) (fun r5 h => ?_)
  refine p_istore dX11_moves_8 (Nat.le_of_ble_eq_true rfl) rfl ?_
  refine p_iload dX11_moves_10 rfl ?_
  refine p_istore dX11_moves_12 (Nat.le_of_ble_eq_true rfl) rfl ?_
  exact p_weak (leL.same (leL.same (leL.same (leL.same (leL.drop (leL.same (leL.same (leL.same (leL.same (leL.drop (leL.drop (leL.drop leL.nil)))))))))))) (x_X11_moves_14 hG h)
theorem s_X11_moves {l : Launch} {g : GH} (hG : G0 l g) {n : Nat} {v1 : Int} {v2 : Int} {v3 : Int} {v4 : Int} {v5 : Int} {D : DT} {K : (Int × DT) → Prop} (h : ok (m_X11_moves v1 v2 v3 v4 v5 D) K) : Sat l g yX11_moves cX11_moves 12 (some .int) 3 0 0 [vR g 73, vI v1, vI v2, vI v3, vI v4, vI v5] (LF n) D (PIw n K) := Sat.of hG (by decide) (Nat.le_of_ble_eq_true rfl) (by simp [Value.category]) (x_X11_moves hG h)
abbrev E_X11_noRun (l : Launch) (g : GH) (P : PT) : ENV := mkE l g yX11_noRun cX11_noRun 5 (some .boolean) [] 1 0 0 P
set_option maxRecDepth 100000 in
set_option maxHeartbeats 4000000 in
theorem x_X11_noRun_27 {l : Launch} {g : GH} (hG : G0 l g) {n : Nat} {D : DT} {K : (Int × DT) → Prop} (h : ok (m_X11_noRun_27 D) K) : Px (E_X11_noRun l g (PIw n K)) 27 [none, none, none, none, none] [vR g 73] (LF n) D 0 0 := by
  refine p_iconst dX11_noRun_27 ?_
  refine p_goto (tgt := 32) dX11_noRun_28 (by decide) ?_
  refine p_iconst dX11_noRun_32 ?_
  refine cV_Iw [vI 1, vI 2] [] dX11_noRun_33 yv_X11_throwsIf ml_X11_215 (r := (RX11, TX11, 41)) rfl rfl (Nat.le_of_ble_eq_true rfl) rfl (Nat.le_of_ble_eq_true rfl) (Nat.le_of_ble_eq_true rfl) (Nat.le_of_ble_eq_true rfl) rfl h (fun K h => s_X11_throwsIf hG h) (fun r33 D33 h => ?_)
  obtain ⟨hz, h⟩ := ok_gd h
  exact p_zreturn dX11_noRun_36 (Nat.le_of_ble_eq_true rfl) (Nat.le_of_ble_eq_true rfl) hz ⟨_, rfl, rfl, ok_some h⟩
set_option maxRecDepth 100000 in
set_option maxHeartbeats 4000000 in
theorem x_X11_noRun {l : Launch} {g : GH} (hG : G0 l g) {n : Nat} {v1 : Int} {v2 : Int} {v3 : Int} {v4 : Int} {D : DT} {K : (Int × DT) → Prop} (h : ok (m_X11_noRun v1 v2 v3 v4 D) K) : Px (E_X11_noRun l g (PIw n K)) 0 [some (vR g 73), some (vI v1), some (vI v2), some (vI v3), some (vI v4)] [] (LF n) D 0 0 := by
  refine p_aload_n dX11_noRun_0 rfl ?_
  refine p_iload_n dX11_noRun_1 rfl ?_
  refine p_iload_n dX11_noRun_2 rfl ?_
  refine q_icmp_eq (tgt := 27) dX11_noRun_3 (by decide) h (fun h => ?_) (fun h => ?_)
  · exact p_weak (leL.drop (leL.drop (leL.drop (leL.drop (leL.drop leL.nil))))) (x_X11_noRun_27 hG h)
  · refine p_iload_n dX11_noRun_6 rfl ?_
    refine q_if_lt (tgt := 27) dX11_noRun_7 (by decide) h (fun h => ?_) (fun h => ?_)
    · exact p_weak (leL.drop (leL.drop (leL.drop (leL.drop (leL.drop leL.nil))))) (x_X11_noRun_27 hG h)
    · refine p_iload dX11_noRun_10 rfl ?_
      refine p_iload_n dX11_noRun_12 rfl ?_
      refine q_icmp_lt (tgt := 27) dX11_noRun_13 (by decide) h (fun h => ?_) (fun h => ?_)
      · exact p_weak (leL.drop (leL.drop (leL.drop (leL.drop (leL.drop leL.nil))))) (x_X11_noRun_27 hG h)
      · refine p_iload dX11_noRun_16 rfl ?_
        refine p_aload_n dX11_noRun_18 rfl ?_
        refine p_getr dX11_noRun_19 fl_X11_17 (fun _ _ _ => rfl) rfl rfl ?_
        refine p_iconst dX11_noRun_22 ?_
        refine q_iald dX11_noRun_23 rfl rfl h (fun h => ?_)
        refine q_icmp_lt (tgt := 31) dX11_noRun_24 (by decide) h (fun h => ?_) (fun h => ?_)
        · refine p_iconst dX11_noRun_31 ?_
          refine p_iconst dX11_noRun_32 ?_
          refine cV_Iw [vI 0, vI 2] [] dX11_noRun_33 yv_X11_throwsIf ml_X11_215 (r := (RX11, TX11, 41)) rfl rfl (Nat.le_of_ble_eq_true rfl) rfl (Nat.le_of_ble_eq_true rfl) (Nat.le_of_ble_eq_true rfl) (Nat.le_of_ble_eq_true rfl) rfl h (fun K h => s_X11_throwsIf hG h) (fun r33 D33 h => ?_)
          obtain ⟨hz, h⟩ := ok_gd h
          exact p_zreturn dX11_noRun_36 (Nat.le_of_ble_eq_true rfl) (Nat.le_of_ble_eq_true rfl) hz ⟨_, rfl, rfl, ok_some h⟩
        · exact p_weak (leL.drop (leL.drop (leL.drop (leL.drop (leL.drop leL.nil))))) (x_X11_noRun_27 hG h)
theorem s_X11_noRun {l : Launch} {g : GH} (hG : G0 l g) {n : Nat} {v1 : Int} {v2 : Int} {v3 : Int} {v4 : Int} {D : DT} {K : (Int × DT) → Prop} (h : ok (m_X11_noRun v1 v2 v3 v4 D) K) : Sat l g yX11_noRun cX11_noRun 5 (some .boolean) 1 0 0 [vR g 73, vI v1, vI v2, vI v3, vI v4] (LF n) D (PIw n K) := Sat.of hG (by decide) (Nat.le_of_ble_eq_true rfl) (by simp [Value.category]) (x_X11_noRun hG h)
abbrev E_X11_move (l : Launch) (g : GH) (P : PT) : ENV := mkE l g yX11_move cX11_move 6 (some .int) [] 4 0 0 P
set_option maxRecDepth 100000 in
set_option maxHeartbeats 4000000 in
theorem x_X11_move {l : Launch} {g : GH} (hG : G0 l g) {n : Nat} {v1 : Int} {v2 : Int} {v3 : Int} {v4 : Int} {v5 : Int} {D : DT} {K : (Int × DT) → Prop} (h : ok (m_X11_move v1 v2 v3 v4 v5 D) K) : Px (E_X11_move l g (PIw n K)) 0 [some (vR g 73), some (vI v1), some (vI v2), some (vI v3), some (vI v4), some (vI v5)] [] (LF n) D 0 0 := by
  refine p_aload_n dX11_move_0 rfl ?_
  refine p_iconst dX11_move_1 ?_
  refine q_puti dX11_move_2 fq_X11_106 rfl rfl h (fun D2 h => ?_)
  refine p_aload_n dX11_move_5 rfl ?_
  refine p_iload_n dX11_move_6 rfl ?_
  refine p_iload_n dX11_move_7 rfl ?_
  refine p_iload_n dX11_move_8 rfl ?_
  refine p_iload dX11_move_9 rfl ?_
  refine p_iload dX11_move_11 rfl ?_
  refine cV_Iw [vI v1, vI v2, vI v3, vI v4, vI v5] [] dX11_move_13 yv_X11_noEdge ml_X11_298 (r := (RX11, TX11, 41)) rfl rfl (Nat.le_of_ble_eq_true rfl) rfl (Nat.le_of_ble_eq_true rfl) (Nat.le_of_ble_eq_true rfl) (Nat.le_of_ble_eq_true rfl) rfl h (fun K h => s_X11_noEdge hG h) (fun r13 D13 h => ?_)
  refine q_if_ne (tgt := 32) dX11_move_16 (by decide) h (fun h => ?_) (fun h => ?_)
  · refine p_iconst dX11_move_32 ?_
    exact p_ireturn dX11_move_33 (Nat.le_of_ble_eq_true rfl) (Nat.le_of_ble_eq_true rfl) ⟨_, rfl, rfl, ok_some h⟩
  · refine p_aload_n dX11_move_19 rfl ?_
    refine p_iload_n dX11_move_20 rfl ?_
    refine p_iload_n dX11_move_21 rfl ?_
    refine p_iload dX11_move_22 rfl ?_
    refine p_iload dX11_move_24 rfl ?_
    refine cV_Iw [vI v1, vI v2, vI v4, vI v5] [] dX11_move_26 yv_X11_noRun ml_X11_302 (r := (RX11, TX11, 41)) rfl rfl (Nat.le_of_ble_eq_true rfl) rfl (Nat.le_of_ble_eq_true rfl) (Nat.le_of_ble_eq_true rfl) (Nat.le_of_ble_eq_true rfl) rfl h (fun K h => s_X11_noRun hG h) (fun r26 D26 h => ?_)
    refine q_if_eq (tgt := 34) dX11_move_29 (by decide) h (fun h => ?_) (fun h => ?_)
    · refine p_aload_n dX11_move_34 rfl ?_
      refine p_iload_n dX11_move_35 rfl ?_
      refine p_iload_n dX11_move_36 rfl ?_
      refine p_iload_n dX11_move_37 rfl ?_
      refine p_iload dX11_move_38 rfl ?_
      refine p_iload dX11_move_40 rfl ?_
      refine cV_Iw [vI v1, vI v2, vI v3, vI v4, vI v5] [] dX11_move_42 yv_X11_moves ml_X11_306 (r := (RX11, TX11, 41)) rfl rfl (Nat.le_of_ble_eq_true rfl) rfl (Nat.le_of_ble_eq_true rfl) (Nat.le_of_ble_eq_true rfl) (Nat.le_of_ble_eq_true rfl) rfl h (fun K h => s_X11_moves hG h) (fun r42 D42 h => ?_)
      exact p_ireturn dX11_move_45 (Nat.le_of_ble_eq_true rfl) (Nat.le_of_ble_eq_true rfl) ⟨_, rfl, rfl, ok_some h⟩
    · refine p_iconst dX11_move_32 ?_
      exact p_ireturn dX11_move_33 (Nat.le_of_ble_eq_true rfl) (Nat.le_of_ble_eq_true rfl) ⟨_, rfl, rfl, ok_some h⟩
theorem s_X11_move {l : Launch} {g : GH} (hG : G0 l g) {n : Nat} {v1 : Int} {v2 : Int} {v3 : Int} {v4 : Int} {v5 : Int} {D : DT} {K : (Int × DT) → Prop} (h : ok (m_X11_move v1 v2 v3 v4 v5 D) K) : Sat l g yX11_move cX11_move 6 (some .int) 4 0 0 [vR g 73, vI v1, vI v2, vI v3, vI v4, vI v5] (LF n) D (PIw n K) := Sat.of hG (by decide) (Nat.le_of_ble_eq_true rfl) (by simp [Value.category]) (x_X11_move hG h)
abbrev E_X11_keepsAll (l : Launch) (g : GH) (P : PT) : ENV := mkE l g yX11_keepsAll cX11_keepsAll 2 none [] 0 0 0 P
abbrev P_X11_keepsAll_2 (l : Launch) (g : GH) (n : Nat) (K : DT → Prop) : (Int × DT) → Prop := fun s => Px (E_X11_keepsAll l g (PVw n K)) 2 [some (vR g 73), some (vI s.1)] [] (LF n) s.2 0 0
abbrev P_X11_keepsAll_29 (l : Launch) (g : GH) (n : Nat) (K : DT → Prop) : (Int × DT) → Prop := fun s => Px (E_X11_keepsAll l g (PVw n K)) 29 [some (vR g 73), some (vI s.1)] [] (LF n) s.2 0 0
set_option maxRecDepth 100000 in
set_option maxHeartbeats 4000000 in
theorem x_X11_keepsAll_29 {l : Launch} {g : GH} (hG : G0 l g) {n : Nat} {K : DT → Prop} {s : (Int × DT)} (h : ok (m_X11_keepsAll_29 s) K) : Px (E_X11_keepsAll l g (PVw n K)) 29 [some (vR g 73), some (vI s.1)] [] (LF n) s.2 0 0 := by
  refine ok_loop (P := (P_X11_keepsAll_29 l g n K)) (fun s h => ?_) h
  refine p_iload_n dX11_keepsAll_29 rfl ?_
  refine p_bipush dX11_keepsAll_30 (by decide) ?_
  refine q_icmp_ge (tgt := 53) dX11_keepsAll_32 (by decide) h (fun h => ?_) (fun h => ?_)
  · have h := kl_inr h
    exact p_return dX11_keepsAll_53 (Nat.le_of_ble_eq_true rfl) (Nat.le_of_ble_eq_true rfl) ⟨rfl, rfl, ok_some h⟩
  · refine p_aload_n dX11_keepsAll_35 rfl ?_
    refine p_getr dX11_keepsAll_36 fl_X11_94 (fun _ _ _ => rfl) rfl rfl ?_
    refine p_iload_n dX11_keepsAll_39 rfl ?_
    refine p_aload_n dX11_keepsAll_40 rfl ?_
    refine p_getr dX11_keepsAll_41 fl_X11_36 (fun _ _ _ => rfl) rfl rfl ?_
    refine p_iload_n dX11_keepsAll_44 rfl ?_
    refine q_iald dX11_keepsAll_45 rfl rfl h (fun h => ?_)
    refine q_iast dX11_keepsAll_46 rfl rfl h (fun D46 h => ?_)
    refine p_iinc dX11_keepsAll_47 rfl (Nat.le_of_ble_eq_true rfl) rfl ?_
    refine p_goto (tgt := 29) dX11_keepsAll_50 (by decide) ?_
    exact p_weak (leL.same (leL.same leL.nil)) (kl_inl (P := (P_X11_keepsAll_29 l g n K)) h)
set_option maxRecDepth 100000 in
set_option maxHeartbeats 4000000 in
theorem x_X11_keepsAll_2 {l : Launch} {g : GH} (hG : G0 l g) {n : Nat} {K : DT → Prop} {s : (Int × DT)} (h : ok (m_X11_keepsAll_2 s) K) : Px (E_X11_keepsAll l g (PVw n K)) 2 [some (vR g 73), some (vI s.1)] [] (LF n) s.2 0 0 := by
  refine ok_loop (P := (P_X11_keepsAll_2 l g n K)) (fun s h => ?_) h
  refine p_iload_n dX11_keepsAll_2 rfl ?_
  refine p_sipush dX11_keepsAll_3 (by decide) ?_
  refine q_icmp_ge (tgt := 27) dX11_keepsAll_6 (by decide) h (fun h => ?_) (fun h => ?_)
  · have h := kl_inr h
    refine p_iconst dX11_keepsAll_27 ?_
    refine p_istore_n dX11_keepsAll_28 (Nat.le_of_ble_eq_true rfl) rfl ?_
    exact p_weak (leL.same (leL.same leL.nil)) (x_X11_keepsAll_29 hG h)
  · refine p_aload_n dX11_keepsAll_9 rfl ?_
    refine p_getr dX11_keepsAll_10 fl_X11_91 (fun _ _ _ => rfl) rfl rfl ?_
    refine p_iload_n dX11_keepsAll_13 rfl ?_
    refine p_aload_n dX11_keepsAll_14 rfl ?_
    refine p_getr dX11_keepsAll_15 fl_X11_23 (fun _ _ _ => rfl) rfl rfl ?_
    refine p_iload_n dX11_keepsAll_18 rfl ?_
    refine q_iald dX11_keepsAll_19 rfl rfl h (fun h => ?_)
    refine q_iast dX11_keepsAll_20 rfl rfl h (fun D20 h => ?_)
    refine p_iinc dX11_keepsAll_21 rfl (Nat.le_of_ble_eq_true rfl) rfl ?_
    refine p_goto (tgt := 2) dX11_keepsAll_24 (by decide) ?_
    exact p_weak (leL.same (leL.same leL.nil)) (kl_inl (P := (P_X11_keepsAll_2 l g n K)) h)
set_option maxRecDepth 100000 in
set_option maxHeartbeats 4000000 in
theorem x_X11_keepsAll {l : Launch} {g : GH} (hG : G0 l g) {n : Nat} {D : DT} {K : DT → Prop} (h : ok (m_X11_keepsAll D) K) : Px (E_X11_keepsAll l g (PVw n K)) 0 [some (vR g 73), none] [] (LF n) D 0 0 := by
  refine p_iconst dX11_keepsAll_0 ?_
  refine p_istore_n dX11_keepsAll_1 (Nat.le_of_ble_eq_true rfl) rfl ?_
  exact p_weak (leL.same (leL.same leL.nil)) (x_X11_keepsAll_2 hG h)
theorem s_X11_keepsAll {l : Launch} {g : GH} (hG : G0 l g) {n : Nat} {D : DT} {K : DT → Prop} (h : ok (m_X11_keepsAll D) K) : Sat l g yX11_keepsAll cX11_keepsAll 2 none 0 0 0 [vR g 73] (LF n) D (PVw n K) := Sat.of hG (by decide) (Nat.le_of_ble_eq_true rfl) (by simp [Value.category]) (x_X11_keepsAll hG h)
abbrev E_X11_bringsBack (l : Launch) (g : GH) (P : PT) : ENV := mkE l g yX11_bringsBack cX11_bringsBack 2 none [] 3 0 0 P
abbrev P_X11_bringsBack_2 (l : Launch) (g : GH) (n : Nat) (K : DT → Prop) : (Int × DT) → Prop := fun s => Px (E_X11_bringsBack l g (PVw n K)) 2 [some (vR g 73), some (vI s.1)] [] (LF n) s.2 0 0
abbrev P_X11_bringsBack_29 (l : Launch) (g : GH) (n : Nat) (K : DT → Prop) : (Int × DT) → Prop := fun s => Px (E_X11_bringsBack l g (PVw n K)) 29 [some (vR g 73), some (vI s.1)] [] (LF n) s.2 0 0
set_option maxRecDepth 100000 in
set_option maxHeartbeats 4000000 in
theorem x_X11_bringsBack_29 {l : Launch} {g : GH} (hG : G0 l g) {n : Nat} {K : DT → Prop} {s : (Int × DT)} (h : ok (m_X11_bringsBack_29 s) K) : Px (E_X11_bringsBack l g (PVw n K)) 29 [some (vR g 73), some (vI s.1)] [] (LF n) s.2 0 0 := by
  refine ok_loop (P := (P_X11_bringsBack_29 l g n K)) (fun s h => ?_) h
  refine p_iload_n dX11_bringsBack_29 rfl ?_
  refine p_bipush dX11_bringsBack_30 (by decide) ?_
  refine q_icmp_ge (tgt := 53) dX11_bringsBack_32 (by decide) h (fun h => ?_) (fun h => ?_)
  · have h := kl_inr h
    refine p_aload_n dX11_bringsBack_53 rfl ?_
    refine cV_Vw [] [] dX11_bringsBack_54 yv_X11_laysOrders ml_X11_219 (r := (RX11, TX11, 41)) rfl rfl (Nat.le_of_ble_eq_true rfl) rfl (Nat.le_of_ble_eq_true rfl) (Nat.le_of_ble_eq_true rfl) (Nat.le_of_ble_eq_true rfl) rfl h (fun K h => s_X11_laysOrders hG h) (fun D54 h => ?_)
    exact p_return dX11_bringsBack_57 (Nat.le_of_ble_eq_true rfl) (Nat.le_of_ble_eq_true rfl) ⟨rfl, rfl, ok_some h⟩
  · refine p_aload_n dX11_bringsBack_35 rfl ?_
    refine p_getr dX11_bringsBack_36 fl_X11_36 (fun _ _ _ => rfl) rfl rfl ?_
    refine p_iload_n dX11_bringsBack_39 rfl ?_
    refine p_aload_n dX11_bringsBack_40 rfl ?_
    refine p_getr dX11_bringsBack_41 fl_X11_94 (fun _ _ _ => rfl) rfl rfl ?_
    refine p_iload_n dX11_bringsBack_44 rfl ?_
    refine q_iald dX11_bringsBack_45 rfl rfl h (fun h => ?_)
    refine q_iast dX11_bringsBack_46 rfl rfl h (fun D46 h => ?_)
    refine p_iinc dX11_bringsBack_47 rfl (Nat.le_of_ble_eq_true rfl) rfl ?_
    refine p_goto (tgt := 29) dX11_bringsBack_50 (by decide) ?_
    exact p_weak (leL.same (leL.same leL.nil)) (kl_inl (P := (P_X11_bringsBack_29 l g n K)) h)
set_option maxRecDepth 100000 in
set_option maxHeartbeats 4000000 in
theorem x_X11_bringsBack_2 {l : Launch} {g : GH} (hG : G0 l g) {n : Nat} {K : DT → Prop} {s : (Int × DT)} (h : ok (m_X11_bringsBack_2 s) K) : Px (E_X11_bringsBack l g (PVw n K)) 2 [some (vR g 73), some (vI s.1)] [] (LF n) s.2 0 0 := by
  refine ok_loop (P := (P_X11_bringsBack_2 l g n K)) (fun s h => ?_) h
  refine p_iload_n dX11_bringsBack_2 rfl ?_
  refine p_sipush dX11_bringsBack_3 (by decide) ?_
  refine q_icmp_ge (tgt := 27) dX11_bringsBack_6 (by decide) h (fun h => ?_) (fun h => ?_)
  · have h := kl_inr h
    refine p_iconst dX11_bringsBack_27 ?_
    refine p_istore_n dX11_bringsBack_28 (Nat.le_of_ble_eq_true rfl) rfl ?_
    exact p_weak (leL.same (leL.same leL.nil)) (x_X11_bringsBack_29 hG h)
  · refine p_aload_n dX11_bringsBack_9 rfl ?_
    refine p_getr dX11_bringsBack_10 fl_X11_23 (fun _ _ _ => rfl) rfl rfl ?_
    refine p_iload_n dX11_bringsBack_13 rfl ?_
    refine p_aload_n dX11_bringsBack_14 rfl ?_
    refine p_getr dX11_bringsBack_15 fl_X11_91 (fun _ _ _ => rfl) rfl rfl ?_
    refine p_iload_n dX11_bringsBack_18 rfl ?_
    refine q_iald dX11_bringsBack_19 rfl rfl h (fun h => ?_)
    refine q_iast dX11_bringsBack_20 rfl rfl h (fun D20 h => ?_)
    refine p_iinc dX11_bringsBack_21 rfl (Nat.le_of_ble_eq_true rfl) rfl ?_
    refine p_goto (tgt := 2) dX11_bringsBack_24 (by decide) ?_
    exact p_weak (leL.same (leL.same leL.nil)) (kl_inl (P := (P_X11_bringsBack_2 l g n K)) h)
set_option maxRecDepth 100000 in
set_option maxHeartbeats 4000000 in
theorem x_X11_bringsBack {l : Launch} {g : GH} (hG : G0 l g) {n : Nat} {D : DT} {K : DT → Prop} (h : ok (m_X11_bringsBack D) K) : Px (E_X11_bringsBack l g (PVw n K)) 0 [some (vR g 73), none] [] (LF n) D 0 0 := by
  refine p_iconst dX11_bringsBack_0 ?_
  refine p_istore_n dX11_bringsBack_1 (Nat.le_of_ble_eq_true rfl) rfl ?_
  exact p_weak (leL.same (leL.same leL.nil)) (x_X11_bringsBack_2 hG h)
theorem s_X11_bringsBack {l : Launch} {g : GH} (hG : G0 l g) {n : Nat} {D : DT} {K : DT → Prop} (h : ok (m_X11_bringsBack D) K) : Sat l g yX11_bringsBack cX11_bringsBack 2 none 3 0 0 [vR g 73] (LF n) D (PVw n K) := Sat.of hG (by decide) (Nat.le_of_ble_eq_true rfl) (by simp [Value.category]) (x_X11_bringsBack hG h)
abbrev E_X11_tries (l : Launch) (g : GH) (P : PT) : ENV := mkE l g yX11_tries cX11_tries 10 (some .int) [] 4 0 0 P
abbrev P_X11_tries_52 (l : Launch) (g : GH) (n : Nat) (K : (Int × DT) → Prop) (v1 : Int) (v2 : Int) (v3 : Int) (v4 : Int) (v5 : Int) (v6 : Int) : (Int × DT) → Prop := fun s => Px (E_X11_tries l g (PIw n K)) 52 [some (vR g 73), some (vI v1), some (vI v2), some (vI v3), some (vI v4), some (vI v5), some (vI v6), some (vI s.1), none, none] [] (LF n) s.2 0 0
abbrev P_X11_tries_109 (l : Launch) (g : GH) (n : Nat) (K : (Int × DT) → Prop) (D : DT) : (Int × Int) → Prop := fun s => Px (E_X11_tries l g (PIw n K)) 109 [some (vR g 73), none, none, none, none, none, none, none, some (vI s.1), some (vI s.2)] [] (LF n) D 0 0
set_option maxRecDepth 100000 in
set_option maxHeartbeats 4000000 in
theorem x_X11_tries_109 {l : Launch} {g : GH} (hG : G0 l g) {n : Nat} {D : DT} {K : (Int × DT) → Prop} {s : (Int × Int)} (h : ok (m_X11_tries_109 D s) K) : Px (E_X11_tries l g (PIw n K)) 109 [some (vR g 73), none, none, none, none, none, none, none, some (vI s.1), some (vI s.2)] [] (LF n) D 0 0 := by
  refine ok_loop (P := (P_X11_tries_109 l g n K D)) (fun s h => ?_) h
  refine p_iload dX11_tries_109 rfl ?_
  refine p_sipush dX11_tries_111 (by decide) ?_
  refine q_icmp_ge (tgt := 164) dX11_tries_114 (by decide) h (fun h => ?_) (fun h => ?_)
  · have h := kl_inr h
    refine p_aload_n dX11_tries_164 rfl ?_
    refine cV_Vw [] [] dX11_tries_165 yv_X11_bringsBack ml_X11_313 (r := (RX11, TX11, 41)) rfl rfl (Nat.le_of_ble_eq_true rfl) rfl (Nat.le_of_ble_eq_true rfl) (Nat.le_of_ble_eq_true rfl) (Nat.le_of_ble_eq_true rfl) rfl h (fun K h => s_X11_bringsBack hG h) (fun D165 h => ?_)
    refine p_iload dX11_tries_168 rfl ?_
    exact p_ireturn dX11_tries_170 (Nat.le_of_ble_eq_true rfl) (Nat.le_of_ble_eq_true rfl) ⟨_, rfl, rfl, ok_some h⟩
  · refine p_iload dX11_tries_117 rfl ?_
    refine p_aload_n dX11_tries_119 rfl ?_
    refine p_getr dX11_tries_120 fl_X11_79 (fun _ _ _ => rfl) rfl rfl ?_
    refine p_iload dX11_tries_123 rfl ?_
    refine q_iald dX11_tries_125 rfl rfl h (fun h => ?_)
    refine p_aload_n dX11_tries_126 rfl ?_
    refine p_getr dX11_tries_127 fl_X11_82 (fun _ _ _ => rfl) rfl rfl ?_
    refine p_iload dX11_tries_130 rfl ?_
    refine q_iald dX11_tries_132 rfl rfl h (fun h => ?_)
    refine q_icmp_le (tgt := 154) dX11_tries_133 (by decide) h (fun h => ?_) (fun h => ?_)
    · refine p_iconst dX11_tries_154 ?_
      refine p_iadd dX11_tries_155 ?_
      refine p_istore dX11_tries_156 (Nat.le_of_ble_eq_true rfl) rfl ?_
      refine p_iinc dX11_tries_158 rfl (Nat.le_of_ble_eq_true rfl) rfl ?_
      refine p_goto (tgt := 109) dX11_tries_161 (by decide) ?_
      exact p_weak (leL.same (leL.drop (leL.drop (leL.drop (leL.drop (leL.drop (leL.drop (leL.drop (leL.same (leL.same leL.nil)))))))))) (kl_inl (P := (P_X11_tries_109 l g n K D)) h)
    · refine p_aload_n dX11_tries_136 rfl ?_
      refine p_getr dX11_tries_137 fl_X11_79 (fun _ _ _ => rfl) rfl rfl ?_
      refine p_iload dX11_tries_140 rfl ?_
      refine q_iald dX11_tries_142 rfl rfl h (fun h => ?_)
      refine p_aload_n dX11_tries_143 rfl ?_
      refine p_getr dX11_tries_144 fl_X11_82 (fun _ _ _ => rfl) rfl rfl ?_
      refine p_iload dX11_tries_147 rfl ?_
      refine q_iald dX11_tries_149 rfl rfl h (fun h => ?_)
      refine p_isub dX11_tries_150 ?_
      refine p_goto (tgt := 155) dX11_tries_151 (by decide) ?_
      refine p_iadd dX11_tries_155 ?_
      refine p_istore dX11_tries_156 (Nat.le_of_ble_eq_true rfl) rfl ?_
      refine p_iinc dX11_tries_158 rfl (Nat.le_of_ble_eq_true rfl) rfl ?_
      refine p_goto (tgt := 109) dX11_tries_161 (by decide) ?_
      exact p_weak (leL.same (leL.drop (leL.drop (leL.drop (leL.drop (leL.drop (leL.drop (leL.drop (leL.same (leL.same leL.nil)))))))))) (kl_inl (P := (P_X11_tries_109 l g n K D)) h)
set_option maxRecDepth 100000 in
set_option maxHeartbeats 4000000 in
theorem x_X11_tries_52 {l : Launch} {g : GH} (hG : G0 l g) {n : Nat} {v1 v2 v3 v4 v5 v6 : Int} {K : (Int × DT) → Prop} {s : (Int × DT)} (h : ok (m_X11_tries_52 v1 v2 v3 v4 v5 v6 s) K) : Px (E_X11_tries l g (PIw n K)) 52 [some (vR g 73), some (vI v1), some (vI v2), some (vI v3), some (vI v4), some (vI v5), some (vI v6), some (vI s.1), none, none] [] (LF n) s.2 0 0 := by
  refine ok_loop (P := (P_X11_tries_52 l g n K v1 v2 v3 v4 v5 v6)) (fun s h => ?_) h
  refine p_iload dX11_tries_52 rfl ?_
  refine p_sipush dX11_tries_54 (by decide) ?_
  refine q_icmp_ge (tgt := 80) dX11_tries_57 (by decide) h (fun h => ?_) (fun h => ?_)
  · have h := kl_inr h
    refine p_aload_n dX11_tries_80 rfl ?_
    refine cV_Vw [] [] dX11_tries_81 yv_X11_keepsAll ml_X11_310 (r := (RX11, TX11, 41)) rfl rfl (Nat.le_of_ble_eq_true rfl) rfl (Nat.le_of_ble_eq_true rfl) (Nat.le_of_ble_eq_true rfl) (Nat.le_of_ble_eq_true rfl) rfl h (fun K h => s_X11_keepsAll hG h) (fun D81 h => ?_)
    refine p_aload_n dX11_tries_84 rfl ?_
    refine p_iload_n dX11_tries_85 rfl ?_
    refine p_iload_n dX11_tries_86 rfl ?_
    refine p_iload_n dX11_tries_87 rfl ?_
    refine p_iload dX11_tries_88 rfl ?_
    refine p_iload dX11_tries_90 rfl ?_
    refine cV_Iw [vI v1, vI v2, vI v3, vI v4, vI v5] [] dX11_tries_92 yv_X11_moves ml_X11_306 (r := (RX11, TX11, 41)) rfl rfl (Nat.le_of_ble_eq_true rfl) rfl (Nat.le_of_ble_eq_true rfl) (Nat.le_of_ble_eq_true rfl) (Nat.le_of_ble_eq_true rfl) rfl h (fun K h => s_X11_moves hG h) (fun r92 D92 h => ?_)
    refine p_istore dX11_tries_95 (Nat.le_of_ble_eq_true rfl) rfl ?_
    refine p_aload_n dX11_tries_97 rfl ?_
    refine p_iload dX11_tries_98 rfl ?_
    refine cV_Vw [vI v6] [] dX11_tries_100 yv_X11_laysCrowds ml_X11_289 (r := (RX11, TX11, 41)) rfl rfl (Nat.le_of_ble_eq_true rfl) rfl (Nat.le_of_ble_eq_true rfl) (Nat.le_of_ble_eq_true rfl) (Nat.le_of_ble_eq_true rfl) rfl h (fun K h => s_X11_laysCrowds hG h) (fun D100 h => ?_)
    refine p_iconst dX11_tries_103 ?_
    refine p_istore dX11_tries_104 (Nat.le_of_ble_eq_true rfl) rfl ?_
    refine p_iconst dX11_tries_106 ?_
    refine p_istore dX11_tries_107 (Nat.le_of_ble_eq_true rfl) rfl ?_
    exact p_weak (leL.same (leL.drop (leL.drop (leL.drop (leL.drop (leL.drop (leL.drop (leL.drop (leL.same (leL.same leL.nil)))))))))) (x_X11_tries_109 hG h)
  · refine p_aload_n dX11_tries_60 rfl ?_
    refine p_getr dX11_tries_61 fl_X11_82 (fun _ _ _ => rfl) rfl rfl ?_
    refine p_iload dX11_tries_64 rfl ?_
    refine p_aload_n dX11_tries_66 rfl ?_
    refine p_getr dX11_tries_67 fl_X11_79 (fun _ _ _ => rfl) rfl rfl ?_
    refine p_iload dX11_tries_70 rfl ?_
    refine q_iald dX11_tries_72 rfl rfl h (fun h => ?_)
    refine q_iast dX11_tries_73 rfl rfl h (fun D73 h => ?_)
    refine p_iinc dX11_tries_74 rfl (Nat.le_of_ble_eq_true rfl) rfl ?_
    refine p_goto (tgt := 52) dX11_tries_77 (by decide) ?_
    exact p_weak (leL.same (leL.same (leL.same (leL.same (leL.same (leL.same (leL.same (leL.same (leL.drop (leL.drop leL.nil)))))))))) (kl_inl (P := (P_X11_tries_52 l g n K v1 v2 v3 v4 v5 v6)) h)
set_option maxRecDepth 100000 in
set_option maxHeartbeats 4000000 in
theorem x_X11_tries {l : Launch} {g : GH} (hG : G0 l g) {n : Nat} {v1 : Int} {v2 : Int} {v3 : Int} {v4 : Int} {v5 : Int} {v6 : Int} {D : DT} {K : (Int × DT) → Prop} (h : ok (m_X11_tries v1 v2 v3 v4 v5 v6 D) K) : Px (E_X11_tries l g (PIw n K)) 0 [some (vR g 73), some (vI v1), some (vI v2), some (vI v3), some (vI v4), some (vI v5), some (vI v6), none, none, none] [] (LF n) D 0 0 := by
  refine p_aload_n dX11_tries_0 rfl ?_
  refine p_iconst dX11_tries_1 ?_
  refine q_puti dX11_tries_2 fq_X11_106 rfl rfl h (fun D2 h => ?_)
  refine p_aload_n dX11_tries_5 rfl ?_
  refine p_iload_n dX11_tries_6 rfl ?_
  refine p_iload_n dX11_tries_7 rfl ?_
  refine p_iload_n dX11_tries_8 rfl ?_
  refine p_iload dX11_tries_9 rfl ?_
  refine p_iload dX11_tries_11 rfl ?_
  refine cV_Iw [vI v1, vI v2, vI v3, vI v4, vI v5] [] dX11_tries_13 yv_X11_noEdge ml_X11_298 (r := (RX11, TX11, 41)) rfl rfl (Nat.le_of_ble_eq_true rfl) rfl (Nat.le_of_ble_eq_true rfl) (Nat.le_of_ble_eq_true rfl) (Nat.le_of_ble_eq_true rfl) rfl h (fun K h => s_X11_noEdge hG h) (fun r13 D13 h => ?_)
  refine q_if_ne (tgt := 41) dX11_tries_16 (by decide) h (fun h => ?_) (fun h => ?_)
  · refine p_iconst dX11_tries_41 ?_
    exact p_ireturn dX11_tries_42 (Nat.le_of_ble_eq_true rfl) (Nat.le_of_ble_eq_true rfl) ⟨_, rfl, rfl, ok_some h⟩
  · refine p_aload_n dX11_tries_19 rfl ?_
    refine p_iload dX11_tries_20 rfl ?_
    refine cV_Iw [vI v6] [] dX11_tries_22 yv_X11_noLevel ml_X11_283 (r := (RX11, TX11, 41)) rfl rfl (Nat.le_of_ble_eq_true rfl) rfl (Nat.le_of_ble_eq_true rfl) (Nat.le_of_ble_eq_true rfl) (Nat.le_of_ble_eq_true rfl) rfl h (fun K h => s_X11_noLevel hG h) (fun r22 D22 h => ?_)
    refine q_if_ne (tgt := 41) dX11_tries_25 (by decide) h (fun h => ?_) (fun h => ?_)
    · refine p_iconst dX11_tries_41 ?_
      exact p_ireturn dX11_tries_42 (Nat.le_of_ble_eq_true rfl) (Nat.le_of_ble_eq_true rfl) ⟨_, rfl, rfl, ok_some h⟩
    · refine p_aload_n dX11_tries_28 rfl ?_
      refine p_iload_n dX11_tries_29 rfl ?_
      refine p_iload_n dX11_tries_30 rfl ?_
      refine p_iload dX11_tries_31 rfl ?_
      refine p_iload dX11_tries_33 rfl ?_
      refine cV_Iw [vI v1, vI v2, vI v4, vI v5] [] dX11_tries_35 yv_X11_noRun ml_X11_302 (r := (RX11, TX11, 41)) rfl rfl (Nat.le_of_ble_eq_true rfl) rfl (Nat.le_of_ble_eq_true rfl) (Nat.le_of_ble_eq_true rfl) (Nat.le_of_ble_eq_true rfl) rfl h (fun K h => s_X11_noRun hG h) (fun r35 D35 h => ?_)
      refine q_if_eq (tgt := 43) dX11_tries_38 (by decide) h (fun h => ?_) (fun h => ?_)
      · refine p_aload_n dX11_tries_43 rfl ?_
        refine p_iload dX11_tries_44 rfl ?_
        refine cV_Vw [vI v6] [] dX11_tries_46 yv_X11_laysCrowds ml_X11_289 (r := (RX11, TX11, 41)) rfl rfl (Nat.le_of_ble_eq_true rfl) rfl (Nat.le_of_ble_eq_true rfl) (Nat.le_of_ble_eq_true rfl) (Nat.le_of_ble_eq_true rfl) rfl h (fun K h => s_X11_laysCrowds hG h) (fun D46 h => ?_)
        refine p_iconst dX11_tries_49 ?_
        refine p_istore dX11_tries_50 (Nat.le_of_ble_eq_true rfl) rfl ?_
        exact p_weak (leL.same (leL.same (leL.same (leL.same (leL.same (leL.same (leL.same (leL.same (leL.drop (leL.drop leL.nil)))))))))) (x_X11_tries_52 hG h)
      · refine p_iconst dX11_tries_41 ?_
        exact p_ireturn dX11_tries_42 (Nat.le_of_ble_eq_true rfl) (Nat.le_of_ble_eq_true rfl) ⟨_, rfl, rfl, ok_some h⟩
theorem s_X11_tries {l : Launch} {g : GH} (hG : G0 l g) {n : Nat} {v1 : Int} {v2 : Int} {v3 : Int} {v4 : Int} {v5 : Int} {v6 : Int} {D : DT} {K : (Int × DT) → Prop} (h : ok (m_X11_tries v1 v2 v3 v4 v5 v6 D) K) : Sat l g yX11_tries cX11_tries 10 (some .int) 4 0 0 [vR g 73, vI v1, vI v2, vI v3, vI v4, vI v5, vI v6] (LF n) D (PIw n K) := Sat.of hG (by decide) (Nat.le_of_ble_eq_true rfl) (by simp [Value.category]) (x_X11_tries hG h)
abbrev E_X11_runEnd (l : Launch) (g : GH) (P : PT) : ENV := mkE l g yX11_runEnd cX11_runEnd 4 (some .int) [] 1 0 0 P
abbrev P_X11_runEnd_2 (l : Launch) (g : GH) (n : Nat) (K : Int → Prop) (v1 : Int) (D : DT) : Int → Prop := fun s => Px (E_X11_runEnd l g (PIr n D K)) 2 [some (vR g 73), some (vI v1), none, some (vI s)] [] (LF n) D 0 0
set_option maxRecDepth 100000 in
set_option maxHeartbeats 4000000 in
theorem x_X11_runEnd_2 {l : Launch} {g : GH} (hG : G0 l g) {n : Nat} {v1 : Int} {D : DT} {K : Int → Prop} {s : Int} (h : ok (m_X11_runEnd_2 v1 D s) K) : Px (E_X11_runEnd l g (PIr n D K)) 2 [some (vR g 73), some (vI v1), none, some (vI s)] [] (LF n) D 0 0 := by
  refine ok_loop (P := (P_X11_runEnd_2 l g n K v1 D)) (fun s h => ?_) h
  refine p_iload_n dX11_runEnd_2 rfl ?_
  refine p_aload_n dX11_runEnd_3 rfl ?_
  refine p_getr dX11_runEnd_4 fl_X11_17 (fun _ _ _ => rfl) rfl rfl ?_
  refine p_iconst dX11_runEnd_7 ?_
  refine q_iald dX11_runEnd_8 rfl rfl h (fun h => ?_)
  refine q_irem dX11_runEnd_9 h (fun h => ?_)
  refine p_iconst dX11_runEnd_10 ?_
  refine p_iadd dX11_runEnd_11 ?_
  refine p_aload_n dX11_runEnd_12 rfl ?_
  refine p_getr dX11_runEnd_13 fl_X11_17 (fun _ _ _ => rfl) rfl rfl ?_
  refine p_iconst dX11_runEnd_16 ?_
  refine q_iald dX11_runEnd_17 rfl rfl h (fun h => ?_)
  refine q_icmp_ge (tgt := 38) dX11_runEnd_18 (by decide) h (fun h => ?_) (fun h => ?_)
  · have h := kl_inr h
    refine p_iload_n dX11_runEnd_38 rfl ?_
    exact p_ireturn dX11_runEnd_39 (Nat.le_of_ble_eq_true rfl) (Nat.le_of_ble_eq_true rfl) ⟨_, rfl, rfl, rfl, ok_some h⟩
  · refine p_aload_n dX11_runEnd_21 rfl ?_
    refine p_iload_n dX11_runEnd_22 rfl ?_
    refine p_iconst dX11_runEnd_23 ?_
    refine p_iadd dX11_runEnd_24 ?_
    refine p_iload_n dX11_runEnd_25 rfl ?_
    refine cV_Ir [vI (s + 1), vI v1] [] dX11_runEnd_26 yv_X11_isLandOf ml_X11_233 (r := (RX11, TX11, 41)) rfl rfl (Nat.le_of_ble_eq_true rfl) rfl (Nat.le_of_ble_eq_true rfl) (Nat.le_of_ble_eq_true rfl) (Nat.le_of_ble_eq_true rfl) rfl h (fun K h => s_X11_isLandOf hG h) (fun r26 h => ?_)
    refine q_if_eq (tgt := 38) dX11_runEnd_29 (by decide) h (fun h => ?_) (fun h => ?_)
    · have h := kl_inr h
      refine p_iload_n dX11_runEnd_38 rfl ?_
      exact p_ireturn dX11_runEnd_39 (Nat.le_of_ble_eq_true rfl) (Nat.le_of_ble_eq_true rfl) ⟨_, rfl, rfl, rfl, ok_some h⟩
    · refine p_iinc dX11_runEnd_32 rfl (Nat.le_of_ble_eq_true rfl) rfl ?_
      refine p_goto (tgt := 2) dX11_runEnd_35 (by decide) ?_
      exact p_weak (leL.same (leL.same (leL.drop (leL.same leL.nil)))) (kl_inl (P := (P_X11_runEnd_2 l g n K v1 D)) h)
set_option maxRecDepth 100000 in
set_option maxHeartbeats 4000000 in
theorem x_X11_runEnd {l : Launch} {g : GH} (hG : G0 l g) {n : Nat} {v1 : Int} {v2 : Int} {D : DT} {K : Int → Prop} (h : ok (m_X11_runEnd v1 v2 D) K) : Px (E_X11_runEnd l g (PIr n D K)) 0 [some (vR g 73), some (vI v1), some (vI v2), none] [] (LF n) D 0 0 := by
  refine p_iload_n dX11_runEnd_0 rfl ?_
  refine p_istore_n dX11_runEnd_1 (Nat.le_of_ble_eq_true rfl) rfl ?_
  exact p_weak (leL.same (leL.same (leL.drop (leL.same leL.nil)))) (x_X11_runEnd_2 hG h)
theorem s_X11_runEnd {l : Launch} {g : GH} (hG : G0 l g) {n : Nat} {v1 : Int} {v2 : Int} {D : DT} {K : Int → Prop} (h : ok (m_X11_runEnd v1 v2 D) K) : Sat l g yX11_runEnd cX11_runEnd 4 (some .int) 1 0 0 [vR g 73, vI v1, vI v2] (LF n) D (PIr n D K) := Sat.of hG (by decide) (Nat.le_of_ble_eq_true rfl) (by simp [Value.category]) (x_X11_runEnd hG h)
abbrev E_X11_run (l : Launch) (g : GH) (P : PT) : ENV := mkE l g yX11_run cX11_run 8 (some .int) [] 3 0 0 P
abbrev P_X11_run_41 (l : Launch) (g : GH) (n : Nat) (K : (Int × DT) → Prop) (v1 : Int) (v2 : Int) (v3 : Int) (v4 : Int) (D : DT) : (Int × Int) → Prop := fun s => Px (E_X11_run l g (PIw n K)) 41 [some (vR g 73), some (vI v1), some (vI v2), some (vI v3), some (vI v4), some (vI s.1), some (vI s.2), none] [] (LF n) D 0 0
set_option maxRecDepth 100000 in
set_option maxHeartbeats 4000000 in
theorem x_X11_run_41 {l : Launch} {g : GH} (hG : G0 l g) {n : Nat} {v1 v2 v3 v4 : Int} {D : DT} {K : (Int × DT) → Prop} {s : (Int × Int)} (h : ok (m_X11_run_41 v1 v2 v3 v4 D s) K) : Px (E_X11_run l g (PIw n K)) 41 [some (vR g 73), some (vI v1), some (vI v2), some (vI v3), some (vI v4), some (vI s.1), some (vI s.2), none] [] (LF n) D 0 0 := by
  refine ok_loop (P := (P_X11_run_41 l g n K v1 v2 v3 v4 D)) (fun s h => ?_) h
  refine p_iload dX11_run_41 rfl ?_
  refine p_aload_n dX11_run_43 rfl ?_
  refine p_getr dX11_run_44 fl_X11_17 (fun _ _ _ => rfl) rfl rfl ?_
  refine p_iconst dX11_run_47 ?_
  refine q_iald dX11_run_48 rfl rfl h (fun h => ?_)
  refine q_icmp_ge (tgt := 118) dX11_run_49 (by decide) h (fun h => ?_) (fun h => ?_)
  · have h := kl_inr h
    refine p_iconst dX11_run_118 ?_
    exact p_ireturn dX11_run_119 (Nat.le_of_ble_eq_true rfl) (Nat.le_of_ble_eq_true rfl) ⟨_, rfl, rfl, ok_some h⟩
  · refine p_aload_n dX11_run_52 rfl ?_
    refine p_getr dX11_run_53 fl_X11_17 (fun _ _ _ => rfl) rfl rfl ?_
    refine p_iconst dX11_run_56 ?_
    refine q_iald dX11_run_57 rfl rfl h (fun h => ?_)
    refine p_iload_n dX11_run_58 rfl ?_
    refine p_imul dX11_run_59 ?_
    refine p_iload dX11_run_60 rfl ?_
    refine p_iadd dX11_run_62 ?_
    refine p_istore dX11_run_63 (Nat.le_of_ble_eq_true rfl) rfl ?_
    refine p_aload_n dX11_run_65 rfl ?_
    refine p_iload_n dX11_run_66 rfl ?_
    refine p_iload dX11_run_67 rfl ?_
    refine cV_Ir [vI v1, vI (((D.2 76 (Int.toNat 0)) * v2) + s.2)] [] dX11_run_69 yv_X11_isRunBegin ml_X11_264 (r := (RX11, TX11, 41)) rfl rfl (Nat.le_of_ble_eq_true rfl) rfl (Nat.le_of_ble_eq_true rfl) (Nat.le_of_ble_eq_true rfl) (Nat.le_of_ble_eq_true rfl) rfl h (fun K h => s_X11_isRunBegin hG h) (fun r69 h => ?_)
    refine q_if_ne (tgt := 78) dX11_run_72 (by decide) h (fun h => ?_) (fun h => ?_)
    · refine p_iload dX11_run_78 rfl ?_
      refine p_iload_n dX11_run_80 rfl ?_
      refine q_icmp_ne (tgt := 109) dX11_run_81 (by decide) h (fun h => ?_) (fun h => ?_)
      · refine p_iinc dX11_run_109 rfl (Nat.le_of_ble_eq_true rfl) rfl ?_
        refine p_iinc dX11_run_112 rfl (Nat.le_of_ble_eq_true rfl) rfl ?_
        refine p_goto (tgt := 41) dX11_run_115 (by decide) ?_
        exact p_weak (leL.same (leL.same (leL.same (leL.same (leL.same (leL.same (leL.same (leL.drop leL.nil)))))))) (kl_inl (P := (P_X11_run_41 l g n K v1 v2 v3 v4 D)) h)
      · have h := kl_inr h
        refine p_iload dX11_run_84 rfl ?_
        refine q_if_eq (tgt := 106) dX11_run_86 (by decide) h (fun h => ?_) (fun h => ?_)
        · refine p_iload dX11_run_106 rfl ?_
          exact p_ireturn dX11_run_108 (Nat.le_of_ble_eq_true rfl) (Nat.le_of_ble_eq_true rfl) ⟨_, rfl, rfl, ok_some h⟩
        · refine p_aload_n dX11_run_89 rfl ?_
          refine p_iload_n dX11_run_90 rfl ?_
          refine p_iload dX11_run_91 rfl ?_
          refine cV_Ir [vI v1, vI (((D.2 76 (Int.toNat 0)) * v2) + s.2)] [] dX11_run_93 yv_X11_runEnd ml_X11_316 (r := (RX11, TX11, 41)) rfl rfl (Nat.le_of_ble_eq_true rfl) rfl (Nat.le_of_ble_eq_true rfl) (Nat.le_of_ble_eq_true rfl) (Nat.le_of_ble_eq_true rfl) rfl h (fun K h => s_X11_runEnd hG h) (fun r93 h => ?_)
          refine p_aload_n dX11_run_96 rfl ?_
          refine p_getr dX11_run_97 fl_X11_17 (fun _ _ _ => rfl) rfl rfl ?_
          refine p_iconst dX11_run_100 ?_
          refine q_iald dX11_run_101 rfl rfl h (fun h => ?_)
          refine q_irem dX11_run_102 h (fun h => ?_)
          refine p_goto (tgt := 108) dX11_run_103 (by decide) ?_
          exact p_ireturn dX11_run_108 (Nat.le_of_ble_eq_true rfl) (Nat.le_of_ble_eq_true rfl) ⟨_, rfl, rfl, ok_some h⟩
    · refine p_goto (tgt := 112) dX11_run_75 (by decide) ?_
      refine p_iinc dX11_run_112 rfl (Nat.le_of_ble_eq_true rfl) rfl ?_
      refine p_goto (tgt := 41) dX11_run_115 (by decide) ?_
      exact p_weak (leL.same (leL.same (leL.same (leL.same (leL.same (leL.same (leL.same (leL.drop leL.nil)))))))) (kl_inl (P := (P_X11_run_41 l g n K v1 v2 v3 v4 D)) h)
set_option maxRecDepth 100000 in
set_option maxHeartbeats 4000000 in
theorem x_X11_run {l : Launch} {g : GH} (hG : G0 l g) {n : Nat} {v1 : Int} {v2 : Int} {v3 : Int} {v4 : Int} {D : DT} {K : (Int × DT) → Prop} (h : ok (m_X11_run v1 v2 v3 v4 D) K) : Px (E_X11_run l g (PIw n K)) 0 [some (vR g 73), some (vI v1), some (vI v2), some (vI v3), some (vI v4), none, none, none] [] (LF n) D 0 0 := by
  refine p_aload_n dX11_run_0 rfl ?_
  refine p_iconst dX11_run_1 ?_
  refine q_puti dX11_run_2 fq_X11_106 rfl rfl h (fun D2 h => ?_)
  refine p_aload_n dX11_run_5 rfl ?_
  refine p_iload_n dX11_run_6 rfl ?_
  refine cV_Iw [vI v1] [] dX11_run_7 yv_X11_noZone ml_X11_267 (r := (RX11, TX11, 41)) rfl rfl (Nat.le_of_ble_eq_true rfl) rfl (Nat.le_of_ble_eq_true rfl) (Nat.le_of_ble_eq_true rfl) (Nat.le_of_ble_eq_true rfl) rfl h (fun K h => s_X11_noZone hG h) (fun r7 D7 h => ?_)
  refine q_if_ne (tgt := 21) dX11_run_10 (by decide) h (fun h => ?_) (fun h => ?_)
  · refine p_iconst dX11_run_21 ?_
    exact p_ireturn dX11_run_22 (Nat.le_of_ble_eq_true rfl) (Nat.le_of_ble_eq_true rfl) ⟨_, rfl, rfl, ok_some h⟩
  · refine p_aload_n dX11_run_13 rfl ?_
    refine p_iload_n dX11_run_14 rfl ?_
    refine cV_Iw [vI v2] [] dX11_run_15 yv_X11_noRow ml_X11_295 (r := (RX11, TX11, 41)) rfl rfl (Nat.le_of_ble_eq_true rfl) rfl (Nat.le_of_ble_eq_true rfl) (Nat.le_of_ble_eq_true rfl) (Nat.le_of_ble_eq_true rfl) rfl h (fun K h => s_X11_noRow hG h) (fun r15 D15 h => ?_)
    refine q_if_eq (tgt := 23) dX11_run_18 (by decide) h (fun h => ?_) (fun h => ?_)
    · refine p_iload_n dX11_run_23 rfl ?_
      refine p_iconst dX11_run_24 ?_
      refine q_icmp_ne (tgt := 35) dX11_run_25 (by decide) h (fun h => ?_) (fun h => ?_)
      · refine p_iconst dX11_run_35 ?_
        refine p_istore dX11_run_36 (Nat.le_of_ble_eq_true rfl) rfl ?_
        refine p_iconst dX11_run_38 ?_
        refine p_istore dX11_run_39 (Nat.le_of_ble_eq_true rfl) rfl ?_
        exact p_weak (leL.same (leL.same (leL.same (leL.same (leL.same (leL.same (leL.same (leL.drop leL.nil)))))))) (x_X11_run_41 hG h)
      · refine p_aload_n dX11_run_28 rfl ?_
        refine p_iload_n dX11_run_29 rfl ?_
        refine p_iload_n dX11_run_30 rfl ?_
        refine cV_Ir [vI v1, vI v2] [] dX11_run_31 yv_X11_runsIn ml_X11_277 (r := (RX11, TX11, 41)) rfl rfl (Nat.le_of_ble_eq_true rfl) rfl (Nat.le_of_ble_eq_true rfl) (Nat.le_of_ble_eq_true rfl) (Nat.le_of_ble_eq_true rfl) rfl h (fun K h => s_X11_runsIn hG h) (fun r31 h => ?_)
        exact p_ireturn dX11_run_34 (Nat.le_of_ble_eq_true rfl) (Nat.le_of_ble_eq_true rfl) ⟨_, rfl, rfl, ok_some h⟩
    · refine p_iconst dX11_run_21 ?_
      exact p_ireturn dX11_run_22 (Nat.le_of_ble_eq_true rfl) (Nat.le_of_ble_eq_true rfl) ⟨_, rfl, rfl, ok_some h⟩
theorem s_X11_run {l : Launch} {g : GH} (hG : G0 l g) {n : Nat} {v1 : Int} {v2 : Int} {v3 : Int} {v4 : Int} {D : DT} {K : (Int × DT) → Prop} (h : ok (m_X11_run v1 v2 v3 v4 D) K) : Sat l g yX11_run cX11_run 8 (some .int) 3 0 0 [vR g 73, vI v1, vI v2, vI v3, vI v4] (LF n) D (PIw n K) := Sat.of hG (by decide) (Nat.le_of_ble_eq_true rfl) (by simp [Value.category]) (x_X11_run hG h)
abbrev E_X11_part (l : Launch) (g : GH) (P : PT) : ENV := mkE l g yX11_part cX11_part 3 (some .int) [] 2 0 0 P
set_option maxRecDepth 100000 in
set_option maxHeartbeats 4000000 in
theorem x_X11_part {l : Launch} {g : GH} (hG : G0 l g) {n : Nat} {v1 : Int} {D : DT} {K : (Int × DT) → Prop} (h : ok (m_X11_part v1 D) K) : Px (E_X11_part l g (PIw n K)) 0 [some (vR g 73), some (vI v1), none] [] (LF n) D 0 0 := by
  refine p_aload_n dX11_part_0 rfl ?_
  refine p_iconst dX11_part_1 ?_
  refine q_puti dX11_part_2 fq_X11_106 rfl rfl h (fun D2 h => ?_)
  refine p_aload_n dX11_part_5 rfl ?_
  refine p_iload_n dX11_part_6 rfl ?_
  refine cV_Iw [vI v1] [] dX11_part_7 yv_X11_noCell ml_X11_255 (r := (RX11, TX11, 41)) rfl rfl (Nat.le_of_ble_eq_true rfl) rfl (Nat.le_of_ble_eq_true rfl) (Nat.le_of_ble_eq_true rfl) (Nat.le_of_ble_eq_true rfl) rfl h (fun K h => s_X11_noCell hG h) (fun r7 D7 h => ?_)
  refine q_if_ne (tgt := 21) dX11_part_10 (by decide) h (fun h => ?_) (fun h => ?_)
  · refine p_aload_n dX11_part_21 rfl ?_
    refine p_geti dX11_part_22 fl_X11_106 (fun _ _ _ => rfl) rfl ?_
    refine q_if_le (tgt := 32) dX11_part_25 (by decide) h (fun h => ?_) (fun h => ?_)
    · refine p_iconst dX11_part_32 ?_
      exact p_ireturn dX11_part_33 (Nat.le_of_ble_eq_true rfl) (Nat.le_of_ble_eq_true rfl) ⟨_, rfl, rfl, ok_some h⟩
    · refine p_iconst dX11_part_28 ?_
      refine p_goto (tgt := 33) dX11_part_29 (by decide) ?_
      exact p_ireturn dX11_part_33 (Nat.le_of_ble_eq_true rfl) (Nat.le_of_ble_eq_true rfl) ⟨_, rfl, rfl, ok_some h⟩
  · refine p_aload_n dX11_part_13 rfl ?_
    refine p_iload_n dX11_part_14 rfl ?_
    refine cV_Ir [vI v1] [] dX11_part_15 yv_X11_isLand ml_X11_261 (r := (RX11, TX11, 41)) rfl rfl (Nat.le_of_ble_eq_true rfl) rfl (Nat.le_of_ble_eq_true rfl) (Nat.le_of_ble_eq_true rfl) (Nat.le_of_ble_eq_true rfl) rfl h (fun K h => s_X11_isLand hG h) (fun r15 h => ?_)
    refine q_if_ne (tgt := 34) dX11_part_18 (by decide) h (fun h => ?_) (fun h => ?_)
    · refine p_aload_n dX11_part_34 rfl ?_
      refine p_aload_n dX11_part_35 rfl ?_
      refine p_getr dX11_part_36 fl_X11_23 (fun _ _ _ => rfl) rfl rfl ?_
      refine p_iload_n dX11_part_39 rfl ?_
      refine q_iald dX11_part_40 rfl rfl h (fun h => ?_)
      refine cV_Iw [vI (D7.2 78 (Int.toNat v1))] [] dX11_part_41 yv_X11_laysParts ml_X11_270 (r := (RX11, TX11, 41)) rfl rfl (Nat.le_of_ble_eq_true rfl) rfl (Nat.le_of_ble_eq_true rfl) (Nat.le_of_ble_eq_true rfl) (Nat.le_of_ble_eq_true rfl) rfl h (fun K h => s_X11_laysParts hG h) (fun r41 D41 h => ?_)
      refine p_istore_n dX11_part_44 (Nat.le_of_ble_eq_true rfl) rfl ?_
      refine p_aload_n dX11_part_45 rfl ?_
      refine p_getr dX11_part_46 fl_X11_85 (fun _ _ _ => rfl) rfl rfl ?_
      refine p_iload_n dX11_part_49 rfl ?_
      refine q_iald dX11_part_50 rfl rfl h (fun h => ?_)
      exact p_ireturn dX11_part_51 (Nat.le_of_ble_eq_true rfl) (Nat.le_of_ble_eq_true rfl) ⟨_, rfl, rfl, ok_some h⟩
    · refine p_aload_n dX11_part_21 rfl ?_
      refine p_geti dX11_part_22 fl_X11_106 (fun _ _ _ => rfl) rfl ?_
      refine q_if_le (tgt := 32) dX11_part_25 (by decide) h (fun h => ?_) (fun h => ?_)
      · refine p_iconst dX11_part_32 ?_
        exact p_ireturn dX11_part_33 (Nat.le_of_ble_eq_true rfl) (Nat.le_of_ble_eq_true rfl) ⟨_, rfl, rfl, ok_some h⟩
      · refine p_iconst dX11_part_28 ?_
        refine p_goto (tgt := 33) dX11_part_29 (by decide) ?_
        exact p_ireturn dX11_part_33 (Nat.le_of_ble_eq_true rfl) (Nat.le_of_ble_eq_true rfl) ⟨_, rfl, rfl, ok_some h⟩
theorem s_X11_part {l : Launch} {g : GH} (hG : G0 l g) {n : Nat} {v1 : Int} {D : DT} {K : (Int × DT) → Prop} (h : ok (m_X11_part v1 D) K) : Sat l g yX11_part cX11_part 3 (some .int) 2 0 0 [vR g 73, vI v1] (LF n) D (PIw n K) := Sat.of hG (by decide) (Nat.le_of_ble_eq_true rfl) (by simp [Value.category]) (x_X11_part hG h)
abbrev E_X11_leastFar (l : Launch) (g : GH) (P : PT) : ENV := mkE l g yX11_leastFar cX11_leastFar 6 (some .int) [] 2 0 0 P
abbrev P_X11_leastFar_5 (l : Launch) (g : GH) (n : Nat) (K : Int → Prop) (v1 : Int) (v2 : Int) (D : DT) : (Int × Int) → Prop := fun s => Px (E_X11_leastFar l g (PIr n D K)) 5 [some (vR g 73), some (vI v1), some (vI v2), some (vI s.1), some (vI s.2), none] [] (LF n) D 0 0
set_option maxRecDepth 100000 in
set_option maxHeartbeats 4000000 in
theorem x_X11_leastFar_43 {l : Launch} {g : GH} (hG : G0 l g) {n : Nat} {v1 v2 v3 v4 : Int} {D : DT} {K : Int → Prop} (h : ok (m_X11_leastFar_43 v1 v2 v3 v4 D) (KL (P_X11_leastFar_5 l g n K v1 v2 D) K)) : Px (E_X11_leastFar l g (PIr n D K)) 43 [some (vR g 73), some (vI v1), some (vI v2), some (vI v3), some (vI v4), none] [] (LF n) D 0 0 := by
  refine p_aload_n dX11_leastFar_43 rfl ?_
  refine p_iload dX11_leastFar_44 rfl ?_
  refine p_iload_n dX11_leastFar_46 rfl ?_
  refine cV_Ir [vI v4, vI v1] [] dX11_leastFar_47 yv_X11_far ml_X11_236 (r := (RX11, TX11, 41)) rfl rfl (Nat.le_of_ble_eq_true rfl) rfl (Nat.le_of_ble_eq_true rfl) (Nat.le_of_ble_eq_true rfl) (Nat.le_of_ble_eq_true rfl) rfl h (fun K h => s_X11_far hG h) (fun r47 h => ?_)
  refine p_istore dX11_leastFar_50 (Nat.le_of_ble_eq_true rfl) rfl ?_
  refine p_iload_n dX11_leastFar_52 rfl ?_
  refine p_iconst dX11_leastFar_53 ?_
  refine q_icmp_eq (tgt := 63) dX11_leastFar_54 (by decide) h (fun h => ?_) (fun h => ?_)
  · refine p_iload dX11_leastFar_63 rfl ?_
    refine p_goto (tgt := 69) dX11_leastFar_65 (by decide) ?_
    refine p_istore_n dX11_leastFar_69 (Nat.le_of_ble_eq_true rfl) rfl ?_
    refine p_iinc dX11_leastFar_70 rfl (Nat.le_of_ble_eq_true rfl) rfl ?_
    refine p_goto (tgt := 5) dX11_leastFar_73 (by decide) ?_
    exact p_weak (leL.same (leL.same (leL.same (leL.same (leL.same (leL.drop leL.nil)))))) (kl_inl (P := (P_X11_leastFar_5 l g n K v1 v2 D)) h)
  · refine p_iload dX11_leastFar_57 rfl ?_
    refine p_iload_n dX11_leastFar_59 rfl ?_
    refine q_icmp_ge (tgt := 68) dX11_leastFar_60 (by decide) h (fun h => ?_) (fun h => ?_)
    · refine p_iload_n dX11_leastFar_68 rfl ?_
      refine p_istore_n dX11_leastFar_69 (Nat.le_of_ble_eq_true rfl) rfl ?_
      refine p_iinc dX11_leastFar_70 rfl (Nat.le_of_ble_eq_true rfl) rfl ?_
      refine p_goto (tgt := 5) dX11_leastFar_73 (by decide) ?_
      exact p_weak (leL.same (leL.same (leL.same (leL.same (leL.same (leL.drop leL.nil)))))) (kl_inl (P := (P_X11_leastFar_5 l g n K v1 v2 D)) h)
    · refine p_iload dX11_leastFar_63 rfl ?_
      refine p_goto (tgt := 69) dX11_leastFar_65 (by decide) ?_
      refine p_istore_n dX11_leastFar_69 (Nat.le_of_ble_eq_true rfl) rfl ?_
      refine p_iinc dX11_leastFar_70 rfl (Nat.le_of_ble_eq_true rfl) rfl ?_
      refine p_goto (tgt := 5) dX11_leastFar_73 (by decide) ?_
      exact p_weak (leL.same (leL.same (leL.same (leL.same (leL.same (leL.drop leL.nil)))))) (kl_inl (P := (P_X11_leastFar_5 l g n K v1 v2 D)) h)
set_option maxRecDepth 100000 in
set_option maxHeartbeats 4000000 in
theorem x_X11_leastFar_5 {l : Launch} {g : GH} (hG : G0 l g) {n : Nat} {v1 v2 : Int} {D : DT} {K : Int → Prop} {s : (Int × Int)} (h : ok (m_X11_leastFar_5 v1 v2 D s) K) : Px (E_X11_leastFar l g (PIr n D K)) 5 [some (vR g 73), some (vI v1), some (vI v2), some (vI s.1), some (vI s.2), none] [] (LF n) D 0 0 := by
  refine ok_loop (P := (P_X11_leastFar_5 l g n K v1 v2 D)) (fun s h => ?_) h
  refine p_iload dX11_leastFar_5 rfl ?_
  refine p_aload_n dX11_leastFar_7 rfl ?_
  refine cV_Ir [] [vI s.2] dX11_leastFar_8 yv_X11_cells ml_X11_229 (r := (RX11, TX11, 41)) rfl rfl (Nat.le_of_ble_eq_true rfl) rfl (Nat.le_of_ble_eq_true rfl) (Nat.le_of_ble_eq_true rfl) (Nat.le_of_ble_eq_true rfl) rfl h (fun K h => s_X11_cells hG h) (fun r8 h => ?_)
  refine q_icmp_ge (tgt := 76) dX11_leastFar_11 (by decide) h (fun h => ?_) (fun h => ?_)
  · have h := kl_inr h
    refine p_iload_n dX11_leastFar_76 rfl ?_
    exact p_ireturn dX11_leastFar_77 (Nat.le_of_ble_eq_true rfl) (Nat.le_of_ble_eq_true rfl) ⟨_, rfl, rfl, rfl, ok_some h⟩
  · refine p_iload_n dX11_leastFar_14 rfl ?_
    refine q_if_eq (tgt := 31) dX11_leastFar_15 (by decide) h (fun h => ?_) (fun h => ?_)
    · refine p_aload_n dX11_leastFar_31 rfl ?_
      refine p_iload dX11_leastFar_32 rfl ?_
      refine cV_Ir [vI s.2] [] dX11_leastFar_34 yv_X11_hasDots ml_X11_292 (r := (RX11, TX11, 41)) rfl rfl (Nat.le_of_ble_eq_true rfl) rfl (Nat.le_of_ble_eq_true rfl) (Nat.le_of_ble_eq_true rfl) (Nat.le_of_ble_eq_true rfl) rfl h (fun K h => s_X11_hasDots hG h) (fun r34 h => ?_)
      refine q_if_ne (tgt := 43) dX11_leastFar_37 (by decide) h (fun h => ?_) (fun h => ?_)
      · exact p_weak (leL.same (leL.same (leL.same (leL.same (leL.same (leL.drop leL.nil)))))) (x_X11_leastFar_43 hG h)
      · refine p_goto (tgt := 70) dX11_leastFar_40 (by decide) ?_
        refine p_iinc dX11_leastFar_70 rfl (Nat.le_of_ble_eq_true rfl) rfl ?_
        refine p_goto (tgt := 5) dX11_leastFar_73 (by decide) ?_
        exact p_weak (leL.same (leL.same (leL.same (leL.same (leL.same (leL.drop leL.nil)))))) (kl_inl (P := (P_X11_leastFar_5 l g n K v1 v2 D)) h)
    · refine p_aload_n dX11_leastFar_18 rfl ?_
      refine p_getr dX11_leastFar_19 fl_X11_29 (fun _ _ _ => rfl) rfl rfl ?_
      refine p_iload dX11_leastFar_22 rfl ?_
      refine q_zald dX11_leastFar_24 rfl rfl h (fun h => ?_)
      refine q_if_eq (tgt := 70) dX11_leastFar_25 (by decide) h (fun h => ?_) (fun h => ?_)
      · refine p_iinc dX11_leastFar_70 rfl (Nat.le_of_ble_eq_true rfl) rfl ?_
        refine p_goto (tgt := 5) dX11_leastFar_73 (by decide) ?_
        exact p_weak (leL.same (leL.same (leL.same (leL.same (leL.same (leL.drop leL.nil)))))) (kl_inl (P := (P_X11_leastFar_5 l g n K v1 v2 D)) h)
      · refine p_goto (tgt := 43) dX11_leastFar_28 (by decide) ?_
        exact p_weak (leL.same (leL.same (leL.same (leL.same (leL.same (leL.drop leL.nil)))))) (x_X11_leastFar_43 hG h)
set_option maxRecDepth 100000 in
set_option maxHeartbeats 4000000 in
theorem x_X11_leastFar {l : Launch} {g : GH} (hG : G0 l g) {n : Nat} {v1 : Int} {v2 : Int} {D : DT} {K : Int → Prop} (h : ok (m_X11_leastFar v1 v2 D) K) : Px (E_X11_leastFar l g (PIr n D K)) 0 [some (vR g 73), some (vI v1), some (vI v2), none, none, none] [] (LF n) D 0 0 := by
  refine p_iconst dX11_leastFar_0 ?_
  refine p_istore_n dX11_leastFar_1 (Nat.le_of_ble_eq_true rfl) rfl ?_
  refine p_iconst dX11_leastFar_2 ?_
  refine p_istore dX11_leastFar_3 (Nat.le_of_ble_eq_true rfl) rfl ?_
  exact p_weak (leL.same (leL.same (leL.same (leL.same (leL.same (leL.drop leL.nil)))))) (x_X11_leastFar_5 hG h)
theorem s_X11_leastFar {l : Launch} {g : GH} (hG : G0 l g) {n : Nat} {v1 : Int} {v2 : Int} {D : DT} {K : Int → Prop} (h : ok (m_X11_leastFar v1 v2 D) K) : Sat l g yX11_leastFar cX11_leastFar 6 (some .int) 2 0 0 [vR g 73, vI v1, vI v2] (LF n) D (PIr n D K) := Sat.of hG (by decide) (Nat.le_of_ble_eq_true rfl) (by simp [Value.category]) (x_X11_leastFar hG h)
