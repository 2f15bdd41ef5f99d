abbrev E_X11_measureOf (l : Launch) (g : GH) (P : PT) : ENV := mkE l g yX11_measureOf cX11_measureOf 6 (some .int) [] 3 0 0 P
abbrev P_X11_measureOf_46 (l : Launch) (g : GH) (n : Nat) (K : Int → Prop) (v1 : Int) (v3 : Int) (D : DT) : (Int × Int) → Prop := fun s => Px (E_X11_measureOf l g (PIr n D K)) 46 [some (vR g 73), some (vI v1), none, some (vI v3), some (vI s.1), some (vI s.2)] [] (LF n) D 0 0
set_option maxRecDepth 100000 in
set_option maxHeartbeats 4000000 in
theorem x_X11_measureOf_46 {l : Launch} {g : GH} (hG : G0 l g) {n : Nat} {v1 v3 : Int} {D : DT} {K : Int → Prop} {s : (Int × Int)} (h : ok (m_X11_measureOf_46 v1 v3 D s) K) : Px (E_X11_measureOf l g (PIr n D K)) 46 [some (vR g 73), some (vI v1), none, some (vI v3), some (vI s.1), some (vI s.2)] [] (LF n) D 0 0 := by
  refine ok_loop (P := (P_X11_measureOf_46 l g n K v1 v3 D)) (fun s h => ?_) h
  refine p_iload dX11_measureOf_46 rfl ?_
  refine p_aload_n dX11_measureOf_48 rfl ?_
  refine cV_Ir [] [vI s.2] dX11_measureOf_49 yv_X11_cells ml_X11_229 (r := (RX11, TX11, 41)) rfl rfl (Nat.le_of_ble_eq_true rfl) rfl (Nat.le_of_ble_eq_true rfl) (Nat.le_of_ble_eq_true rfl) (Nat.le_of_ble_eq_true rfl) rfl h (fun K h => s_X11_cells hG h) (fun r49 h => ?_)
  refine q_icmp_ge (tgt := 88) dX11_measureOf_52 (by decide) h (fun h => ?_) (fun h => ?_)
  · have h := kl_inr h
    refine p_iload dX11_measureOf_88 rfl ?_
    exact p_ireturn dX11_measureOf_90 (Nat.le_of_ble_eq_true rfl) (Nat.le_of_ble_eq_true rfl) ⟨_, rfl, rfl, rfl, ok_some h⟩
  · refine p_iload dX11_measureOf_55 rfl ?_
    refine p_aload_n dX11_measureOf_57 rfl ?_
    refine p_iload dX11_measureOf_58 rfl ?_
    refine p_iload_n dX11_measureOf_60 rfl ?_
    refine cV_Ir [vI s.2, vI v1] [vI s.1] dX11_measureOf_61 yv_X11_far ml_X11_236 (r := (RX11, TX11, 41)) rfl rfl (Nat.le_of_ble_eq_true rfl) rfl (Nat.le_of_ble_eq_true rfl) (Nat.le_of_ble_eq_true rfl) (Nat.le_of_ble_eq_true rfl) rfl h (fun K h => s_X11_far hG h) (fun r61 h => ?_)
    refine p_iload_n dX11_measureOf_64 rfl ?_
    refine q_icmp_gt (tgt := 78) dX11_measureOf_65 (by decide) h (fun h => ?_) (fun h => ?_)
    · refine p_iconst dX11_measureOf_78 ?_
      refine p_iadd dX11_measureOf_79 ?_
      refine p_istore dX11_measureOf_80 (Nat.le_of_ble_eq_true rfl) rfl ?_
      refine p_iinc dX11_measureOf_82 rfl (Nat.le_of_ble_eq_true rfl) rfl ?_
      refine p_goto (tgt := 46) dX11_measureOf_85 (by decide) ?_
      exact p_weak (leL.same (leL.same (leL.drop (leL.same (leL.same (leL.same leL.nil)))))) (kl_inl (P := (P_X11_measureOf_46 l g n K v1 v3 D)) h)
    · refine p_aload_n dX11_measureOf_68 rfl ?_
      refine p_iload dX11_measureOf_69 rfl ?_
      refine p_iconst dX11_measureOf_71 ?_
      refine cV_Ir [vI s.2, vI (-1)] [vI s.1] dX11_measureOf_72 yv_X11_crowdOf ml_X11_252 (r := (RX11, TX11, 41)) rfl rfl (Nat.le_of_ble_eq_true rfl) rfl (Nat.le_of_ble_eq_true rfl) (Nat.le_of_ble_eq_true rfl) (Nat.le_of_ble_eq_true rfl) rfl h (fun K h => s_X11_crowdOf hG h) (fun r72 h => ?_)
      refine p_goto (tgt := 79) dX11_measureOf_75 (by decide) ?_
      refine p_iadd dX11_measureOf_79 ?_
      refine p_istore dX11_measureOf_80 (Nat.le_of_ble_eq_true rfl) rfl ?_
      refine p_iinc dX11_measureOf_82 rfl (Nat.le_of_ble_eq_true rfl) rfl ?_
      refine p_goto (tgt := 46) dX11_measureOf_85 (by decide) ?_
      exact p_weak (leL.same (leL.same (leL.drop (leL.same (leL.same (leL.same leL.nil)))))) (kl_inl (P := (P_X11_measureOf_46 l g n K v1 v3 D)) h)
abbrev P_X11_measureOf_108 (l : Launch) (g : GH) (n : Nat) (K : Int → Prop) (v1 : Int) (D : DT) : (Int × Int) → Prop := fun s => Px (E_X11_measureOf l g (PIr n D K)) 108 [some (vR g 73), some (vI v1), none, none, some (vI s.1), some (vI s.2)] [] (LF n) D 0 0
set_option maxRecDepth 100000 in
set_option maxHeartbeats 4000000 in
theorem x_X11_measureOf_108 {l : Launch} {g : GH} (hG : G0 l g) {n : Nat} {v1 : Int} {D : DT} {K : Int → Prop} {s : (Int × Int)} (h : ok (m_X11_measureOf_108 v1 D s) K) : Px (E_X11_measureOf l g (PIr n D K)) 108 [some (vR g 73), some (vI v1), none, none, some (vI s.1), some (vI s.2)] [] (LF n) D 0 0 := by
  refine ok_loop (P := (P_X11_measureOf_108 l g n K v1 D)) (fun s h => ?_) h
  refine p_iload dX11_measureOf_108 rfl ?_
  refine p_aload_n dX11_measureOf_110 rfl ?_
  refine cV_Ir [] [vI s.2] dX11_measureOf_111 yv_X11_cells ml_X11_229 (r := (RX11, TX11, 41)) rfl rfl (Nat.le_of_ble_eq_true rfl) rfl (Nat.le_of_ble_eq_true rfl) (Nat.le_of_ble_eq_true rfl) (Nat.le_of_ble_eq_true rfl) rfl h (fun K h => s_X11_cells hG h) (fun r111 h => ?_)
  refine q_icmp_ge (tgt := 182) dX11_measureOf_114 (by decide) h (fun h => ?_) (fun h => ?_)
  · have h := kl_inr h
    refine p_iload dX11_measureOf_182 rfl ?_
    exact p_ireturn dX11_measureOf_184 (Nat.le_of_ble_eq_true rfl) (Nat.le_of_ble_eq_true rfl) ⟨_, rfl, rfl, rfl, ok_some h⟩
  · refine p_iload dX11_measureOf_117 rfl ?_
    refine p_aload_n dX11_measureOf_119 rfl ?_
    refine p_iload dX11_measureOf_120 rfl ?_
    refine cV_Ir [vI s.2] [vI s.1] dX11_measureOf_122 yv_X11_hasDots ml_X11_292 (r := (RX11, TX11, 41)) rfl rfl (Nat.le_of_ble_eq_true rfl) rfl (Nat.le_of_ble_eq_true rfl) (Nat.le_of_ble_eq_true rfl) (Nat.le_of_ble_eq_true rfl) rfl h (fun K h => s_X11_hasDots hG h) (fun r122 h => ?_)
    refine q_if_eq (tgt := 172) dX11_measureOf_125 (by decide) h (fun h => ?_) (fun h => ?_)
    · refine p_iconst dX11_measureOf_172 ?_
      refine p_iadd dX11_measureOf_173 ?_
      refine p_istore dX11_measureOf_174 (Nat.le_of_ble_eq_true rfl) rfl ?_
      refine p_iinc dX11_measureOf_176 rfl (Nat.le_of_ble_eq_true rfl) rfl ?_
      refine p_goto (tgt := 108) dX11_measureOf_179 (by decide) ?_
      exact p_weak (leL.same (leL.same (leL.drop (leL.drop (leL.same (leL.same leL.nil)))))) (kl_inl (P := (P_X11_measureOf_108 l g n K v1 D)) h)
    · refine p_iload dX11_measureOf_128 rfl ?_
      refine p_aload_n dX11_measureOf_130 rfl ?_
      refine p_getr dX11_measureOf_131 fl_X11_17 (fun _ _ _ => rfl) rfl rfl ?_
      refine p_iconst dX11_measureOf_134 ?_
      refine q_iald dX11_measureOf_135 rfl rfl h (fun h => ?_)
      refine q_idiv dX11_measureOf_136 h (fun h => ?_)
      refine p_iload_n dX11_measureOf_137 rfl ?_
      refine p_aload_n dX11_measureOf_138 rfl ?_
      refine p_getr dX11_measureOf_139 fl_X11_17 (fun _ _ _ => rfl) rfl rfl ?_
      refine p_iconst dX11_measureOf_142 ?_
      refine q_iald dX11_measureOf_143 rfl rfl h (fun h => ?_)
      refine q_idiv dX11_measureOf_144 h (fun h => ?_)
      refine q_icmp_eq (tgt := 168) dX11_measureOf_145 (by decide) h (fun h => ?_) (fun h => ?_)
      · refine p_iconst dX11_measureOf_168 ?_
        refine p_goto (tgt := 173) dX11_measureOf_169 (by decide) ?_
        refine p_iadd dX11_measureOf_173 ?_
        refine p_istore dX11_measureOf_174 (Nat.le_of_ble_eq_true rfl) rfl ?_
        refine p_iinc dX11_measureOf_176 rfl (Nat.le_of_ble_eq_true rfl) rfl ?_
        refine p_goto (tgt := 108) dX11_measureOf_179 (by decide) ?_
        exact p_weak (leL.same (leL.same (leL.drop (leL.drop (leL.same (leL.same leL.nil)))))) (kl_inl (P := (P_X11_measureOf_108 l g n K v1 D)) h)
      · refine p_iload dX11_measureOf_148 rfl ?_
        refine p_aload_n dX11_measureOf_150 rfl ?_
        refine p_getr dX11_measureOf_151 fl_X11_17 (fun _ _ _ => rfl) rfl rfl ?_
        refine p_iconst dX11_measureOf_154 ?_
        refine q_iald dX11_measureOf_155 rfl rfl h (fun h => ?_)
        refine q_irem dX11_measureOf_156 h (fun h => ?_)
        refine p_iload_n dX11_measureOf_157 rfl ?_
        refine p_aload_n dX11_measureOf_158 rfl ?_
        refine p_getr dX11_measureOf_159 fl_X11_17 (fun _ _ _ => rfl) rfl rfl ?_
        refine p_iconst dX11_measureOf_162 ?_
        refine q_iald dX11_measureOf_163 rfl rfl h (fun h => ?_)
        refine q_irem dX11_measureOf_164 h (fun h => ?_)
        refine q_icmp_ne (tgt := 172) dX11_measureOf_165 (by decide) h (fun h => ?_) (fun h => ?_)
        · refine p_iconst dX11_measureOf_172 ?_
          refine p_iadd dX11_measureOf_173 ?_
          refine p_istore dX11_measureOf_174 (Nat.le_of_ble_eq_true rfl) rfl ?_
          refine p_iinc dX11_measureOf_176 rfl (Nat.le_of_ble_eq_true rfl) rfl ?_
          refine p_goto (tgt := 108) dX11_measureOf_179 (by decide) ?_
          exact p_weak (leL.same (leL.same (leL.drop (leL.drop (leL.same (leL.same leL.nil)))))) (kl_inl (P := (P_X11_measureOf_108 l g n K v1 D)) h)
        · refine p_iconst dX11_measureOf_168 ?_
          refine p_goto (tgt := 173) dX11_measureOf_169 (by decide) ?_
          refine p_iadd dX11_measureOf_173 ?_
          refine p_istore dX11_measureOf_174 (Nat.le_of_ble_eq_true rfl) rfl ?_
          refine p_iinc dX11_measureOf_176 rfl (Nat.le_of_ble_eq_true rfl) rfl ?_
          refine p_goto (tgt := 108) dX11_measureOf_179 (by decide) ?_
          exact p_weak (leL.same (leL.same (leL.drop (leL.drop (leL.same (leL.same leL.nil)))))) (kl_inl (P := (P_X11_measureOf_108 l g n K v1 D)) h)
set_option maxRecDepth 100000 in
set_option maxHeartbeats 4000000 in
theorem x_X11_measureOf {l : Launch} {g : GH} (hG : G0 l g) {n : Nat} {v1 : Int} {v2 : Int} {v3 : Int} {D : DT} {K : Int → Prop} (h : ok (m_X11_measureOf v1 v2 v3 D) K) : Px (E_X11_measureOf l g (PIr n D K)) 0 [some (vR g 73), some (vI v1), some (vI v2), some (vI v3), none, none] [] (LF n) D 0 0 := by
  refine p_iconst dX11_measureOf_0 ?_
  refine p_istore dX11_measureOf_1 (Nat.le_of_ble_eq_true rfl) rfl ?_
  refine p_iload_n dX11_measureOf_3 rfl ?_
  obtain ⟨hr, h⟩ := ok_gd h
  by_cases e0 : v2 = 0
  · have h := (ok_ite h).1 e0
    refine p_tableIn (tgt := 36) dX11_measureOf_4 hr (by omega) (by omega) (by rw [e0]; try rfl) (by decide) ?_
    refine p_aload_n dX11_measureOf_36 rfl ?_
    refine p_iload_n dX11_measureOf_37 rfl ?_
    refine p_iconst dX11_measureOf_38 ?_
    refine cV_Ir [vI v1, vI (-1)] [] dX11_measureOf_39 yv_X11_crowdOf ml_X11_252 (r := (RX11, TX11, 41)) rfl rfl (Nat.le_of_ble_eq_true rfl) rfl (Nat.le_of_ble_eq_true rfl) (Nat.le_of_ble_eq_true rfl) (Nat.le_of_ble_eq_true rfl) rfl h (fun K h => s_X11_crowdOf hG h) (fun r39 h => ?_)
    exact p_ireturn dX11_measureOf_42 (Nat.le_of_ble_eq_true rfl) (Nat.le_of_ble_eq_true rfl) ⟨_, rfl, rfl, rfl, ok_some h⟩
  have h := (ok_ite h).2 e0
  by_cases e1 : v2 = 1
  · have h := (ok_ite h).1 e1
    refine p_tableIn (tgt := 43) dX11_measureOf_4 hr (by omega) (by omega) (by rw [e1]; try rfl) (by decide) ?_
    refine p_iconst dX11_measureOf_43 ?_
    refine p_istore dX11_measureOf_44 (Nat.le_of_ble_eq_true rfl) rfl ?_
    exact p_weak (leL.same (leL.same (leL.drop (leL.same (leL.same (leL.same leL.nil)))))) (x_X11_measureOf_46 hG h)
  have h := (ok_ite h).2 e1
  by_cases e2 : v2 = 2
  · have h := (ok_ite h).1 e2
    refine p_tableIn (tgt := 91) dX11_measureOf_4 hr (by omega) (by omega) (by rw [e2]; try rfl) (by decide) ?_
    refine p_aload_n dX11_measureOf_91 rfl ?_
    refine p_iload_n dX11_measureOf_92 rfl ?_
    refine p_iconst dX11_measureOf_93 ?_
    refine cV_Ir [vI v1, vI 0] [] dX11_measureOf_94 yv_X11_leastFar ml_X11_319 (r := (RX11, TX11, 41)) rfl rfl (Nat.le_of_ble_eq_true rfl) rfl (Nat.le_of_ble_eq_true rfl) (Nat.le_of_ble_eq_true rfl) (Nat.le_of_ble_eq_true rfl) rfl h (fun K h => s_X11_leastFar hG h) (fun r94 h => ?_)
    exact p_ireturn dX11_measureOf_97 (Nat.le_of_ble_eq_true rfl) (Nat.le_of_ble_eq_true rfl) ⟨_, rfl, rfl, rfl, ok_some h⟩
  have h := (ok_ite h).2 e2
  by_cases e3 : v2 = 3
  · have h := (ok_ite h).1 e3
    refine p_tableIn (tgt := 98) dX11_measureOf_4 hr (by omega) (by omega) (by rw [e3]; try rfl) (by decide) ?_
    refine p_aload_n dX11_measureOf_98 rfl ?_
    refine p_iload_n dX11_measureOf_99 rfl ?_
    refine p_iconst dX11_measureOf_100 ?_
    refine cV_Ir [vI v1, vI 1] [] dX11_measureOf_101 yv_X11_leastFar ml_X11_319 (r := (RX11, TX11, 41)) rfl rfl (Nat.le_of_ble_eq_true rfl) rfl (Nat.le_of_ble_eq_true rfl) (Nat.le_of_ble_eq_true rfl) (Nat.le_of_ble_eq_true rfl) rfl h (fun K h => s_X11_leastFar hG h) (fun r101 h => ?_)
    exact p_ireturn dX11_measureOf_104 (Nat.le_of_ble_eq_true rfl) (Nat.le_of_ble_eq_true rfl) ⟨_, rfl, rfl, rfl, ok_some h⟩
  have h := (ok_ite h).2 e3
  refine p_tableOut (tgt := 105) dX11_measureOf_4 hr (by omega) (by decide) ?_
  refine p_iconst dX11_measureOf_105 ?_
  refine p_istore dX11_measureOf_106 (Nat.le_of_ble_eq_true rfl) rfl ?_
  exact p_weak (leL.same (leL.same (leL.drop (leL.drop (leL.same (leL.same leL.nil)))))) (x_X11_measureOf_108 hG h)
theorem s_X11_measureOf {l : Launch} {g : GH} (hG : G0 l g) {n : Nat} {v1 : Int} {v2 : Int} {v3 : Int} {D : DT} {K : Int → Prop} (h : ok (m_X11_measureOf v1 v2 v3 D) K) : Sat l g yX11_measureOf cX11_measureOf 6 (some .int) 3 0 0 [vR g 73, vI v1, vI v2, vI v3] (LF n) D (PIr n D K) := Sat.of hG (by decide) (Nat.le_of_ble_eq_true rfl) (by simp [Value.category]) (x_X11_measureOf hG h)
abbrev E_X11_noMeasure (l : Launch) (g : GH) (P : PT) : ENV := mkE l g yX11_noMeasure cX11_noMeasure 3 (some .boolean) [] 1 0 0 P
set_option maxRecDepth 100000 in
set_option maxHeartbeats 4000000 in
theorem x_X11_noMeasure_15 {l : Launch} {g : GH} (hG : G0 l g) {n : Nat} {v2 : Int} {x0 : Int} {D : DT} {K : (Int × DT) → Prop} (h : ok (m_X11_noMeasure_15 v2 x0 D) K) : Px (E_X11_noMeasure l g (PIw n K)) 15 [some (vR g 73), none, some (vI v2)] [vI x0, vR g 73] (LF n) D 0 0 := by
  refine p_iconst dX11_noMeasure_15 ?_
  refine cV_Iw [vI x0, vI 2] [] dX11_noMeasure_16 yv_X11_throwsIf ml_X11_215 (r := (RX11, TX11, 41)) rfl rfl (Nat.le_of_ble_eq_true rfl) rfl (Nat.le_of_ble_eq_true rfl) (Nat.le_of_ble_eq_true rfl) (Nat.le_of_ble_eq_true rfl) rfl h (fun K h => s_X11_throwsIf hG h) (fun r16 D16 h => ?_)
  refine q_if_ne (tgt := 46) dX11_noMeasure_19 (by decide) h (fun h => ?_) (fun h => ?_)
  · refine p_iconst dX11_noMeasure_46 ?_
    refine p_goto (tgt := 51) dX11_noMeasure_47 (by decide) ?_
    exact p_zreturn dX11_noMeasure_51 (Nat.le_of_ble_eq_true rfl) (Nat.le_of_ble_eq_true rfl) (Or.inr rfl) ⟨_, rfl, rfl, ok_some h⟩
  · refine p_aload_n dX11_noMeasure_22 rfl ?_
    refine p_iload_n dX11_noMeasure_23 rfl ?_
    refine p_iconst dX11_noMeasure_24 ?_
    refine p_sipush dX11_noMeasure_25 (by decide) ?_
    refine cS_Ir [vI v2, vI 0, vI 999] [vR g 73] dX11_noMeasure_28 ys_X11_in ml_X11_169 (Nat.le_of_ble_eq_true rfl) rfl (Nat.le_of_ble_eq_true rfl) (Nat.le_of_ble_eq_true rfl) (Nat.le_of_ble_eq_true rfl) h (fun K h => s_X11_in hG h) (fun r28 h => ?_)
    refine q_if_ne (tgt := 38) dX11_noMeasure_31 (by decide) h (fun h => ?_) (fun h => ?_)
    · refine p_iconst dX11_noMeasure_38 ?_
      refine p_iconst dX11_noMeasure_39 ?_
      refine cV_Iw [vI 0, vI 3] [] dX11_noMeasure_40 yv_X11_throwsIf ml_X11_215 (r := (RX11, TX11, 41)) rfl rfl (Nat.le_of_ble_eq_true rfl) rfl (Nat.le_of_ble_eq_true rfl) (Nat.le_of_ble_eq_true rfl) (Nat.le_of_ble_eq_true rfl) rfl h (fun K h => s_X11_throwsIf hG h) (fun r40 D40 h => ?_)
      refine q_if_eq (tgt := 50) dX11_noMeasure_43 (by decide) h (fun h => ?_) (fun h => ?_)
      · refine p_iconst dX11_noMeasure_50 ?_
        exact p_zreturn dX11_noMeasure_51 (Nat.le_of_ble_eq_true rfl) (Nat.le_of_ble_eq_true rfl) (Or.inl rfl) ⟨_, rfl, rfl, ok_some h⟩
      · refine p_iconst dX11_noMeasure_46 ?_
        refine p_goto (tgt := 51) dX11_noMeasure_47 (by decide) ?_
        exact p_zreturn dX11_noMeasure_51 (Nat.le_of_ble_eq_true rfl) (Nat.le_of_ble_eq_true rfl) (Or.inr rfl) ⟨_, rfl, rfl, ok_some h⟩
    · refine p_iconst dX11_noMeasure_34 ?_
      refine p_goto (tgt := 39) dX11_noMeasure_35 (by decide) ?_
      refine p_iconst dX11_noMeasure_39 ?_
      refine cV_Iw [vI 1, vI 3] [] dX11_noMeasure_40 yv_X11_throwsIf ml_X11_215 (r := (RX11, TX11, 41)) rfl rfl (Nat.le_of_ble_eq_true rfl) rfl (Nat.le_of_ble_eq_true rfl) (Nat.le_of_ble_eq_true rfl) (Nat.le_of_ble_eq_true rfl) rfl h (fun K h => s_X11_throwsIf hG h) (fun r40 D40 h => ?_)
      refine q_if_eq (tgt := 50) dX11_noMeasure_43 (by decide) h (fun h => ?_) (fun h => ?_)
      · refine p_iconst dX11_noMeasure_50 ?_
        exact p_zreturn dX11_noMeasure_51 (Nat.le_of_ble_eq_true rfl) (Nat.le_of_ble_eq_true rfl) (Or.inl rfl) ⟨_, rfl, rfl, ok_some h⟩
      · refine p_iconst dX11_noMeasure_46 ?_
        refine p_goto (tgt := 51) dX11_noMeasure_47 (by decide) ?_
        exact p_zreturn dX11_noMeasure_51 (Nat.le_of_ble_eq_true rfl) (Nat.le_of_ble_eq_true rfl) (Or.inr rfl) ⟨_, rfl, rfl, ok_some h⟩
set_option maxRecDepth 100000 in
set_option maxHeartbeats 4000000 in
theorem x_X11_noMeasure {l : Launch} {g : GH} (hG : G0 l g) {n : Nat} {v1 : Int} {v2 : Int} {D : DT} {K : (Int × DT) → Prop} (h : ok (m_X11_noMeasure v1 v2 D) K) : Px (E_X11_noMeasure l g (PIw n K)) 0 [some (vR g 73), some (vI v1), some (vI v2)] [] (LF n) D 0 0 := by
  refine p_aload_n dX11_noMeasure_0 rfl ?_
  refine p_iload_n dX11_noMeasure_1 rfl ?_
  refine p_iconst dX11_noMeasure_2 ?_
  refine p_iconst dX11_noMeasure_3 ?_
  refine cS_Ir [vI v1, vI 0, vI 4] [vR g 73] dX11_noMeasure_4 ys_X11_in ml_X11_169 (Nat.le_of_ble_eq_true rfl) rfl (Nat.le_of_ble_eq_true rfl) (Nat.le_of_ble_eq_true rfl) (Nat.le_of_ble_eq_true rfl) h (fun K h => s_X11_in hG h) (fun r4 h => ?_)
  refine q_if_ne (tgt := 14) dX11_noMeasure_7 (by decide) h (fun h => ?_) (fun h => ?_)
  · refine p_iconst dX11_noMeasure_14 ?_
    exact p_weak (leL.same (leL.drop (leL.same leL.nil))) (x_X11_noMeasure_15 hG h)
  · refine p_iconst dX11_noMeasure_10 ?_
    refine p_goto (tgt := 15) dX11_noMeasure_11 (by decide) ?_
    exact p_weak (leL.same (leL.drop (leL.same leL.nil))) (x_X11_noMeasure_15 hG h)
theorem s_X11_noMeasure {l : Launch} {g : GH} (hG : G0 l g) {n : Nat} {v1 : Int} {v2 : Int} {D : DT} {K : (Int × DT) → Prop} (h : ok (m_X11_noMeasure v1 v2 D) K) : Sat l g yX11_noMeasure cX11_noMeasure 3 (some .boolean) 1 0 0 [vR g 73, vI v1, vI v2] (LF n) D (PIw n K) := Sat.of hG (by decide) (Nat.le_of_ble_eq_true rfl) (by simp [Value.category]) (x_X11_noMeasure hG h)
abbrev E_X11_measure (l : Launch) (g : GH) (P : PT) : ENV := mkE l g yX11_measure cX11_measure 5 (some .int) [] 4 0 0 P
set_option maxRecDepth 100000 in
set_option maxHeartbeats 4000000 in
theorem x_X11_measure {l : Launch} {g : GH} (hG : G0 l g) {n : Nat} {v1 : Int} {v2 : Int} {v3 : Int} {v4 : Int} {D : DT} {K : (Int × DT) → Prop} (h : ok (m_X11_measure v1 v2 v3 v4 D) K) : Px (E_X11_measure l g (PIw n K)) 0 [some (vR g 73), some (vI v1), some (vI v2), some (vI v3), some (vI v4)] [] (LF n) D 0 0 := by
  refine p_aload_n dX11_measure_0 rfl ?_
  refine p_iconst dX11_measure_1 ?_
  refine q_puti dX11_measure_2 fq_X11_106 rfl rfl h (fun D2 h => ?_)
  refine p_aload_n dX11_measure_5 rfl ?_
  refine p_iload_n dX11_measure_6 rfl ?_
  refine cV_Iw [vI v1] [] dX11_measure_7 yv_X11_noCell ml_X11_255 (r := (RX11, TX11, 41)) rfl rfl (Nat.le_of_ble_eq_true rfl) rfl (Nat.le_of_ble_eq_true rfl) (Nat.le_of_ble_eq_true rfl) (Nat.le_of_ble_eq_true rfl) rfl h (fun K h => s_X11_noCell hG h) (fun r7 D7 h => ?_)
  refine q_if_ne (tgt := 31) dX11_measure_10 (by decide) h (fun h => ?_) (fun h => ?_)
  · refine p_iconst dX11_measure_31 ?_
    exact p_ireturn dX11_measure_32 (Nat.le_of_ble_eq_true rfl) (Nat.le_of_ble_eq_true rfl) ⟨_, rfl, rfl, ok_some h⟩
  · refine p_aload_n dX11_measure_13 rfl ?_
    refine p_iload_n dX11_measure_14 rfl ?_
    refine cV_Iw [vI v3] [] dX11_measure_15 yv_X11_noLevel ml_X11_283 (r := (RX11, TX11, 41)) rfl rfl (Nat.le_of_ble_eq_true rfl) rfl (Nat.le_of_ble_eq_true rfl) (Nat.le_of_ble_eq_true rfl) (Nat.le_of_ble_eq_true rfl) rfl h (fun K h => s_X11_noLevel hG h) (fun r15 D15 h => ?_)
    refine q_if_ne (tgt := 31) dX11_measure_18 (by decide) h (fun h => ?_) (fun h => ?_)
    · refine p_iconst dX11_measure_31 ?_
      exact p_ireturn dX11_measure_32 (Nat.le_of_ble_eq_true rfl) (Nat.le_of_ble_eq_true rfl) ⟨_, rfl, rfl, ok_some h⟩
    · refine p_aload_n dX11_measure_21 rfl ?_
      refine p_iload_n dX11_measure_22 rfl ?_
      refine p_iload dX11_measure_23 rfl ?_
      refine cV_Iw [vI v2, vI v4] [] dX11_measure_25 yv_X11_noMeasure ml_X11_322 (r := (RX11, TX11, 41)) rfl rfl (Nat.le_of_ble_eq_true rfl) rfl (Nat.le_of_ble_eq_true rfl) (Nat.le_of_ble_eq_true rfl) (Nat.le_of_ble_eq_true rfl) rfl h (fun K h => s_X11_noMeasure hG h) (fun r25 D25 h => ?_)
      refine q_if_eq (tgt := 33) dX11_measure_28 (by decide) h (fun h => ?_) (fun h => ?_)
      · refine p_aload_n dX11_measure_33 rfl ?_
        refine p_iload_n dX11_measure_34 rfl ?_
        refine cV_Vw [vI v3] [] dX11_measure_35 yv_X11_laysCrowds ml_X11_289 (r := (RX11, TX11, 41)) rfl rfl (Nat.le_of_ble_eq_true rfl) rfl (Nat.le_of_ble_eq_true rfl) (Nat.le_of_ble_eq_true rfl) (Nat.le_of_ble_eq_true rfl) rfl h (fun K h => s_X11_laysCrowds hG h) (fun D35 h => ?_)
        refine p_aload_n dX11_measure_38 rfl ?_
        refine p_iload_n dX11_measure_39 rfl ?_
        refine p_iload_n dX11_measure_40 rfl ?_
        refine p_iload dX11_measure_41 rfl ?_
        refine cV_Ir [vI v1, vI v2, vI v4] [] dX11_measure_43 yv_X11_measureOf ml_X11_325 (r := (RX11, TX11, 41)) rfl rfl (Nat.le_of_ble_eq_true rfl) rfl (Nat.le_of_ble_eq_true rfl) (Nat.le_of_ble_eq_true rfl) (Nat.le_of_ble_eq_true rfl) rfl h (fun K h => s_X11_measureOf hG h) (fun r43 h => ?_)
        exact p_ireturn dX11_measure_46 (Nat.le_of_ble_eq_true rfl) (Nat.le_of_ble_eq_true rfl) ⟨_, rfl, rfl, ok_some h⟩
      · refine p_iconst dX11_measure_31 ?_
        exact p_ireturn dX11_measure_32 (Nat.le_of_ble_eq_true rfl) (Nat.le_of_ble_eq_true rfl) ⟨_, rfl, rfl, ok_some h⟩
theorem s_X11_measure {l : Launch} {g : GH} (hG : G0 l g) {n : Nat} {v1 : Int} {v2 : Int} {v3 : Int} {v4 : Int} {D : DT} {K : (Int × DT) → Prop} (h : ok (m_X11_measure v1 v2 v3 v4 D) K) : Sat l g yX11_measure cX11_measure 5 (some .int) 4 0 0 [vR g 73, vI v1, vI v2, vI v3, vI v4] (LF n) D (PIw n K) := Sat.of hG (by decide) (Nat.le_of_ble_eq_true rfl) (by simp [Value.category]) (x_X11_measure hG h)
abbrev E_X11_best (l : Launch) (g : GH) (P : PT) : ENV := mkE l g yX11_best cX11_best 8 (some .int) [] 4 0 0 P
abbrev P_X11_best_38 (l : Launch) (g : GH) (n : Nat) (K : (Int × DT) → Prop) (v1 : Int) (v3 : Int) (D : DT) : (Int × Int × Int) → Prop := fun s => Px (E_X11_best l g (PIw n K)) 38 [some (vR g 73), some (vI v1), none, some (vI v3), some (vI s.1), some (vI s.2.1), some (vI s.2.2), none] [] (LF n) D 0 0
set_option maxRecDepth 100000 in
set_option maxHeartbeats 4000000 in
theorem x_X11_best_38 {l : Launch} {g : GH} (hG : G0 l g) {n : Nat} {v1 v3 : Int} {D : DT} {K : (Int × DT) → Prop} {s : (Int × Int × Int)} (h : ok (m_X11_best_38 v1 v3 D s) K) : Px (E_X11_best l g (PIw n K)) 38 [some (vR g 73), some (vI v1), none, some (vI v3), some (vI s.1), some (vI s.2.1), some (vI s.2.2), none] [] (LF n) D 0 0 := by
  refine ok_loop (P := (P_X11_best_38 l g n K v1 v3 D)) (fun s h => ?_) h
  refine p_iload dX11_best_38 rfl ?_
  refine p_aload_n dX11_best_40 rfl ?_
  refine cV_Ir [] [vI s.2.2] dX11_best_41 yv_X11_cells ml_X11_229 (r := (RX11, TX11, 41)) rfl rfl (Nat.le_of_ble_eq_true rfl) rfl (Nat.le_of_ble_eq_true rfl) (Nat.le_of_ble_eq_true rfl) (Nat.le_of_ble_eq_true rfl) rfl h (fun K h => s_X11_cells hG h) (fun r41 h => ?_)
  refine q_icmp_ge (tgt := 99) dX11_best_44 (by decide) h (fun h => ?_) (fun h => ?_)
  · have h := kl_inr h
    refine p_iload dX11_best_99 rfl ?_
    exact p_ireturn dX11_best_101 (Nat.le_of_ble_eq_true rfl) (Nat.le_of_ble_eq_true rfl) ⟨_, rfl, rfl, ok_some h⟩
  · refine p_aload_n dX11_best_47 rfl ?_
    refine p_iload dX11_best_48 rfl ?_
    refine cV_Ir [vI s.2.2] [] dX11_best_50 yv_X11_isLand ml_X11_261 (r := (RX11, TX11, 41)) rfl rfl (Nat.le_of_ble_eq_true rfl) rfl (Nat.le_of_ble_eq_true rfl) (Nat.le_of_ble_eq_true rfl) (Nat.le_of_ble_eq_true rfl) rfl h (fun K h => s_X11_isLand hG h) (fun r50 h => ?_)
    refine q_if_ne (tgt := 59) dX11_best_53 (by decide) h (fun h => ?_) (fun h => ?_)
    · refine p_aload_n dX11_best_59 rfl ?_
      refine p_iload dX11_best_60 rfl ?_
      refine p_iload_n dX11_best_62 rfl ?_
      refine p_iload_n dX11_best_63 rfl ?_
      refine cV_Ir [vI s.2.2, vI v1, vI v3] [] dX11_best_64 yv_X11_measureOf ml_X11_325 (r := (RX11, TX11, 41)) rfl rfl (Nat.le_of_ble_eq_true rfl) rfl (Nat.le_of_ble_eq_true rfl) (Nat.le_of_ble_eq_true rfl) (Nat.le_of_ble_eq_true rfl) rfl h (fun K h => s_X11_measureOf hG h) (fun r64 h => ?_)
      refine p_istore dX11_best_67 (Nat.le_of_ble_eq_true rfl) rfl ?_
      refine p_iload dX11_best_69 rfl ?_
      refine p_iconst dX11_best_71 ?_
      refine q_icmp_eq (tgt := 85) dX11_best_72 (by decide) h (fun h => ?_) (fun h => ?_)
      · refine p_iload dX11_best_85 rfl ?_
        refine p_istore dX11_best_87 (Nat.le_of_ble_eq_true rfl) rfl ?_
        refine p_iload dX11_best_89 rfl ?_
        refine p_istore dX11_best_91 (Nat.le_of_ble_eq_true rfl) rfl ?_
        refine p_iinc dX11_best_93 rfl (Nat.le_of_ble_eq_true rfl) rfl ?_
        refine p_goto (tgt := 38) dX11_best_96 (by decide) ?_
        exact p_weak (leL.same (leL.same (leL.drop (leL.same (leL.same (leL.same (leL.same (leL.drop leL.nil)))))))) (kl_inl (P := (P_X11_best_38 l g n K v1 v3 D)) h)
      · refine p_iload dX11_best_75 rfl ?_
        refine p_iload dX11_best_77 rfl ?_
        refine q_icmp_gt (tgt := 85) dX11_best_79 (by decide) h (fun h => ?_) (fun h => ?_)
        · refine p_iload dX11_best_85 rfl ?_
          refine p_istore dX11_best_87 (Nat.le_of_ble_eq_true rfl) rfl ?_
          refine p_iload dX11_best_89 rfl ?_
          refine p_istore dX11_best_91 (Nat.le_of_ble_eq_true rfl) rfl ?_
          refine p_iinc dX11_best_93 rfl (Nat.le_of_ble_eq_true rfl) rfl ?_
          refine p_goto (tgt := 38) dX11_best_96 (by decide) ?_
          exact p_weak (leL.same (leL.same (leL.drop (leL.same (leL.same (leL.same (leL.same (leL.drop leL.nil)))))))) (kl_inl (P := (P_X11_best_38 l g n K v1 v3 D)) h)
        · refine p_goto (tgt := 93) dX11_best_82 (by decide) ?_
          refine p_iinc dX11_best_93 rfl (Nat.le_of_ble_eq_true rfl) rfl ?_
          refine p_goto (tgt := 38) dX11_best_96 (by decide) ?_
          exact p_weak (leL.same (leL.same (leL.drop (leL.same (leL.same (leL.same (leL.same (leL.drop leL.nil)))))))) (kl_inl (P := (P_X11_best_38 l g n K v1 v3 D)) h)
    · refine p_goto (tgt := 93) dX11_best_56 (by decide) ?_
      refine p_iinc dX11_best_93 rfl (Nat.le_of_ble_eq_true rfl) rfl ?_
      refine p_goto (tgt := 38) dX11_best_96 (by decide) ?_
      exact p_weak (leL.same (leL.same (leL.drop (leL.same (leL.same (leL.same (leL.same (leL.drop leL.nil)))))))) (kl_inl (P := (P_X11_best_38 l g n K v1 v3 D)) h)
set_option maxRecDepth 100000 in
set_option maxHeartbeats 4000000 in
theorem x_X11_best {l : Launch} {g : GH} (hG : G0 l g) {n : Nat} {v1 : Int} {v2 : Int} {v3 : Int} {D : DT} {K : (Int × DT) → Prop} (h : ok (m_X11_best v1 v2 v3 D) K) : Px (E_X11_best l g (PIw n K)) 0 [some (vR g 73), some (vI v1), some (vI v2), some (vI v3), none, none, none, none] [] (LF n) D 0 0 := by
  refine p_aload_n dX11_best_0 rfl ?_
  refine p_iconst dX11_best_1 ?_
  refine q_puti dX11_best_2 fq_X11_106 rfl rfl h (fun D2 h => ?_)
  refine p_aload_n dX11_best_5 rfl ?_
  refine p_iload_n dX11_best_6 rfl ?_
  refine cV_Iw [vI v2] [] dX11_best_7 yv_X11_noLevel ml_X11_283 (r := (RX11, TX11, 41)) rfl rfl (Nat.le_of_ble_eq_true rfl) rfl (Nat.le_of_ble_eq_true rfl) (Nat.le_of_ble_eq_true rfl) (Nat.le_of_ble_eq_true rfl) rfl h (fun K h => s_X11_noLevel hG h) (fun r7 D7 h => ?_)
  refine q_if_ne (tgt := 22) dX11_best_10 (by decide) h (fun h => ?_) (fun h => ?_)
  · refine p_iconst dX11_best_22 ?_
    exact p_ireturn dX11_best_23 (Nat.le_of_ble_eq_true rfl) (Nat.le_of_ble_eq_true rfl) ⟨_, rfl, rfl, ok_some h⟩
  · refine p_aload_n dX11_best_13 rfl ?_
    refine p_iload_n dX11_best_14 rfl ?_
    refine p_iload_n dX11_best_15 rfl ?_
    refine cV_Iw [vI v1, vI v3] [] dX11_best_16 yv_X11_noMeasure ml_X11_322 (r := (RX11, TX11, 41)) rfl rfl (Nat.le_of_ble_eq_true rfl) rfl (Nat.le_of_ble_eq_true rfl) (Nat.le_of_ble_eq_true rfl) (Nat.le_of_ble_eq_true rfl) rfl h (fun K h => s_X11_noMeasure hG h) (fun r16 D16 h => ?_)
    refine q_if_eq (tgt := 24) dX11_best_19 (by decide) h (fun h => ?_) (fun h => ?_)
    · refine p_aload_n dX11_best_24 rfl ?_
      refine p_iload_n dX11_best_25 rfl ?_
      refine cV_Vw [vI v2] [] dX11_best_26 yv_X11_laysCrowds ml_X11_289 (r := (RX11, TX11, 41)) rfl rfl (Nat.le_of_ble_eq_true rfl) rfl (Nat.le_of_ble_eq_true rfl) (Nat.le_of_ble_eq_true rfl) (Nat.le_of_ble_eq_true rfl) rfl h (fun K h => s_X11_laysCrowds hG h) (fun D26 h => ?_)
      refine p_iconst dX11_best_29 ?_
      refine p_istore dX11_best_30 (Nat.le_of_ble_eq_true rfl) rfl ?_
      refine p_iconst dX11_best_32 ?_
      refine p_istore dX11_best_33 (Nat.le_of_ble_eq_true rfl) rfl ?_
      refine p_iconst dX11_best_35 ?_
      refine p_istore dX11_best_36 (Nat.le_of_ble_eq_true rfl) rfl ?_
      exact p_weak (leL.same (leL.same (leL.drop (leL.same (leL.same (leL.same (leL.same (leL.drop leL.nil)))))))) (x_X11_best_38 hG h)
    · refine p_iconst dX11_best_22 ?_
      exact p_ireturn dX11_best_23 (Nat.le_of_ble_eq_true rfl) (Nat.le_of_ble_eq_true rfl) ⟨_, rfl, rfl, ok_some h⟩
theorem s_X11_best {l : Launch} {g : GH} (hG : G0 l g) {n : Nat} {v1 : Int} {v2 : Int} {v3 : Int} {D : DT} {K : (Int × DT) → Prop} (h : ok (m_X11_best v1 v2 v3 D) K) : Sat l g yX11_best cX11_best 8 (some .int) 4 0 0 [vR g 73, vI v1, vI v2, vI v3] (LF n) D (PIw n K) := Sat.of hG (by decide) (Nat.le_of_ble_eq_true rfl) (by simp [Value.category]) (x_X11_best hG h)
abbrev E_X11_nearestTo (l : Launch) (g : GH) (P : PT) : ENV := mkE l g yX11_nearestTo cX11_nearestTo 4 (some .int) [] 2 0 0 P
abbrev P_X11_nearestTo_4 (l : Launch) (g : GH) (n : Nat) (K : Int → Prop) (v1 : Int) (D : DT) : (Int × Int) → Prop := fun s => Px (E_X11_nearestTo l g (PIr n D K)) 4 [some (vR g 73), some (vI v1), some (vI s.1), some (vI s.2)] [] (LF n) D 0 0
set_option maxRecDepth 100000 in
set_option maxHeartbeats 4000000 in
theorem x_X11_nearestTo_4 {l : Launch} {g : GH} (hG : G0 l g) {n : Nat} {v1 : Int} {D : DT} {K : Int → Prop} {s : (Int × Int)} (h : ok (m_X11_nearestTo_4 v1 D s) K) : Px (E_X11_nearestTo l g (PIr n D K)) 4 [some (vR g 73), some (vI v1), some (vI s.1), some (vI s.2)] [] (LF n) D 0 0 := by
  refine ok_loop (P := (P_X11_nearestTo_4 l g n K v1 D)) (fun s h => ?_) h
  refine p_iload_n dX11_nearestTo_4 rfl ?_
  refine p_aload_n dX11_nearestTo_5 rfl ?_
  refine cV_Ir [] [vI s.2] dX11_nearestTo_6 yv_X11_cells ml_X11_229 (r := (RX11, TX11, 41)) rfl rfl (Nat.le_of_ble_eq_true rfl) rfl (Nat.le_of_ble_eq_true rfl) (Nat.le_of_ble_eq_true rfl) (Nat.le_of_ble_eq_true rfl) rfl h (fun K h => s_X11_cells hG h) (fun r6 h => ?_)
  refine q_icmp_ge (tgt := 48) dX11_nearestTo_9 (by decide) h (fun h => ?_) (fun h => ?_)
  · have h := kl_inr h
    refine p_iload_n dX11_nearestTo_48 rfl ?_
    exact p_ireturn dX11_nearestTo_49 (Nat.le_of_ble_eq_true rfl) (Nat.le_of_ble_eq_true rfl) ⟨_, rfl, rfl, rfl, ok_some h⟩
  · refine p_aload_n dX11_nearestTo_12 rfl ?_
    refine p_iload_n dX11_nearestTo_13 rfl ?_
    refine cV_Ir [vI s.2] [] dX11_nearestTo_14 yv_X11_hasDots ml_X11_292 (r := (RX11, TX11, 41)) rfl rfl (Nat.le_of_ble_eq_true rfl) rfl (Nat.le_of_ble_eq_true rfl) (Nat.le_of_ble_eq_true rfl) (Nat.le_of_ble_eq_true rfl) rfl h (fun K h => s_X11_hasDots hG h) (fun r14 h => ?_)
    refine q_if_eq (tgt := 42) dX11_nearestTo_17 (by decide) h (fun h => ?_) (fun h => ?_)
    · refine p_iinc dX11_nearestTo_42 rfl (Nat.le_of_ble_eq_true rfl) rfl ?_
      refine p_goto (tgt := 4) dX11_nearestTo_45 (by decide) ?_
      exact p_weak (leL.same (leL.same (leL.same (leL.same leL.nil)))) (kl_inl (P := (P_X11_nearestTo_4 l g n K v1 D)) h)
    · refine p_iload_n dX11_nearestTo_20 rfl ?_
      refine p_iconst dX11_nearestTo_21 ?_
      refine q_icmp_eq (tgt := 40) dX11_nearestTo_22 (by decide) h (fun h => ?_) (fun h => ?_)
      · refine p_iload_n dX11_nearestTo_40 rfl ?_
        refine p_istore_n dX11_nearestTo_41 (Nat.le_of_ble_eq_true rfl) rfl ?_
        refine p_iinc dX11_nearestTo_42 rfl (Nat.le_of_ble_eq_true rfl) rfl ?_
        refine p_goto (tgt := 4) dX11_nearestTo_45 (by decide) ?_
        exact p_weak (leL.same (leL.same (leL.same (leL.same leL.nil)))) (kl_inl (P := (P_X11_nearestTo_4 l g n K v1 D)) h)
      · refine p_aload_n dX11_nearestTo_25 rfl ?_
        refine p_iload_n dX11_nearestTo_26 rfl ?_
        refine p_iload_n dX11_nearestTo_27 rfl ?_
        refine cV_Ir [vI s.2, vI v1] [] dX11_nearestTo_28 yv_X11_far ml_X11_236 (r := (RX11, TX11, 41)) rfl rfl (Nat.le_of_ble_eq_true rfl) rfl (Nat.le_of_ble_eq_true rfl) (Nat.le_of_ble_eq_true rfl) (Nat.le_of_ble_eq_true rfl) rfl h (fun K h => s_X11_far hG h) (fun r28 h => ?_)
        refine p_aload_n dX11_nearestTo_31 rfl ?_
        refine p_iload_n dX11_nearestTo_32 rfl ?_
        refine p_iload_n dX11_nearestTo_33 rfl ?_
        refine cV_Ir [vI s.1, vI v1] [vI r28] dX11_nearestTo_34 yv_X11_far ml_X11_236 (r := (RX11, TX11, 41)) rfl rfl (Nat.le_of_ble_eq_true rfl) rfl (Nat.le_of_ble_eq_true rfl) (Nat.le_of_ble_eq_true rfl) (Nat.le_of_ble_eq_true rfl) rfl h (fun K h => s_X11_far hG h) (fun r34 h => ?_)
        refine q_icmp_ge (tgt := 42) dX11_nearestTo_37 (by decide) h (fun h => ?_) (fun h => ?_)
        · refine p_iinc dX11_nearestTo_42 rfl (Nat.le_of_ble_eq_true rfl) rfl ?_
          refine p_goto (tgt := 4) dX11_nearestTo_45 (by decide) ?_
          exact p_weak (leL.same (leL.same (leL.same (leL.same leL.nil)))) (kl_inl (P := (P_X11_nearestTo_4 l g n K v1 D)) h)
        · refine p_iload_n dX11_nearestTo_40 rfl ?_
          refine p_istore_n dX11_nearestTo_41 (Nat.le_of_ble_eq_true rfl) rfl ?_
          refine p_iinc dX11_nearestTo_42 rfl (Nat.le_of_ble_eq_true rfl) rfl ?_
          refine p_goto (tgt := 4) dX11_nearestTo_45 (by decide) ?_
          exact p_weak (leL.same (leL.same (leL.same (leL.same leL.nil)))) (kl_inl (P := (P_X11_nearestTo_4 l g n K v1 D)) h)
set_option maxRecDepth 100000 in
set_option maxHeartbeats 4000000 in
theorem x_X11_nearestTo {l : Launch} {g : GH} (hG : G0 l g) {n : Nat} {v1 : Int} {D : DT} {K : Int → Prop} (h : ok (m_X11_nearestTo v1 D) K) : Px (E_X11_nearestTo l g (PIr n D K)) 0 [some (vR g 73), some (vI v1), none, none] [] (LF n) D 0 0 := by
  refine p_iconst dX11_nearestTo_0 ?_
  refine p_istore_n dX11_nearestTo_1 (Nat.le_of_ble_eq_true rfl) rfl ?_
  refine p_iconst dX11_nearestTo_2 ?_
  refine p_istore_n dX11_nearestTo_3 (Nat.le_of_ble_eq_true rfl) rfl ?_
  exact p_weak (leL.same (leL.same (leL.same (leL.same leL.nil)))) (x_X11_nearestTo_4 hG h)
theorem s_X11_nearestTo {l : Launch} {g : GH} (hG : G0 l g) {n : Nat} {v1 : Int} {D : DT} {K : Int → Prop} (h : ok (m_X11_nearestTo v1 D) K) : Sat l g yX11_nearestTo cX11_nearestTo 4 (some .int) 2 0 0 [vR g 73, vI v1] (LF n) D (PIr n D K) := Sat.of hG (by decide) (Nat.le_of_ble_eq_true rfl) (by simp [Value.category]) (x_X11_nearestTo hG h)
abbrev E_X11_nearest (l : Launch) (g : GH) (P : PT) : ENV := mkE l g yX11_nearest cX11_nearest 3 (some .int) [] 3 0 0 P
set_option maxRecDepth 100000 in
set_option maxHeartbeats 4000000 in
theorem x_X11_nearest {l : Launch} {g : GH} (hG : G0 l g) {n : Nat} {v1 : Int} {v2 : Int} {D : DT} {K : (Int × DT) → Prop} (h : ok (m_X11_nearest v1 v2 D) K) : Px (E_X11_nearest l g (PIw n K)) 0 [some (vR g 73), some (vI v1), some (vI v2)] [] (LF n) D 0 0 := by
  refine p_aload_n dX11_nearest_0 rfl ?_
  refine p_iconst dX11_nearest_1 ?_
  refine q_puti dX11_nearest_2 fq_X11_106 rfl rfl h (fun D2 h => ?_)
  refine p_aload_n dX11_nearest_5 rfl ?_
  refine p_iload_n dX11_nearest_6 rfl ?_
  refine cV_Iw [vI v1] [] dX11_nearest_7 yv_X11_noCell ml_X11_255 (r := (RX11, TX11, 41)) rfl rfl (Nat.le_of_ble_eq_true rfl) rfl (Nat.le_of_ble_eq_true rfl) (Nat.le_of_ble_eq_true rfl) (Nat.le_of_ble_eq_true rfl) rfl h (fun K h => s_X11_noCell hG h) (fun r7 D7 h => ?_)
  refine q_if_ne (tgt := 21) dX11_nearest_10 (by decide) h (fun h => ?_) (fun h => ?_)
  · refine p_iconst dX11_nearest_21 ?_
    exact p_ireturn dX11_nearest_22 (Nat.le_of_ble_eq_true rfl) (Nat.le_of_ble_eq_true rfl) ⟨_, rfl, rfl, ok_some h⟩
  · refine p_aload_n dX11_nearest_13 rfl ?_
    refine p_iload_n dX11_nearest_14 rfl ?_
    refine cV_Iw [vI v2] [] dX11_nearest_15 yv_X11_noLevel ml_X11_283 (r := (RX11, TX11, 41)) rfl rfl (Nat.le_of_ble_eq_true rfl) rfl (Nat.le_of_ble_eq_true rfl) (Nat.le_of_ble_eq_true rfl) (Nat.le_of_ble_eq_true rfl) rfl h (fun K h => s_X11_noLevel hG h) (fun r15 D15 h => ?_)
    refine q_if_eq (tgt := 23) dX11_nearest_18 (by decide) h (fun h => ?_) (fun h => ?_)
    · refine p_aload_n dX11_nearest_23 rfl ?_
      refine p_iload_n dX11_nearest_24 rfl ?_
      refine cV_Vw [vI v2] [] dX11_nearest_25 yv_X11_laysCrowds ml_X11_289 (r := (RX11, TX11, 41)) rfl rfl (Nat.le_of_ble_eq_true rfl) rfl (Nat.le_of_ble_eq_true rfl) (Nat.le_of_ble_eq_true rfl) (Nat.le_of_ble_eq_true rfl) rfl h (fun K h => s_X11_laysCrowds hG h) (fun D25 h => ?_)
      refine p_aload_n dX11_nearest_28 rfl ?_
      refine p_iload_n dX11_nearest_29 rfl ?_
      refine cV_Ir [vI v1] [] dX11_nearest_30 yv_X11_nearestTo ml_X11_328 (r := (RX11, TX11, 41)) rfl rfl (Nat.le_of_ble_eq_true rfl) rfl (Nat.le_of_ble_eq_true rfl) (Nat.le_of_ble_eq_true rfl) (Nat.le_of_ble_eq_true rfl) rfl h (fun K h => s_X11_nearestTo hG h) (fun r30 h => ?_)
      exact p_ireturn dX11_nearest_33 (Nat.le_of_ble_eq_true rfl) (Nat.le_of_ble_eq_true rfl) ⟨_, rfl, rfl, ok_some h⟩
    · refine p_iconst dX11_nearest_21 ?_
      exact p_ireturn dX11_nearest_22 (Nat.le_of_ble_eq_true rfl) (Nat.le_of_ble_eq_true rfl) ⟨_, rfl, rfl, ok_some h⟩
theorem s_X11_nearest {l : Launch} {g : GH} (hG : G0 l g) {n : Nat} {v1 : Int} {v2 : Int} {D : DT} {K : (Int × DT) → Prop} (h : ok (m_X11_nearest v1 v2 D) K) : Sat l g yX11_nearest cX11_nearest 3 (some .int) 3 0 0 [vR g 73, vI v1, vI v2] (LF n) D (PIw n K) := Sat.of hG (by decide) (Nat.le_of_ble_eq_true rfl) (by simp [Value.category]) (x_X11_nearest hG h)
abbrev E_X11_served (l : Launch) (g : GH) (P : PT) : ENV := mkE l g yX11_served cX11_served 5 (some .int) [] 3 0 0 P
abbrev P_X11_served_33 (l : Launch) (g : GH) (n : Nat) (K : (Int × DT) → Prop) (v1 : Int) (D : DT) : (Int × Int) → Prop := fun s => Px (E_X11_served l g (PIw n K)) 33 [some (vR g 73), some (vI v1), none, some (vI s.1), some (vI s.2)] [] (LF n) D 0 0
set_option maxRecDepth 100000 in
set_option maxHeartbeats 4000000 in
theorem x_X11_served_33 {l : Launch} {g : GH} (hG : G0 l g) {n : Nat} {v1 : Int} {D : DT} {K : (Int × DT) → Prop} {s : (Int × Int)} (h : ok (m_X11_served_33 v1 D s) K) : Px (E_X11_served l g (PIw n K)) 33 [some (vR g 73), some (vI v1), none, some (vI s.1), some (vI s.2)] [] (LF n) D 0 0 := by
  refine ok_loop (P := (P_X11_served_33 l g n K v1 D)) (fun s h => ?_) h
  refine p_iload dX11_served_33 rfl ?_
  refine p_aload_n dX11_served_35 rfl ?_
  refine cV_Ir [] [vI s.2] dX11_served_36 yv_X11_cells ml_X11_229 (r := (RX11, TX11, 41)) rfl rfl (Nat.le_of_ble_eq_true rfl) rfl (Nat.le_of_ble_eq_true rfl) (Nat.le_of_ble_eq_true rfl) (Nat.le_of_ble_eq_true rfl) rfl h (fun K h => s_X11_cells hG h) (fun r36 h => ?_)
  refine q_icmp_ge (tgt := 83) dX11_served_39 (by decide) h (fun h => ?_) (fun h => ?_)
  · have h := kl_inr h
    refine p_iload_n dX11_served_83 rfl ?_
    exact p_ireturn dX11_served_84 (Nat.le_of_ble_eq_true rfl) (Nat.le_of_ble_eq_true rfl) ⟨_, rfl, rfl, ok_some h⟩
  · refine p_aload_n dX11_served_42 rfl ?_
    refine p_iload_n dX11_served_43 rfl ?_
    refine cV_Ir [vI v1] [] dX11_served_44 yv_X11_hasDots ml_X11_292 (r := (RX11, TX11, 41)) rfl rfl (Nat.le_of_ble_eq_true rfl) rfl (Nat.le_of_ble_eq_true rfl) (Nat.le_of_ble_eq_true rfl) (Nat.le_of_ble_eq_true rfl) rfl h (fun K h => s_X11_hasDots hG h) (fun r44 h => ?_)
    refine q_if_eq (tgt := 83) dX11_served_47 (by decide) h (fun h => ?_) (fun h => ?_)
    · have h := kl_inr h
      refine p_iload_n dX11_served_83 rfl ?_
      exact p_ireturn dX11_served_84 (Nat.le_of_ble_eq_true rfl) (Nat.le_of_ble_eq_true rfl) ⟨_, rfl, rfl, ok_some h⟩
    · refine p_iload_n dX11_served_50 rfl ?_
      refine p_aload_n dX11_served_51 rfl ?_
      refine p_iload dX11_served_52 rfl ?_
      refine cV_Ir [vI s.2] [vI s.1] dX11_served_54 yv_X11_isLand ml_X11_261 (r := (RX11, TX11, 41)) rfl rfl (Nat.le_of_ble_eq_true rfl) rfl (Nat.le_of_ble_eq_true rfl) (Nat.le_of_ble_eq_true rfl) (Nat.le_of_ble_eq_true rfl) rfl h (fun K h => s_X11_isLand hG h) (fun r54 h => ?_)
      refine q_if_eq (tgt := 74) dX11_served_57 (by decide) h (fun h => ?_) (fun h => ?_)
      · refine p_iconst dX11_served_74 ?_
        refine p_iadd dX11_served_75 ?_
        refine p_istore_n dX11_served_76 (Nat.le_of_ble_eq_true rfl) rfl ?_
        refine p_iinc dX11_served_77 rfl (Nat.le_of_ble_eq_true rfl) rfl ?_
        refine p_goto (tgt := 33) dX11_served_80 (by decide) ?_
        exact p_weak (leL.same (leL.same (leL.drop (leL.same (leL.same leL.nil))))) (kl_inl (P := (P_X11_served_33 l g n K v1 D)) h)
      · refine p_aload_n dX11_served_60 rfl ?_
        refine p_iload dX11_served_61 rfl ?_
        refine cV_Ir [vI s.2] [vI s.1] dX11_served_63 yv_X11_nearestTo ml_X11_328 (r := (RX11, TX11, 41)) rfl rfl (Nat.le_of_ble_eq_true rfl) rfl (Nat.le_of_ble_eq_true rfl) (Nat.le_of_ble_eq_true rfl) (Nat.le_of_ble_eq_true rfl) rfl h (fun K h => s_X11_nearestTo hG h) (fun r63 h => ?_)
        refine p_iload_n dX11_served_66 rfl ?_
        refine q_icmp_ne (tgt := 74) dX11_served_67 (by decide) h (fun h => ?_) (fun h => ?_)
        · refine p_iconst dX11_served_74 ?_
          refine p_iadd dX11_served_75 ?_
          refine p_istore_n dX11_served_76 (Nat.le_of_ble_eq_true rfl) rfl ?_
          refine p_iinc dX11_served_77 rfl (Nat.le_of_ble_eq_true rfl) rfl ?_
          refine p_goto (tgt := 33) dX11_served_80 (by decide) ?_
          exact p_weak (leL.same (leL.same (leL.drop (leL.same (leL.same leL.nil))))) (kl_inl (P := (P_X11_served_33 l g n K v1 D)) h)
        · refine p_iconst dX11_served_70 ?_
          refine p_goto (tgt := 75) dX11_served_71 (by decide) ?_
          refine p_iadd dX11_served_75 ?_
          refine p_istore_n dX11_served_76 (Nat.le_of_ble_eq_true rfl) rfl ?_
          refine p_iinc dX11_served_77 rfl (Nat.le_of_ble_eq_true rfl) rfl ?_
          refine p_goto (tgt := 33) dX11_served_80 (by decide) ?_
          exact p_weak (leL.same (leL.same (leL.drop (leL.same (leL.same leL.nil))))) (kl_inl (P := (P_X11_served_33 l g n K v1 D)) h)
set_option maxRecDepth 100000 in
set_option maxHeartbeats 4000000 in
theorem x_X11_served {l : Launch} {g : GH} (hG : G0 l g) {n : Nat} {v1 : Int} {v2 : Int} {D : DT} {K : (Int × DT) → Prop} (h : ok (m_X11_served v1 v2 D) K) : Px (E_X11_served l g (PIw n K)) 0 [some (vR g 73), some (vI v1), some (vI v2), none, none] [] (LF n) D 0 0 := by
  refine p_aload_n dX11_served_0 rfl ?_
  refine p_iconst dX11_served_1 ?_
  refine q_puti dX11_served_2 fq_X11_106 rfl rfl h (fun D2 h => ?_)
  refine p_aload_n dX11_served_5 rfl ?_
  refine p_iload_n dX11_served_6 rfl ?_
  refine cV_Iw [vI v1] [] dX11_served_7 yv_X11_noCell ml_X11_255 (r := (RX11, TX11, 41)) rfl rfl (Nat.le_of_ble_eq_true rfl) rfl (Nat.le_of_ble_eq_true rfl) (Nat.le_of_ble_eq_true rfl) (Nat.le_of_ble_eq_true rfl) rfl h (fun K h => s_X11_noCell hG h) (fun r7 D7 h => ?_)
  refine q_if_ne (tgt := 21) dX11_served_10 (by decide) h (fun h => ?_) (fun h => ?_)
  · refine p_iconst dX11_served_21 ?_
    exact p_ireturn dX11_served_22 (Nat.le_of_ble_eq_true rfl) (Nat.le_of_ble_eq_true rfl) ⟨_, rfl, rfl, ok_some h⟩
  · refine p_aload_n dX11_served_13 rfl ?_
    refine p_iload_n dX11_served_14 rfl ?_
    refine cV_Iw [vI v2] [] dX11_served_15 yv_X11_noLevel ml_X11_283 (r := (RX11, TX11, 41)) rfl rfl (Nat.le_of_ble_eq_true rfl) rfl (Nat.le_of_ble_eq_true rfl) (Nat.le_of_ble_eq_true rfl) (Nat.le_of_ble_eq_true rfl) rfl h (fun K h => s_X11_noLevel hG h) (fun r15 D15 h => ?_)
    refine q_if_eq (tgt := 23) dX11_served_18 (by decide) h (fun h => ?_) (fun h => ?_)
    · refine p_aload_n dX11_served_23 rfl ?_
      refine p_iload_n dX11_served_24 rfl ?_
      refine cV_Vw [vI v2] [] dX11_served_25 yv_X11_laysCrowds ml_X11_289 (r := (RX11, TX11, 41)) rfl rfl (Nat.le_of_ble_eq_true rfl) rfl (Nat.le_of_ble_eq_true rfl) (Nat.le_of_ble_eq_true rfl) (Nat.le_of_ble_eq_true rfl) rfl h (fun K h => s_X11_laysCrowds hG h) (fun D25 h => ?_)
      refine p_iconst dX11_served_28 ?_
      refine p_istore_n dX11_served_29 (Nat.le_of_ble_eq_true rfl) rfl ?_
      refine p_iconst dX11_served_30 ?_
      refine p_istore dX11_served_31 (Nat.le_of_ble_eq_true rfl) rfl ?_
      exact p_weak (leL.same (leL.same (leL.drop (leL.same (leL.same leL.nil))))) (x_X11_served_33 hG h)
    · refine p_iconst dX11_served_21 ?_
      exact p_ireturn dX11_served_22 (Nat.le_of_ble_eq_true rfl) (Nat.le_of_ble_eq_true rfl) ⟨_, rfl, rfl, ok_some h⟩
theorem s_X11_served {l : Launch} {g : GH} (hG : G0 l g) {n : Nat} {v1 : Int} {v2 : Int} {D : DT} {K : (Int × DT) → Prop} (h : ok (m_X11_served v1 v2 D) K) : Sat l g yX11_served cX11_served 5 (some .int) 3 0 0 [vR g 73, vI v1, vI v2] (LF n) D (PIw n K) := Sat.of hG (by decide) (Nat.le_of_ble_eq_true rfl) (by simp [Value.category]) (x_X11_served hG h)
abbrev E_X11_fits (l : Launch) (g : GH) (P : PT) : ENV := mkE l g yX11_fits cX11_fits 3 (some .int) [] 2 0 0 P
abbrev P_X11_fits_7 (l : Launch) (g : GH) (n : Nat) (K : (Int × DT) → Prop) (v1 : Int) : (Int × DT) → Prop := fun s => Px (E_X11_fits l g (PIw n K)) 7 [some (vR g 73), some (vI v1), some (vI s.1)] [] (LF n) s.2 0 0
set_option maxRecDepth 100000 in
set_option maxHeartbeats 4000000 in
theorem x_X11_fits_7 {l : Launch} {g : GH} (hG : G0 l g) {n : Nat} {v1 : Int} {K : (Int × DT) → Prop} {s : (Int × DT)} (h : ok (m_X11_fits_7 v1 s) K) : Px (E_X11_fits l g (PIw n K)) 7 [some (vR g 73), some (vI v1), some (vI s.1)] [] (LF n) s.2 0 0 := by
  refine ok_loop (P := (P_X11_fits_7 l g n K v1)) (fun s h => ?_) h
  refine p_iload_n dX11_fits_7 rfl ?_
  refine p_sipush dX11_fits_8 (by decide) ?_
  refine q_icmp_gt (tgt := 37) dX11_fits_11 (by decide) h (fun h => ?_) (fun h => ?_)
  · have h := kl_inr h
    refine p_iconst dX11_fits_37 ?_
    exact p_ireturn dX11_fits_38 (Nat.le_of_ble_eq_true rfl) (Nat.le_of_ble_eq_true rfl) ⟨_, rfl, rfl, ok_some h⟩
  · refine p_aload_n dX11_fits_14 rfl ?_
    refine p_iload_n dX11_fits_15 rfl ?_
    refine cV_Vw [vI s.1] [] dX11_fits_16 yv_X11_laysDots ml_X11_246 (r := (RX11, TX11, 41)) rfl rfl (Nat.le_of_ble_eq_true rfl) rfl (Nat.le_of_ble_eq_true rfl) (Nat.le_of_ble_eq_true rfl) (Nat.le_of_ble_eq_true rfl) rfl h (fun K h => s_X11_laysDots hG h) (fun D16 h => ?_)
    refine p_aload_n dX11_fits_19 rfl ?_
    refine p_iconst dX11_fits_20 ?_
    refine p_iconst dX11_fits_21 ?_
    refine cV_Ir [vI (-1), vI 0] [] dX11_fits_22 yv_X11_allDots ml_X11_286 (r := (RX11, TX11, 41)) rfl rfl (Nat.le_of_ble_eq_true rfl) rfl (Nat.le_of_ble_eq_true rfl) (Nat.le_of_ble_eq_true rfl) (Nat.le_of_ble_eq_true rfl) rfl h (fun K h => s_X11_allDots hG h) (fun r22 h => ?_)
    refine p_iload_n dX11_fits_25 rfl ?_
    refine q_icmp_gt (tgt := 31) dX11_fits_26 (by decide) h (fun h => ?_) (fun h => ?_)
    · refine p_iinc dX11_fits_31 rfl (Nat.le_of_ble_eq_true rfl) rfl ?_
      refine p_goto (tgt := 7) dX11_fits_34 (by decide) ?_
      exact p_weak (leL.same (leL.same (leL.same leL.nil))) (kl_inl (P := (P_X11_fits_7 l g n K v1)) h)
    · have h := kl_inr h
      refine p_iload_n dX11_fits_29 rfl ?_
      exact p_ireturn dX11_fits_30 (Nat.le_of_ble_eq_true rfl) (Nat.le_of_ble_eq_true rfl) ⟨_, rfl, rfl, ok_some h⟩
set_option maxRecDepth 100000 in
set_option maxHeartbeats 4000000 in
theorem x_X11_fits {l : Launch} {g : GH} (hG : G0 l g) {n : Nat} {v1 : Int} {D : DT} {K : (Int × DT) → Prop} (h : ok (m_X11_fits v1 D) K) : Px (E_X11_fits l g (PIw n K)) 0 [some (vR g 73), some (vI v1), none] [] (LF n) D 0 0 := by
  refine p_aload_n dX11_fits_0 rfl ?_
  refine p_iconst dX11_fits_1 ?_
  refine q_puti dX11_fits_2 fq_X11_106 rfl rfl h (fun D2 h => ?_)
  refine p_iconst dX11_fits_5 ?_
  refine p_istore_n dX11_fits_6 (Nat.le_of_ble_eq_true rfl) rfl ?_
  exact p_weak (leL.same (leL.same (leL.same leL.nil))) (x_X11_fits_7 hG h)
theorem s_X11_fits {l : Launch} {g : GH} (hG : G0 l g) {n : Nat} {v1 : Int} {D : DT} {K : (Int × DT) → Prop} (h : ok (m_X11_fits v1 D) K) : Sat l g yX11_fits cX11_fits 3 (some .int) 2 0 0 [vR g 73, vI v1] (LF n) D (PIw n K) := Sat.of hG (by decide) (Nat.le_of_ble_eq_true rfl) (by simp [Value.category]) (x_X11_fits hG h)
abbrev E_X11_scale (l : Launch) (g : GH) (P : PT) : ENV := mkE l g yX11_scale cX11_scale 3 (some .int) [] 2 0 0 P
abbrev P_X11_scale_15 (l : Launch) (g : GH) (n : Nat) (K : (Int × DT) → Prop) (v1 : Int) (D : DT) : Int → Prop := fun s => Px (E_X11_scale l g (PIw n K)) 15 [some (vR g 73), some (vI v1), some (vI s)] [] (LF n) D 0 0
set_option maxRecDepth 100000 in
set_option maxHeartbeats 4000000 in
theorem x_X11_scale_15 {l : Launch} {g : GH} (hG : G0 l g) {n : Nat} {v1 : Int} {D : DT} {K : (Int × DT) → Prop} {s : Int} (h : ok (m_X11_scale_15 v1 D s) K) : Px (E_X11_scale l g (PIw n K)) 15 [some (vR g 73), some (vI v1), some (vI s)] [] (LF n) D 0 0 := by
  refine ok_loop (P := (P_X11_scale_15 l g n K v1 D)) (fun s h => ?_) h
  refine p_iload_n dX11_scale_15 rfl ?_
  refine p_iconst dX11_scale_16 ?_
  refine q_icmp_ge (tgt := 38) dX11_scale_17 (by decide) h (fun h => ?_) (fun h => ?_)
  · have h := kl_inr h
    refine p_iconst dX11_scale_38 ?_
    exact p_ireturn dX11_scale_39 (Nat.le_of_ble_eq_true rfl) (Nat.le_of_ble_eq_true rfl) ⟨_, rfl, rfl, ok_some h⟩
  · refine p_aload_n dX11_scale_20 rfl ?_
    refine p_iconst dX11_scale_21 ?_
    refine p_iload_n dX11_scale_22 rfl ?_
    refine cV_Ir [vI (-1), vI s] [] dX11_scale_23 yv_X11_allDots ml_X11_286 (r := (RX11, TX11, 41)) rfl rfl (Nat.le_of_ble_eq_true rfl) rfl (Nat.le_of_ble_eq_true rfl) (Nat.le_of_ble_eq_true rfl) (Nat.le_of_ble_eq_true rfl) rfl h (fun K h => s_X11_allDots hG h) (fun r23 h => ?_)
    refine p_iload_n dX11_scale_26 rfl ?_
    refine q_icmp_gt (tgt := 32) dX11_scale_27 (by decide) h (fun h => ?_) (fun h => ?_)
    · refine p_iinc dX11_scale_32 rfl (Nat.le_of_ble_eq_true rfl) rfl ?_
      refine p_goto (tgt := 15) dX11_scale_35 (by decide) ?_
      exact p_weak (leL.same (leL.same (leL.same leL.nil))) (kl_inl (P := (P_X11_scale_15 l g n K v1 D)) h)
    · have h := kl_inr h
      refine p_iload_n dX11_scale_30 rfl ?_
      exact p_ireturn dX11_scale_31 (Nat.le_of_ble_eq_true rfl) (Nat.le_of_ble_eq_true rfl) ⟨_, rfl, rfl, ok_some h⟩
set_option maxRecDepth 100000 in
set_option maxHeartbeats 4000000 in
theorem x_X11_scale {l : Launch} {g : GH} (hG : G0 l g) {n : Nat} {v1 : Int} {D : DT} {K : (Int × DT) → Prop} (h : ok (m_X11_scale v1 D) K) : Px (E_X11_scale l g (PIw n K)) 0 [some (vR g 73), some (vI v1), none] [] (LF n) D 0 0 := by
  refine p_aload_n dX11_scale_0 rfl ?_
  refine p_iconst dX11_scale_1 ?_
  refine q_puti dX11_scale_2 fq_X11_106 rfl rfl h (fun D2 h => ?_)
  refine p_aload_n dX11_scale_5 rfl ?_
  refine p_aload_n dX11_scale_6 rfl ?_
  refine p_geti dX11_scale_7 fl_X11_48 (fun _ _ _ => rfl) rfl ?_
  refine cV_Vw [vI (D2.1 73 14)] [] dX11_scale_10 yv_X11_laysDots ml_X11_246 (r := (RX11, TX11, 41)) rfl rfl (Nat.le_of_ble_eq_true rfl) rfl (Nat.le_of_ble_eq_true rfl) (Nat.le_of_ble_eq_true rfl) (Nat.le_of_ble_eq_true rfl) rfl h (fun K h => s_X11_laysDots hG h) (fun D10 h => ?_)
  refine p_iconst dX11_scale_13 ?_
  refine p_istore_n dX11_scale_14 (Nat.le_of_ble_eq_true rfl) rfl ?_
  exact p_weak (leL.same (leL.same (leL.same leL.nil))) (x_X11_scale_15 hG h)
theorem s_X11_scale {l : Launch} {g : GH} (hG : G0 l g) {n : Nat} {v1 : Int} {D : DT} {K : (Int × DT) → Prop} (h : ok (m_X11_scale v1 D) K) : Sat l g yX11_scale cX11_scale 3 (some .int) 2 0 0 [vR g 73, vI v1] (LF n) D (PIw n K) := Sat.of hG (by decide) (Nat.le_of_ble_eq_true rfl) (by simp [Value.category]) (x_X11_scale hG h)
abbrev E_X11_picks (l : Launch) (g : GH) (P : PT) : ENV := mkE l g yX11_picks cX11_picks 2 none [] 0 0 0 P
set_option maxRecDepth 100000 in
set_option maxHeartbeats 4000000 in
theorem x_X11_picks {l : Launch} {g : GH} (hG : G0 l g) {n : Nat} {v1 : Int} {D : DT} {K : DT → Prop} (h : ok (m_X11_picks v1 D) K) : Px (E_X11_picks l g (PVw n K)) 0 [some (vR g 73), some (vI v1)] [] (LF n) D 0 0 := by
  refine p_aload_n dX11_picks_0 rfl ?_
  refine p_getr dX11_picks_1 fl_X11_97 (fun _ _ _ => rfl) rfl rfl ?_
  refine p_aload_n dX11_picks_4 rfl ?_
  refine p_geti dX11_picks_5 fl_X11_331 (fun _ _ _ => rfl) rfl ?_
  refine p_iload_n dX11_picks_8 rfl ?_
  refine q_iast dX11_picks_9 rfl rfl h (fun D9 h => ?_)
  refine p_aload_n dX11_picks_10 rfl ?_
  refine p_dup dX11_picks_11 rfl ?_
  refine p_geti dX11_picks_12 fl_X11_331 (fun _ _ _ => rfl) rfl ?_
  refine p_iconst dX11_picks_15 ?_
  refine p_iadd dX11_picks_16 ?_
  refine q_puti dX11_picks_17 fq_X11_331 rfl rfl h (fun D17 h => ?_)
  exact p_return dX11_picks_20 (Nat.le_of_ble_eq_true rfl) (Nat.le_of_ble_eq_true rfl) ⟨rfl, rfl, ok_some h⟩
theorem s_X11_picks {l : Launch} {g : GH} (hG : G0 l g) {n : Nat} {v1 : Int} {D : DT} {K : DT → Prop} (h : ok (m_X11_picks v1 D) K) : Sat l g yX11_picks cX11_picks 2 none 0 0 0 [vR g 73, vI v1] (LF n) D (PVw n K) := Sat.of hG (by decide) (Nat.le_of_ble_eq_true rfl) (by simp [Value.category]) (x_X11_picks hG h)
abbrev E_X11_pickedAt (l : Launch) (g : GH) (P : PT) : ENV := mkE l g yX11_pickedAt cX11_pickedAt 2 (some .int) [] 1 0 0 P
set_option maxRecDepth 100000 in
set_option maxHeartbeats 4000000 in
theorem x_X11_pickedAt {l : Launch} {g : GH} (hG : G0 l g) {n : Nat} {v1 : Int} {D : DT} {K : Int → Prop} (h : ok (m_X11_pickedAt v1 D) K) : Px (E_X11_pickedAt l g (PIr n D K)) 0 [some (vR g 73), some (vI v1)] [] (LF n) D 0 0 := by
  refine p_iload_n dX11_pickedAt_0 rfl ?_
  refine p_iconst dX11_pickedAt_1 ?_
  refine q_icmp_ne (tgt := 12) dX11_pickedAt_2 (by decide) h (fun h => ?_) (fun h => ?_)
  · refine p_iload_n dX11_pickedAt_12 rfl ?_
    refine p_iconst dX11_pickedAt_13 ?_
    refine p_aload_n dX11_pickedAt_14 rfl ?_
    refine p_geti dX11_pickedAt_15 fl_X11_331 (fun _ _ _ => rfl) rfl ?_
    refine p_iconst dX11_pickedAt_18 ?_
    refine p_isub dX11_pickedAt_19 ?_
    refine cS_Ir [vI v1, vI 0, vI ((D.1 73 36) - 1)] [] dX11_pickedAt_20 ys_X11_in ml_X11_169 (Nat.le_of_ble_eq_true rfl) rfl (Nat.le_of_ble_eq_true rfl) (Nat.le_of_ble_eq_true rfl) (Nat.le_of_ble_eq_true rfl) h (fun K h => s_X11_in hG h) (fun r20 h => ?_)
    refine q_if_eq (tgt := 35) dX11_pickedAt_23 (by decide) h (fun h => ?_) (fun h => ?_)
    · refine p_iconst dX11_pickedAt_35 ?_
      exact p_ireturn dX11_pickedAt_36 (Nat.le_of_ble_eq_true rfl) (Nat.le_of_ble_eq_true rfl) ⟨_, rfl, rfl, rfl, ok_some h⟩
    · refine p_aload_n dX11_pickedAt_26 rfl ?_
      refine p_getr dX11_pickedAt_27 fl_X11_97 (fun _ _ _ => rfl) rfl rfl ?_
      refine p_iload_n dX11_pickedAt_30 rfl ?_
      refine q_iald dX11_pickedAt_31 rfl rfl h (fun h => ?_)
      refine p_goto (tgt := 36) dX11_pickedAt_32 (by decide) ?_
      exact p_ireturn dX11_pickedAt_36 (Nat.le_of_ble_eq_true rfl) (Nat.le_of_ble_eq_true rfl) ⟨_, rfl, rfl, rfl, ok_some h⟩
  · refine p_aload_n dX11_pickedAt_5 rfl ?_
    refine p_geti dX11_pickedAt_6 fl_X11_331 (fun _ _ _ => rfl) rfl ?_
    refine p_goto (tgt := 36) dX11_pickedAt_9 (by decide) ?_
    exact p_ireturn dX11_pickedAt_36 (Nat.le_of_ble_eq_true rfl) (Nat.le_of_ble_eq_true rfl) ⟨_, rfl, rfl, rfl, ok_some h⟩
theorem s_X11_pickedAt {l : Launch} {g : GH} (hG : G0 l g) {n : Nat} {v1 : Int} {D : DT} {K : Int → Prop} (h : ok (m_X11_pickedAt v1 D) K) : Sat l g yX11_pickedAt cX11_pickedAt 2 (some .int) 1 0 0 [vR g 73, vI v1] (LF n) D (PIr n D K) := Sat.of hG (by decide) (Nat.le_of_ble_eq_true rfl) (by simp [Value.category]) (x_X11_pickedAt hG h)
abbrev E_X11_isAway (l : Launch) (g : GH) (P : PT) : ENV := mkE l g yX11_isAway cX11_isAway 4 (some .boolean) [] 1 0 0 P
abbrev P_X11_isAway_2 (l : Launch) (g : GH) (n : Nat) (K : Int → Prop) (v1 : Int) (v2 : Int) (D : DT) : Int → Prop := fun s => Px (E_X11_isAway l g (PIr n D K)) 2 [some (vR g 73), some (vI v1), some (vI v2), some (vI s)] [] (LF n) D 0 0
set_option maxRecDepth 100000 in
set_option maxHeartbeats 4000000 in
theorem x_X11_isAway_2 {l : Launch} {g : GH} (hG : G0 l g) {n : Nat} {v1 v2 : Int} {D : DT} {K : Int → Prop} {s : Int} (h : ok (m_X11_isAway_2 v1 v2 D s) K) : Px (E_X11_isAway l g (PIr n D K)) 2 [some (vR g 73), some (vI v1), some (vI v2), some (vI s)] [] (LF n) D 0 0 := by
  refine ok_loop (P := (P_X11_isAway_2 l g n K v1 v2 D)) (fun s h => ?_) h
  refine p_iload_n dX11_isAway_2 rfl ?_
  refine p_aload_n dX11_isAway_3 rfl ?_
  refine p_geti dX11_isAway_4 fl_X11_331 (fun _ _ _ => rfl) rfl ?_
  refine q_icmp_ge (tgt := 33) dX11_isAway_7 (by decide) h (fun h => ?_) (fun h => ?_)
  · have h := kl_inr h
    refine p_iconst dX11_isAway_33 ?_
    exact p_zreturn dX11_isAway_34 (Nat.le_of_ble_eq_true rfl) (Nat.le_of_ble_eq_true rfl) (Or.inr rfl) ⟨_, rfl, rfl, rfl, ok_some h⟩
  · refine p_aload_n dX11_isAway_10 rfl ?_
    refine p_aload_n dX11_isAway_11 rfl ?_
    refine p_getr dX11_isAway_12 fl_X11_97 (fun _ _ _ => rfl) rfl rfl ?_
    refine p_iload_n dX11_isAway_15 rfl ?_
    refine q_iald dX11_isAway_16 rfl rfl h (fun h => ?_)
    refine p_iload_n dX11_isAway_17 rfl ?_
    refine cV_Ir [vI (D.2 99 (Int.toNat s)), vI v1] [] dX11_isAway_18 yv_X11_far ml_X11_236 (r := (RX11, TX11, 41)) rfl rfl (Nat.le_of_ble_eq_true rfl) rfl (Nat.le_of_ble_eq_true rfl) (Nat.le_of_ble_eq_true rfl) (Nat.le_of_ble_eq_true rfl) rfl h (fun K h => s_X11_far hG h) (fun r18 h => ?_)
    refine p_iload_n dX11_isAway_21 rfl ?_
    refine q_icmp_ge (tgt := 27) dX11_isAway_22 (by decide) h (fun h => ?_) (fun h => ?_)
    · refine p_iinc dX11_isAway_27 rfl (Nat.le_of_ble_eq_true rfl) rfl ?_
      refine p_goto (tgt := 2) dX11_isAway_30 (by decide) ?_
      exact p_weak (leL.same (leL.same (leL.same (leL.same leL.nil)))) (kl_inl (P := (P_X11_isAway_2 l g n K v1 v2 D)) h)
    · have h := kl_inr h
      refine p_iconst dX11_isAway_25 ?_
      exact p_zreturn dX11_isAway_26 (Nat.le_of_ble_eq_true rfl) (Nat.le_of_ble_eq_true rfl) (Or.inl rfl) ⟨_, rfl, rfl, rfl, ok_some h⟩
set_option maxRecDepth 100000 in
set_option maxHeartbeats 4000000 in
theorem x_X11_isAway {l : Launch} {g : GH} (hG : G0 l g) {n : Nat} {v1 : Int} {v2 : Int} {D : DT} {K : Int → Prop} (h : ok (m_X11_isAway v1 v2 D) K) : Px (E_X11_isAway l g (PIr n D K)) 0 [some (vR g 73), some (vI v1), some (vI v2), none] [] (LF n) D 0 0 := by
  refine p_iconst dX11_isAway_0 ?_
  refine p_istore_n dX11_isAway_1 (Nat.le_of_ble_eq_true rfl) rfl ?_
  exact p_weak (leL.same (leL.same (leL.same (leL.same leL.nil)))) (x_X11_isAway_2 hG h)
theorem s_X11_isAway {l : Launch} {g : GH} (hG : G0 l g) {n : Nat} {v1 : Int} {v2 : Int} {D : DT} {K : Int → Prop} (h : ok (m_X11_isAway v1 v2 D) K) : Sat l g yX11_isAway cX11_isAway 4 (some .boolean) 1 0 0 [vR g 73, vI v1, vI v2] (LF n) D (PIr n D K) := Sat.of hG (by decide) (Nat.le_of_ble_eq_true rfl) (by simp [Value.category]) (x_X11_isAway hG h)
abbrev E_X11_thinned (l : Launch) (g : GH) (P : PT) : ENV := mkE l g yX11_thinned cX11_thinned 5 (some .int) [] 3 0 0 P
abbrev P_X11_thinned_52 (l : Launch) (g : GH) (n : Nat) (K : (Int × DT) → Prop) (v2 : Int) (v3 : Int) : (Int × DT) → Prop := fun s => Px (E_X11_thinned l g (PIw n K)) 52 [some (vR g 73), none, some (vI v2), some (vI v3), some (vI s.1)] [] (LF n) s.2 0 0
set_option maxRecDepth 100000 in
set_option maxHeartbeats 4000000 in
theorem x_X11_thinned_52 {l : Launch} {g : GH} (hG : G0 l g) {n : Nat} {v2 v3 : Int} {K : (Int × DT) → Prop} {s : (Int × DT)} (h : ok (m_X11_thinned_52 v2 v3 s) K) : Px (E_X11_thinned l g (PIw n K)) 52 [some (vR g 73), none, some (vI v2), some (vI v3), some (vI s.1)] [] (LF n) s.2 0 0 := by
  refine ok_loop (P := (P_X11_thinned_52 l g n K v2 v3)) (fun s h => ?_) h
  refine p_iload dX11_thinned_52 rfl ?_
  refine p_aload_n dX11_thinned_54 rfl ?_
  refine cV_Ir [] [vI s.1] dX11_thinned_55 yv_X11_cells ml_X11_229 (r := (RX11, TX11, 41)) rfl rfl (Nat.le_of_ble_eq_true rfl) rfl (Nat.le_of_ble_eq_true rfl) (Nat.le_of_ble_eq_true rfl) (Nat.le_of_ble_eq_true rfl) rfl h (fun K h => s_X11_cells hG h) (fun r55 h => ?_)
  refine q_icmp_ge (tgt := 92) dX11_thinned_58 (by decide) h (fun h => ?_) (fun h => ?_)
  · have h := kl_inr h
    refine p_aload_n dX11_thinned_92 rfl ?_
    refine p_iload_n dX11_thinned_93 rfl ?_
    refine cV_Ir [vI v3] [] dX11_thinned_94 yv_X11_pickedAt ml_X11_340 (r := (RX11, TX11, 41)) rfl rfl (Nat.le_of_ble_eq_true rfl) rfl (Nat.le_of_ble_eq_true rfl) (Nat.le_of_ble_eq_true rfl) (Nat.le_of_ble_eq_true rfl) rfl h (fun K h => s_X11_pickedAt hG h) (fun r94 h => ?_)
    exact p_ireturn dX11_thinned_97 (Nat.le_of_ble_eq_true rfl) (Nat.le_of_ble_eq_true rfl) ⟨_, rfl, rfl, ok_some h⟩
  · refine p_aload_n dX11_thinned_61 rfl ?_
    refine p_iload dX11_thinned_62 rfl ?_
    refine cV_Ir [vI s.1] [] dX11_thinned_64 yv_X11_hasDots ml_X11_292 (r := (RX11, TX11, 41)) rfl rfl (Nat.le_of_ble_eq_true rfl) rfl (Nat.le_of_ble_eq_true rfl) (Nat.le_of_ble_eq_true rfl) (Nat.le_of_ble_eq_true rfl) rfl h (fun K h => s_X11_hasDots hG h) (fun r64 h => ?_)
    refine q_if_eq (tgt := 86) dX11_thinned_67 (by decide) h (fun h => ?_) (fun h => ?_)
    · refine p_iinc dX11_thinned_86 rfl (Nat.le_of_ble_eq_true rfl) rfl ?_
      refine p_goto (tgt := 52) dX11_thinned_89 (by decide) ?_
      exact p_weak (leL.same (leL.drop (leL.same (leL.same (leL.same leL.nil))))) (kl_inl (P := (P_X11_thinned_52 l g n K v2 v3)) h)
    · refine p_aload_n dX11_thinned_70 rfl ?_
      refine p_iload dX11_thinned_71 rfl ?_
      refine p_iload_n dX11_thinned_73 rfl ?_
      refine cV_Ir [vI s.1, vI v2] [] dX11_thinned_74 yv_X11_isAway ml_X11_334 (r := (RX11, TX11, 41)) rfl rfl (Nat.le_of_ble_eq_true rfl) rfl (Nat.le_of_ble_eq_true rfl) (Nat.le_of_ble_eq_true rfl) (Nat.le_of_ble_eq_true rfl) rfl h (fun K h => s_X11_isAway hG h) (fun r74 h => ?_)
      refine q_if_eq (tgt := 86) dX11_thinned_77 (by decide) h (fun h => ?_) (fun h => ?_)
      · refine p_iinc dX11_thinned_86 rfl (Nat.le_of_ble_eq_true rfl) rfl ?_
        refine p_goto (tgt := 52) dX11_thinned_89 (by decide) ?_
        exact p_weak (leL.same (leL.drop (leL.same (leL.same (leL.same leL.nil))))) (kl_inl (P := (P_X11_thinned_52 l g n K v2 v3)) h)
      · refine p_aload_n dX11_thinned_80 rfl ?_
        refine p_iload dX11_thinned_81 rfl ?_
        refine cV_Vw [vI s.1] [] dX11_thinned_83 yv_X11_picks ml_X11_337 (r := (RX11, TX11, 41)) rfl rfl (Nat.le_of_ble_eq_true rfl) rfl (Nat.le_of_ble_eq_true rfl) (Nat.le_of_ble_eq_true rfl) (Nat.le_of_ble_eq_true rfl) rfl h (fun K h => s_X11_picks hG h) (fun D83 h => ?_)
        refine p_iinc dX11_thinned_86 rfl (Nat.le_of_ble_eq_true rfl) rfl ?_
        refine p_goto (tgt := 52) dX11_thinned_89 (by decide) ?_
        exact p_weak (leL.same (leL.drop (leL.same (leL.same (leL.same leL.nil))))) (kl_inl (P := (P_X11_thinned_52 l g n K v2 v3)) h)
set_option maxRecDepth 100000 in
set_option maxHeartbeats 4000000 in
theorem x_X11_thinned {l : Launch} {g : GH} (hG : G0 l g) {n : Nat} {v1 : Int} {v2 : Int} {v3 : Int} {D : DT} {K : (Int × DT) → Prop} (h : ok (m_X11_thinned v1 v2 v3 D) K) : Px (E_X11_thinned l g (PIw n K)) 0 [some (vR g 73), some (vI v1), some (vI v2), some (vI v3), none] [] (LF n) D 0 0 := by
  refine p_aload_n dX11_thinned_0 rfl ?_
  refine p_iconst dX11_thinned_1 ?_
  refine q_puti dX11_thinned_2 fq_X11_106 rfl rfl h (fun D2 h => ?_)
  refine p_aload_n dX11_thinned_5 rfl ?_
  refine p_iload_n dX11_thinned_6 rfl ?_
  refine cV_Iw [vI v1] [] dX11_thinned_7 yv_X11_noLevel ml_X11_283 (r := (RX11, TX11, 41)) rfl rfl (Nat.le_of_ble_eq_true rfl) rfl (Nat.le_of_ble_eq_true rfl) (Nat.le_of_ble_eq_true rfl) (Nat.le_of_ble_eq_true rfl) rfl h (fun K h => s_X11_noLevel hG h) (fun r7 D7 h => ?_)
  refine q_if_ne (tgt := 37) dX11_thinned_10 (by decide) h (fun h => ?_) (fun h => ?_)
  · refine p_iconst dX11_thinned_37 ?_
    exact p_ireturn dX11_thinned_38 (Nat.le_of_ble_eq_true rfl) (Nat.le_of_ble_eq_true rfl) ⟨_, rfl, rfl, ok_some h⟩
  · refine p_aload_n dX11_thinned_13 rfl ?_
    refine p_iload_n dX11_thinned_14 rfl ?_
    refine p_iconst dX11_thinned_15 ?_
    refine p_sipush dX11_thinned_16 (by decide) ?_
    refine cS_Ir [vI v2, vI 0, vI 999] [vR g 73] dX11_thinned_19 ys_X11_in ml_X11_169 (Nat.le_of_ble_eq_true rfl) rfl (Nat.le_of_ble_eq_true rfl) (Nat.le_of_ble_eq_true rfl) (Nat.le_of_ble_eq_true rfl) h (fun K h => s_X11_in hG h) (fun r19 h => ?_)
    refine q_if_ne (tgt := 29) dX11_thinned_22 (by decide) h (fun h => ?_) (fun h => ?_)
    · refine p_iconst dX11_thinned_29 ?_
      refine p_iconst dX11_thinned_30 ?_
      refine cV_Iw [vI 0, vI 2] [] dX11_thinned_31 yv_X11_throwsIf ml_X11_215 (r := (RX11, TX11, 41)) rfl rfl (Nat.le_of_ble_eq_true rfl) rfl (Nat.le_of_ble_eq_true rfl) (Nat.le_of_ble_eq_true rfl) (Nat.le_of_ble_eq_true rfl) rfl h (fun K h => s_X11_throwsIf hG h) (fun r31 D31 h => ?_)
      refine q_if_eq (tgt := 39) dX11_thinned_34 (by decide) h (fun h => ?_) (fun h => ?_)
      · refine p_aload_n dX11_thinned_39 rfl ?_
        refine p_iload_n dX11_thinned_40 rfl ?_
        refine cV_Vw [vI v1] [] dX11_thinned_41 yv_X11_laysCrowds ml_X11_289 (r := (RX11, TX11, 41)) rfl rfl (Nat.le_of_ble_eq_true rfl) rfl (Nat.le_of_ble_eq_true rfl) (Nat.le_of_ble_eq_true rfl) (Nat.le_of_ble_eq_true rfl) rfl h (fun K h => s_X11_laysCrowds hG h) (fun D41 h => ?_)
        refine p_aload_n dX11_thinned_44 rfl ?_
        refine p_iconst dX11_thinned_45 ?_
        refine q_puti dX11_thinned_46 fq_X11_331 rfl rfl h (fun D46 h => ?_)
        refine p_iconst dX11_thinned_49 ?_
        refine p_istore dX11_thinned_50 (Nat.le_of_ble_eq_true rfl) rfl ?_
        exact p_weak (leL.same (leL.drop (leL.same (leL.same (leL.same leL.nil))))) (x_X11_thinned_52 hG h)
      · refine p_iconst dX11_thinned_37 ?_
        exact p_ireturn dX11_thinned_38 (Nat.le_of_ble_eq_true rfl) (Nat.le_of_ble_eq_true rfl) ⟨_, rfl, rfl, ok_some h⟩
    · refine p_iconst dX11_thinned_25 ?_
      refine p_goto (tgt := 30) dX11_thinned_26 (by decide) ?_
      refine p_iconst dX11_thinned_30 ?_
      refine cV_Iw [vI 1, vI 2] [] dX11_thinned_31 yv_X11_throwsIf ml_X11_215 (r := (RX11, TX11, 41)) rfl rfl (Nat.le_of_ble_eq_true rfl) rfl (Nat.le_of_ble_eq_true rfl) (Nat.le_of_ble_eq_true rfl) (Nat.le_of_ble_eq_true rfl) rfl h (fun K h => s_X11_throwsIf hG h) (fun r31 D31 h => ?_)
      refine q_if_eq (tgt := 39) dX11_thinned_34 (by decide) h (fun h => ?_) (fun h => ?_)
      · refine p_aload_n dX11_thinned_39 rfl ?_
        refine p_iload_n dX11_thinned_40 rfl ?_
        refine cV_Vw [vI v1] [] dX11_thinned_41 yv_X11_laysCrowds ml_X11_289 (r := (RX11, TX11, 41)) rfl rfl (Nat.le_of_ble_eq_true rfl) rfl (Nat.le_of_ble_eq_true rfl) (Nat.le_of_ble_eq_true rfl) (Nat.le_of_ble_eq_true rfl) rfl h (fun K h => s_X11_laysCrowds hG h) (fun D41 h => ?_)
        refine p_aload_n dX11_thinned_44 rfl ?_
        refine p_iconst dX11_thinned_45 ?_
        refine q_puti dX11_thinned_46 fq_X11_331 rfl rfl h (fun D46 h => ?_)
        refine p_iconst dX11_thinned_49 ?_
        refine p_istore dX11_thinned_50 (Nat.le_of_ble_eq_true rfl) rfl ?_
        exact p_weak (leL.same (leL.drop (leL.same (leL.same (leL.same leL.nil))))) (x_X11_thinned_52 hG h)
      · refine p_iconst dX11_thinned_37 ?_
        exact p_ireturn dX11_thinned_38 (Nat.le_of_ble_eq_true rfl) (Nat.le_of_ble_eq_true rfl) ⟨_, rfl, rfl, ok_some h⟩
theorem s_X11_thinned {l : Launch} {g : GH} (hG : G0 l g) {n : Nat} {v1 : Int} {v2 : Int} {v3 : Int} {D : DT} {K : (Int × DT) → Prop} (h : ok (m_X11_thinned v1 v2 v3 D) K) : Sat l g yX11_thinned cX11_thinned 5 (some .int) 3 0 0 [vR g 73, vI v1, vI v2, vI v3] (LF n) D (PIw n K) := Sat.of hG (by decide) (Nat.le_of_ble_eq_true rfl) (by simp [Value.category]) (x_X11_thinned hG h)
abbrev E_X11_tours (l : Launch) (g : GH) (P : PT) : ENV := mkE l g yX11_tours cX11_tours 5 none [] 3 0 0 P
abbrev P_X11_tours_17 (l : Launch) (g : GH) (n : Nat) (K : DT → Prop) : (Int × DT) → Prop := fun s => Px (E_X11_tours l g (PVw n K)) 17 [some (vR g 73), none, some (vI s.1), none, none] [] (LF n) s.2 0 0
abbrev P_X11_tours_46 (l : Launch) (g : GH) (n : Nat) (K : DT → Prop) (D : DT) : (Int × Int) → Prop := fun s => Px (E_X11_tours l g (PVw n K)) 46 [some (vR g 73), none, some (vI s.1), some (vI s.2), none] [] (LF n) D 0 0
abbrev P_X11_tours_66 (l : Launch) (g : GH) (n : Nat) (K : DT → Prop) : (Int × DT) → Prop := fun s => Px (E_X11_tours l g (PVw n K)) 66 [some (vR g 73), none, some (vI s.1), none, none] [] (LF n) s.2 0 0
abbrev P_X11_tours_90 (l : Launch) (g : GH) (n : Nat) (K : DT → Prop) (v3 : Int) (D : DT) : (Int × Int) → Prop := fun s => Px (E_X11_tours l g (PVw n K)) 90 [some (vR g 73), none, some (vI s.1), some (vI v3), some (vI s.2)] [] (LF n) D 0 0
set_option maxRecDepth 100000 in
set_option maxHeartbeats 4000000 in
theorem x_X11_tours_90 {l : Launch} {g : GH} (hG : G0 l g) {n : Nat} {v3 : Int} {D : DT} {K : DT → Prop} {s : (Int × Int)} (h : ok (m_X11_tours_90 v3 D s) (KL (P_X11_tours_66 l g n K) K)) : Px (E_X11_tours l g (PVw n K)) 90 [some (vR g 73), none, some (vI s.1), some (vI v3), some (vI s.2)] [] (LF n) D 0 0 := by
  refine ok_loop (P := (P_X11_tours_90 l g n K v3 D)) (fun s h => ?_) h
  refine p_iload dX11_tours_90 rfl ?_
  refine p_aload_n dX11_tours_92 rfl ?_
  refine cV_Ir [] [vI s.2] dX11_tours_93 yv_X11_cells ml_X11_229 (r := (RX11, TX11, 41)) rfl rfl (Nat.le_of_ble_eq_true rfl) rfl (Nat.le_of_ble_eq_true rfl) (Nat.le_of_ble_eq_true rfl) (Nat.le_of_ble_eq_true rfl) rfl h (fun K h => s_X11_cells hG h) (fun r93 h => ?_)
  refine q_icmp_ge (tgt := 148) dX11_tours_96 (by decide) h (fun h => ?_) (fun h => ?_)
  · have h := kl_inr h
    refine p_iload_n dX11_tours_148 rfl ?_
    refine p_iconst dX11_tours_149 ?_
    refine q_icmp_eq (tgt := 168) dX11_tours_150 (by decide) h (fun h => ?_) (fun h => ?_)
    · refine p_goto (tgt := 66) dX11_tours_168 (by decide) ?_
      exact p_weak (leL.same (leL.drop (leL.same (leL.drop (leL.drop leL.nil))))) (kl_inl (P := (P_X11_tours_66 l g n K)) h)
    · refine p_aload_n dX11_tours_153 rfl ?_
      refine p_dup dX11_tours_154 rfl ?_
      refine p_geti dX11_tours_155 fl_X11_343 (fun _ _ _ => rfl) rfl ?_
      refine p_aload_n dX11_tours_158 rfl ?_
      refine p_iload_n dX11_tours_159 rfl ?_
      refine p_iload_n dX11_tours_160 rfl ?_
      refine cV_Ir [vI s.1, vI v3] [vI (D.1 73 38), vR g 73] dX11_tours_161 yv_X11_far ml_X11_236 (r := (RX11, TX11, 41)) rfl rfl (Nat.le_of_ble_eq_true rfl) rfl (Nat.le_of_ble_eq_true rfl) (Nat.le_of_ble_eq_true rfl) (Nat.le_of_ble_eq_true rfl) rfl h (fun K h => s_X11_far hG h) (fun r161 h => ?_)
      refine p_iadd dX11_tours_164 ?_
      refine q_puti dX11_tours_165 fq_X11_343 rfl rfl h (fun D165 h => ?_)
      refine p_goto (tgt := 66) dX11_tours_168 (by decide) ?_
      exact p_weak (leL.same (leL.drop (leL.same (leL.drop (leL.drop leL.nil))))) (kl_inl (P := (P_X11_tours_66 l g n K)) h)
  · refine p_aload_n dX11_tours_99 rfl ?_
    refine p_iload dX11_tours_100 rfl ?_
    refine cV_Ir [vI s.2] [] dX11_tours_102 yv_X11_hasDots ml_X11_292 (r := (RX11, TX11, 41)) rfl rfl (Nat.le_of_ble_eq_true rfl) rfl (Nat.le_of_ble_eq_true rfl) (Nat.le_of_ble_eq_true rfl) (Nat.le_of_ble_eq_true rfl) rfl h (fun K h => s_X11_hasDots hG h) (fun r102 h => ?_)
    refine q_if_eq (tgt := 142) dX11_tours_105 (by decide) h (fun h => ?_) (fun h => ?_)
    · refine p_iinc dX11_tours_142 rfl (Nat.le_of_ble_eq_true rfl) rfl ?_
      refine p_goto (tgt := 90) dX11_tours_145 (by decide) ?_
      exact p_weak (leL.same (leL.drop (leL.same (leL.same (leL.same leL.nil))))) (kl_inl (P := (P_X11_tours_90 l g n K v3 D)) h)
    · refine p_aload_n dX11_tours_108 rfl ?_
      refine p_getr dX11_tours_109 fl_X11_100 (fun _ _ _ => rfl) rfl rfl ?_
      refine p_iload dX11_tours_112 rfl ?_
      refine q_zald dX11_tours_114 rfl rfl h (fun h => ?_)
      refine q_if_ne (tgt := 142) dX11_tours_115 (by decide) h (fun h => ?_) (fun h => ?_)
      · refine p_iinc dX11_tours_142 rfl (Nat.le_of_ble_eq_true rfl) rfl ?_
        refine p_goto (tgt := 90) dX11_tours_145 (by decide) ?_
        exact p_weak (leL.same (leL.drop (leL.same (leL.same (leL.same leL.nil))))) (kl_inl (P := (P_X11_tours_90 l g n K v3 D)) h)
      · refine p_iload_n dX11_tours_118 rfl ?_
        refine p_iconst dX11_tours_119 ?_
        refine q_icmp_eq (tgt := 139) dX11_tours_120 (by decide) h (fun h => ?_) (fun h => ?_)
        · refine p_iload dX11_tours_139 rfl ?_
          refine p_istore_n dX11_tours_141 (Nat.le_of_ble_eq_true rfl) rfl ?_
          refine p_iinc dX11_tours_142 rfl (Nat.le_of_ble_eq_true rfl) rfl ?_
          refine p_goto (tgt := 90) dX11_tours_145 (by decide) ?_
          exact p_weak (leL.same (leL.drop (leL.same (leL.same (leL.same leL.nil))))) (kl_inl (P := (P_X11_tours_90 l g n K v3 D)) h)
        · refine p_aload_n dX11_tours_123 rfl ?_
          refine p_iload dX11_tours_124 rfl ?_
          refine p_iload_n dX11_tours_126 rfl ?_
          refine cV_Ir [vI s.2, vI v3] [] dX11_tours_127 yv_X11_far ml_X11_236 (r := (RX11, TX11, 41)) rfl rfl (Nat.le_of_ble_eq_true rfl) rfl (Nat.le_of_ble_eq_true rfl) (Nat.le_of_ble_eq_true rfl) (Nat.le_of_ble_eq_true rfl) rfl h (fun K h => s_X11_far hG h) (fun r127 h => ?_)
          refine p_aload_n dX11_tours_130 rfl ?_
          refine p_iload_n dX11_tours_131 rfl ?_
          refine p_iload_n dX11_tours_132 rfl ?_
          refine cV_Ir [vI s.1, vI v3] [vI r127] dX11_tours_133 yv_X11_far ml_X11_236 (r := (RX11, TX11, 41)) rfl rfl (Nat.le_of_ble_eq_true rfl) rfl (Nat.le_of_ble_eq_true rfl) (Nat.le_of_ble_eq_true rfl) (Nat.le_of_ble_eq_true rfl) rfl h (fun K h => s_X11_far hG h) (fun r133 h => ?_)
          refine q_icmp_ge (tgt := 142) dX11_tours_136 (by decide) h (fun h => ?_) (fun h => ?_)
          · refine p_iinc dX11_tours_142 rfl (Nat.le_of_ble_eq_true rfl) rfl ?_
            refine p_goto (tgt := 90) dX11_tours_145 (by decide) ?_
            exact p_weak (leL.same (leL.drop (leL.same (leL.same (leL.same leL.nil))))) (kl_inl (P := (P_X11_tours_90 l g n K v3 D)) h)
          · refine p_iload dX11_tours_139 rfl ?_
            refine p_istore_n dX11_tours_141 (Nat.le_of_ble_eq_true rfl) rfl ?_
            refine p_iinc dX11_tours_142 rfl (Nat.le_of_ble_eq_true rfl) rfl ?_
            refine p_goto (tgt := 90) dX11_tours_145 (by decide) ?_
            exact p_weak (leL.same (leL.drop (leL.same (leL.same (leL.same leL.nil))))) (kl_inl (P := (P_X11_tours_90 l g n K v3 D)) h)
set_option maxRecDepth 100000 in
set_option maxHeartbeats 4000000 in
theorem x_X11_tours_66 {l : Launch} {g : GH} (hG : G0 l g) {n : Nat} {K : DT → Prop} {s : (Int × DT)} (h : ok (m_X11_tours_66 s) K) : Px (E_X11_tours l g (PVw n K)) 66 [some (vR g 73), none, some (vI s.1), none, none] [] (LF n) s.2 0 0 := by
  refine ok_loop (P := (P_X11_tours_66 l g n K)) (fun s h => ?_) h
  refine p_iload_n dX11_tours_66 rfl ?_
  refine p_iconst dX11_tours_67 ?_
  refine q_icmp_eq (tgt := 171) dX11_tours_68 (by decide) h (fun h => ?_) (fun h => ?_)
  · have h := kl_inr h
    exact p_return dX11_tours_171 (Nat.le_of_ble_eq_true rfl) (Nat.le_of_ble_eq_true rfl) ⟨rfl, rfl, ok_some h⟩
  · refine p_iload_n dX11_tours_71 rfl ?_
    refine p_istore_n dX11_tours_72 (Nat.le_of_ble_eq_true rfl) rfl ?_
    refine p_aload_n dX11_tours_73 rfl ?_
    refine p_iload_n dX11_tours_74 rfl ?_
    refine cV_Vw [vI s.1] [] dX11_tours_75 yv_X11_picks ml_X11_337 (r := (RX11, TX11, 41)) rfl rfl (Nat.le_of_ble_eq_true rfl) rfl (Nat.le_of_ble_eq_true rfl) (Nat.le_of_ble_eq_true rfl) (Nat.le_of_ble_eq_true rfl) rfl h (fun K h => s_X11_picks hG h) (fun D75 h => ?_)
    refine p_aload_n dX11_tours_78 rfl ?_
    refine p_getr dX11_tours_79 fl_X11_100 (fun _ _ _ => rfl) rfl rfl ?_
    refine p_iload_n dX11_tours_82 rfl ?_
    refine p_iconst dX11_tours_83 ?_
    refine q_zast dX11_tours_84 rfl rfl h (fun D84 h => ?_)
    refine p_iconst dX11_tours_85 ?_
    refine p_istore_n dX11_tours_86 (Nat.le_of_ble_eq_true rfl) rfl ?_
    refine p_iconst dX11_tours_87 ?_
    refine p_istore dX11_tours_88 (Nat.le_of_ble_eq_true rfl) rfl ?_
    exact p_weak (leL.same (leL.drop (leL.same (leL.same (leL.same leL.nil))))) (x_X11_tours_90 hG h)
set_option maxRecDepth 100000 in
set_option maxHeartbeats 4000000 in
theorem x_X11_tours_46 {l : Launch} {g : GH} (hG : G0 l g) {n : Nat} {D : DT} {K : DT → Prop} {s : (Int × Int)} (h : ok (m_X11_tours_46 D s) K) : Px (E_X11_tours l g (PVw n K)) 46 [some (vR g 73), none, some (vI s.1), some (vI s.2), none] [] (LF n) D 0 0 := by
  refine ok_loop (P := (P_X11_tours_46 l g n K D)) (fun s h => ?_) h
  refine p_iload_n dX11_tours_46 rfl ?_
  refine q_if_lt (tgt := 66) dX11_tours_47 (by decide) h (fun h => ?_) (fun h => ?_)
  · have h := kl_inr h
    exact p_weak (leL.same (leL.drop (leL.same (leL.drop (leL.drop leL.nil))))) (x_X11_tours_66 hG h)
  · refine p_aload_n dX11_tours_50 rfl ?_
    refine p_iload_n dX11_tours_51 rfl ?_
    refine cV_Ir [vI s.2] [] dX11_tours_52 yv_X11_hasDots ml_X11_292 (r := (RX11, TX11, 41)) rfl rfl (Nat.le_of_ble_eq_true rfl) rfl (Nat.le_of_ble_eq_true rfl) (Nat.le_of_ble_eq_true rfl) (Nat.le_of_ble_eq_true rfl) rfl h (fun K h => s_X11_hasDots hG h) (fun r52 h => ?_)
    refine q_if_eq (tgt := 60) dX11_tours_55 (by decide) h (fun h => ?_) (fun h => ?_)
    · refine p_iinc dX11_tours_60 rfl (Nat.le_of_ble_eq_true rfl) rfl ?_
      refine p_goto (tgt := 46) dX11_tours_63 (by decide) ?_
      exact p_weak (leL.same (leL.drop (leL.same (leL.same (leL.drop leL.nil))))) (kl_inl (P := (P_X11_tours_46 l g n K D)) h)
    · refine p_iload_n dX11_tours_58 rfl ?_
      refine p_istore_n dX11_tours_59 (Nat.le_of_ble_eq_true rfl) rfl ?_
      refine p_iinc dX11_tours_60 rfl (Nat.le_of_ble_eq_true rfl) rfl ?_
      refine p_goto (tgt := 46) dX11_tours_63 (by decide) ?_
      exact p_weak (leL.same (leL.drop (leL.same (leL.same (leL.drop leL.nil))))) (kl_inl (P := (P_X11_tours_46 l g n K D)) h)
set_option maxRecDepth 100000 in
set_option maxHeartbeats 4000000 in
theorem x_X11_tours_17 {l : Launch} {g : GH} (hG : G0 l g) {n : Nat} {K : DT → Prop} {s : (Int × DT)} (h : ok (m_X11_tours_17 s) K) : Px (E_X11_tours l g (PVw n K)) 17 [some (vR g 73), none, some (vI s.1), none, none] [] (LF n) s.2 0 0 := by
  refine ok_loop (P := (P_X11_tours_17 l g n K)) (fun s h => ?_) h
  refine p_iload_n dX11_tours_17 rfl ?_
  refine p_sipush dX11_tours_18 (by decide) ?_
  refine q_icmp_ge (tgt := 37) dX11_tours_21 (by decide) h (fun h => ?_) (fun h => ?_)
  · have h := kl_inr h
    refine p_iconst dX11_tours_37 ?_
    refine p_istore_n dX11_tours_38 (Nat.le_of_ble_eq_true rfl) rfl ?_
    refine p_aload_n dX11_tours_39 rfl ?_
    refine cV_Ir [] [] dX11_tours_40 yv_X11_cells ml_X11_229 (r := (RX11, TX11, 41)) rfl rfl (Nat.le_of_ble_eq_true rfl) rfl (Nat.le_of_ble_eq_true rfl) (Nat.le_of_ble_eq_true rfl) (Nat.le_of_ble_eq_true rfl) rfl h (fun K h => s_X11_cells hG h) (fun r40 h => ?_)
    refine p_iconst dX11_tours_43 ?_
    refine p_isub dX11_tours_44 ?_
    refine p_istore_n dX11_tours_45 (Nat.le_of_ble_eq_true rfl) rfl ?_
    exact p_weak (leL.same (leL.drop (leL.same (leL.same (leL.drop leL.nil))))) (x_X11_tours_46 hG h)
  · refine p_aload_n dX11_tours_24 rfl ?_
    refine p_getr dX11_tours_25 fl_X11_100 (fun _ _ _ => rfl) rfl rfl ?_
    refine p_iload_n dX11_tours_28 rfl ?_
    refine p_iconst dX11_tours_29 ?_
    refine q_zast dX11_tours_30 rfl rfl h (fun D30 h => ?_)
    refine p_iinc dX11_tours_31 rfl (Nat.le_of_ble_eq_true rfl) rfl ?_
    refine p_goto (tgt := 17) dX11_tours_34 (by decide) ?_
    exact p_weak (leL.same (leL.drop (leL.same (leL.drop (leL.drop leL.nil))))) (kl_inl (P := (P_X11_tours_17 l g n K)) h)
set_option maxRecDepth 100000 in
set_option maxHeartbeats 4000000 in
theorem x_X11_tours {l : Launch} {g : GH} (hG : G0 l g) {n : Nat} {v1 : Int} {D : DT} {K : DT → Prop} (h : ok (m_X11_tours v1 D) K) : Px (E_X11_tours l g (PVw n K)) 0 [some (vR g 73), some (vI v1), none, none, none] [] (LF n) D 0 0 := by
  refine p_aload_n dX11_tours_0 rfl ?_
  refine p_iload_n dX11_tours_1 rfl ?_
  refine cV_Vw [vI v1] [] dX11_tours_2 yv_X11_laysCrowds ml_X11_289 (r := (RX11, TX11, 41)) rfl rfl (Nat.le_of_ble_eq_true rfl) rfl (Nat.le_of_ble_eq_true rfl) (Nat.le_of_ble_eq_true rfl) (Nat.le_of_ble_eq_true rfl) rfl h (fun K h => s_X11_laysCrowds hG h) (fun D2 h => ?_)
  refine p_aload_n dX11_tours_5 rfl ?_
  refine p_iconst dX11_tours_6 ?_
  refine q_puti dX11_tours_7 fq_X11_331 rfl rfl h (fun D7 h => ?_)
  refine p_aload_n dX11_tours_10 rfl ?_
  refine p_iconst dX11_tours_11 ?_
  refine q_puti dX11_tours_12 fq_X11_343 rfl rfl h (fun D12 h => ?_)
  refine p_iconst dX11_tours_15 ?_
  refine p_istore_n dX11_tours_16 (Nat.le_of_ble_eq_true rfl) rfl ?_
  exact p_weak (leL.same (leL.drop (leL.same (leL.drop (leL.drop leL.nil))))) (x_X11_tours_17 hG h)
theorem s_X11_tours {l : Launch} {g : GH} (hG : G0 l g) {n : Nat} {v1 : Int} {D : DT} {K : DT → Prop} (h : ok (m_X11_tours v1 D) K) : Sat l g yX11_tours cX11_tours 5 none 3 0 0 [vR g 73, vI v1] (LF n) D (PVw n K) := Sat.of hG (by decide) (Nat.le_of_ble_eq_true rfl) (by simp [Value.category]) (x_X11_tours hG h)
abbrev E_X11_tour (l : Launch) (g : GH) (P : PT) : ENV := mkE l g yX11_tour cX11_tour 3 (some .int) [] 4 0 0 P
set_option maxRecDepth 100000 in
set_option maxHeartbeats 4000000 in
theorem x_X11_tour {l : Launch} {g : GH} (hG : G0 l g) {n : Nat} {v1 : Int} {v2 : Int} {D : DT} {K : (Int × DT) → Prop} (h : ok (m_X11_tour v1 v2 D) K) : Px (E_X11_tour l g (PIw n K)) 0 [some (vR g 73), some (vI v1), some (vI v2)] [] (LF n) D 0 0 := by
  refine p_aload_n dX11_tour_0 rfl ?_
  refine p_iconst dX11_tour_1 ?_
  refine q_puti dX11_tour_2 fq_X11_106 rfl rfl h (fun D2 h => ?_)
  refine p_aload_n dX11_tour_5 rfl ?_
  refine p_iload_n dX11_tour_6 rfl ?_
  refine cV_Iw [vI v1] [] dX11_tour_7 yv_X11_noLevel ml_X11_283 (r := (RX11, TX11, 41)) rfl rfl (Nat.le_of_ble_eq_true rfl) rfl (Nat.le_of_ble_eq_true rfl) (Nat.le_of_ble_eq_true rfl) (Nat.le_of_ble_eq_true rfl) rfl h (fun K h => s_X11_noLevel hG h) (fun r7 D7 h => ?_)
  refine q_if_eq (tgt := 15) dX11_tour_10 (by decide) h (fun h => ?_) (fun h => ?_)
  · refine p_aload_n dX11_tour_15 rfl ?_
    refine p_iload_n dX11_tour_16 rfl ?_
    refine cV_Vw [vI v1] [] dX11_tour_17 yv_X11_tours ml_X11_346 (r := (RX11, TX11, 41)) rfl rfl (Nat.le_of_ble_eq_true rfl) rfl (Nat.le_of_ble_eq_true rfl) (Nat.le_of_ble_eq_true rfl) (Nat.le_of_ble_eq_true rfl) rfl h (fun K h => s_X11_tours hG h) (fun D17 h => ?_)
    refine p_aload_n dX11_tour_20 rfl ?_
    refine p_iload_n dX11_tour_21 rfl ?_
    refine cV_Ir [vI v2] [] dX11_tour_22 yv_X11_pickedAt ml_X11_340 (r := (RX11, TX11, 41)) rfl rfl (Nat.le_of_ble_eq_true rfl) rfl (Nat.le_of_ble_eq_true rfl) (Nat.le_of_ble_eq_true rfl) (Nat.le_of_ble_eq_true rfl) rfl h (fun K h => s_X11_pickedAt hG h) (fun r22 h => ?_)
    exact p_ireturn dX11_tour_25 (Nat.le_of_ble_eq_true rfl) (Nat.le_of_ble_eq_true rfl) ⟨_, rfl, rfl, ok_some h⟩
  · refine p_iconst dX11_tour_13 ?_
    exact p_ireturn dX11_tour_14 (Nat.le_of_ble_eq_true rfl) (Nat.le_of_ble_eq_true rfl) ⟨_, rfl, rfl, ok_some h⟩
theorem s_X11_tour {l : Launch} {g : GH} (hG : G0 l g) {n : Nat} {v1 : Int} {v2 : Int} {D : DT} {K : (Int × DT) → Prop} (h : ok (m_X11_tour v1 v2 D) K) : Sat l g yX11_tour cX11_tour 3 (some .int) 4 0 0 [vR g 73, vI v1, vI v2] (LF n) D (PIw n K) := Sat.of hG (by decide) (Nat.le_of_ble_eq_true rfl) (by simp [Value.category]) (x_X11_tour hG h)
abbrev E_X11_way (l : Launch) (g : GH) (P : PT) : ENV := mkE l g yX11_way cX11_way 2 (some .int) [] 4 0 0 P
set_option maxRecDepth 100000 in
set_option maxHeartbeats 4000000 in
theorem x_X11_way {l : Launch} {g : GH} (hG : G0 l g) {n : Nat} {v1 : Int} {D : DT} {K : (Int × DT) → Prop} (h : ok (m_X11_way v1 D) K) : Px (E_X11_way l g (PIw n K)) 0 [some (vR g 73), some (vI v1)] [] (LF n) D 0 0 := by
  refine p_aload_n dX11_way_0 rfl ?_
  refine p_iconst dX11_way_1 ?_
  refine q_puti dX11_way_2 fq_X11_106 rfl rfl h (fun D2 h => ?_)
  refine p_aload_n dX11_way_5 rfl ?_
  refine p_iload_n dX11_way_6 rfl ?_
  refine cV_Iw [vI v1] [] dX11_way_7 yv_X11_noLevel ml_X11_283 (r := (RX11, TX11, 41)) rfl rfl (Nat.le_of_ble_eq_true rfl) rfl (Nat.le_of_ble_eq_true rfl) (Nat.le_of_ble_eq_true rfl) (Nat.le_of_ble_eq_true rfl) rfl h (fun K h => s_X11_noLevel hG h) (fun r7 D7 h => ?_)
  refine q_if_eq (tgt := 15) dX11_way_10 (by decide) h (fun h => ?_) (fun h => ?_)
  · refine p_aload_n dX11_way_15 rfl ?_
    refine p_iload_n dX11_way_16 rfl ?_
    refine cV_Vw [vI v1] [] dX11_way_17 yv_X11_tours ml_X11_346 (r := (RX11, TX11, 41)) rfl rfl (Nat.le_of_ble_eq_true rfl) rfl (Nat.le_of_ble_eq_true rfl) (Nat.le_of_ble_eq_true rfl) (Nat.le_of_ble_eq_true rfl) rfl h (fun K h => s_X11_tours hG h) (fun D17 h => ?_)
    refine p_aload_n dX11_way_20 rfl ?_
    refine p_geti dX11_way_21 fl_X11_343 (fun _ _ _ => rfl) rfl ?_
    exact p_ireturn dX11_way_24 (Nat.le_of_ble_eq_true rfl) (Nat.le_of_ble_eq_true rfl) ⟨_, rfl, rfl, ok_some h⟩
  · refine p_iconst dX11_way_13 ?_
    exact p_ireturn dX11_way_14 (Nat.le_of_ble_eq_true rfl) (Nat.le_of_ble_eq_true rfl) ⟨_, rfl, rfl, ok_some h⟩
theorem s_X11_way {l : Launch} {g : GH} (hG : G0 l g) {n : Nat} {v1 : Int} {D : DT} {K : (Int × DT) → Prop} (h : ok (m_X11_way v1 D) K) : Sat l g yX11_way cX11_way 2 (some .int) 4 0 0 [vR g 73, vI v1] (LF n) D (PIw n K) := Sat.of hG (by decide) (Nat.le_of_ble_eq_true rfl) (by simp [Value.category]) (x_X11_way hG h)
abbrev E_X11_hand (l : Launch) (g : GH) (P : PT) : ENV := mkE l g yX11_hand cX11_hand 5 (some .int) [] 0 0 0 P
set_option maxRecDepth 100000 in
set_option maxHeartbeats 4000000 in
theorem x_X11_hand {l : Launch} {g : GH} (hG : G0 l g) {n : Nat} {v1 : Int} {v2 : Int} {v3 : Int} {D : DT} {K : Int → Prop} (h : ok (m_X11_hand v1 v2 v3 D) K) : Px (E_X11_hand l g (PIr n D K)) 0 [some (vR g 73), some (vI v1), some (vI v2), some (vI v3), none] [] (LF n) D 0 0 := by
  refine p_aload_n dX11_hand_0 rfl ?_
  refine p_getr dX11_hand_1 fl_X11_17 (fun _ _ _ => rfl) rfl rfl ?_
  refine p_iconst dX11_hand_4 ?_
  refine q_iald dX11_hand_5 rfl rfl h (fun h => ?_)
  refine p_istore dX11_hand_6 (Nat.le_of_ble_eq_true rfl) rfl ?_
  refine p_iload_n dX11_hand_8 rfl ?_
  refine p_iload dX11_hand_9 rfl ?_
  refine q_irem dX11_hand_11 h (fun h => ?_)
  refine p_iload_n dX11_hand_12 rfl ?_
  refine p_iload dX11_hand_13 rfl ?_
  refine q_irem dX11_hand_15 h (fun h => ?_)
  refine p_isub dX11_hand_16 ?_
  refine p_iload_n dX11_hand_17 rfl ?_
  refine p_iload dX11_hand_18 rfl ?_
  refine q_idiv dX11_hand_20 h (fun h => ?_)
  refine p_iload_n dX11_hand_21 rfl ?_
  refine p_iload dX11_hand_22 rfl ?_
  refine q_idiv dX11_hand_24 h (fun h => ?_)
  refine p_isub dX11_hand_25 ?_
  refine p_imul dX11_hand_26 ?_
  refine p_iload_n dX11_hand_27 rfl ?_
  refine p_iload dX11_hand_28 rfl ?_
  refine q_idiv dX11_hand_30 h (fun h => ?_)
  refine p_iload_n dX11_hand_31 rfl ?_
  refine p_iload dX11_hand_32 rfl ?_
  refine q_idiv dX11_hand_34 h (fun h => ?_)
  refine p_isub dX11_hand_35 ?_
  refine p_iload_n dX11_hand_36 rfl ?_
  refine p_iload dX11_hand_37 rfl ?_
  refine q_irem dX11_hand_39 h (fun h => ?_)
  refine p_iload_n dX11_hand_40 rfl ?_
  refine p_iload dX11_hand_41 rfl ?_
  refine q_irem dX11_hand_43 h (fun h => ?_)
  refine p_isub dX11_hand_44 ?_
  refine p_imul dX11_hand_45 ?_
  refine p_isub dX11_hand_46 ?_
  exact p_ireturn dX11_hand_47 (Nat.le_of_ble_eq_true rfl) (Nat.le_of_ble_eq_true rfl) ⟨_, rfl, rfl, rfl, ok_some h⟩
theorem s_X11_hand {l : Launch} {g : GH} (hG : G0 l g) {n : Nat} {v1 : Int} {v2 : Int} {v3 : Int} {D : DT} {K : Int → Prop} (h : ok (m_X11_hand v1 v2 v3 D) K) : Sat l g yX11_hand cX11_hand 5 (some .int) 0 0 0 [vR g 73, vI v1, vI v2, vI v3] (LF n) D (PIr n D K) := Sat.of hG (by decide) (Nat.le_of_ble_eq_true rfl) (by simp [Value.category]) (x_X11_hand hG h)
abbrev E_X11_hulls (l : Launch) (g : GH) (P : PT) : ENV := mkE l g yX11_hulls cX11_hulls 7 none [] 3 0 0 P
abbrev P_X11_hulls_19 (l : Launch) (g : GH) (n : Nat) (K : DT → Prop) (D : DT) : (Int × Int) → Prop := fun s => Px (E_X11_hulls l g (PVw n K)) 19 [some (vR g 73), none, some (vI s.1), some (vI s.2), none, none, none] [] (LF n) D 0 0
abbrev P_X11_hulls_41 (l : Launch) (g : GH) (n : Nat) (K : DT → Prop) (v2 : Int) : (Int × DT) → Prop := fun s => Px (E_X11_hulls l g (PVw n K)) 41 [some (vR g 73), none, some (vI v2), some (vI s.1), none, none, none] [] (LF n) s.2 0 0
abbrev P_X11_hulls_57 (l : Launch) (g : GH) (n : Nat) (K : DT → Prop) (v2 : Int) (v3 : Int) (D : DT) : (Int × Int) → Prop := fun s => Px (E_X11_hulls l g (PVw n K)) 57 [some (vR g 73), none, some (vI v2), some (vI v3), some (vI s.1), some (vI s.2), none] [] (LF n) D 0 0
set_option maxRecDepth 100000 in
set_option maxHeartbeats 4000000 in
theorem x_X11_hulls_103 {l : Launch} {g : GH} (hG : G0 l g) {n : Nat} {v2 v3 v4 v5 : Int} {x0 : Int} {D : DT} {K : DT → Prop} (h : ok (m_X11_hulls_103 v2 v3 v4 v5 x0 D) (KL (P_X11_hulls_57 l g n K v2 v3 D) (KL (P_X11_hulls_41 l g n K v2) K))) : Px (E_X11_hulls l g (PVw n K)) 103 [some (vR g 73), none, some (vI v2), some (vI v3), some (vI v4), some (vI v5), none] [vI x0] (LF n) D 0 0 := by
  refine p_istore dX11_hulls_103 (Nat.le_of_ble_eq_true rfl) rfl ?_
  refine p_iload dX11_hulls_105 rfl ?_
  refine q_if_lt (tgt := 132) dX11_hulls_107 (by decide) h (fun h => ?_) (fun h => ?_)
  · refine p_iload dX11_hulls_132 rfl ?_
    refine p_istore dX11_hulls_134 (Nat.le_of_ble_eq_true rfl) rfl ?_
    refine p_iinc dX11_hulls_136 rfl (Nat.le_of_ble_eq_true rfl) rfl ?_
    refine p_goto (tgt := 57) dX11_hulls_139 (by decide) ?_
    exact p_weak (leL.same (leL.drop (leL.same (leL.same (leL.same (leL.same (leL.drop leL.nil))))))) (kl_inl (P := (P_X11_hulls_57 l g n K v2 v3 D)) h)
  · refine p_iload dX11_hulls_110 rfl ?_
    refine q_if_ne (tgt := 136) dX11_hulls_112 (by decide) h (fun h => ?_) (fun h => ?_)
    · refine p_iinc dX11_hulls_136 rfl (Nat.le_of_ble_eq_true rfl) rfl ?_
      refine p_goto (tgt := 57) dX11_hulls_139 (by decide) ?_
      exact p_weak (leL.same (leL.drop (leL.same (leL.same (leL.same (leL.same (leL.drop leL.nil))))))) (kl_inl (P := (P_X11_hulls_57 l g n K v2 v3 D)) h)
    · refine p_aload_n dX11_hulls_115 rfl ?_
      refine p_iload dX11_hulls_116 rfl ?_
      refine p_iload_n dX11_hulls_118 rfl ?_
      refine cV_Ir [vI v5, vI v3] [] dX11_hulls_119 yv_X11_far ml_X11_236 (r := (RX11, TX11, 41)) rfl rfl (Nat.le_of_ble_eq_true rfl) rfl (Nat.le_of_ble_eq_true rfl) (Nat.le_of_ble_eq_true rfl) (Nat.le_of_ble_eq_true rfl) rfl h (fun K h => s_X11_far hG h) (fun r119 h => ?_)
      refine p_aload_n dX11_hulls_122 rfl ?_
      refine p_iload dX11_hulls_123 rfl ?_
      refine p_iload_n dX11_hulls_125 rfl ?_
      refine cV_Ir [vI v4, vI v3] [vI r119] dX11_hulls_126 yv_X11_far ml_X11_236 (r := (RX11, TX11, 41)) rfl rfl (Nat.le_of_ble_eq_true rfl) rfl (Nat.le_of_ble_eq_true rfl) (Nat.le_of_ble_eq_true rfl) (Nat.le_of_ble_eq_true rfl) rfl h (fun K h => s_X11_far hG h) (fun r126 h => ?_)
      refine q_icmp_le (tgt := 136) dX11_hulls_129 (by decide) h (fun h => ?_) (fun h => ?_)
      · refine p_iinc dX11_hulls_136 rfl (Nat.le_of_ble_eq_true rfl) rfl ?_
        refine p_goto (tgt := 57) dX11_hulls_139 (by decide) ?_
        exact p_weak (leL.same (leL.drop (leL.same (leL.same (leL.same (leL.same (leL.drop leL.nil))))))) (kl_inl (P := (P_X11_hulls_57 l g n K v2 v3 D)) h)
      · refine p_iload dX11_hulls_132 rfl ?_
        refine p_istore dX11_hulls_134 (Nat.le_of_ble_eq_true rfl) rfl ?_
        refine p_iinc dX11_hulls_136 rfl (Nat.le_of_ble_eq_true rfl) rfl ?_
        refine p_goto (tgt := 57) dX11_hulls_139 (by decide) ?_
        exact p_weak (leL.same (leL.drop (leL.same (leL.same (leL.same (leL.same (leL.drop leL.nil))))))) (kl_inl (P := (P_X11_hulls_57 l g n K v2 v3 D)) h)
set_option maxRecDepth 100000 in
set_option maxHeartbeats 4000000 in
theorem x_X11_hulls_57 {l : Launch} {g : GH} (hG : G0 l g) {n : Nat} {v2 v3 : Int} {D : DT} {K : DT → Prop} {s : (Int × Int)} (h : ok (m_X11_hulls_57 v2 v3 D s) (KL (P_X11_hulls_41 l g n K v2) K)) : Px (E_X11_hulls l g (PVw n K)) 57 [some (vR g 73), none, some (vI v2), some (vI v3), some (vI s.1), some (vI s.2), none] [] (LF n) D 0 0 := by
  refine ok_loop (P := (P_X11_hulls_57 l g n K v2 v3 D)) (fun s h => ?_) h
  refine p_iload dX11_hulls_57 rfl ?_
  refine p_aload_n dX11_hulls_59 rfl ?_
  refine cV_Ir [] [vI s.2] dX11_hulls_60 yv_X11_cells ml_X11_229 (r := (RX11, TX11, 41)) rfl rfl (Nat.le_of_ble_eq_true rfl) rfl (Nat.le_of_ble_eq_true rfl) (Nat.le_of_ble_eq_true rfl) (Nat.le_of_ble_eq_true rfl) rfl h (fun K h => s_X11_cells hG h) (fun r60 h => ?_)
  refine q_icmp_ge (tgt := 142) dX11_hulls_63 (by decide) h (fun h => ?_) (fun h => ?_)
  · have h := kl_inr h
    refine p_iload dX11_hulls_142 rfl ?_
    refine p_iload_n dX11_hulls_144 rfl ?_
    refine q_icmp_ne (tgt := 152) dX11_hulls_145 (by decide) h (fun h => ?_) (fun h => ?_)
    · refine p_iload dX11_hulls_152 rfl ?_
      refine p_istore_n dX11_hulls_154 (Nat.le_of_ble_eq_true rfl) rfl ?_
      refine p_goto (tgt := 41) dX11_hulls_155 (by decide) ?_
      exact p_weak (leL.same (leL.drop (leL.same (leL.same (leL.drop (leL.drop (leL.drop leL.nil))))))) (kl_inl (P := (P_X11_hulls_41 l g n K v2)) h)
    · refine p_iconst dX11_hulls_148 ?_
      refine p_goto (tgt := 154) dX11_hulls_149 (by decide) ?_
      refine p_istore_n dX11_hulls_154 (Nat.le_of_ble_eq_true rfl) rfl ?_
      refine p_goto (tgt := 41) dX11_hulls_155 (by decide) ?_
      exact p_weak (leL.same (leL.drop (leL.same (leL.same (leL.drop (leL.drop (leL.drop leL.nil))))))) (kl_inl (P := (P_X11_hulls_41 l g n K v2)) h)
  · refine p_aload_n dX11_hulls_66 rfl ?_
    refine p_iload dX11_hulls_67 rfl ?_
    refine cV_Ir [vI s.2] [] dX11_hulls_69 yv_X11_hasDots ml_X11_292 (r := (RX11, TX11, 41)) rfl rfl (Nat.le_of_ble_eq_true rfl) rfl (Nat.le_of_ble_eq_true rfl) (Nat.le_of_ble_eq_true rfl) (Nat.le_of_ble_eq_true rfl) rfl h (fun K h => s_X11_hasDots hG h) (fun r69 h => ?_)
    refine q_if_eq (tgt := 136) dX11_hulls_72 (by decide) h (fun h => ?_) (fun h => ?_)
    · refine p_iinc dX11_hulls_136 rfl (Nat.le_of_ble_eq_true rfl) rfl ?_
      refine p_goto (tgt := 57) dX11_hulls_139 (by decide) ?_
      exact p_weak (leL.same (leL.drop (leL.same (leL.same (leL.same (leL.same (leL.drop leL.nil))))))) (kl_inl (P := (P_X11_hulls_57 l g n K v2 v3 D)) h)
    · refine p_iload dX11_hulls_75 rfl ?_
      refine p_iload_n dX11_hulls_77 rfl ?_
      refine q_icmp_ne (tgt := 84) dX11_hulls_78 (by decide) h (fun h => ?_) (fun h => ?_)
      · refine p_iload dX11_hulls_84 rfl ?_
        refine p_iconst dX11_hulls_86 ?_
        refine q_icmp_ne (tgt := 94) dX11_hulls_87 (by decide) h (fun h => ?_) (fun h => ?_)
        · refine p_aload_n dX11_hulls_94 rfl ?_
          refine p_iload_n dX11_hulls_95 rfl ?_
          refine p_iload dX11_hulls_96 rfl ?_
          refine p_iload dX11_hulls_98 rfl ?_
          refine cV_Ir [vI v3, vI s.1, vI s.2] [] dX11_hulls_100 yv_X11_hand ml_X11_349 (r := (RX11, TX11, 41)) rfl rfl (Nat.le_of_ble_eq_true rfl) rfl (Nat.le_of_ble_eq_true rfl) (Nat.le_of_ble_eq_true rfl) (Nat.le_of_ble_eq_true rfl) rfl h (fun K h => s_X11_hand hG h) (fun r100 h => ?_)
          exact p_weak (leL.same (leL.drop (leL.same (leL.same (leL.same (leL.same (leL.drop leL.nil))))))) (x_X11_hulls_103 hG h)
        · refine p_iconst dX11_hulls_90 ?_
          refine p_goto (tgt := 103) dX11_hulls_91 (by decide) ?_
          exact p_weak (leL.same (leL.drop (leL.same (leL.same (leL.same (leL.same (leL.drop leL.nil))))))) (x_X11_hulls_103 hG h)
      · refine p_goto (tgt := 136) dX11_hulls_81 (by decide) ?_
        refine p_iinc dX11_hulls_136 rfl (Nat.le_of_ble_eq_true rfl) rfl ?_
        refine p_goto (tgt := 57) dX11_hulls_139 (by decide) ?_
        exact p_weak (leL.same (leL.drop (leL.same (leL.same (leL.same (leL.same (leL.drop leL.nil))))))) (kl_inl (P := (P_X11_hulls_57 l g n K v2 v3 D)) h)
set_option maxRecDepth 100000 in
set_option maxHeartbeats 4000000 in
theorem x_X11_hulls_41 {l : Launch} {g : GH} (hG : G0 l g) {n : Nat} {v2 : Int} {K : DT → Prop} {s : (Int × DT)} (h : ok (m_X11_hulls_41 v2 s) K) : Px (E_X11_hulls l g (PVw n K)) 41 [some (vR g 73), none, some (vI v2), some (vI s.1), none, none, none] [] (LF n) s.2 0 0 := by
  refine ok_loop (P := (P_X11_hulls_41 l g n K v2)) (fun s h => ?_) h
  refine p_iload_n dX11_hulls_41 rfl ?_
  refine p_iconst dX11_hulls_42 ?_
  refine q_icmp_eq (tgt := 158) dX11_hulls_43 (by decide) h (fun h => ?_) (fun h => ?_)
  · have h := kl_inr h
    exact p_return dX11_hulls_158 (Nat.le_of_ble_eq_true rfl) (Nat.le_of_ble_eq_true rfl) ⟨rfl, rfl, ok_some h⟩
  · refine p_aload_n dX11_hulls_46 rfl ?_
    refine p_iload_n dX11_hulls_47 rfl ?_
    refine cV_Vw [vI s.1] [] dX11_hulls_48 yv_X11_picks ml_X11_337 (r := (RX11, TX11, 41)) rfl rfl (Nat.le_of_ble_eq_true rfl) rfl (Nat.le_of_ble_eq_true rfl) (Nat.le_of_ble_eq_true rfl) (Nat.le_of_ble_eq_true rfl) rfl h (fun K h => s_X11_picks hG h) (fun D48 h => ?_)
    refine p_iconst dX11_hulls_51 ?_
    refine p_istore dX11_hulls_52 (Nat.le_of_ble_eq_true rfl) rfl ?_
    refine p_iconst dX11_hulls_54 ?_
    refine p_istore dX11_hulls_55 (Nat.le_of_ble_eq_true rfl) rfl ?_
    exact p_weak (leL.same (leL.drop (leL.same (leL.same (leL.same (leL.same (leL.drop leL.nil))))))) (x_X11_hulls_57 hG h)
set_option maxRecDepth 100000 in
set_option maxHeartbeats 4000000 in
theorem x_X11_hulls_19 {l : Launch} {g : GH} (hG : G0 l g) {n : Nat} {D : DT} {K : DT → Prop} {s : (Int × Int)} (h : ok (m_X11_hulls_19 D s) K) : Px (E_X11_hulls l g (PVw n K)) 19 [some (vR g 73), none, some (vI s.1), some (vI s.2), none, none, none] [] (LF n) D 0 0 := by
  refine ok_loop (P := (P_X11_hulls_19 l g n K D)) (fun s h => ?_) h
  refine p_iload_n dX11_hulls_19 rfl ?_
  refine q_if_lt (tgt := 39) dX11_hulls_20 (by decide) h (fun h => ?_) (fun h => ?_)
  · have h := kl_inr h
    refine p_iload_n dX11_hulls_39 rfl ?_
    refine p_istore_n dX11_hulls_40 (Nat.le_of_ble_eq_true rfl) rfl ?_
    exact p_weak (leL.same (leL.drop (leL.same (leL.same (leL.drop (leL.drop (leL.drop leL.nil))))))) (x_X11_hulls_41 hG h)
  · refine p_aload_n dX11_hulls_23 rfl ?_
    refine p_iload_n dX11_hulls_24 rfl ?_
    refine cV_Ir [vI s.2] [] dX11_hulls_25 yv_X11_hasDots ml_X11_292 (r := (RX11, TX11, 41)) rfl rfl (Nat.le_of_ble_eq_true rfl) rfl (Nat.le_of_ble_eq_true rfl) (Nat.le_of_ble_eq_true rfl) (Nat.le_of_ble_eq_true rfl) rfl h (fun K h => s_X11_hasDots hG h) (fun r25 h => ?_)
    refine q_if_eq (tgt := 33) dX11_hulls_28 (by decide) h (fun h => ?_) (fun h => ?_)
    · refine p_iinc dX11_hulls_33 rfl (Nat.le_of_ble_eq_true rfl) rfl ?_
      refine p_goto (tgt := 19) dX11_hulls_36 (by decide) ?_
      exact p_weak (leL.same (leL.drop (leL.same (leL.same (leL.drop (leL.drop (leL.drop leL.nil))))))) (kl_inl (P := (P_X11_hulls_19 l g n K D)) h)
    · refine p_iload_n dX11_hulls_31 rfl ?_
      refine p_istore_n dX11_hulls_32 (Nat.le_of_ble_eq_true rfl) rfl ?_
      refine p_iinc dX11_hulls_33 rfl (Nat.le_of_ble_eq_true rfl) rfl ?_
      refine p_goto (tgt := 19) dX11_hulls_36 (by decide) ?_
      exact p_weak (leL.same (leL.drop (leL.same (leL.same (leL.drop (leL.drop (leL.drop leL.nil))))))) (kl_inl (P := (P_X11_hulls_19 l g n K D)) h)
set_option maxRecDepth 100000 in
set_option maxHeartbeats 4000000 in
theorem x_X11_hulls {l : Launch} {g : GH} (hG : G0 l g) {n : Nat} {v1 : Int} {D : DT} {K : DT → Prop} (h : ok (m_X11_hulls v1 D) K) : Px (E_X11_hulls l g (PVw n K)) 0 [some (vR g 73), some (vI v1), none, none, none, none, none] [] (LF n) D 0 0 := by
  refine p_aload_n dX11_hulls_0 rfl ?_
  refine p_iload_n dX11_hulls_1 rfl ?_
  refine cV_Vw [vI v1] [] dX11_hulls_2 yv_X11_laysCrowds ml_X11_289 (r := (RX11, TX11, 41)) rfl rfl (Nat.le_of_ble_eq_true rfl) rfl (Nat.le_of_ble_eq_true rfl) (Nat.le_of_ble_eq_true rfl) (Nat.le_of_ble_eq_true rfl) rfl h (fun K h => s_X11_laysCrowds hG h) (fun D2 h => ?_)
  refine p_aload_n dX11_hulls_5 rfl ?_
  refine p_iconst dX11_hulls_6 ?_
  refine q_puti dX11_hulls_7 fq_X11_331 rfl rfl h (fun D7 h => ?_)
  refine p_iconst dX11_hulls_10 ?_
  refine p_istore_n dX11_hulls_11 (Nat.le_of_ble_eq_true rfl) rfl ?_
  refine p_aload_n dX11_hulls_12 rfl ?_
  refine cV_Ir [] [] dX11_hulls_13 yv_X11_cells ml_X11_229 (r := (RX11, TX11, 41)) rfl rfl (Nat.le_of_ble_eq_true rfl) rfl (Nat.le_of_ble_eq_true rfl) (Nat.le_of_ble_eq_true rfl) (Nat.le_of_ble_eq_true rfl) rfl h (fun K h => s_X11_cells hG h) (fun r13 h => ?_)
  refine p_iconst dX11_hulls_16 ?_
  refine p_isub dX11_hulls_17 ?_
  refine p_istore_n dX11_hulls_18 (Nat.le_of_ble_eq_true rfl) rfl ?_
  exact p_weak (leL.same (leL.drop (leL.same (leL.same (leL.drop (leL.drop (leL.drop leL.nil))))))) (x_X11_hulls_19 hG h)
theorem s_X11_hulls {l : Launch} {g : GH} (hG : G0 l g) {n : Nat} {v1 : Int} {D : DT} {K : DT → Prop} (h : ok (m_X11_hulls v1 D) K) : Sat l g yX11_hulls cX11_hulls 7 none 3 0 0 [vR g 73, vI v1] (LF n) D (PVw n K) := Sat.of hG (by decide) (Nat.le_of_ble_eq_true rfl) (by simp [Value.category]) (x_X11_hulls hG h)
abbrev E_X11_hull (l : Launch) (g : GH) (P : PT) : ENV := mkE l g yX11_hull cX11_hull 3 (some .int) [] 4 0 0 P
set_option maxRecDepth 100000 in
set_option maxHeartbeats 4000000 in
theorem x_X11_hull {l : Launch} {g : GH} (hG : G0 l g) {n : Nat} {v1 : Int} {v2 : Int} {D : DT} {K : (Int × DT) → Prop} (h : ok (m_X11_hull v1 v2 D) K) : Px (E_X11_hull l g (PIw n K)) 0 [some (vR g 73), some (vI v1), some (vI v2)] [] (LF n) D 0 0 := by
  refine p_aload_n dX11_hull_0 rfl ?_
  refine p_iconst dX11_hull_1 ?_
  refine q_puti dX11_hull_2 fq_X11_106 rfl rfl h (fun D2 h => ?_)
  refine p_aload_n dX11_hull_5 rfl ?_
  refine p_iload_n dX11_hull_6 rfl ?_
  refine cV_Iw [vI v1] [] dX11_hull_7 yv_X11_noLevel ml_X11_283 (r := (RX11, TX11, 41)) rfl rfl (Nat.le_of_ble_eq_true rfl) rfl (Nat.le_of_ble_eq_true rfl) (Nat.le_of_ble_eq_true rfl) (Nat.le_of_ble_eq_true rfl) rfl h (fun K h => s_X11_noLevel hG h) (fun r7 D7 h => ?_)
  refine q_if_eq (tgt := 15) dX11_hull_10 (by decide) h (fun h => ?_) (fun h => ?_)
  · refine p_aload_n dX11_hull_15 rfl ?_
    refine p_iload_n dX11_hull_16 rfl ?_
    refine cV_Vw [vI v1] [] dX11_hull_17 yv_X11_hulls ml_X11_352 (r := (RX11, TX11, 41)) rfl rfl (Nat.le_of_ble_eq_true rfl) rfl (Nat.le_of_ble_eq_true rfl) (Nat.le_of_ble_eq_true rfl) (Nat.le_of_ble_eq_true rfl) rfl h (fun K h => s_X11_hulls hG h) (fun D17 h => ?_)
    refine p_aload_n dX11_hull_20 rfl ?_
    refine p_iload_n dX11_hull_21 rfl ?_
    refine cV_Ir [vI v2] [] dX11_hull_22 yv_X11_pickedAt ml_X11_340 (r := (RX11, TX11, 41)) rfl rfl (Nat.le_of_ble_eq_true rfl) rfl (Nat.le_of_ble_eq_true rfl) (Nat.le_of_ble_eq_true rfl) (Nat.le_of_ble_eq_true rfl) rfl h (fun K h => s_X11_pickedAt hG h) (fun r22 h => ?_)
    exact p_ireturn dX11_hull_25 (Nat.le_of_ble_eq_true rfl) (Nat.le_of_ble_eq_true rfl) ⟨_, rfl, rfl, ok_some h⟩
  · refine p_iconst dX11_hull_13 ?_
    exact p_ireturn dX11_hull_14 (Nat.le_of_ble_eq_true rfl) (Nat.le_of_ble_eq_true rfl) ⟨_, rfl, rfl, ok_some h⟩
theorem s_X11_hull {l : Launch} {g : GH} (hG : G0 l g) {n : Nat} {v1 : Int} {v2 : Int} {D : DT} {K : (Int × DT) → Prop} (h : ok (m_X11_hull v1 v2 D) K) : Sat l g yX11_hull cX11_hull 3 (some .int) 4 0 0 [vR g 73, vI v1, vI v2] (LF n) D (PIw n K) := Sat.of hG (by decide) (Nat.le_of_ble_eq_true rfl) (by simp [Value.category]) (x_X11_hull hG h)
abbrev E_X11_area (l : Launch) (g : GH) (P : PT) : ENV := mkE l g yX11_area cX11_area 4 (some .int) [] 4 0 0 P
abbrev P_X11_area_24 (l : Launch) (g : GH) (n : Nat) (K : (Int × DT) → Prop) (D : DT) : (Int × Int) → Prop := fun s => Px (E_X11_area l g (PIw n K)) 24 [some (vR g 73), none, some (vI s.1), some (vI s.2)] [] (LF n) D 0 0
set_option maxRecDepth 100000 in
set_option maxHeartbeats 4000000 in
theorem x_X11_area_24 {l : Launch} {g : GH} (hG : G0 l g) {n : Nat} {D : DT} {K : (Int × DT) → Prop} {s : (Int × Int)} (h : ok (m_X11_area_24 D s) K) : Px (E_X11_area l g (PIw n K)) 24 [some (vR g 73), none, some (vI s.1), some (vI s.2)] [] (LF n) D 0 0 := by
  refine ok_loop (P := (P_X11_area_24 l g n K D)) (fun s h => ?_) h
  refine p_iload_n dX11_area_24 rfl ?_
  refine p_aload_n dX11_area_25 rfl ?_
  refine p_geti dX11_area_26 fl_X11_331 (fun _ _ _ => rfl) rfl ?_
  refine q_icmp_ge (tgt := 65) dX11_area_29 (by decide) h (fun h => ?_) (fun h => ?_)
  · have h := kl_inr h
    refine p_iload_n dX11_area_65 rfl ?_
    exact p_ireturn dX11_area_66 (Nat.le_of_ble_eq_true rfl) (Nat.le_of_ble_eq_true rfl) ⟨_, rfl, rfl, ok_some h⟩
  · refine p_iload_n dX11_area_32 rfl ?_
    refine p_aload_n dX11_area_33 rfl ?_
    refine p_aload_n dX11_area_34 rfl ?_
    refine p_getr dX11_area_35 fl_X11_97 (fun _ _ _ => rfl) rfl rfl ?_
    refine p_iconst dX11_area_38 ?_
    refine q_iald dX11_area_39 rfl rfl h (fun h => ?_)
    refine p_aload_n dX11_area_40 rfl ?_
    refine p_getr dX11_area_41 fl_X11_97 (fun _ _ _ => rfl) rfl rfl ?_
    refine p_iload_n dX11_area_44 rfl ?_
    refine p_iconst dX11_area_45 ?_
    refine p_isub dX11_area_46 ?_
    refine q_iald dX11_area_47 rfl rfl h (fun h => ?_)
    refine p_aload_n dX11_area_48 rfl ?_
    refine p_getr dX11_area_49 fl_X11_97 (fun _ _ _ => rfl) rfl rfl ?_
    refine p_iload_n dX11_area_52 rfl ?_
    refine q_iald dX11_area_53 rfl rfl h (fun h => ?_)
    refine cV_Ir [vI (D.2 99 (Int.toNat 0)), vI (D.2 99 (Int.toNat (s.2 - 1))), vI (D.2 99 (Int.toNat s.2))] [vI s.1] dX11_area_54 yv_X11_hand ml_X11_349 (r := (RX11, TX11, 41)) rfl rfl (Nat.le_of_ble_eq_true rfl) rfl (Nat.le_of_ble_eq_true rfl) (Nat.le_of_ble_eq_true rfl) (Nat.le_of_ble_eq_true rfl) rfl h (fun K h => s_X11_hand hG h) (fun r54 h => ?_)
    refine p_iadd dX11_area_57 ?_
    refine p_istore_n dX11_area_58 (Nat.le_of_ble_eq_true rfl) rfl ?_
    refine p_iinc dX11_area_59 rfl (Nat.le_of_ble_eq_true rfl) rfl ?_
    refine p_goto (tgt := 24) dX11_area_62 (by decide) ?_
    exact p_weak (leL.same (leL.drop (leL.same (leL.same leL.nil)))) (kl_inl (P := (P_X11_area_24 l g n K D)) h)
set_option maxRecDepth 100000 in
set_option maxHeartbeats 4000000 in
theorem x_X11_area {l : Launch} {g : GH} (hG : G0 l g) {n : Nat} {v1 : Int} {D : DT} {K : (Int × DT) → Prop} (h : ok (m_X11_area v1 D) K) : Px (E_X11_area l g (PIw n K)) 0 [some (vR g 73), some (vI v1), none, none] [] (LF n) D 0 0 := by
  refine p_aload_n dX11_area_0 rfl ?_
  refine p_iconst dX11_area_1 ?_
  refine q_puti dX11_area_2 fq_X11_106 rfl rfl h (fun D2 h => ?_)
  refine p_aload_n dX11_area_5 rfl ?_
  refine p_iload_n dX11_area_6 rfl ?_
  refine cV_Iw [vI v1] [] dX11_area_7 yv_X11_noLevel ml_X11_283 (r := (RX11, TX11, 41)) rfl rfl (Nat.le_of_ble_eq_true rfl) rfl (Nat.le_of_ble_eq_true rfl) (Nat.le_of_ble_eq_true rfl) (Nat.le_of_ble_eq_true rfl) rfl h (fun K h => s_X11_noLevel hG h) (fun r7 D7 h => ?_)
  refine q_if_eq (tgt := 15) dX11_area_10 (by decide) h (fun h => ?_) (fun h => ?_)
  · refine p_aload_n dX11_area_15 rfl ?_
    refine p_iload_n dX11_area_16 rfl ?_
    refine cV_Vw [vI v1] [] dX11_area_17 yv_X11_hulls ml_X11_352 (r := (RX11, TX11, 41)) rfl rfl (Nat.le_of_ble_eq_true rfl) rfl (Nat.le_of_ble_eq_true rfl) (Nat.le_of_ble_eq_true rfl) (Nat.le_of_ble_eq_true rfl) rfl h (fun K h => s_X11_hulls hG h) (fun D17 h => ?_)
    refine p_iconst dX11_area_20 ?_
    refine p_istore_n dX11_area_21 (Nat.le_of_ble_eq_true rfl) rfl ?_
    refine p_iconst dX11_area_22 ?_
    refine p_istore_n dX11_area_23 (Nat.le_of_ble_eq_true rfl) rfl ?_
    exact p_weak (leL.same (leL.drop (leL.same (leL.same leL.nil)))) (x_X11_area_24 hG h)
  · refine p_iconst dX11_area_13 ?_
    exact p_ireturn dX11_area_14 (Nat.le_of_ble_eq_true rfl) (Nat.le_of_ble_eq_true rfl) ⟨_, rfl, rfl, ok_some h⟩
theorem s_X11_area {l : Launch} {g : GH} (hG : G0 l g) {n : Nat} {v1 : Int} {D : DT} {K : (Int × DT) → Prop} (h : ok (m_X11_area v1 D) K) : Sat l g yX11_area cX11_area 4 (some .int) 4 0 0 [vR g 73, vI v1] (LF n) D (PIw n K) := Sat.of hG (by decide) (Nat.le_of_ble_eq_true rfl) (by simp [Value.category]) (x_X11_area hG h)
abbrev E_X11_middle (l : Launch) (g : GH) (P : PT) : ENV := mkE l g yX11_middle cX11_middle 10 (some .int) [] 3 0 0 P
abbrev P_X11_middle_52 (l : Launch) (g : GH) (n : Nat) (K : (Int × DT) → Prop) (v1 : Int) (D : DT) : (Int × Int × Int) → Prop := fun s => Px (E_X11_middle l g (PIw n K)) 52 [some (vR g 73), some (vI v1), none, some (vI s.1), some (vJ s.2.1), none, some (vI s.2.2), none, none, none] [] (LF n) D 0 0
abbrev P_X11_middle_67 (l : Launch) (g : GH) (n : Nat) (K : (Int × DT) → Prop) (v1 : Int) (v3 : Int) (v4 : Int) (v6 : Int) (D : DT) : (Int × Int) → Prop := fun s => Px (E_X11_middle l g (PIw n K)) 67 [some (vR g 73), some (vI v1), none, some (vI v3), some (vJ v4), none, some (vI v6), some (vJ s.1), none, some (vI s.2)] [] (LF n) D 0 0
set_option maxRecDepth 100000 in
set_option maxHeartbeats 4000000 in
theorem x_X11_middle_67 {l : Launch} {g : GH} (hG : G0 l g) {n : Nat} {v1 v3 v4 v6 : Int} {D : DT} {K : (Int × DT) → Prop} {s : (Int × Int)} (h : ok (m_X11_middle_67 v1 v3 v4 v6 D s) (KL (P_X11_middle_52 l g n K v1 D) K)) : Px (E_X11_middle l g (PIw n K)) 67 [some (vR g 73), some (vI v1), none, some (vI v3), some (vJ v4), none, some (vI v6), some (vJ s.1), none, some (vI s.2)] [] (LF n) D 0 0 := by
  refine ok_loop (P := (P_X11_middle_67 l g n K v1 v3 v4 v6 D)) (fun s h => ?_) h
  refine p_iload dX11_middle_67 rfl ?_
  refine p_aload_n dX11_middle_69 rfl ?_
  refine cV_Ir [] [vI s.2] dX11_middle_70 yv_X11_cells ml_X11_229 (r := (RX11, TX11, 41)) rfl rfl (Nat.le_of_ble_eq_true rfl) rfl (Nat.le_of_ble_eq_true rfl) (Nat.le_of_ble_eq_true rfl) (Nat.le_of_ble_eq_true rfl) rfl h (fun K h => s_X11_cells hG h) (fun r70 h => ?_)
  refine q_icmp_ge (tgt := 105) dX11_middle_73 (by decide) h (fun h => ?_) (fun h => ?_)
  · have h := kl_inr h
    refine p_iload_n dX11_middle_105 rfl ?_
    refine p_iconst dX11_middle_106 ?_
    refine q_icmp_eq (tgt := 121) dX11_middle_107 (by decide) h (fun h => ?_) (fun h => ?_)
    · refine p_iload dX11_middle_121 rfl ?_
      refine p_istore_n dX11_middle_123 (Nat.le_of_ble_eq_true rfl) rfl ?_
      refine p_lload dX11_middle_124 rfl ?_
      refine p_lstore dX11_middle_126 (Nat.le_of_ble_eq_true rfl) rfl ?_
      refine p_iinc dX11_middle_128 rfl (Nat.le_of_ble_eq_true rfl) rfl ?_
      refine p_goto (tgt := 52) dX11_middle_131 (by decide) ?_
      exact p_weak (leL.same (leL.same (leL.drop (leL.same (leL.same (leL.drop (leL.same (leL.drop (leL.drop (leL.drop leL.nil)))))))))) (kl_inl (P := (P_X11_middle_52 l g n K v1 D)) h)
    · refine p_lload dX11_middle_110 rfl ?_
      refine p_lload dX11_middle_112 rfl ?_
      refine q_lcmp_lt (tgt := 121) dX11_middle_114 dX11_middle_115 (by decide) h (fun h => ?_) (fun h => ?_)
      · refine p_iload dX11_middle_121 rfl ?_
        refine p_istore_n dX11_middle_123 (Nat.le_of_ble_eq_true rfl) rfl ?_
        refine p_lload dX11_middle_124 rfl ?_
        refine p_lstore dX11_middle_126 (Nat.le_of_ble_eq_true rfl) rfl ?_
        refine p_iinc dX11_middle_128 rfl (Nat.le_of_ble_eq_true rfl) rfl ?_
        refine p_goto (tgt := 52) dX11_middle_131 (by decide) ?_
        exact p_weak (leL.same (leL.same (leL.drop (leL.same (leL.same (leL.drop (leL.same (leL.drop (leL.drop (leL.drop leL.nil)))))))))) (kl_inl (P := (P_X11_middle_52 l g n K v1 D)) h)
      · refine p_goto (tgt := 128) dX11_middle_118 (by decide) ?_
        refine p_iinc dX11_middle_128 rfl (Nat.le_of_ble_eq_true rfl) rfl ?_
        refine p_goto (tgt := 52) dX11_middle_131 (by decide) ?_
        exact p_weak (leL.same (leL.same (leL.drop (leL.same (leL.same (leL.drop (leL.same (leL.drop (leL.drop (leL.drop leL.nil)))))))))) (kl_inl (P := (P_X11_middle_52 l g n K v1 D)) h)
  · refine p_lload dX11_middle_76 rfl ?_
    refine p_aload_n dX11_middle_78 rfl ?_
    refine p_iload dX11_middle_79 rfl ?_
    refine p_iload_n dX11_middle_81 rfl ?_
    refine cV_Ir [vI s.2, vI v1] [vJ s.1] dX11_middle_82 yv_X11_crowdOf ml_X11_252 (r := (RX11, TX11, 41)) rfl rfl (Nat.le_of_ble_eq_true rfl) rfl (Nat.le_of_ble_eq_true rfl) (Nat.le_of_ble_eq_true rfl) (Nat.le_of_ble_eq_true rfl) rfl h (fun K h => s_X11_crowdOf hG h) (fun r82 h => ?_)
    refine q_i2l dX11_middle_85 h (fun h => ?_)
    refine p_aload_n dX11_middle_86 rfl ?_
    refine p_iload dX11_middle_87 rfl ?_
    refine p_iload dX11_middle_89 rfl ?_
    refine cV_Ir [vI v6, vI s.2] [vJ r82, vJ s.1] dX11_middle_91 yv_X11_far ml_X11_236 (r := (RX11, TX11, 41)) rfl rfl (Nat.le_of_ble_eq_true rfl) rfl (Nat.le_of_ble_eq_true rfl) (Nat.le_of_ble_eq_true rfl) (Nat.le_of_ble_eq_true rfl) rfl h (fun K h => s_X11_far hG h) (fun r91 h => ?_)
    refine q_i2l dX11_middle_94 h (fun h => ?_)
    refine p_lmul dX11_middle_95 ?_
    refine p_ladd dX11_middle_96 ?_
    refine p_lstore dX11_middle_97 (Nat.le_of_ble_eq_true rfl) rfl ?_
    refine p_iinc dX11_middle_99 rfl (Nat.le_of_ble_eq_true rfl) rfl ?_
    refine p_goto (tgt := 67) dX11_middle_102 (by decide) ?_
    exact p_weak (leL.same (leL.same (leL.drop (leL.same (leL.same (leL.drop (leL.same (leL.same (leL.drop (leL.same leL.nil)))))))))) (kl_inl (P := (P_X11_middle_67 l g n K v1 v3 v4 v6 D)) h)
set_option maxRecDepth 100000 in
set_option maxHeartbeats 4000000 in
theorem x_X11_middle_52 {l : Launch} {g : GH} (hG : G0 l g) {n : Nat} {v1 : Int} {D : DT} {K : (Int × DT) → Prop} {s : (Int × Int × Int)} (h : ok (m_X11_middle_52 v1 D s) K) : Px (E_X11_middle l g (PIw n K)) 52 [some (vR g 73), some (vI v1), none, some (vI s.1), some (vJ s.2.1), none, some (vI s.2.2), none, none, none] [] (LF n) D 0 0 := by
  refine ok_loop (P := (P_X11_middle_52 l g n K v1 D)) (fun s h => ?_) h
  refine p_iload dX11_middle_52 rfl ?_
  refine p_aload_n dX11_middle_54 rfl ?_
  refine cV_Ir [] [vI s.2.2] dX11_middle_55 yv_X11_cells ml_X11_229 (r := (RX11, TX11, 41)) rfl rfl (Nat.le_of_ble_eq_true rfl) rfl (Nat.le_of_ble_eq_true rfl) (Nat.le_of_ble_eq_true rfl) (Nat.le_of_ble_eq_true rfl) rfl h (fun K h => s_X11_cells hG h) (fun r55 h => ?_)
  refine q_icmp_ge (tgt := 134) dX11_middle_58 (by decide) h (fun h => ?_) (fun h => ?_)
  · have h := kl_inr h
    refine p_iload_n dX11_middle_134 rfl ?_
    exact p_ireturn dX11_middle_135 (Nat.le_of_ble_eq_true rfl) (Nat.le_of_ble_eq_true rfl) ⟨_, rfl, rfl, ok_some h⟩
  · refine p_lconst 0 dX11_middle_61 (by decide) ?_
    refine p_lstore dX11_middle_62 (Nat.le_of_ble_eq_true rfl) rfl ?_
    refine p_iconst dX11_middle_64 ?_
    refine p_istore dX11_middle_65 (Nat.le_of_ble_eq_true rfl) rfl ?_
    exact p_weak (leL.same (leL.same (leL.drop (leL.same (leL.same (leL.drop (leL.same (leL.same (leL.drop (leL.same leL.nil)))))))))) (x_X11_middle_67 hG h)
set_option maxRecDepth 100000 in
set_option maxHeartbeats 4000000 in
theorem x_X11_middle_18 {l : Launch} {g : GH} (hG : G0 l g) {n : Nat} {v1 v2 : Int} {D : DT} {K : (Int × DT) → Prop} (h : ok (m_X11_middle_18 v1 v2 D) K) : Px (E_X11_middle l g (PIw n K)) 18 [some (vR g 73), some (vI v1), some (vI v2), none, none, none, none, none, none, none] [] (LF n) D 0 0 := by
  refine p_aload_n dX11_middle_18 rfl ?_
  refine p_iload_n dX11_middle_19 rfl ?_
  refine cV_Iw [vI v2] [] dX11_middle_20 yv_X11_noLevel ml_X11_283 (r := (RX11, TX11, 41)) rfl rfl (Nat.le_of_ble_eq_true rfl) rfl (Nat.le_of_ble_eq_true rfl) (Nat.le_of_ble_eq_true rfl) (Nat.le_of_ble_eq_true rfl) rfl h (fun K h => s_X11_noLevel hG h) (fun r20 D20 h => ?_)
  refine q_if_eq (tgt := 28) dX11_middle_23 (by decide) h (fun h => ?_) (fun h => ?_)
  · refine p_aload_n dX11_middle_28 rfl ?_
    refine p_iload_n dX11_middle_29 rfl ?_
    refine cV_Vw [vI v2] [] dX11_middle_30 yv_X11_laysCrowds ml_X11_289 (r := (RX11, TX11, 41)) rfl rfl (Nat.le_of_ble_eq_true rfl) rfl (Nat.le_of_ble_eq_true rfl) (Nat.le_of_ble_eq_true rfl) (Nat.le_of_ble_eq_true rfl) rfl h (fun K h => s_X11_laysCrowds hG h) (fun D30 h => ?_)
    refine p_aload_n dX11_middle_33 rfl ?_
    refine p_iload_n dX11_middle_34 rfl ?_
    refine p_iload_n dX11_middle_35 rfl ?_
    refine cV_Ir [vI v1, vI v2] [] dX11_middle_36 yv_X11_allDots ml_X11_286 (r := (RX11, TX11, 41)) rfl rfl (Nat.le_of_ble_eq_true rfl) rfl (Nat.le_of_ble_eq_true rfl) (Nat.le_of_ble_eq_true rfl) (Nat.le_of_ble_eq_true rfl) rfl h (fun K h => s_X11_allDots hG h) (fun r36 h => ?_)
    refine q_if_ne (tgt := 44) dX11_middle_39 (by decide) h (fun h => ?_) (fun h => ?_)
    · refine p_iconst dX11_middle_44 ?_
      refine p_istore_n dX11_middle_45 (Nat.le_of_ble_eq_true rfl) rfl ?_
      refine p_lconst 0 dX11_middle_46 (by decide) ?_
      refine p_lstore dX11_middle_47 (Nat.le_of_ble_eq_true rfl) rfl ?_
      refine p_iconst dX11_middle_49 ?_
      refine p_istore dX11_middle_50 (Nat.le_of_ble_eq_true rfl) rfl ?_
      exact p_weak (leL.same (leL.same (leL.drop (leL.same (leL.same (leL.drop (leL.same (leL.drop (leL.drop (leL.drop leL.nil)))))))))) (x_X11_middle_52 hG h)
    · refine p_iconst dX11_middle_42 ?_
      exact p_ireturn dX11_middle_43 (Nat.le_of_ble_eq_true rfl) (Nat.le_of_ble_eq_true rfl) ⟨_, rfl, rfl, ok_some h⟩
  · refine p_iconst dX11_middle_26 ?_
    exact p_ireturn dX11_middle_27 (Nat.le_of_ble_eq_true rfl) (Nat.le_of_ble_eq_true rfl) ⟨_, rfl, rfl, ok_some h⟩
set_option maxRecDepth 100000 in
set_option maxHeartbeats 4000000 in
theorem x_X11_middle {l : Launch} {g : GH} (hG : G0 l g) {n : Nat} {v1 : Int} {v2 : Int} {D : DT} {K : (Int × DT) → Prop} (h : ok (m_X11_middle v1 v2 D) K) : Px (E_X11_middle l g (PIw n K)) 0 [some (vR g 73), some (vI v1), some (vI v2), none, none, none, none, none, none, none] [] (LF n) D 0 0 := by
  refine p_aload_n dX11_middle_0 rfl ?_
  refine p_iconst dX11_middle_1 ?_
  refine q_puti dX11_middle_2 fq_X11_106 rfl rfl h (fun D2 h => ?_)
  refine p_iload_n dX11_middle_5 rfl ?_
  refine p_iconst dX11_middle_6 ?_
  refine q_icmp_eq (tgt := 18) dX11_middle_7 (by decide) h (fun h => ?_) (fun h => ?_)
  · exact p_weak (leL.same (leL.same (leL.same (leL.drop (leL.drop (leL.drop (leL.drop (leL.drop (leL.drop (leL.drop leL.nil)))))))))) (x_X11_middle_18 hG h)
  · refine p_aload_n dX11_middle_10 rfl ?_
    refine p_iload_n dX11_middle_11 rfl ?_
    refine cV_Iw [vI v1] [] dX11_middle_12 yv_X11_noGroup ml_X11_280 (r := (RX11, TX11, 41)) rfl rfl (Nat.le_of_ble_eq_true rfl) rfl (Nat.le_of_ble_eq_true rfl) (Nat.le_of_ble_eq_true rfl) (Nat.le_of_ble_eq_true rfl) rfl h (fun K h => s_X11_noGroup hG h) (fun r12 D12 h => ?_)
    refine q_if_ne (tgt := 26) dX11_middle_15 (by decide) h (fun h => ?_) (fun h => ?_)
    · refine p_iconst dX11_middle_26 ?_
      exact p_ireturn dX11_middle_27 (Nat.le_of_ble_eq_true rfl) (Nat.le_of_ble_eq_true rfl) ⟨_, rfl, rfl, ok_some h⟩
    · exact p_weak (leL.same (leL.same (leL.same (leL.drop (leL.drop (leL.drop (leL.drop (leL.drop (leL.drop (leL.drop leL.nil)))))))))) (x_X11_middle_18 hG h)
theorem s_X11_middle {l : Launch} {g : GH} (hG : G0 l g) {n : Nat} {v1 : Int} {v2 : Int} {D : DT} {K : (Int × DT) → Prop} (h : ok (m_X11_middle v1 v2 D) K) : Sat l g yX11_middle cX11_middle 10 (some .int) 3 0 0 [vR g 73, vI v1, vI v2] (LF n) D (PIw n K) := Sat.of hG (by decide) (Nat.le_of_ble_eq_true rfl) (by simp [Value.category]) (x_X11_middle hG h)
abbrev E_X11_line_ (l : Launch) (g : GH) (P : PT) : ENV := mkE l g yX11_line_ cX11_line_ 6 (some .int) [] 3 0 0 P
abbrev P_X11_line__68 (l : Launch) (g : GH) (n : Nat) (K : (Int × DT) → Prop) (v1 : Int) (v2 : Int) (D : DT) : (Int × Int) → Prop := fun s => Px (E_X11_line_ l g (PIw n K)) 68 [some (vR g 73), some (vI v1), some (vI v2), none, some (vI s.1), some (vI s.2)] [] (LF n) D 0 0
set_option maxRecDepth 100000 in
set_option maxHeartbeats 4000000 in
theorem x_X11_line__104 {l : Launch} {g : GH} (hG : G0 l g) {n : Nat} {v1 v2 v5 : Int} {x0 x1 : Int} {D : DT} {K : (Int × DT) → Prop} (h : ok (m_X11_line__104 v1 v2 v5 x0 x1 D) (KL (P_X11_line__68 l g n K v1 v2 D) K)) : Px (E_X11_line_ l g (PIw n K)) 104 [some (vR g 73), some (vI v1), some (vI v2), none, none, some (vI v5)] [vI x0, vI x1] (LF n) D 0 0 := by
  refine p_iload_n dX11_line__104 rfl ?_
  refine q_icmp_ne (tgt := 118) dX11_line__105 (by decide) h (fun h => ?_) (fun h => ?_)
  · refine p_iconst dX11_line__118 ?_
    refine p_iadd dX11_line__119 ?_
    refine p_istore dX11_line__120 (Nat.le_of_ble_eq_true rfl) rfl ?_
    refine p_iinc dX11_line__122 rfl (Nat.le_of_ble_eq_true rfl) rfl ?_
    refine p_goto (tgt := 68) dX11_line__125 (by decide) ?_
    exact p_weak (leL.same (leL.same (leL.same (leL.drop (leL.same (leL.same leL.nil)))))) (kl_inl (P := (P_X11_line__68 l g n K v1 v2 D)) h)
  · refine p_aload_n dX11_line__108 rfl ?_
    refine p_iload dX11_line__109 rfl ?_
    refine p_iconst dX11_line__111 ?_
    refine cV_Ir [vI v5, vI (-1)] [vI x1] dX11_line__112 yv_X11_crowdOf ml_X11_252 (r := (RX11, TX11, 41)) rfl rfl (Nat.le_of_ble_eq_true rfl) rfl (Nat.le_of_ble_eq_true rfl) (Nat.le_of_ble_eq_true rfl) (Nat.le_of_ble_eq_true rfl) rfl h (fun K h => s_X11_crowdOf hG h) (fun r112 h => ?_)
    refine p_goto (tgt := 119) dX11_line__115 (by decide) ?_
    refine p_iadd dX11_line__119 ?_
    refine p_istore dX11_line__120 (Nat.le_of_ble_eq_true rfl) rfl ?_
    refine p_iinc dX11_line__122 rfl (Nat.le_of_ble_eq_true rfl) rfl ?_
    refine p_goto (tgt := 68) dX11_line__125 (by decide) ?_
    exact p_weak (leL.same (leL.same (leL.same (leL.drop (leL.same (leL.same leL.nil)))))) (kl_inl (P := (P_X11_line__68 l g n K v1 v2 D)) h)
set_option maxRecDepth 100000 in
set_option maxHeartbeats 4000000 in
theorem x_X11_line__68 {l : Launch} {g : GH} (hG : G0 l g) {n : Nat} {v1 v2 : Int} {D : DT} {K : (Int × DT) → Prop} {s : (Int × Int)} (h : ok (m_X11_line__68 v1 v2 D s) K) : Px (E_X11_line_ l g (PIw n K)) 68 [some (vR g 73), some (vI v1), some (vI v2), none, some (vI s.1), some (vI s.2)] [] (LF n) D 0 0 := by
  refine ok_loop (P := (P_X11_line__68 l g n K v1 v2 D)) (fun s h => ?_) h
  refine p_iload dX11_line__68 rfl ?_
  refine p_aload_n dX11_line__70 rfl ?_
  refine cV_Ir [] [vI s.2] dX11_line__71 yv_X11_cells ml_X11_229 (r := (RX11, TX11, 41)) rfl rfl (Nat.le_of_ble_eq_true rfl) rfl (Nat.le_of_ble_eq_true rfl) (Nat.le_of_ble_eq_true rfl) (Nat.le_of_ble_eq_true rfl) rfl h (fun K h => s_X11_cells hG h) (fun r71 h => ?_)
  refine q_icmp_ge (tgt := 128) dX11_line__74 (by decide) h (fun h => ?_) (fun h => ?_)
  · have h := kl_inr h
    refine p_iload dX11_line__128 rfl ?_
    exact p_ireturn dX11_line__130 (Nat.le_of_ble_eq_true rfl) (Nat.le_of_ble_eq_true rfl) ⟨_, rfl, rfl, ok_some h⟩
  · refine p_iload dX11_line__77 rfl ?_
    refine p_iload_n dX11_line__79 rfl ?_
    refine q_if_eq (tgt := 95) dX11_line__80 (by decide) h (fun h => ?_) (fun h => ?_)
    · refine p_iload dX11_line__95 rfl ?_
      refine p_aload_n dX11_line__97 rfl ?_
      refine p_getr dX11_line__98 fl_X11_17 (fun _ _ _ => rfl) rfl rfl ?_
      refine p_iconst dX11_line__101 ?_
      refine q_iald dX11_line__102 rfl rfl h (fun h => ?_)
      refine q_idiv dX11_line__103 h (fun h => ?_)
      exact p_weak (leL.same (leL.same (leL.same (leL.drop (leL.drop (leL.same leL.nil)))))) (x_X11_line__104 hG h)
    · refine p_iload dX11_line__83 rfl ?_
      refine p_aload_n dX11_line__85 rfl ?_
      refine p_getr dX11_line__86 fl_X11_17 (fun _ _ _ => rfl) rfl rfl ?_
      refine p_iconst dX11_line__89 ?_
      refine q_iald dX11_line__90 rfl rfl h (fun h => ?_)
      refine q_irem dX11_line__91 h (fun h => ?_)
      refine p_goto (tgt := 104) dX11_line__92 (by decide) ?_
      exact p_weak (leL.same (leL.same (leL.same (leL.drop (leL.drop (leL.same leL.nil)))))) (x_X11_line__104 hG h)
set_option maxRecDepth 100000 in
set_option maxHeartbeats 4000000 in
theorem x_X11_line__40 {l : Launch} {g : GH} (hG : G0 l g) {n : Nat} {v1 v2 v3 : Int} {x0 : Int} {D : DT} {K : (Int × DT) → Prop} (h : ok (m_X11_line__40 v1 v2 v3 x0 D) K) : Px (E_X11_line_ l g (PIw n K)) 40 [some (vR g 73), some (vI v1), some (vI v2), some (vI v3), none, none] [vI x0, vR g 73] (LF n) D 0 0 := by
  refine p_iconst dX11_line__40 ?_
  refine cV_Iw [vI x0, vI 1] [] dX11_line__41 yv_X11_throwsIf ml_X11_215 (r := (RX11, TX11, 41)) rfl rfl (Nat.le_of_ble_eq_true rfl) rfl (Nat.le_of_ble_eq_true rfl) (Nat.le_of_ble_eq_true rfl) (Nat.le_of_ble_eq_true rfl) rfl h (fun K h => s_X11_throwsIf hG h) (fun r41 D41 h => ?_)
  refine q_if_ne (tgt := 55) dX11_line__44 (by decide) h (fun h => ?_) (fun h => ?_)
  · refine p_iconst dX11_line__55 ?_
    exact p_ireturn dX11_line__56 (Nat.le_of_ble_eq_true rfl) (Nat.le_of_ble_eq_true rfl) ⟨_, rfl, rfl, ok_some h⟩
  · refine p_aload_n dX11_line__47 rfl ?_
    refine p_iload_n dX11_line__48 rfl ?_
    refine cV_Iw [vI v3] [] dX11_line__49 yv_X11_noLevel ml_X11_283 (r := (RX11, TX11, 41)) rfl rfl (Nat.le_of_ble_eq_true rfl) rfl (Nat.le_of_ble_eq_true rfl) (Nat.le_of_ble_eq_true rfl) (Nat.le_of_ble_eq_true rfl) rfl h (fun K h => s_X11_noLevel hG h) (fun r49 D49 h => ?_)
    refine q_if_eq (tgt := 57) dX11_line__52 (by decide) h (fun h => ?_) (fun h => ?_)
    · refine p_aload_n dX11_line__57 rfl ?_
      refine p_iload_n dX11_line__58 rfl ?_
      refine cV_Vw [vI v3] [] dX11_line__59 yv_X11_laysCrowds ml_X11_289 (r := (RX11, TX11, 41)) rfl rfl (Nat.le_of_ble_eq_true rfl) rfl (Nat.le_of_ble_eq_true rfl) (Nat.le_of_ble_eq_true rfl) (Nat.le_of_ble_eq_true rfl) rfl h (fun K h => s_X11_laysCrowds hG h) (fun D59 h => ?_)
      refine p_iconst dX11_line__62 ?_
      refine p_istore dX11_line__63 (Nat.le_of_ble_eq_true rfl) rfl ?_
      refine p_iconst dX11_line__65 ?_
      refine p_istore dX11_line__66 (Nat.le_of_ble_eq_true rfl) rfl ?_
      exact p_weak (leL.same (leL.same (leL.same (leL.drop (leL.same (leL.same leL.nil)))))) (x_X11_line__68 hG h)
    · refine p_iconst dX11_line__55 ?_
      exact p_ireturn dX11_line__56 (Nat.le_of_ble_eq_true rfl) (Nat.le_of_ble_eq_true rfl) ⟨_, rfl, rfl, ok_some h⟩
set_option maxRecDepth 100000 in
set_option maxHeartbeats 4000000 in
theorem x_X11_line_ {l : Launch} {g : GH} (hG : G0 l g) {n : Nat} {v1 : Int} {v2 : Int} {v3 : Int} {D : DT} {K : (Int × DT) → Prop} (h : ok (m_X11_line_ v1 v2 v3 D) K) : Px (E_X11_line_ l g (PIw n K)) 0 [some (vR g 73), some (vI v1), some (vI v2), some (vI v3), none, none] [] (LF n) D 0 0 := by
  refine p_aload_n dX11_line__0 rfl ?_
  refine p_iconst dX11_line__1 ?_
  refine q_puti dX11_line__2 fq_X11_106 rfl rfl h (fun D2 h => ?_)
  refine p_aload_n dX11_line__5 rfl ?_
  refine p_iload_n dX11_line__6 rfl ?_
  refine p_iconst dX11_line__7 ?_
  refine p_iload_n dX11_line__8 rfl ?_
  refine q_if_eq (tgt := 21) dX11_line__9 (by decide) h (fun h => ?_) (fun h => ?_)
  · refine p_aload_n dX11_line__21 rfl ?_
    refine p_getr dX11_line__22 fl_X11_17 (fun _ _ _ => rfl) rfl rfl ?_
    refine p_iconst dX11_line__25 ?_
    refine q_iald dX11_line__26 rfl rfl h (fun h => ?_)
    refine p_iconst dX11_line__27 ?_
    refine p_isub dX11_line__28 ?_
    refine cS_Ir [vI v2, vI 0, vI ((D2.2 76 (Int.toNat 1)) - 1)] [vR g 73] dX11_line__29 ys_X11_in ml_X11_169 (Nat.le_of_ble_eq_true rfl) rfl (Nat.le_of_ble_eq_true rfl) (Nat.le_of_ble_eq_true rfl) (Nat.le_of_ble_eq_true rfl) h (fun K h => s_X11_in hG h) (fun r29 h => ?_)
    refine q_if_ne (tgt := 39) dX11_line__32 (by decide) h (fun h => ?_) (fun h => ?_)
    · refine p_iconst dX11_line__39 ?_
      exact p_weak (leL.same (leL.same (leL.same (leL.same (leL.drop (leL.drop leL.nil)))))) (x_X11_line__40 hG h)
    · refine p_iconst dX11_line__35 ?_
      refine p_goto (tgt := 40) dX11_line__36 (by decide) ?_
      exact p_weak (leL.same (leL.same (leL.same (leL.same (leL.drop (leL.drop leL.nil)))))) (x_X11_line__40 hG h)
  · refine p_aload_n dX11_line__12 rfl ?_
    refine p_getr dX11_line__13 fl_X11_17 (fun _ _ _ => rfl) rfl rfl ?_
    refine p_iconst dX11_line__16 ?_
    refine q_iald dX11_line__17 rfl rfl h (fun h => ?_)
    refine p_goto (tgt := 27) dX11_line__18 (by decide) ?_
    refine p_iconst dX11_line__27 ?_
    refine p_isub dX11_line__28 ?_
    refine cS_Ir [vI v2, vI 0, vI ((D2.2 76 (Int.toNat 0)) - 1)] [vR g 73] dX11_line__29 ys_X11_in ml_X11_169 (Nat.le_of_ble_eq_true rfl) rfl (Nat.le_of_ble_eq_true rfl) (Nat.le_of_ble_eq_true rfl) (Nat.le_of_ble_eq_true rfl) h (fun K h => s_X11_in hG h) (fun r29 h => ?_)
    refine q_if_ne (tgt := 39) dX11_line__32 (by decide) h (fun h => ?_) (fun h => ?_)
    · refine p_iconst dX11_line__39 ?_
      exact p_weak (leL.same (leL.same (leL.same (leL.same (leL.drop (leL.drop leL.nil)))))) (x_X11_line__40 hG h)
    · refine p_iconst dX11_line__35 ?_
      refine p_goto (tgt := 40) dX11_line__36 (by decide) ?_
      exact p_weak (leL.same (leL.same (leL.same (leL.same (leL.drop (leL.drop leL.nil)))))) (x_X11_line__40 hG h)
theorem s_X11_line_ {l : Launch} {g : GH} (hG : G0 l g) {n : Nat} {v1 : Int} {v2 : Int} {v3 : Int} {D : DT} {K : (Int × DT) → Prop} (h : ok (m_X11_line_ v1 v2 v3 D) K) : Sat l g yX11_line_ cX11_line_ 6 (some .int) 3 0 0 [vR g 73, vI v1, vI v2, vI v3] (LF n) D (PIw n K) := Sat.of hG (by decide) (Nat.le_of_ble_eq_true rfl) (by simp [Value.category]) (x_X11_line_ hG h)
abbrev E_X11_joined (l : Launch) (g : GH) (P : PT) : ENV := mkE l g yX11_joined cX11_joined 6 (some .int) [] 4 0 0 P
abbrev P_X11_joined_56 (l : Launch) (g : GH) (n : Nat) (K : (Int × DT) → Prop) (v1 : Int) (v2 : Int) (v3 : Int) : (Int × DT) → Prop := fun s => Px (E_X11_joined l g (PIw n K)) 56 [some (vR g 73), some (vI v1), some (vI v2), some (vI v3), some (vI s.1), none] [] (LF n) s.2 0 0
abbrev P_X11_joined_93 (l : Launch) (g : GH) (n : Nat) (K : (Int × DT) → Prop) (v1 : Int) (v2 : Int) (v3 : Int) : (Int × DT) → Prop := fun s => Px (E_X11_joined l g (PIw n K)) 93 [some (vR g 73), some (vI v1), some (vI v2), some (vI v3), some (vI s.1), none] [] (LF n) s.2 0 0
abbrev P_X11_joined_190 (l : Launch) (g : GH) (n : Nat) (K : (Int × DT) → Prop) (v1 : Int) (v3 : Int) (D : DT) : (Int × Int) → Prop := fun s => Px (E_X11_joined l g (PIw n K)) 190 [some (vR g 73), some (vI v1), none, some (vI v3), some (vI s.1), some (vI s.2)] [] (LF n) D 0 0
set_option maxRecDepth 100000 in
set_option maxHeartbeats 4000000 in
theorem x_X11_joined_190 {l : Launch} {g : GH} (hG : G0 l g) {n : Nat} {v1 v3 : Int} {D : DT} {K : (Int × DT) → Prop} {s : (Int × Int)} (h : ok (m_X11_joined_190 v1 v3 D s) K) : Px (E_X11_joined l g (PIw n K)) 190 [some (vR g 73), some (vI v1), none, some (vI v3), some (vI s.1), some (vI s.2)] [] (LF n) D 0 0 := by
  refine ok_loop (P := (P_X11_joined_190 l g n K v1 v3 D)) (fun s h => ?_) h
  refine p_iload dX11_joined_190 rfl ?_
  refine p_aload_n dX11_joined_192 rfl ?_
  refine p_getr dX11_joined_193 fl_X11_17 (fun _ _ _ => rfl) rfl rfl ?_
  refine p_iconst dX11_joined_196 ?_
  refine q_iald dX11_joined_197 rfl rfl h (fun h => ?_)
  refine q_icmp_ge (tgt := 224) dX11_joined_198 (by decide) h (fun h => ?_) (fun h => ?_)
  · have h := kl_inr h
    refine p_aload_n dX11_joined_224 rfl ?_
    refine cV_Vw [] [] dX11_joined_225 yv_X11_bringsBack ml_X11_313 (r := (RX11, TX11, 41)) rfl rfl (Nat.le_of_ble_eq_true rfl) rfl (Nat.le_of_ble_eq_true rfl) (Nat.le_of_ble_eq_true rfl) (Nat.le_of_ble_eq_true rfl) rfl h (fun K h => s_X11_bringsBack hG h) (fun D225 h => ?_)
    refine p_iload dX11_joined_228 rfl ?_
    exact p_ireturn dX11_joined_230 (Nat.le_of_ble_eq_true rfl) (Nat.le_of_ble_eq_true rfl) ⟨_, rfl, rfl, ok_some h⟩
  · refine p_iload dX11_joined_201 rfl ?_
    refine p_aload_n dX11_joined_203 rfl ?_
    refine p_getr dX11_joined_204 fl_X11_70 (fun _ _ _ => rfl) rfl rfl ?_
    refine p_iload_n dX11_joined_207 rfl ?_
    refine p_iload_n dX11_joined_208 rfl ?_
    refine p_iload dX11_joined_209 rfl ?_
    refine cS_Ir [vI v3, vI v1, vI s.2] [vR g 90, vI s.1] dX11_joined_211 ys_X11_dotsAt ml_X11_239 (Nat.le_of_ble_eq_true rfl) rfl (Nat.le_of_ble_eq_true rfl) (Nat.le_of_ble_eq_true rfl) (Nat.le_of_ble_eq_true rfl) h (fun K h => s_X11_dotsAt hG h) (fun r211 h => ?_)
    refine q_iald dX11_joined_214 rfl rfl h (fun h => ?_)
    refine p_iadd dX11_joined_215 ?_
    refine p_istore dX11_joined_216 (Nat.le_of_ble_eq_true rfl) rfl ?_
    refine p_iinc dX11_joined_218 rfl (Nat.le_of_ble_eq_true rfl) rfl ?_
    refine p_goto (tgt := 190) dX11_joined_221 (by decide) ?_
    exact p_weak (leL.same (leL.same (leL.drop (leL.same (leL.same (leL.same leL.nil)))))) (kl_inl (P := (P_X11_joined_190 l g n K v1 v3 D)) h)
set_option maxRecDepth 100000 in
set_option maxHeartbeats 4000000 in
theorem x_X11_joined_93 {l : Launch} {g : GH} (hG : G0 l g) {n : Nat} {v1 v2 v3 : Int} {K : (Int × DT) → Prop} {s : (Int × DT)} (h : ok (m_X11_joined_93 v1 v2 v3 s) K) : Px (E_X11_joined l g (PIw n K)) 93 [some (vR g 73), some (vI v1), some (vI v2), some (vI v3), some (vI s.1), none] [] (LF n) s.2 0 0 := by
  refine ok_loop (P := (P_X11_joined_93 l g n K v1 v2 v3)) (fun s h => ?_) h
  refine p_iload dX11_joined_93 rfl ?_
  refine p_aload_n dX11_joined_95 rfl ?_
  refine p_getr dX11_joined_96 fl_X11_17 (fun _ _ _ => rfl) rfl rfl ?_
  refine p_iconst dX11_joined_99 ?_
  refine q_iald dX11_joined_100 rfl rfl h (fun h => ?_)
  refine q_icmp_ge (tgt := 172) dX11_joined_101 (by decide) h (fun h => ?_) (fun h => ?_)
  · have h := kl_inr h
    refine p_aload_n dX11_joined_172 rfl ?_
    refine cV_Vw [] [] dX11_joined_173 yv_X11_laysOrders ml_X11_219 (r := (RX11, TX11, 41)) rfl rfl (Nat.le_of_ble_eq_true rfl) rfl (Nat.le_of_ble_eq_true rfl) (Nat.le_of_ble_eq_true rfl) (Nat.le_of_ble_eq_true rfl) rfl h (fun K h => s_X11_laysOrders hG h) (fun D173 h => ?_)
    refine p_aload_n dX11_joined_176 rfl ?_
    refine p_aload_n dX11_joined_177 rfl ?_
    refine p_geti dX11_joined_178 fl_X11_48 (fun _ _ _ => rfl) rfl ?_
    refine cV_Vw [vI (D173.1 73 14)] [] dX11_joined_181 yv_X11_laysDots ml_X11_246 (r := (RX11, TX11, 41)) rfl rfl (Nat.le_of_ble_eq_true rfl) rfl (Nat.le_of_ble_eq_true rfl) (Nat.le_of_ble_eq_true rfl) (Nat.le_of_ble_eq_true rfl) rfl h (fun K h => s_X11_laysDots hG h) (fun D181 h => ?_)
    refine p_iconst dX11_joined_184 ?_
    refine p_istore dX11_joined_185 (Nat.le_of_ble_eq_true rfl) rfl ?_
    refine p_iconst dX11_joined_187 ?_
    refine p_istore dX11_joined_188 (Nat.le_of_ble_eq_true rfl) rfl ?_
    exact p_weak (leL.same (leL.same (leL.drop (leL.same (leL.same (leL.same leL.nil)))))) (x_X11_joined_190 hG h)
  · refine p_aload_n dX11_joined_104 rfl ?_
    refine p_getr dX11_joined_105 fl_X11_36 (fun _ _ _ => rfl) rfl rfl ?_
    refine p_iconst dX11_joined_108 ?_
    refine p_iload_n dX11_joined_109 rfl ?_
    refine p_imul dX11_joined_110 ?_
    refine p_iload dX11_joined_111 rfl ?_
    refine p_iadd dX11_joined_113 ?_
    refine q_iald dX11_joined_114 rfl rfl h (fun h => ?_)
    refine p_aload_n dX11_joined_115 rfl ?_
    refine p_getr dX11_joined_116 fl_X11_36 (fun _ _ _ => rfl) rfl rfl ?_
    refine p_iconst dX11_joined_119 ?_
    refine p_iload_n dX11_joined_120 rfl ?_
    refine p_imul dX11_joined_121 ?_
    refine p_iload dX11_joined_122 rfl ?_
    refine p_iadd dX11_joined_124 ?_
    refine q_iald dX11_joined_125 rfl rfl h (fun h => ?_)
    refine p_iadd dX11_joined_126 ?_
    refine p_istore dX11_joined_127 (Nat.le_of_ble_eq_true rfl) rfl ?_
    refine p_aload_n dX11_joined_129 rfl ?_
    refine p_getr dX11_joined_130 fl_X11_36 (fun _ _ _ => rfl) rfl rfl ?_
    refine p_iconst dX11_joined_133 ?_
    refine p_iload_n dX11_joined_134 rfl ?_
    refine p_imul dX11_joined_135 ?_
    refine p_iload dX11_joined_136 rfl ?_
    refine p_iadd dX11_joined_138 ?_
    refine p_iload dX11_joined_139 rfl ?_
    refine p_ldc (v := 99999) dX11_joined_141 cw_X11_194 ?_
    refine q_icmp_le (tgt := 151) dX11_joined_143 (by decide) h (fun h => ?_) (fun h => ?_)
    · refine p_iload dX11_joined_151 rfl ?_
      refine q_iast dX11_joined_153 rfl rfl h (fun D153 h => ?_)
      refine p_aload_n dX11_joined_154 rfl ?_
      refine p_getr dX11_joined_155 fl_X11_36 (fun _ _ _ => rfl) rfl rfl ?_
      refine p_iconst dX11_joined_158 ?_
      refine p_iload_n dX11_joined_159 rfl ?_
      refine p_imul dX11_joined_160 ?_
      refine p_iload dX11_joined_161 rfl ?_
      refine p_iadd dX11_joined_163 ?_
      refine p_iconst dX11_joined_164 ?_
      refine q_iast dX11_joined_165 rfl rfl h (fun D165 h => ?_)
      refine p_iinc dX11_joined_166 rfl (Nat.le_of_ble_eq_true rfl) rfl ?_
      refine p_goto (tgt := 93) dX11_joined_169 (by decide) ?_
      exact p_weak (leL.same (leL.same (leL.same (leL.same (leL.same (leL.drop leL.nil)))))) (kl_inl (P := (P_X11_joined_93 l g n K v1 v2 v3)) h)
    · refine p_ldc (v := 99999) dX11_joined_146 cw_X11_194 ?_
      refine p_goto (tgt := 153) dX11_joined_148 (by decide) ?_
      refine q_iast dX11_joined_153 rfl rfl h (fun D153 h => ?_)
      refine p_aload_n dX11_joined_154 rfl ?_
      refine p_getr dX11_joined_155 fl_X11_36 (fun _ _ _ => rfl) rfl rfl ?_
      refine p_iconst dX11_joined_158 ?_
      refine p_iload_n dX11_joined_159 rfl ?_
      refine p_imul dX11_joined_160 ?_
      refine p_iload dX11_joined_161 rfl ?_
      refine p_iadd dX11_joined_163 ?_
      refine p_iconst dX11_joined_164 ?_
      refine q_iast dX11_joined_165 rfl rfl h (fun D165 h => ?_)
      refine p_iinc dX11_joined_166 rfl (Nat.le_of_ble_eq_true rfl) rfl ?_
      refine p_goto (tgt := 93) dX11_joined_169 (by decide) ?_
      exact p_weak (leL.same (leL.same (leL.same (leL.same (leL.same (leL.drop leL.nil)))))) (kl_inl (P := (P_X11_joined_93 l g n K v1 v2 v3)) h)
set_option maxRecDepth 100000 in
set_option maxHeartbeats 4000000 in
theorem x_X11_joined_56 {l : Launch} {g : GH} (hG : G0 l g) {n : Nat} {v1 v2 v3 : Int} {K : (Int × DT) → Prop} {s : (Int × DT)} (h : ok (m_X11_joined_56 v1 v2 v3 s) K) : Px (E_X11_joined l g (PIw n K)) 56 [some (vR g 73), some (vI v1), some (vI v2), some (vI v3), some (vI s.1), none] [] (LF n) s.2 0 0 := by
  refine ok_loop (P := (P_X11_joined_56 l g n K v1 v2 v3)) (fun s h => ?_) h
  refine p_iload dX11_joined_56 rfl ?_
  refine p_aload_n dX11_joined_58 rfl ?_
  refine cV_Ir [] [vI s.1] dX11_joined_59 yv_X11_cells ml_X11_229 (r := (RX11, TX11, 41)) rfl rfl (Nat.le_of_ble_eq_true rfl) rfl (Nat.le_of_ble_eq_true rfl) (Nat.le_of_ble_eq_true rfl) (Nat.le_of_ble_eq_true rfl) rfl h (fun K h => s_X11_cells hG h) (fun r59 h => ?_)
  refine q_icmp_ge (tgt := 90) dX11_joined_62 (by decide) h (fun h => ?_) (fun h => ?_)
  · have h := kl_inr h
    refine p_iconst dX11_joined_90 ?_
    refine p_istore dX11_joined_91 (Nat.le_of_ble_eq_true rfl) rfl ?_
    exact p_weak (leL.same (leL.same (leL.same (leL.same (leL.same (leL.drop leL.nil)))))) (x_X11_joined_93 hG h)
  · refine p_aload_n dX11_joined_65 rfl ?_
    refine p_getr dX11_joined_66 fl_X11_23 (fun _ _ _ => rfl) rfl rfl ?_
    refine p_iload dX11_joined_69 rfl ?_
    refine q_iald dX11_joined_71 rfl rfl h (fun h => ?_)
    refine p_iload_n dX11_joined_72 rfl ?_
    refine q_icmp_ne (tgt := 84) dX11_joined_73 (by decide) h (fun h => ?_) (fun h => ?_)
    · refine p_iinc dX11_joined_84 rfl (Nat.le_of_ble_eq_true rfl) rfl ?_
      refine p_goto (tgt := 56) dX11_joined_87 (by decide) ?_
      exact p_weak (leL.same (leL.same (leL.same (leL.same (leL.same (leL.drop leL.nil)))))) (kl_inl (P := (P_X11_joined_56 l g n K v1 v2 v3)) h)
    · refine p_aload_n dX11_joined_76 rfl ?_
      refine p_getr dX11_joined_77 fl_X11_23 (fun _ _ _ => rfl) rfl rfl ?_
      refine p_iload dX11_joined_80 rfl ?_
      refine p_iload_n dX11_joined_82 rfl ?_
      refine q_iast dX11_joined_83 rfl rfl h (fun D83 h => ?_)
      refine p_iinc dX11_joined_84 rfl (Nat.le_of_ble_eq_true rfl) rfl ?_
      refine p_goto (tgt := 56) dX11_joined_87 (by decide) ?_
      exact p_weak (leL.same (leL.same (leL.same (leL.same (leL.same (leL.drop leL.nil)))))) (kl_inl (P := (P_X11_joined_56 l g n K v1 v2 v3)) h)
set_option maxRecDepth 100000 in
set_option maxHeartbeats 4000000 in
theorem x_X11_joined {l : Launch} {g : GH} (hG : G0 l g) {n : Nat} {v1 : Int} {v2 : Int} {v3 : Int} {D : DT} {K : (Int × DT) → Prop} (h : ok (m_X11_joined v1 v2 v3 D) K) : Px (E_X11_joined l g (PIw n K)) 0 [some (vR g 73), some (vI v1), some (vI v2), some (vI v3), none, none] [] (LF n) D 0 0 := by
  refine p_aload_n dX11_joined_0 rfl ?_
  refine p_iconst dX11_joined_1 ?_
  refine q_puti dX11_joined_2 fq_X11_106 rfl rfl h (fun D2 h => ?_)
  refine p_aload_n dX11_joined_5 rfl ?_
  refine p_iload_n dX11_joined_6 rfl ?_
  refine cV_Iw [vI v1] [] dX11_joined_7 yv_X11_noZone ml_X11_267 (r := (RX11, TX11, 41)) rfl rfl (Nat.le_of_ble_eq_true rfl) rfl (Nat.le_of_ble_eq_true rfl) (Nat.le_of_ble_eq_true rfl) (Nat.le_of_ble_eq_true rfl) rfl h (fun K h => s_X11_noZone hG h) (fun r7 D7 h => ?_)
  refine q_if_ne (tgt := 47) dX11_joined_10 (by decide) h (fun h => ?_) (fun h => ?_)
  · refine p_iconst dX11_joined_47 ?_
    exact p_ireturn dX11_joined_48 (Nat.le_of_ble_eq_true rfl) (Nat.le_of_ble_eq_true rfl) ⟨_, rfl, rfl, ok_some h⟩
  · refine p_aload_n dX11_joined_13 rfl ?_
    refine p_iload_n dX11_joined_14 rfl ?_
    refine cV_Iw [vI v2] [] dX11_joined_15 yv_X11_noZone ml_X11_267 (r := (RX11, TX11, 41)) rfl rfl (Nat.le_of_ble_eq_true rfl) rfl (Nat.le_of_ble_eq_true rfl) (Nat.le_of_ble_eq_true rfl) (Nat.le_of_ble_eq_true rfl) rfl h (fun K h => s_X11_noZone hG h) (fun r15 D15 h => ?_)
    refine q_if_ne (tgt := 47) dX11_joined_18 (by decide) h (fun h => ?_) (fun h => ?_)
    · refine p_iconst dX11_joined_47 ?_
      exact p_ireturn dX11_joined_48 (Nat.le_of_ble_eq_true rfl) (Nat.le_of_ble_eq_true rfl) ⟨_, rfl, rfl, ok_some h⟩
    · refine p_aload_n dX11_joined_21 rfl ?_
      refine p_iload_n dX11_joined_22 rfl ?_
      refine cV_Iw [vI v3] [] dX11_joined_23 yv_X11_noLevel ml_X11_283 (r := (RX11, TX11, 41)) rfl rfl (Nat.le_of_ble_eq_true rfl) rfl (Nat.le_of_ble_eq_true rfl) (Nat.le_of_ble_eq_true rfl) (Nat.le_of_ble_eq_true rfl) rfl h (fun K h => s_X11_noLevel hG h) (fun r23 D23 h => ?_)
      refine q_if_ne (tgt := 47) dX11_joined_26 (by decide) h (fun h => ?_) (fun h => ?_)
      · refine p_iconst dX11_joined_47 ?_
        exact p_ireturn dX11_joined_48 (Nat.le_of_ble_eq_true rfl) (Nat.le_of_ble_eq_true rfl) ⟨_, rfl, rfl, ok_some h⟩
      · refine p_aload_n dX11_joined_29 rfl ?_
        refine p_iload_n dX11_joined_30 rfl ?_
        refine p_iload_n dX11_joined_31 rfl ?_
        refine q_icmp_ne (tgt := 39) dX11_joined_32 (by decide) h (fun h => ?_) (fun h => ?_)
        · refine p_iconst dX11_joined_39 ?_
          refine p_iconst dX11_joined_40 ?_
          refine cV_Iw [vI 0, vI 2] [] dX11_joined_41 yv_X11_throwsIf ml_X11_215 (r := (RX11, TX11, 41)) rfl rfl (Nat.le_of_ble_eq_true rfl) rfl (Nat.le_of_ble_eq_true rfl) (Nat.le_of_ble_eq_true rfl) (Nat.le_of_ble_eq_true rfl) rfl h (fun K h => s_X11_throwsIf hG h) (fun r41 D41 h => ?_)
          refine q_if_eq (tgt := 49) dX11_joined_44 (by decide) h (fun h => ?_) (fun h => ?_)
          · refine p_aload_n dX11_joined_49 rfl ?_
            refine cV_Vw [] [] dX11_joined_50 yv_X11_keepsAll ml_X11_310 (r := (RX11, TX11, 41)) rfl rfl (Nat.le_of_ble_eq_true rfl) rfl (Nat.le_of_ble_eq_true rfl) (Nat.le_of_ble_eq_true rfl) (Nat.le_of_ble_eq_true rfl) rfl h (fun K h => s_X11_keepsAll hG h) (fun D50 h => ?_)
            refine p_iconst dX11_joined_53 ?_
            refine p_istore dX11_joined_54 (Nat.le_of_ble_eq_true rfl) rfl ?_
            exact p_weak (leL.same (leL.same (leL.same (leL.same (leL.same (leL.drop leL.nil)))))) (x_X11_joined_56 hG h)
          · refine p_iconst dX11_joined_47 ?_
            exact p_ireturn dX11_joined_48 (Nat.le_of_ble_eq_true rfl) (Nat.le_of_ble_eq_true rfl) ⟨_, rfl, rfl, ok_some h⟩
        · refine p_iconst dX11_joined_35 ?_
          refine p_goto (tgt := 40) dX11_joined_36 (by decide) ?_
          refine p_iconst dX11_joined_40 ?_
          refine cV_Iw [vI 1, vI 2] [] dX11_joined_41 yv_X11_throwsIf ml_X11_215 (r := (RX11, TX11, 41)) rfl rfl (Nat.le_of_ble_eq_true rfl) rfl (Nat.le_of_ble_eq_true rfl) (Nat.le_of_ble_eq_true rfl) (Nat.le_of_ble_eq_true rfl) rfl h (fun K h => s_X11_throwsIf hG h) (fun r41 D41 h => ?_)
          refine q_if_eq (tgt := 49) dX11_joined_44 (by decide) h (fun h => ?_) (fun h => ?_)
          · refine p_aload_n dX11_joined_49 rfl ?_
            refine cV_Vw [] [] dX11_joined_50 yv_X11_keepsAll ml_X11_310 (r := (RX11, TX11, 41)) rfl rfl (Nat.le_of_ble_eq_true rfl) rfl (Nat.le_of_ble_eq_true rfl) (Nat.le_of_ble_eq_true rfl) (Nat.le_of_ble_eq_true rfl) rfl h (fun K h => s_X11_keepsAll hG h) (fun D50 h => ?_)
            refine p_iconst dX11_joined_53 ?_
            refine p_istore dX11_joined_54 (Nat.le_of_ble_eq_true rfl) rfl ?_
            exact p_weak (leL.same (leL.same (leL.same (leL.same (leL.same (leL.drop leL.nil)))))) (x_X11_joined_56 hG h)
          · refine p_iconst dX11_joined_47 ?_
            exact p_ireturn dX11_joined_48 (Nat.le_of_ble_eq_true rfl) (Nat.le_of_ble_eq_true rfl) ⟨_, rfl, rfl, ok_some h⟩
theorem s_X11_joined {l : Launch} {g : GH} (hG : G0 l g) {n : Nat} {v1 : Int} {v2 : Int} {v3 : Int} {D : DT} {K : (Int × DT) → Prop} (h : ok (m_X11_joined v1 v2 v3 D) K) : Sat l g yX11_joined cX11_joined 6 (some .int) 4 0 0 [vR g 73, vI v1, vI v2, vI v3] (LF n) D (PIw n K) := Sat.of hG (by decide) (Nat.le_of_ble_eq_true rfl) (by simp [Value.category]) (x_X11_joined hG h)
abbrev E_X11_says (l : Launch) (g : GH) (P : PT) : ENV := mkE l g yX11_says cX11_says 2 none [] 0 0 0 P
set_option maxRecDepth 100000 in
set_option maxHeartbeats 4000000 in
theorem x_X11_says {l : Launch} {g : GH} (hG : G0 l g) {n : Nat} {v1 : Int} {D : DT} {K : DT → Prop} (h : ok (m_X11_says v1 D) K) : Px (E_X11_says l g (PVw n K)) 0 [some (vR g 73), some (vI v1)] [] (LF n) D 0 0 := by
  refine p_aload_n dX11_says_0 rfl ?_
  refine p_getr dX11_says_1 fl_X11_103 (fun _ _ _ => rfl) rfl rfl ?_
  refine p_aload_n dX11_says_4 rfl ?_
  refine p_geti dX11_says_5 fl_X11_355 (fun _ _ _ => rfl) rfl ?_
  refine p_iload_n dX11_says_8 rfl ?_
  refine p_i2b dX11_says_9 ?_
  refine q_bast dX11_says_10 rfl rfl h (fun D10 h => ?_)
  refine p_aload_n dX11_says_11 rfl ?_
  refine p_dup dX11_says_12 rfl ?_
  refine p_geti dX11_says_13 fl_X11_355 (fun _ _ _ => rfl) rfl ?_
  refine p_iconst dX11_says_16 ?_
  refine p_iadd dX11_says_17 ?_
  refine q_puti dX11_says_18 fq_X11_355 rfl rfl h (fun D18 h => ?_)
  exact p_return dX11_says_21 (Nat.le_of_ble_eq_true rfl) (Nat.le_of_ble_eq_true rfl) ⟨rfl, rfl, ok_some h⟩
theorem s_X11_says {l : Launch} {g : GH} (hG : G0 l g) {n : Nat} {v1 : Int} {D : DT} {K : DT → Prop} (h : ok (m_X11_says v1 D) K) : Sat l g yX11_says cX11_says 2 none 0 0 0 [vR g 73, vI v1] (LF n) D (PVw n K) := Sat.of hG (by decide) (Nat.le_of_ble_eq_true rfl) (by simp [Value.category]) (x_X11_says hG h)
abbrev E_X11_saysWord (l : Launch) (g : GH) (P : PT) : ENV := mkE l g yX11_saysWord cX11_saysWord 3 none [] 6 0 0 P
abbrev P_X11_saysWord_2 (l : Launch) (g : GH) (n : Nat) (K : DT → Prop) (t1 : Nat) : (Int × DT) → Prop := fun s => Px (E_X11_saysWord l g (PVw n K)) 2 [some (vR g 73), some (vS g t1), some (vI s.1)] [] (LF n) s.2 0 0
set_option maxRecDepth 100000 in
set_option maxHeartbeats 4000000 in
theorem x_X11_saysWord_2 {l : Launch} {g : GH} (hG : G0 l g) {n : Nat} {t1 : Nat} (w1 : t1 < 22) {K : DT → Prop} {s : (Int × DT)} (h : ok (m_X11_saysWord_2 t1 s) K) : Px (E_X11_saysWord l g (PVw n K)) 2 [some (vR g 73), some (vS g t1), some (vI s.1)] [] (LF n) s.2 0 0 := by
  refine ok_loop (P := (P_X11_saysWord_2 l g n K t1)) (fun s h => ?_) h
  refine p_iload_n dX11_saysWord_2 rfl ?_
  refine p_aload_n dX11_saysWord_3 rfl ?_
  refine q_slen [vI s.1] hG dX11_saysWord_4 w1 ml_X11_147 (Nat.le_of_ble_eq_true rfl) (Nat.le_of_ble_eq_true rfl) (Nat.le_of_ble_eq_true rfl) (Nat.le_of_ble_eq_true rfl) ?_
  refine q_icmp_ge (tgt := 25) dX11_saysWord_7 (by decide) h (fun h => ?_) (fun h => ?_)
  · have h := kl_inr h
    exact p_return dX11_saysWord_25 (Nat.le_of_ble_eq_true rfl) (Nat.le_of_ble_eq_true rfl) ⟨rfl, rfl, ok_some h⟩
  · refine p_aload_n dX11_saysWord_10 rfl ?_
    refine p_aload_n dX11_saysWord_11 rfl ?_
    refine p_iload_n dX11_saysWord_12 rfl ?_
    refine q_schar [vR g 73] hG dX11_saysWord_13 w1 ml_X11_152 (Nat.le_of_ble_eq_true rfl) (Nat.le_of_ble_eq_true rfl) (Nat.le_of_ble_eq_true rfl) (Nat.le_of_ble_eq_true rfl) h (fun h => ?_)
    refine cV_Vw [vI (strC t1 (Int.toNat s.1))] [] dX11_saysWord_16 yv_X11_says ml_X11_358 (r := (RX11, TX11, 41)) rfl rfl (Nat.le_of_ble_eq_true rfl) rfl (Nat.le_of_ble_eq_true rfl) (Nat.le_of_ble_eq_true rfl) (Nat.le_of_ble_eq_true rfl) rfl h (fun K h => s_X11_says hG h) (fun D16 h => ?_)
    refine p_iinc dX11_saysWord_19 rfl (Nat.le_of_ble_eq_true rfl) rfl ?_
    refine p_goto (tgt := 2) dX11_saysWord_22 (by decide) ?_
    exact p_weak (leL.same (leL.same (leL.same leL.nil))) (kl_inl (P := (P_X11_saysWord_2 l g n K t1)) h)
set_option maxRecDepth 100000 in
set_option maxHeartbeats 4000000 in
theorem x_X11_saysWord {l : Launch} {g : GH} (hG : G0 l g) {n : Nat} {t1 : Nat} (w1 : t1 < 22) {D : DT} {K : DT → Prop} (h : ok (m_X11_saysWord t1 D) K) : Px (E_X11_saysWord l g (PVw n K)) 0 [some (vR g 73), some (vS g t1), none] [] (LF n) D 0 0 := by
  refine p_iconst dX11_saysWord_0 ?_
  refine p_istore_n dX11_saysWord_1 (Nat.le_of_ble_eq_true rfl) rfl ?_
  exact p_weak (leL.same (leL.same (leL.same leL.nil))) (x_X11_saysWord_2 hG w1 h)
theorem s_X11_saysWord {l : Launch} {g : GH} (hG : G0 l g) {n : Nat} {t1 : Nat} (w1 : t1 < 22) {D : DT} {K : DT → Prop} (h : ok (m_X11_saysWord t1 D) K) : Sat l g yX11_saysWord cX11_saysWord 3 none 6 0 0 [vR g 73, vS g t1] (LF n) D (PVw n K) := Sat.of hG (by decide) (Nat.le_of_ble_eq_true rfl) (by simp [Value.category]) (x_X11_saysWord hG w1 h)
abbrev E_X11_saysNumber0 (l : Launch) (g : GH) (P : PT) : ENV := mkE l g yX11_saysNumber cX11_saysNumber 2 none [] 1 0 0 P
set_option maxRecDepth 100000 in
set_option maxHeartbeats 4000000 in
theorem x_X11_saysNumber0 {l : Launch} {g : GH} (hG : G0 l g) {n : Nat} {v1 : Int} {D : DT} {K : DT → Prop} (h : ok (m_X11_saysNumber0 v1 D) K) : Px (E_X11_saysNumber0 l g (PVw n K)) 0 [some (vR g 73), some (vI v1)] [] (LF n) D 0 0 := by
  refine p_iload_n dX11_saysNumber_0 rfl ?_
  refine p_bipush dX11_saysNumber_1 (by decide) ?_
  refine q_icmp_le (tgt := 14) dX11_saysNumber_3 (by decide) h (fun h => ?_) (fun h => ?_)
  · refine p_aload_n dX11_saysNumber_14 rfl ?_
    refine p_bipush dX11_saysNumber_15 (by decide) ?_
    refine p_iload_n dX11_saysNumber_17 rfl ?_
    refine p_bipush dX11_saysNumber_18 (by decide) ?_
    refine q_irem dX11_saysNumber_20 h (fun h => ?_)
    refine p_iadd dX11_saysNumber_21 ?_
    refine cV_Vw [vI (48 + (v1 % 10))] [] dX11_saysNumber_22 yv_X11_says ml_X11_358 (r := (RX11, TX11, 41)) rfl rfl (Nat.le_of_ble_eq_true rfl) rfl (Nat.le_of_ble_eq_true rfl) (Nat.le_of_ble_eq_true rfl) (Nat.le_of_ble_eq_true rfl) rfl h (fun K h => s_X11_says hG h) (fun D22 h => ?_)
    exact p_return dX11_saysNumber_25 (Nat.le_of_ble_eq_true rfl) (Nat.le_of_ble_eq_true rfl) ⟨rfl, rfl, ok_some h⟩
  · refine p_aload_n dX11_saysNumber_6 rfl ?_
    refine p_iload_n dX11_saysNumber_7 rfl ?_
    refine p_bipush dX11_saysNumber_8 (by decide) ?_
    refine q_idiv dX11_saysNumber_10 h (fun h => ?_)
    obtain ⟨_, e9, _⟩ := h
    cases e9
theorem s_X11_saysNumber0 {l : Launch} {g : GH} (hG : G0 l g) {n : Nat} {v1 : Int} {D : DT} {K : DT → Prop} (h : ok (m_X11_saysNumber0 v1 D) K) : Sat l g yX11_saysNumber cX11_saysNumber 2 none 1 0 0 [vR g 73, vI v1] (LF n) D (PVw n K) := Sat.of hG (by decide) (Nat.le_of_ble_eq_true rfl) (by simp [Value.category]) (x_X11_saysNumber0 hG h)
abbrev E_X11_saysNumber (l : Launch) (g : GH) (P : PT) : ENV := mkE l g yX11_saysNumber cX11_saysNumber 2 none [] 2 0 0 P
set_option maxRecDepth 100000 in
set_option maxHeartbeats 4000000 in
theorem x_X11_saysNumber {l : Launch} {g : GH} (hG : G0 l g) {n : Nat} {v1 : Int} {D : DT} {K : DT → Prop} (h : ok (m_X11_saysNumber v1 D) K) : Px (E_X11_saysNumber l g (PVw n K)) 0 [some (vR g 73), some (vI v1)] [] (LF n) D 0 0 := by
  refine p_iload_n dX11_saysNumber_0 rfl ?_
  refine p_bipush dX11_saysNumber_1 (by decide) ?_
  refine q_icmp_le (tgt := 14) dX11_saysNumber_3 (by decide) h (fun h => ?_) (fun h => ?_)
  · refine p_aload_n dX11_saysNumber_14 rfl ?_
    refine p_bipush dX11_saysNumber_15 (by decide) ?_
    refine p_iload_n dX11_saysNumber_17 rfl ?_
    refine p_bipush dX11_saysNumber_18 (by decide) ?_
    refine q_irem dX11_saysNumber_20 h (fun h => ?_)
    refine p_iadd dX11_saysNumber_21 ?_
    refine cV_Vw [vI (48 + (v1 % 10))] [] dX11_saysNumber_22 yv_X11_says ml_X11_358 (r := (RX11, TX11, 41)) rfl rfl (Nat.le_of_ble_eq_true rfl) rfl (Nat.le_of_ble_eq_true rfl) (Nat.le_of_ble_eq_true rfl) (Nat.le_of_ble_eq_true rfl) rfl h (fun K h => s_X11_says hG h) (fun D22 h => ?_)
    exact p_return dX11_saysNumber_25 (Nat.le_of_ble_eq_true rfl) (Nat.le_of_ble_eq_true rfl) ⟨rfl, rfl, ok_some h⟩
  · refine p_aload_n dX11_saysNumber_6 rfl ?_
    refine p_iload_n dX11_saysNumber_7 rfl ?_
    refine p_bipush dX11_saysNumber_8 (by decide) ?_
    refine q_idiv dX11_saysNumber_10 h (fun h => ?_)
    refine cV_Vw [vI (v1 / 10)] [] dX11_saysNumber_11 yv_X11_saysNumber ml_X11_361 (r := (RX11, TX11, 41)) rfl rfl (Nat.le_of_ble_eq_true rfl) rfl (Nat.le_of_ble_eq_true rfl) (Nat.le_of_ble_eq_true rfl) (Nat.le_of_ble_eq_true rfl) rfl h (fun K h => s_X11_saysNumber0 hG h) (fun D11 h => ?_)
    refine p_aload_n dX11_saysNumber_14 rfl ?_
    refine p_bipush dX11_saysNumber_15 (by decide) ?_
    refine p_iload_n dX11_saysNumber_17 rfl ?_
    refine p_bipush dX11_saysNumber_18 (by decide) ?_
    refine q_irem dX11_saysNumber_20 h (fun h => ?_)
    refine p_iadd dX11_saysNumber_21 ?_
    refine cV_Vw [vI (48 + (v1 % 10))] [] dX11_saysNumber_22 yv_X11_says ml_X11_358 (r := (RX11, TX11, 41)) rfl rfl (Nat.le_of_ble_eq_true rfl) rfl (Nat.le_of_ble_eq_true rfl) (Nat.le_of_ble_eq_true rfl) (Nat.le_of_ble_eq_true rfl) rfl h (fun K h => s_X11_says hG h) (fun D22 h => ?_)
    exact p_return dX11_saysNumber_25 (Nat.le_of_ble_eq_true rfl) (Nat.le_of_ble_eq_true rfl) ⟨rfl, rfl, ok_some h⟩
theorem s_X11_saysNumber {l : Launch} {g : GH} (hG : G0 l g) {n : Nat} {v1 : Int} {D : DT} {K : DT → Prop} (h : ok (m_X11_saysNumber v1 D) K) : Sat l g yX11_saysNumber cX11_saysNumber 2 none 2 0 0 [vR g 73, vI v1] (LF n) D (PVw n K) := Sat.of hG (by decide) (Nat.le_of_ble_eq_true rfl) (by simp [Value.category]) (x_X11_saysNumber hG h)
abbrev E_X11_write (l : Launch) (g : GH) (P : PT) : ENV := mkE l g yX11_write cX11_write 6 (some .int) [] 7 0 0 P
abbrev P_X11_write_22 (l : Launch) (g : GH) (n : Nat) (K : (Int × DT) → Prop) (v1 : Int) : (Int × DT) → Prop := fun s => Px (E_X11_write l g (PIw n K)) 22 [some (vR g 73), some (vI v1), some (vI s.1), none, none, none] [] (LF n) s.2 0 0
abbrev P_X11_write_53 (l : Launch) (g : GH) (n : Nat) (K : (Int × DT) → Prop) (v1 : Int) (v2 : Int) : (Int × DT) → Prop := fun s => Px (E_X11_write l g (PIw n K)) 53 [some (vR g 73), some (vI v1), some (vI v2), some (vI s.1), none, none] [] (LF n) s.2 0 0
abbrev P_X11_write_117 (l : Launch) (g : GH) (n : Nat) (K : (Int × DT) → Prop) (v1 : Int) (v2 : Int) : (Int × Int × DT) → Prop := fun s => Px (E_X11_write l g (PIw n K)) 117 [some (vR g 73), some (vI v1), some (vI v2), some (vI s.1), some (vI s.2.1), none] [] (LF n) s.2.2 0 0
set_option maxRecDepth 100000 in
set_option maxHeartbeats 4000000 in
theorem x_X11_write_165 {l : Launch} {g : GH} (hG : G0 l g) {n : Nat} {v1 v2 v4 v5 : Int} {D : DT} {K : (Int × DT) → Prop} (h : ok (m_X11_write_165 v1 v2 v4 v5 D) (KL (P_X11_write_117 l g n K v1 v2) (KL (P_X11_write_22 l g n K v1) K))) : Px (E_X11_write l g (PIw n K)) 165 [some (vR g 73), some (vI v1), some (vI v2), none, some (vI v4), some (vI v5)] [] (LF n) D 0 0 := by
  refine p_iconst dX11_write_165 ?_
  refine p_istore_n dX11_write_166 (Nat.le_of_ble_eq_true rfl) rfl ?_
  refine p_aload_n dX11_write_167 rfl ?_
  refine p_iload dX11_write_168 rfl ?_
  refine cV_Vw [vI v4] [] dX11_write_170 yv_X11_saysNumber ml_X11_361 (r := (RX11, TX11, 41)) rfl rfl (Nat.le_of_ble_eq_true rfl) rfl (Nat.le_of_ble_eq_true rfl) (Nat.le_of_ble_eq_true rfl) (Nat.le_of_ble_eq_true rfl) rfl h (fun K h => s_X11_saysNumber hG h) (fun D170 h => ?_)
  refine p_aload_n dX11_write_173 rfl ?_
  refine p_bipush dX11_write_174 (by decide) ?_
  refine cV_Vw [vI 45] [] dX11_write_176 yv_X11_says ml_X11_358 (r := (RX11, TX11, 41)) rfl rfl (Nat.le_of_ble_eq_true rfl) rfl (Nat.le_of_ble_eq_true rfl) (Nat.le_of_ble_eq_true rfl) (Nat.le_of_ble_eq_true rfl) rfl h (fun K h => s_X11_says hG h) (fun D176 h => ?_)
  refine p_aload_n dX11_write_179 rfl ?_
  refine p_aload_n dX11_write_180 rfl ?_
  refine p_iload_n dX11_write_181 rfl ?_
  refine p_iload dX11_write_182 rfl ?_
  refine cV_Ir [vI v1, vI v5] [vR g 73] dX11_write_184 yv_X11_runEnd ml_X11_316 (r := (RX11, TX11, 41)) rfl rfl (Nat.le_of_ble_eq_true rfl) rfl (Nat.le_of_ble_eq_true rfl) (Nat.le_of_ble_eq_true rfl) (Nat.le_of_ble_eq_true rfl) rfl h (fun K h => s_X11_runEnd hG h) (fun r184 h => ?_)
  refine p_aload_n dX11_write_187 rfl ?_
  refine p_getr dX11_write_188 fl_X11_17 (fun _ _ _ => rfl) rfl rfl ?_
  refine p_iconst dX11_write_191 ?_
  refine q_iald dX11_write_192 rfl rfl h (fun h => ?_)
  refine q_irem dX11_write_193 h (fun h => ?_)
  refine cV_Vw [vI (r184 % (D176.2 76 (Int.toNat 0)))] [] dX11_write_194 yv_X11_saysNumber ml_X11_361 (r := (RX11, TX11, 41)) rfl rfl (Nat.le_of_ble_eq_true rfl) rfl (Nat.le_of_ble_eq_true rfl) (Nat.le_of_ble_eq_true rfl) (Nat.le_of_ble_eq_true rfl) rfl h (fun K h => s_X11_saysNumber hG h) (fun D194 h => ?_)
  refine p_iinc dX11_write_197 rfl (Nat.le_of_ble_eq_true rfl) rfl ?_
  refine p_goto (tgt := 117) dX11_write_200 (by decide) ?_
  exact p_weak (leL.same (leL.same (leL.same (leL.same (leL.same (leL.drop leL.nil)))))) (kl_inl (P := (P_X11_write_117 l g n K v1 v2)) h)
set_option maxRecDepth 100000 in
set_option maxHeartbeats 4000000 in
theorem x_X11_write_117 {l : Launch} {g : GH} (hG : G0 l g) {n : Nat} {v1 v2 : Int} {K : (Int × DT) → Prop} {s : (Int × Int × DT)} (h : ok (m_X11_write_117 v1 v2 s) (KL (P_X11_write_22 l g n K v1) K)) : Px (E_X11_write l g (PIw n K)) 117 [some (vR g 73), some (vI v1), some (vI v2), some (vI s.1), some (vI s.2.1), none] [] (LF n) s.2.2 0 0 := by
  refine ok_loop (P := (P_X11_write_117 l g n K v1 v2)) (fun s h => ?_) h
  refine p_iload dX11_write_117 rfl ?_
  refine p_aload_n dX11_write_119 rfl ?_
  refine p_getr dX11_write_120 fl_X11_17 (fun _ _ _ => rfl) rfl rfl ?_
  refine p_iconst dX11_write_123 ?_
  refine q_iald dX11_write_124 rfl rfl h (fun h => ?_)
  refine q_icmp_ge (tgt := 203) dX11_write_125 (by decide) h (fun h => ?_) (fun h => ?_)
  · have h := kl_inr h
    refine p_aload_n dX11_write_203 rfl ?_
    refine p_bipush dX11_write_204 (by decide) ?_
    refine cV_Vw [vI 59] [] dX11_write_206 yv_X11_says ml_X11_358 (r := (RX11, TX11, 41)) rfl rfl (Nat.le_of_ble_eq_true rfl) rfl (Nat.le_of_ble_eq_true rfl) (Nat.le_of_ble_eq_true rfl) (Nat.le_of_ble_eq_true rfl) rfl h (fun K h => s_X11_says hG h) (fun D206 h => ?_)
    refine p_iinc dX11_write_209 rfl (Nat.le_of_ble_eq_true rfl) rfl ?_
    refine p_goto (tgt := 22) dX11_write_212 (by decide) ?_
    exact p_weak (leL.same (leL.same (leL.same (leL.drop (leL.drop (leL.drop leL.nil)))))) (kl_inl (P := (P_X11_write_22 l g n K v1)) h)
  · refine p_aload_n dX11_write_128 rfl ?_
    refine p_getr dX11_write_129 fl_X11_17 (fun _ _ _ => rfl) rfl rfl ?_
    refine p_iconst dX11_write_132 ?_
    refine q_iald dX11_write_133 rfl rfl h (fun h => ?_)
    refine p_iload_n dX11_write_134 rfl ?_
    refine p_imul dX11_write_135 ?_
    refine p_iload dX11_write_136 rfl ?_
    refine p_iadd dX11_write_138 ?_
    refine p_istore dX11_write_139 (Nat.le_of_ble_eq_true rfl) rfl ?_
    refine p_aload_n dX11_write_141 rfl ?_
    refine p_iload_n dX11_write_142 rfl ?_
    refine p_iload dX11_write_143 rfl ?_
    refine cV_Ir [vI v1, vI (((s.2.2.2 76 (Int.toNat 0)) * v2) + s.2.1)] [] dX11_write_145 yv_X11_isRunBegin ml_X11_264 (r := (RX11, TX11, 41)) rfl rfl (Nat.le_of_ble_eq_true rfl) rfl (Nat.le_of_ble_eq_true rfl) (Nat.le_of_ble_eq_true rfl) (Nat.le_of_ble_eq_true rfl) rfl h (fun K h => s_X11_isRunBegin hG h) (fun r145 h => ?_)
    refine q_if_ne (tgt := 154) dX11_write_148 (by decide) h (fun h => ?_) (fun h => ?_)
    · refine p_iload_n dX11_write_154 rfl ?_
      refine q_if_eq (tgt := 165) dX11_write_155 (by decide) h (fun h => ?_) (fun h => ?_)
      · exact p_weak (leL.same (leL.same (leL.same (leL.drop (leL.same (leL.same leL.nil)))))) (x_X11_write_165 hG h)
      · refine p_aload_n dX11_write_158 rfl ?_
        refine p_ldcSW (i := 21) hG dX11_write_159 (by decide) rfl rfl ?_
        refine cV_Vw [vS g 21] [] dX11_write_162 yv_X11_saysWord ml_X11_366 (r := (RX11, TX11, 41)) rfl rfl (Nat.le_of_ble_eq_true rfl) rfl (Nat.le_of_ble_eq_true rfl) (Nat.le_of_ble_eq_true rfl) (Nat.le_of_ble_eq_true rfl) rfl h (fun K h => s_X11_saysWord hG (by decide) h) (fun D162 h => ?_)
        exact p_weak (leL.same (leL.same (leL.same (leL.drop (leL.same (leL.same leL.nil)))))) (x_X11_write_165 hG h)
    · refine p_goto (tgt := 197) dX11_write_151 (by decide) ?_
      refine p_iinc dX11_write_197 rfl (Nat.le_of_ble_eq_true rfl) rfl ?_
      refine p_goto (tgt := 117) dX11_write_200 (by decide) ?_
      exact p_weak (leL.same (leL.same (leL.same (leL.same (leL.same (leL.drop leL.nil)))))) (kl_inl (P := (P_X11_write_117 l g n K v1 v2)) h)
set_option maxRecDepth 100000 in
set_option maxHeartbeats 4000000 in
theorem x_X11_write_53 {l : Launch} {g : GH} (hG : G0 l g) {n : Nat} {v1 v2 : Int} {K : (Int × DT) → Prop} {s : (Int × DT)} (h : ok (m_X11_write_53 v1 v2 s) (KL (P_X11_write_22 l g n K v1) K)) : Px (E_X11_write l g (PIw n K)) 53 [some (vR g 73), some (vI v1), some (vI v2), some (vI s.1), none, none] [] (LF n) s.2 0 0 := by
  refine ok_loop (P := (P_X11_write_53 l g n K v1 v2)) (fun s h => ?_) h
  refine p_iload_n dX11_write_53 rfl ?_
  refine p_bipush dX11_write_54 (by decide) ?_
  refine q_icmp_ge (tgt := 94) dX11_write_56 (by decide) h (fun h => ?_) (fun h => ?_)
  · have h := kl_inr h
    refine p_aload_n dX11_write_94 rfl ?_
    refine p_bipush dX11_write_95 (by decide) ?_
    refine cV_Vw [vI 32] [] dX11_write_97 yv_X11_says ml_X11_358 (r := (RX11, TX11, 41)) rfl rfl (Nat.le_of_ble_eq_true rfl) rfl (Nat.le_of_ble_eq_true rfl) (Nat.le_of_ble_eq_true rfl) (Nat.le_of_ble_eq_true rfl) rfl h (fun K h => s_X11_says hG h) (fun D97 h => ?_)
    refine p_aload_n dX11_write_100 rfl ?_
    refine p_iload_n dX11_write_101 rfl ?_
    refine cV_Vw [vI v2] [] dX11_write_102 yv_X11_saysNumber ml_X11_361 (r := (RX11, TX11, 41)) rfl rfl (Nat.le_of_ble_eq_true rfl) rfl (Nat.le_of_ble_eq_true rfl) (Nat.le_of_ble_eq_true rfl) (Nat.le_of_ble_eq_true rfl) rfl h (fun K h => s_X11_saysNumber hG h) (fun D102 h => ?_)
    refine p_aload_n dX11_write_105 rfl ?_
    refine p_ldcSW (i := 20) hG dX11_write_106 (by decide) rfl rfl ?_
    refine cV_Vw [vS g 20] [] dX11_write_109 yv_X11_saysWord ml_X11_366 (r := (RX11, TX11, 41)) rfl rfl (Nat.le_of_ble_eq_true rfl) rfl (Nat.le_of_ble_eq_true rfl) (Nat.le_of_ble_eq_true rfl) (Nat.le_of_ble_eq_true rfl) rfl h (fun K h => s_X11_saysWord hG (by decide) h) (fun D109 h => ?_)
    refine p_iconst dX11_write_112 ?_
    refine p_istore_n dX11_write_113 (Nat.le_of_ble_eq_true rfl) rfl ?_
    refine p_iconst dX11_write_114 ?_
    refine p_istore dX11_write_115 (Nat.le_of_ble_eq_true rfl) rfl ?_
    exact p_weak (leL.same (leL.same (leL.same (leL.same (leL.same (leL.drop leL.nil)))))) (x_X11_write_117 hG h)
  · refine p_aload_n dX11_write_59 rfl ?_
    refine p_getr dX11_write_60 fl_X11_42 (fun _ _ _ => rfl) rfl rfl ?_
    refine p_bipush dX11_write_63 (by decide) ?_
    refine p_iload_n dX11_write_65 rfl ?_
    refine p_imul dX11_write_66 ?_
    refine p_iload_n dX11_write_67 rfl ?_
    refine p_iadd dX11_write_68 ?_
    refine q_bald dX11_write_69 rfl rfl h (fun h => ?_)
    refine q_if_eq (tgt := 94) dX11_write_70 (by decide) h (fun h => ?_) (fun h => ?_)
    · have h := kl_inr h
      refine p_aload_n dX11_write_94 rfl ?_
      refine p_bipush dX11_write_95 (by decide) ?_
      refine cV_Vw [vI 32] [] dX11_write_97 yv_X11_says ml_X11_358 (r := (RX11, TX11, 41)) rfl rfl (Nat.le_of_ble_eq_true rfl) rfl (Nat.le_of_ble_eq_true rfl) (Nat.le_of_ble_eq_true rfl) (Nat.le_of_ble_eq_true rfl) rfl h (fun K h => s_X11_says hG h) (fun D97 h => ?_)
      refine p_aload_n dX11_write_100 rfl ?_
      refine p_iload_n dX11_write_101 rfl ?_
      refine cV_Vw [vI v2] [] dX11_write_102 yv_X11_saysNumber ml_X11_361 (r := (RX11, TX11, 41)) rfl rfl (Nat.le_of_ble_eq_true rfl) rfl (Nat.le_of_ble_eq_true rfl) (Nat.le_of_ble_eq_true rfl) (Nat.le_of_ble_eq_true rfl) rfl h (fun K h => s_X11_saysNumber hG h) (fun D102 h => ?_)
      refine p_aload_n dX11_write_105 rfl ?_
      refine p_ldcSW (i := 20) hG dX11_write_106 (by decide) rfl rfl ?_
      refine cV_Vw [vS g 20] [] dX11_write_109 yv_X11_saysWord ml_X11_366 (r := (RX11, TX11, 41)) rfl rfl (Nat.le_of_ble_eq_true rfl) rfl (Nat.le_of_ble_eq_true rfl) (Nat.le_of_ble_eq_true rfl) (Nat.le_of_ble_eq_true rfl) rfl h (fun K h => s_X11_saysWord hG (by decide) h) (fun D109 h => ?_)
      refine p_iconst dX11_write_112 ?_
      refine p_istore_n dX11_write_113 (Nat.le_of_ble_eq_true rfl) rfl ?_
      refine p_iconst dX11_write_114 ?_
      refine p_istore dX11_write_115 (Nat.le_of_ble_eq_true rfl) rfl ?_
      exact p_weak (leL.same (leL.same (leL.same (leL.same (leL.same (leL.drop leL.nil)))))) (x_X11_write_117 hG h)
    · refine p_aload_n dX11_write_73 rfl ?_
      refine p_aload_n dX11_write_74 rfl ?_
      refine p_getr dX11_write_75 fl_X11_42 (fun _ _ _ => rfl) rfl rfl ?_
      refine p_bipush dX11_write_78 (by decide) ?_
      refine p_iload_n dX11_write_80 rfl ?_
      refine p_imul dX11_write_81 ?_
      refine p_iload_n dX11_write_82 rfl ?_
      refine p_iadd dX11_write_83 ?_
      refine q_bald dX11_write_84 rfl rfl h (fun h => ?_)
      refine cV_Vw [vI (s.2.2 84 (Int.toNat ((6 * v1) + s.1)))] [] dX11_write_85 yv_X11_says ml_X11_358 (r := (RX11, TX11, 41)) rfl rfl (Nat.le_of_ble_eq_true rfl) rfl (Nat.le_of_ble_eq_true rfl) (Nat.le_of_ble_eq_true rfl) (Nat.le_of_ble_eq_true rfl) rfl h (fun K h => s_X11_says hG h) (fun D85 h => ?_)
      refine p_iinc dX11_write_88 rfl (Nat.le_of_ble_eq_true rfl) rfl ?_
      refine p_goto (tgt := 53) dX11_write_91 (by decide) ?_
      exact p_weak (leL.same (leL.same (leL.same (leL.same (leL.drop (leL.drop leL.nil)))))) (kl_inl (P := (P_X11_write_53 l g n K v1 v2)) h)
set_option maxRecDepth 100000 in
set_option maxHeartbeats 4000000 in
theorem x_X11_write_22 {l : Launch} {g : GH} (hG : G0 l g) {n : Nat} {v1 : Int} {K : (Int × DT) → Prop} {s : (Int × DT)} (h : ok (m_X11_write_22 v1 s) K) : Px (E_X11_write l g (PIw n K)) 22 [some (vR g 73), some (vI v1), some (vI s.1), none, none, none] [] (LF n) s.2 0 0 := by
  refine ok_loop (P := (P_X11_write_22 l g n K v1)) (fun s h => ?_) h
  refine p_iload_n dX11_write_22 rfl ?_
  refine p_aload_n dX11_write_23 rfl ?_
  refine p_getr dX11_write_24 fl_X11_17 (fun _ _ _ => rfl) rfl rfl ?_
  refine p_iconst dX11_write_27 ?_
  refine q_iald dX11_write_28 rfl rfl h (fun h => ?_)
  refine q_icmp_ge (tgt := 215) dX11_write_29 (by decide) h (fun h => ?_) (fun h => ?_)
  · have h := kl_inr h
    refine p_aload_n dX11_write_215 rfl ?_
    refine p_geti dX11_write_216 fl_X11_355 (fun _ _ _ => rfl) rfl ?_
    exact p_ireturn dX11_write_219 (Nat.le_of_ble_eq_true rfl) (Nat.le_of_ble_eq_true rfl) ⟨_, rfl, rfl, ok_some h⟩
  · refine p_aload_n dX11_write_32 rfl ?_
    refine p_iload_n dX11_write_33 rfl ?_
    refine p_iload_n dX11_write_34 rfl ?_
    refine cV_Ir [vI v1, vI s.1] [] dX11_write_35 yv_X11_runsIn ml_X11_277 (r := (RX11, TX11, 41)) rfl rfl (Nat.le_of_ble_eq_true rfl) rfl (Nat.le_of_ble_eq_true rfl) (Nat.le_of_ble_eq_true rfl) (Nat.le_of_ble_eq_true rfl) rfl h (fun K h => s_X11_runsIn hG h) (fun r35 h => ?_)
    refine q_if_ne (tgt := 44) dX11_write_38 (by decide) h (fun h => ?_) (fun h => ?_)
    · refine p_aload_n dX11_write_44 rfl ?_
      refine p_ldcSW (i := 19) hG dX11_write_45 (by decide) rfl rfl ?_
      refine cV_Vw [vS g 19] [] dX11_write_48 yv_X11_saysWord ml_X11_366 (r := (RX11, TX11, 41)) rfl rfl (Nat.le_of_ble_eq_true rfl) rfl (Nat.le_of_ble_eq_true rfl) (Nat.le_of_ble_eq_true rfl) (Nat.le_of_ble_eq_true rfl) rfl h (fun K h => s_X11_saysWord hG (by decide) h) (fun D48 h => ?_)
      refine p_iconst dX11_write_51 ?_
      refine p_istore_n dX11_write_52 (Nat.le_of_ble_eq_true rfl) rfl ?_
      exact p_weak (leL.same (leL.same (leL.same (leL.same (leL.drop (leL.drop leL.nil)))))) (x_X11_write_53 hG h)
    · refine p_goto (tgt := 209) dX11_write_41 (by decide) ?_
      refine p_iinc dX11_write_209 rfl (Nat.le_of_ble_eq_true rfl) rfl ?_
      refine p_goto (tgt := 22) dX11_write_212 (by decide) ?_
      exact p_weak (leL.same (leL.same (leL.same (leL.drop (leL.drop (leL.drop leL.nil)))))) (kl_inl (P := (P_X11_write_22 l g n K v1)) h)
set_option maxRecDepth 100000 in
set_option maxHeartbeats 4000000 in
theorem x_X11_write {l : Launch} {g : GH} (hG : G0 l g) {n : Nat} {v1 : Int} {D : DT} {K : (Int × DT) → Prop} (h : ok (m_X11_write v1 D) K) : Px (E_X11_write l g (PIw n K)) 0 [some (vR g 73), some (vI v1), none, none, none, none] [] (LF n) D 0 0 := by
  refine p_aload_n dX11_write_0 rfl ?_
  refine p_iconst dX11_write_1 ?_
  refine q_puti dX11_write_2 fq_X11_106 rfl rfl h (fun D2 h => ?_)
  refine p_aload_n dX11_write_5 rfl ?_
  refine p_iload_n dX11_write_6 rfl ?_
  refine cV_Iw [vI v1] [] dX11_write_7 yv_X11_noZone ml_X11_267 (r := (RX11, TX11, 41)) rfl rfl (Nat.le_of_ble_eq_true rfl) rfl (Nat.le_of_ble_eq_true rfl) (Nat.le_of_ble_eq_true rfl) (Nat.le_of_ble_eq_true rfl) rfl h (fun K h => s_X11_noZone hG h) (fun r7 D7 h => ?_)
  refine q_if_eq (tgt := 15) dX11_write_10 (by decide) h (fun h => ?_) (fun h => ?_)
  · refine p_aload_n dX11_write_15 rfl ?_
    refine p_iconst dX11_write_16 ?_
    refine q_puti dX11_write_17 fq_X11_355 rfl rfl h (fun D17 h => ?_)
    refine p_iconst dX11_write_20 ?_
    refine p_istore_n dX11_write_21 (Nat.le_of_ble_eq_true rfl) rfl ?_
    exact p_weak (leL.same (leL.same (leL.same (leL.drop (leL.drop (leL.drop leL.nil)))))) (x_X11_write_22 hG h)
  · refine p_iconst dX11_write_13 ?_
    exact p_ireturn dX11_write_14 (Nat.le_of_ble_eq_true rfl) (Nat.le_of_ble_eq_true rfl) ⟨_, rfl, rfl, ok_some h⟩
theorem s_X11_write {l : Launch} {g : GH} (hG : G0 l g) {n : Nat} {v1 : Int} {D : DT} {K : (Int × DT) → Prop} (h : ok (m_X11_write v1 D) K) : Sat l g yX11_write cX11_write 6 (some .int) 7 0 0 [vR g 73, vI v1] (LF n) D (PIw n K) := Sat.of hG (by decide) (Nat.le_of_ble_eq_true rfl) (by simp [Value.category]) (x_X11_write hG h)
abbrev E_X11_octet (l : Launch) (g : GH) (P : PT) : ENV := mkE l g yX11_octet cX11_octet 2 (some .int) [] 1 0 0 P
set_option maxRecDepth 100000 in
set_option maxHeartbeats 4000000 in
theorem x_X11_octet {l : Launch} {g : GH} (hG : G0 l g) {n : Nat} {v1 : Int} {D : DT} {K : (Int × DT) → Prop} (h : ok (m_X11_octet v1 D) K) : Px (E_X11_octet l g (PIw n K)) 0 [some (vR g 73), some (vI v1)] [] (LF n) D 0 0 := by
  refine p_aload_n dX11_octet_0 rfl ?_
  refine p_iconst dX11_octet_1 ?_
  refine q_puti dX11_octet_2 fq_X11_106 rfl rfl h (fun D2 h => ?_)
  refine p_iload_n dX11_octet_5 rfl ?_
  refine p_iconst dX11_octet_6 ?_
  refine p_aload_n dX11_octet_7 rfl ?_
  refine p_geti dX11_octet_8 fl_X11_355 (fun _ _ _ => rfl) rfl ?_
  refine p_iconst dX11_octet_11 ?_
  refine p_isub dX11_octet_12 ?_
  refine cS_Ir [vI v1, vI 0, vI ((D2.1 73 40) - 1)] [] dX11_octet_13 ys_X11_in ml_X11_169 (Nat.le_of_ble_eq_true rfl) rfl (Nat.le_of_ble_eq_true rfl) (Nat.le_of_ble_eq_true rfl) (Nat.le_of_ble_eq_true rfl) h (fun K h => s_X11_in hG h) (fun r13 h => ?_)
  refine q_if_eq (tgt := 28) dX11_octet_16 (by decide) h (fun h => ?_) (fun h => ?_)
  · refine p_iconst dX11_octet_28 ?_
    exact p_ireturn dX11_octet_29 (Nat.le_of_ble_eq_true rfl) (Nat.le_of_ble_eq_true rfl) ⟨_, rfl, rfl, ok_some h⟩
  · refine p_aload_n dX11_octet_19 rfl ?_
    refine p_getr dX11_octet_20 fl_X11_103 (fun _ _ _ => rfl) rfl rfl ?_
    refine p_iload_n dX11_octet_23 rfl ?_
    refine q_bald dX11_octet_24 rfl rfl h (fun h => ?_)
    refine p_goto (tgt := 29) dX11_octet_25 (by decide) ?_
    exact p_ireturn dX11_octet_29 (Nat.le_of_ble_eq_true rfl) (Nat.le_of_ble_eq_true rfl) ⟨_, rfl, rfl, ok_some h⟩
theorem s_X11_octet {l : Launch} {g : GH} (hG : G0 l g) {n : Nat} {v1 : Int} {D : DT} {K : (Int × DT) → Prop} (h : ok (m_X11_octet v1 D) K) : Sat l g yX11_octet cX11_octet 2 (some .int) 1 0 0 [vR g 73, vI v1] (LF n) D (PIw n K) := Sat.of hG (by decide) (Nat.le_of_ble_eq_true rfl) (by simp [Value.category]) (x_X11_octet hG h)
abbrev E_X11_cellsOf (l : Launch) (g : GH) (P : PT) : ENV := mkE l g yX11_cellsOf cX11_cellsOf 4 (some .int) [] 1 0 0 P
abbrev P_X11_cellsOf_4 (l : Launch) (g : GH) (n : Nat) (K : Int → Prop) (v1 : Int) (D : DT) : (Int × Int) → Prop := fun s => Px (E_X11_cellsOf l g (PIr n D K)) 4 [some (vR g 73), some (vI v1), some (vI s.1), some (vI s.2)] [] (LF n) D 0 0
set_option maxRecDepth 100000 in
set_option maxHeartbeats 4000000 in
theorem x_X11_cellsOf_80 {l : Launch} {g : GH} (hG : G0 l g) {n : Nat} {v1 v3 : Int} {x0 x1 : Int} {D : DT} {K : Int → Prop} (h : ok (m_X11_cellsOf_80 v1 v3 x0 x1 D) (KL (P_X11_cellsOf_4 l g n K v1 D) K)) : Px (E_X11_cellsOf l g (PIr n D K)) 80 [some (vR g 73), some (vI v1), none, some (vI v3)] [vI x0, vI x1] (LF n) D 0 0 := by
  refine p_iadd dX11_cellsOf_80 ?_
  refine p_istore_n dX11_cellsOf_81 (Nat.le_of_ble_eq_true rfl) rfl ?_
  refine p_iinc dX11_cellsOf_82 rfl (Nat.le_of_ble_eq_true rfl) rfl ?_
  refine p_goto (tgt := 4) dX11_cellsOf_85 (by decide) ?_
  exact p_weak (leL.same (leL.same (leL.same (leL.same leL.nil)))) (kl_inl (P := (P_X11_cellsOf_4 l g n K v1 D)) h)
set_option maxRecDepth 100000 in
set_option maxHeartbeats 4000000 in
theorem x_X11_cellsOf_4 {l : Launch} {g : GH} (hG : G0 l g) {n : Nat} {v1 : Int} {D : DT} {K : Int → Prop} {s : (Int × Int)} (h : ok (m_X11_cellsOf_4 v1 D s) K) : Px (E_X11_cellsOf l g (PIr n D K)) 4 [some (vR g 73), some (vI v1), some (vI s.1), some (vI s.2)] [] (LF n) D 0 0 := by
  refine ok_loop (P := (P_X11_cellsOf_4 l g n K v1 D)) (fun s h => ?_) h
  refine p_iload_n dX11_cellsOf_4 rfl ?_
  refine p_aload_n dX11_cellsOf_5 rfl ?_
  refine cV_Ir [] [vI s.2] dX11_cellsOf_6 yv_X11_cells ml_X11_229 (r := (RX11, TX11, 41)) rfl rfl (Nat.le_of_ble_eq_true rfl) rfl (Nat.le_of_ble_eq_true rfl) (Nat.le_of_ble_eq_true rfl) (Nat.le_of_ble_eq_true rfl) rfl h (fun K h => s_X11_cells hG h) (fun r6 h => ?_)
  refine q_icmp_ge (tgt := 88) dX11_cellsOf_9 (by decide) h (fun h => ?_) (fun h => ?_)
  · have h := kl_inr h
    refine p_iload_n dX11_cellsOf_88 rfl ?_
    exact p_ireturn dX11_cellsOf_89 (Nat.le_of_ble_eq_true rfl) (Nat.le_of_ble_eq_true rfl) ⟨_, rfl, rfl, rfl, ok_some h⟩
  · refine p_iload_n dX11_cellsOf_12 rfl ?_
    refine p_iload_n dX11_cellsOf_13 rfl ?_
    refine p_iconst dX11_cellsOf_14 ?_
    refine q_icmp_ne (tgt := 35) dX11_cellsOf_15 (by decide) h (fun h => ?_) (fun h => ?_)
    · refine p_iload_n dX11_cellsOf_35 rfl ?_
      refine p_iconst dX11_cellsOf_36 ?_
      refine q_icmp_ne (tgt := 56) dX11_cellsOf_37 (by decide) h (fun h => ?_) (fun h => ?_)
      · refine p_aload_n dX11_cellsOf_56 rfl ?_
        refine p_getr dX11_cellsOf_57 fl_X11_23 (fun _ _ _ => rfl) rfl rfl ?_
        refine p_iload_n dX11_cellsOf_60 rfl ?_
        refine q_iald dX11_cellsOf_61 rfl rfl h (fun h => ?_)
        refine p_iconst dX11_cellsOf_62 ?_
        refine q_icmp_ne (tgt := 79) dX11_cellsOf_63 (by decide) h (fun h => ?_) (fun h => ?_)
        · refine p_iconst dX11_cellsOf_79 ?_
          exact p_weak (leL.same (leL.same (leL.drop (leL.same leL.nil)))) (x_X11_cellsOf_80 hG h)
        · refine p_aload_n dX11_cellsOf_66 rfl ?_
          refine p_getr dX11_cellsOf_67 fl_X11_29 (fun _ _ _ => rfl) rfl rfl ?_
          refine p_iload_n dX11_cellsOf_70 rfl ?_
          refine q_zald dX11_cellsOf_71 rfl rfl h (fun h => ?_)
          refine q_if_ne (tgt := 79) dX11_cellsOf_72 (by decide) h (fun h => ?_) (fun h => ?_)
          · refine p_iconst dX11_cellsOf_79 ?_
            exact p_weak (leL.same (leL.same (leL.drop (leL.same leL.nil)))) (x_X11_cellsOf_80 hG h)
          · refine p_iconst dX11_cellsOf_75 ?_
            refine p_goto (tgt := 80) dX11_cellsOf_76 (by decide) ?_
            exact p_weak (leL.same (leL.same (leL.drop (leL.same leL.nil)))) (x_X11_cellsOf_80 hG h)
      · refine p_aload_n dX11_cellsOf_40 rfl ?_
        refine p_iload_n dX11_cellsOf_41 rfl ?_
        refine cV_Ir [vI s.2] [vI s.1] dX11_cellsOf_42 yv_X11_isLand ml_X11_261 (r := (RX11, TX11, 41)) rfl rfl (Nat.le_of_ble_eq_true rfl) rfl (Nat.le_of_ble_eq_true rfl) (Nat.le_of_ble_eq_true rfl) (Nat.le_of_ble_eq_true rfl) rfl h (fun K h => s_X11_isLand hG h) (fun r42 h => ?_)
        refine q_if_eq (tgt := 52) dX11_cellsOf_45 (by decide) h (fun h => ?_) (fun h => ?_)
        · refine p_iconst dX11_cellsOf_52 ?_
          refine p_goto (tgt := 80) dX11_cellsOf_53 (by decide) ?_
          exact p_weak (leL.same (leL.same (leL.drop (leL.same leL.nil)))) (x_X11_cellsOf_80 hG h)
        · refine p_iconst dX11_cellsOf_48 ?_
          refine p_goto (tgt := 80) dX11_cellsOf_49 (by decide) ?_
          exact p_weak (leL.same (leL.same (leL.drop (leL.same leL.nil)))) (x_X11_cellsOf_80 hG h)
    · refine p_aload_n dX11_cellsOf_18 rfl ?_
      refine p_getr dX11_cellsOf_19 fl_X11_29 (fun _ _ _ => rfl) rfl rfl ?_
      refine p_iload_n dX11_cellsOf_22 rfl ?_
      refine q_zald dX11_cellsOf_23 rfl rfl h (fun h => ?_)
      refine q_if_eq (tgt := 31) dX11_cellsOf_24 (by decide) h (fun h => ?_) (fun h => ?_)
      · refine p_iconst dX11_cellsOf_31 ?_
        refine p_goto (tgt := 80) dX11_cellsOf_32 (by decide) ?_
        exact p_weak (leL.same (leL.same (leL.drop (leL.same leL.nil)))) (x_X11_cellsOf_80 hG h)
      · refine p_iconst dX11_cellsOf_27 ?_
        refine p_goto (tgt := 80) dX11_cellsOf_28 (by decide) ?_
        exact p_weak (leL.same (leL.same (leL.drop (leL.same leL.nil)))) (x_X11_cellsOf_80 hG h)
set_option maxRecDepth 100000 in
set_option maxHeartbeats 4000000 in
theorem x_X11_cellsOf {l : Launch} {g : GH} (hG : G0 l g) {n : Nat} {v1 : Int} {D : DT} {K : Int → Prop} (h : ok (m_X11_cellsOf v1 D) K) : Px (E_X11_cellsOf l g (PIr n D K)) 0 [some (vR g 73), some (vI v1), none, none] [] (LF n) D 0 0 := by
  refine p_iconst dX11_cellsOf_0 ?_
  refine p_istore_n dX11_cellsOf_1 (Nat.le_of_ble_eq_true rfl) rfl ?_
  refine p_iconst dX11_cellsOf_2 ?_
  refine p_istore_n dX11_cellsOf_3 (Nat.le_of_ble_eq_true rfl) rfl ?_
  exact p_weak (leL.same (leL.same (leL.same (leL.same leL.nil)))) (x_X11_cellsOf_4 hG h)
theorem s_X11_cellsOf {l : Launch} {g : GH} (hG : G0 l g) {n : Nat} {v1 : Int} {D : DT} {K : Int → Prop} (h : ok (m_X11_cellsOf v1 D) K) : Sat l g yX11_cellsOf cX11_cellsOf 4 (some .int) 1 0 0 [vR g 73, vI v1] (LF n) D (PIr n D K) := Sat.of hG (by decide) (Nat.le_of_ble_eq_true rfl) (by simp [Value.category]) (x_X11_cellsOf hG h)
abbrev E_X11_count (l : Launch) (g : GH) (P : PT) : ENV := mkE l g yX11_count cX11_count 5 (some .int) [] 2 0 0 P
abbrev P_X11_count_110 (l : Launch) (g : GH) (n : Nat) (K : (Int × DT) → Prop) (D : DT) : (Int × Int) → Prop := fun s => Px (E_X11_count l g (PIw n K)) 110 [some (vR g 73), none, some (vI s.1), some (vI s.2), none] [] (LF n) D 0 0
abbrev P_X11_count_121 (l : Launch) (g : GH) (n : Nat) (K : (Int × DT) → Prop) (v3 : Int) (D : DT) : (Int × Int) → Prop := fun s => Px (E_X11_count l g (PIw n K)) 121 [some (vR g 73), none, some (vI s.1), some (vI v3), some (vI s.2)] [] (LF n) D 0 0
set_option maxRecDepth 100000 in
set_option maxHeartbeats 4000000 in
theorem x_X11_count_121 {l : Launch} {g : GH} (hG : G0 l g) {n : Nat} {v3 : Int} {D : DT} {K : (Int × DT) → Prop} {s : (Int × Int)} (h : ok (m_X11_count_121 v3 D s) (KL (P_X11_count_110 l g n K D) K)) : Px (E_X11_count l g (PIw n K)) 121 [some (vR g 73), none, some (vI s.1), some (vI v3), some (vI s.2)] [] (LF n) D 0 0 := by
  refine ok_loop (P := (P_X11_count_121 l g n K v3 D)) (fun s h => ?_) h
  refine p_iload dX11_count_121 rfl ?_
  refine p_aload_n dX11_count_123 rfl ?_
  refine p_getr dX11_count_124 fl_X11_17 (fun _ _ _ => rfl) rfl rfl ?_
  refine p_iconst dX11_count_127 ?_
  refine q_iald dX11_count_128 rfl rfl h (fun h => ?_)
  refine q_icmp_ge (tgt := 152) dX11_count_129 (by decide) h (fun h => ?_) (fun h => ?_)
  · have h := kl_inr h
    refine p_iinc dX11_count_152 rfl (Nat.le_of_ble_eq_true rfl) rfl ?_
    refine p_goto (tgt := 110) dX11_count_155 (by decide) ?_
    exact p_weak (leL.same (leL.drop (leL.same (leL.same (leL.drop leL.nil))))) (kl_inl (P := (P_X11_count_110 l g n K D)) h)
  · refine p_iload_n dX11_count_132 rfl ?_
    refine p_aload_n dX11_count_133 rfl ?_
    refine p_getr dX11_count_134 fl_X11_36 (fun _ _ _ => rfl) rfl rfl ?_
    refine p_iconst dX11_count_137 ?_
    refine p_iload_n dX11_count_138 rfl ?_
    refine p_imul dX11_count_139 ?_
    refine p_iload dX11_count_140 rfl ?_
    refine p_iadd dX11_count_142 ?_
    refine q_iald dX11_count_143 rfl rfl h (fun h => ?_)
    refine p_iadd dX11_count_144 ?_
    refine p_istore_n dX11_count_145 (Nat.le_of_ble_eq_true rfl) rfl ?_
    refine p_iinc dX11_count_146 rfl (Nat.le_of_ble_eq_true rfl) rfl ?_
    refine p_goto (tgt := 121) dX11_count_149 (by decide) ?_
    exact p_weak (leL.same (leL.drop (leL.same (leL.same (leL.same leL.nil))))) (kl_inl (P := (P_X11_count_121 l g n K v3 D)) h)
set_option maxRecDepth 100000 in
set_option maxHeartbeats 4000000 in
theorem x_X11_count_110 {l : Launch} {g : GH} (hG : G0 l g) {n : Nat} {D : DT} {K : (Int × DT) → Prop} {s : (Int × Int)} (h : ok (m_X11_count_110 D s) K) : Px (E_X11_count l g (PIw n K)) 110 [some (vR g 73), none, some (vI s.1), some (vI s.2), none] [] (LF n) D 0 0 := by
  refine ok_loop (P := (P_X11_count_110 l g n K D)) (fun s h => ?_) h
  refine p_iload_n dX11_count_110 rfl ?_
  refine p_aload_n dX11_count_111 rfl ?_
  refine cV_Ir [] [vI s.2] dX11_count_112 yv_X11_zones ml_X11_222 (r := (RX11, TX11, 41)) rfl rfl (Nat.le_of_ble_eq_true rfl) rfl (Nat.le_of_ble_eq_true rfl) (Nat.le_of_ble_eq_true rfl) (Nat.le_of_ble_eq_true rfl) rfl h (fun K h => s_X11_zones hG h) (fun r112 h => ?_)
  refine q_icmp_ge (tgt := 158) dX11_count_115 (by decide) h (fun h => ?_) (fun h => ?_)
  · have h := kl_inr h
    refine p_iload_n dX11_count_158 rfl ?_
    exact p_ireturn dX11_count_159 (Nat.le_of_ble_eq_true rfl) (Nat.le_of_ble_eq_true rfl) ⟨_, rfl, rfl, ok_some h⟩
  · refine p_iconst dX11_count_118 ?_
    refine p_istore dX11_count_119 (Nat.le_of_ble_eq_true rfl) rfl ?_
    exact p_weak (leL.same (leL.drop (leL.same (leL.same (leL.same leL.nil))))) (x_X11_count_121 hG h)
set_option maxRecDepth 100000 in
set_option maxHeartbeats 4000000 in
theorem x_X11_count {l : Launch} {g : GH} (hG : G0 l g) {n : Nat} {v1 : Int} {D : DT} {K : (Int × DT) → Prop} (h : ok (m_X11_count v1 D) K) : Px (E_X11_count l g (PIw n K)) 0 [some (vR g 73), some (vI v1), none, none, none] [] (LF n) D 0 0 := by
  refine p_aload_n dX11_count_0 rfl ?_
  refine p_iconst dX11_count_1 ?_
  refine q_puti dX11_count_2 fq_X11_106 rfl rfl h (fun D2 h => ?_)
  refine p_iload_n dX11_count_5 rfl ?_
  obtain ⟨hr, h⟩ := ok_gd h
  by_cases e0 : v1 = 0
  · have h := (ok_ite h).1 e0
    refine p_tableIn (tgt := 64) dX11_count_6 hr (by omega) (by omega) (by rw [e0]; try rfl) (by decide) ?_
    refine p_aload_n dX11_count_64 rfl ?_
    refine p_getr dX11_count_65 fl_X11_17 (fun _ _ _ => rfl) rfl rfl ?_
    refine p_iload_n dX11_count_68 rfl ?_
    refine q_iald dX11_count_69 rfl rfl h (fun h => ?_)
    exact p_ireturn dX11_count_70 (Nat.le_of_ble_eq_true rfl) (Nat.le_of_ble_eq_true rfl) ⟨_, rfl, rfl, ok_some h⟩
  have h := (ok_ite h).2 e0
  by_cases e1 : v1 = 1
  · have h := (ok_ite h).1 e1
    refine p_tableIn (tgt := 64) dX11_count_6 hr (by omega) (by omega) (by rw [e1]; try rfl) (by decide) ?_
    refine p_aload_n dX11_count_64 rfl ?_
    refine p_getr dX11_count_65 fl_X11_17 (fun _ _ _ => rfl) rfl rfl ?_
    refine p_iload_n dX11_count_68 rfl ?_
    refine q_iald dX11_count_69 rfl rfl h (fun h => ?_)
    exact p_ireturn dX11_count_70 (Nat.le_of_ble_eq_true rfl) (Nat.le_of_ble_eq_true rfl) ⟨_, rfl, rfl, ok_some h⟩
  have h := (ok_ite h).2 e1
  by_cases e2 : v1 = 2
  · have h := (ok_ite h).1 e2
    refine p_tableIn (tgt := 71) dX11_count_6 hr (by omega) (by omega) (by rw [e2]; try rfl) (by decide) ?_
    refine p_aload_n dX11_count_71 rfl ?_
    refine p_getr dX11_count_72 fl_X11_17 (fun _ _ _ => rfl) rfl rfl ?_
    refine p_iconst dX11_count_75 ?_
    refine q_iald dX11_count_76 rfl rfl h (fun h => ?_)
    exact p_ireturn dX11_count_77 (Nat.le_of_ble_eq_true rfl) (Nat.le_of_ble_eq_true rfl) ⟨_, rfl, rfl, ok_some h⟩
  have h := (ok_ite h).2 e2
  by_cases e3 : v1 = 3
  · have h := (ok_ite h).1 e3
    refine p_tableIn (tgt := 78) dX11_count_6 hr (by omega) (by omega) (by rw [e3]; try rfl) (by decide) ?_
    refine p_aload_n dX11_count_78 rfl ?_
    refine p_getr dX11_count_79 fl_X11_17 (fun _ _ _ => rfl) rfl rfl ?_
    refine p_iconst dX11_count_82 ?_
    refine q_iald dX11_count_83 rfl rfl h (fun h => ?_)
    exact p_ireturn dX11_count_84 (Nat.le_of_ble_eq_true rfl) (Nat.le_of_ble_eq_true rfl) ⟨_, rfl, rfl, ok_some h⟩
  have h := (ok_ite h).2 e3
  by_cases e4 : v1 = 4
  · have h := (ok_ite h).1 e4
    refine p_tableIn (tgt := 85) dX11_count_6 hr (by omega) (by omega) (by rw [e4]; try rfl) (by decide) ?_
    refine p_aload_n dX11_count_85 rfl ?_
    refine p_iload_n dX11_count_86 rfl ?_
    refine cV_Ir [vI v1] [] dX11_count_87 yv_X11_cellsOf ml_X11_373 (r := (RX11, TX11, 41)) rfl rfl (Nat.le_of_ble_eq_true rfl) rfl (Nat.le_of_ble_eq_true rfl) (Nat.le_of_ble_eq_true rfl) (Nat.le_of_ble_eq_true rfl) rfl h (fun K h => s_X11_cellsOf hG h) (fun r87 h => ?_)
    exact p_ireturn dX11_count_90 (Nat.le_of_ble_eq_true rfl) (Nat.le_of_ble_eq_true rfl) ⟨_, rfl, rfl, ok_some h⟩
  have h := (ok_ite h).2 e4
  by_cases e5 : v1 = 5
  · have h := (ok_ite h).1 e5
    refine p_tableIn (tgt := 85) dX11_count_6 hr (by omega) (by omega) (by rw [e5]; try rfl) (by decide) ?_
    refine p_aload_n dX11_count_85 rfl ?_
    refine p_iload_n dX11_count_86 rfl ?_
    refine cV_Ir [vI v1] [] dX11_count_87 yv_X11_cellsOf ml_X11_373 (r := (RX11, TX11, 41)) rfl rfl (Nat.le_of_ble_eq_true rfl) rfl (Nat.le_of_ble_eq_true rfl) (Nat.le_of_ble_eq_true rfl) (Nat.le_of_ble_eq_true rfl) rfl h (fun K h => s_X11_cellsOf hG h) (fun r87 h => ?_)
    exact p_ireturn dX11_count_90 (Nat.le_of_ble_eq_true rfl) (Nat.le_of_ble_eq_true rfl) ⟨_, rfl, rfl, ok_some h⟩
  have h := (ok_ite h).2 e5
  by_cases e6 : v1 = 6
  · have h := (ok_ite h).1 e6
    refine p_tableIn (tgt := 85) dX11_count_6 hr (by omega) (by omega) (by rw [e6]; try rfl) (by decide) ?_
    refine p_aload_n dX11_count_85 rfl ?_
    refine p_iload_n dX11_count_86 rfl ?_
    refine cV_Ir [vI v1] [] dX11_count_87 yv_X11_cellsOf ml_X11_373 (r := (RX11, TX11, 41)) rfl rfl (Nat.le_of_ble_eq_true rfl) rfl (Nat.le_of_ble_eq_true rfl) (Nat.le_of_ble_eq_true rfl) (Nat.le_of_ble_eq_true rfl) rfl h (fun K h => s_X11_cellsOf hG h) (fun r87 h => ?_)
    exact p_ireturn dX11_count_90 (Nat.le_of_ble_eq_true rfl) (Nat.le_of_ble_eq_true rfl) ⟨_, rfl, rfl, ok_some h⟩
  have h := (ok_ite h).2 e6
  by_cases e7 : v1 = 7
  · have h := (ok_ite h).1 e7
    refine p_tableIn (tgt := 91) dX11_count_6 hr (by omega) (by omega) (by rw [e7]; try rfl) (by decide) ?_
    refine p_aload_n dX11_count_91 rfl ?_
    refine p_geti dX11_count_92 fl_X11_48 (fun _ _ _ => rfl) rfl ?_
    exact p_ireturn dX11_count_95 (Nat.le_of_ble_eq_true rfl) (Nat.le_of_ble_eq_true rfl) ⟨_, rfl, rfl, ok_some h⟩
  have h := (ok_ite h).2 e7
  by_cases e8 : v1 = 8
  · have h := (ok_ite h).1 e8
    refine p_tableIn (tgt := 96) dX11_count_6 hr (by omega) (by omega) (by rw [e8]; try rfl) (by decide) ?_
    refine p_aload_n dX11_count_96 rfl ?_
    refine p_geti dX11_count_97 fl_X11_52 (fun _ _ _ => rfl) rfl ?_
    exact p_ireturn dX11_count_100 (Nat.le_of_ble_eq_true rfl) (Nat.le_of_ble_eq_true rfl) ⟨_, rfl, rfl, ok_some h⟩
  have h := (ok_ite h).2 e8
  by_cases e9 : v1 = 9
  · have h := (ok_ite h).1 e9
    refine p_tableIn (tgt := 101) dX11_count_6 hr (by omega) (by omega) (by rw [e9]; try rfl) (by decide) ?_
    refine p_aload_n dX11_count_101 rfl ?_
    refine p_geti dX11_count_102 fl_X11_355 (fun _ _ _ => rfl) rfl ?_
    exact p_ireturn dX11_count_105 (Nat.le_of_ble_eq_true rfl) (Nat.le_of_ble_eq_true rfl) ⟨_, rfl, rfl, ok_some h⟩
  have h := (ok_ite h).2 e9
  by_cases e10 : v1 = 10
  · have h := (ok_ite h).1 e10
    refine p_tableIn (tgt := 106) dX11_count_6 hr (by omega) (by omega) (by rw [e10]; try rfl) (by decide) ?_
    refine p_iconst dX11_count_106 ?_
    refine p_istore_n dX11_count_107 (Nat.le_of_ble_eq_true rfl) rfl ?_
    refine p_iconst dX11_count_108 ?_
    refine p_istore_n dX11_count_109 (Nat.le_of_ble_eq_true rfl) rfl ?_
    exact p_weak (leL.same (leL.drop (leL.same (leL.same (leL.drop leL.nil))))) (x_X11_count_110 hG h)
  have h := (ok_ite h).2 e10
  refine p_tableOut (tgt := 160) dX11_count_6 hr (by omega) (by decide) ?_
  refine p_iconst dX11_count_160 ?_
  exact p_ireturn dX11_count_161 (Nat.le_of_ble_eq_true rfl) (Nat.le_of_ble_eq_true rfl) ⟨_, rfl, rfl, ok_some h⟩
theorem s_X11_count {l : Launch} {g : GH} (hG : G0 l g) {n : Nat} {v1 : Int} {D : DT} {K : (Int × DT) → Prop} (h : ok (m_X11_count v1 D) K) : Sat l g yX11_count cX11_count 5 (some .int) 2 0 0 [vR g 73, vI v1] (LF n) D (PIw n K) := Sat.of hG (by decide) (Nat.le_of_ble_eq_true rfl) (by simp [Value.category]) (x_X11_count hG h)
