abbrev E_X9_nextIs (l : Launch) (g : GH) (P : PT) : ENV := mkE l g yX9_nextIs cX9_nextIs 2 (some .boolean) [] 1 0 0 P
set_option maxRecDepth 100000 in
set_option maxHeartbeats 4000000 in
theorem x_X9_nextIs {l : Launch} {g : GH} (hG : G0 l g) {n : Nat} {v1 : Int} {D : DT} {K : (Int × DT) → Prop} (h : ok (m_X9_nextIs v1 D) K) : Px (E_X9_nextIs l g (PIw n K)) 0 [some (vR g 55), some (vI v1)] [] (LF n) D 0 0 := by
  refine p_aload_n dX9_nextIs_0 rfl ?_
  refine cV_Vw [] [] dX9_nextIs_1 yv_X9_skipBlanks ml_X9_55 (r := (RX9, TX9, 10)) rfl rfl (Nat.le_of_ble_eq_true rfl) rfl (Nat.le_of_ble_eq_true rfl) (Nat.le_of_ble_eq_true rfl) (Nat.le_of_ble_eq_true rfl) rfl h (fun K h => s_X9_skipBlanks hG h) (fun D1 h => ?_)
  refine p_aload_n dX9_nextIs_4 rfl ?_
  refine p_geti dX9_nextIs_5 fl_X9_26 (fun _ _ _ => rfl) rfl ?_
  refine p_aload_n dX9_nextIs_8 rfl ?_
  refine p_geti dX9_nextIs_9 fl_X9_9 (fun _ _ _ => rfl) rfl ?_
  refine q_icmp_ge (tgt := 32) dX9_nextIs_12 (by decide) h (fun h => ?_) (fun h => ?_)
  · refine p_iconst dX9_nextIs_32 ?_
    exact p_zreturn dX9_nextIs_33 (Nat.le_of_ble_eq_true rfl) (Nat.le_of_ble_eq_true rfl) (Or.inl rfl) ⟨_, rfl, rfl, ok_some h⟩
  · refine p_aload_n dX9_nextIs_15 rfl ?_
    refine p_getr dX9_nextIs_16 fl_X9_22 (fun _ _ _ => rfl) rfl rfl ?_
    refine p_aload_n dX9_nextIs_19 rfl ?_
    refine p_geti dX9_nextIs_20 fl_X9_26 (fun _ _ _ => rfl) rfl ?_
    refine q_bald dX9_nextIs_23 rfl rfl h (fun h => ?_)
    refine p_iload_n dX9_nextIs_24 rfl ?_
    refine q_icmp_ne (tgt := 32) dX9_nextIs_25 (by decide) h (fun h => ?_) (fun h => ?_)
    · refine p_iconst dX9_nextIs_32 ?_
      exact p_zreturn dX9_nextIs_33 (Nat.le_of_ble_eq_true rfl) (Nat.le_of_ble_eq_true rfl) (Or.inl rfl) ⟨_, rfl, rfl, ok_some h⟩
    · refine p_iconst dX9_nextIs_28 ?_
      refine p_goto (tgt := 33) dX9_nextIs_29 (by decide) ?_
      exact p_zreturn dX9_nextIs_33 (Nat.le_of_ble_eq_true rfl) (Nat.le_of_ble_eq_true rfl) (Or.inr rfl) ⟨_, rfl, rfl, ok_some h⟩
theorem s_X9_nextIs {l : Launch} {g : GH} (hG : G0 l g) {n : Nat} {v1 : Int} {D : DT} {K : (Int × DT) → Prop} (h : ok (m_X9_nextIs v1 D) K) : Sat l g yX9_nextIs cX9_nextIs 2 (some .boolean) 1 0 0 [vR g 55, vI v1] (LF n) D (PIw n K) := Sat.of hG (by decide) (Nat.le_of_ble_eq_true rfl) (by simp [Value.category]) (x_X9_nextIs hG h)
abbrev E_X9_readSign (l : Launch) (g : GH) (P : PT) : ENV := mkE l g yX9_readSign cX9_readSign 2 (some .boolean) [] 2 0 0 P
set_option maxRecDepth 100000 in
set_option maxHeartbeats 4000000 in
theorem x_X9_readSign {l : Launch} {g : GH} (hG : G0 l g) {n : Nat} {v1 : Int} {D : DT} {K : (Int × DT) → Prop} (h : ok (m_X9_readSign v1 D) K) : Px (E_X9_readSign l g (PIw n K)) 0 [some (vR g 55), some (vI v1)] [] (LF n) D 0 0 := by
  refine p_aload_n dX9_readSign_0 rfl ?_
  refine p_iload_n dX9_readSign_1 rfl ?_
  refine cV_Iw [vI v1] [] dX9_readSign_2 yv_X9_nextIs ml_X9_150 (r := (RX9, TX9, 10)) rfl rfl (Nat.le_of_ble_eq_true rfl) rfl (Nat.le_of_ble_eq_true rfl) (Nat.le_of_ble_eq_true rfl) (Nat.le_of_ble_eq_true rfl) rfl h (fun K h => s_X9_nextIs hG h) (fun r2 D2 h => ?_)
  refine q_if_ne (tgt := 17) dX9_readSign_5 (by decide) h (fun h => ?_) (fun h => ?_)
  · refine p_aload_n dX9_readSign_17 rfl ?_
    refine p_dup dX9_readSign_18 rfl ?_
    refine p_geti dX9_readSign_19 fl_X9_26 (fun _ _ _ => rfl) rfl ?_
    refine p_iconst dX9_readSign_22 ?_
    refine p_iadd dX9_readSign_23 ?_
    refine q_puti dX9_readSign_24 fq_X9_26 rfl rfl h (fun D24 h => ?_)
    refine p_iconst dX9_readSign_27 ?_
    exact p_zreturn dX9_readSign_28 (Nat.le_of_ble_eq_true rfl) (Nat.le_of_ble_eq_true rfl) (Or.inr rfl) ⟨_, rfl, rfl, ok_some h⟩
  · refine p_aload_n dX9_readSign_8 rfl ?_
    refine p_aload_n dX9_readSign_9 rfl ?_
    refine p_geti dX9_readSign_10 fl_X9_26 (fun _ _ _ => rfl) rfl ?_
    refine cV_Iw [vI (D2.1 55 3)] [] dX9_readSign_13 yv_X9_failAt ml_X9_110 (r := (RX9, TX9, 10)) rfl rfl (Nat.le_of_ble_eq_true rfl) rfl (Nat.le_of_ble_eq_true rfl) (Nat.le_of_ble_eq_true rfl) (Nat.le_of_ble_eq_true rfl) rfl h (fun K h => s_X9_failAt hG h) (fun r13 D13 h => ?_)
    obtain ⟨hz, h⟩ := ok_gd h
    exact p_zreturn dX9_readSign_16 (Nat.le_of_ble_eq_true rfl) (Nat.le_of_ble_eq_true rfl) hz ⟨_, rfl, rfl, ok_some h⟩
theorem s_X9_readSign {l : Launch} {g : GH} (hG : G0 l g) {n : Nat} {v1 : Int} {D : DT} {K : (Int × DT) → Prop} (h : ok (m_X9_readSign v1 D) K) : Sat l g yX9_readSign cX9_readSign 2 (some .boolean) 2 0 0 [vR g 55, vI v1] (LF n) D (PIw n K) := Sat.of hG (by decide) (Nat.le_of_ble_eq_true rfl) (by simp [Value.category]) (x_X9_readSign hG h)
abbrev E_X9_readSize (l : Launch) (g : GH) (P : PT) : ENV := mkE l g yX9_readSize cX9_readSize 2 (some .boolean) [] 8 0 0 P
set_option maxRecDepth 100000 in
set_option maxHeartbeats 4000000 in
theorem x_X9_readSize {l : Launch} {g : GH} (hG : G0 l g) {n : Nat} {D : DT} {K : (Int × DT) → Prop} (h : ok (m_X9_readSize D) K) : Px (E_X9_readSize l g (PIw n K)) 0 [some (vR g 55), none] [] (LF n) D 0 0 := by
  refine p_aload_n dX9_readSize_0 rfl ?_
  refine p_ldcS (i := 0) hG dX9_readSize_1 (by decide) rfl rfl ?_
  refine cV_Iw [vS g 0] [] dX9_readSize_3 yv_X9_readKeyword ml_X9_63 (r := (RX9, TX9, 10)) rfl rfl (Nat.le_of_ble_eq_true rfl) rfl (Nat.le_of_ble_eq_true rfl) (Nat.le_of_ble_eq_true rfl) (Nat.le_of_ble_eq_true rfl) rfl h (fun K h => s_X9_readKeyword hG (by decide) h) (fun r3 D3 h => ?_)
  refine q_if_eq (tgt := 19) dX9_readSize_6 (by decide) h (fun h => ?_) (fun h => ?_)
  · refine p_iconst dX9_readSize_19 ?_
    exact p_zreturn dX9_readSize_20 (Nat.le_of_ble_eq_true rfl) (Nat.le_of_ble_eq_true rfl) (Or.inl rfl) ⟨_, rfl, rfl, ok_some h⟩
  · refine p_aload_n dX9_readSize_9 rfl ?_
    refine p_iconst dX9_readSize_10 ?_
    refine p_bipush dX9_readSize_11 (by decide) ?_
    refine cV_Iw [vI 2, vI 24] [] dX9_readSize_13 yv_X9_readNumber ml_X9_67 (r := (RX9, TX9, 10)) rfl rfl (Nat.le_of_ble_eq_true rfl) rfl (Nat.le_of_ble_eq_true rfl) (Nat.le_of_ble_eq_true rfl) (Nat.le_of_ble_eq_true rfl) rfl h (fun K h => s_X9_readNumber hG h) (fun r13 D13 h => ?_)
    refine q_if_ne (tgt := 21) dX9_readSize_16 (by decide) h (fun h => ?_) (fun h => ?_)
    · refine p_aload_n dX9_readSize_21 rfl ?_
      refine p_geti dX9_readSize_22 fl_X9_38 (fun _ _ _ => rfl) rfl ?_
      refine p_istore_n dX9_readSize_25 (Nat.le_of_ble_eq_true rfl) rfl ?_
      refine p_aload_n dX9_readSize_26 rfl ?_
      refine p_iconst dX9_readSize_27 ?_
      refine p_bipush dX9_readSize_28 (by decide) ?_
      refine cV_Iw [vI 2, vI 16] [] dX9_readSize_30 yv_X9_readNumber ml_X9_67 (r := (RX9, TX9, 10)) rfl rfl (Nat.le_of_ble_eq_true rfl) rfl (Nat.le_of_ble_eq_true rfl) (Nat.le_of_ble_eq_true rfl) (Nat.le_of_ble_eq_true rfl) rfl h (fun K h => s_X9_readNumber hG h) (fun r30 D30 h => ?_)
      refine q_if_ne (tgt := 38) dX9_readSize_33 (by decide) h (fun h => ?_) (fun h => ?_)
      · refine p_aload_n dX9_readSize_38 rfl ?_
        refine p_getr dX9_readSize_39 fl_X9_18 (fun _ _ _ => rfl) rfl rfl ?_
        refine p_iload_n dX9_readSize_42 rfl ?_
        refine p_aload_n dX9_readSize_43 rfl ?_
        refine p_geti dX9_readSize_44 fl_X9_38 (fun _ _ _ => rfl) rfl ?_
        refine cV_Vw [vI (D13.1 55 7), vI (D30.1 55 7)] [] dX9_readSize_47 yv_X1_shape ml_X9_71 (r := (RX1, TX1, 11)) rfl rfl (Nat.le_of_ble_eq_true rfl) rfl (Nat.le_of_ble_eq_true rfl) (Nat.le_of_ble_eq_true rfl) (Nat.le_of_ble_eq_true rfl) (wc_X1 wl_X1_56) h (fun K h => s_X1_shape hG wl_X1_56 h) (fun D47 h => ?_)
        refine p_aload_n dX9_readSize_50 rfl ?_
        refine p_bipush dX9_readSize_51 (by decide) ?_
        refine cV_Iw [vI 59] [] dX9_readSize_53 yv_X9_readSign ml_X9_75 (r := (RX9, TX9, 10)) rfl rfl (Nat.le_of_ble_eq_true rfl) rfl (Nat.le_of_ble_eq_true rfl) (Nat.le_of_ble_eq_true rfl) (Nat.le_of_ble_eq_true rfl) rfl h (fun K h => s_X9_readSign hG h) (fun r53 D53 h => ?_)
        obtain ⟨hz, h⟩ := ok_gd h
        exact p_zreturn dX9_readSize_56 (Nat.le_of_ble_eq_true rfl) (Nat.le_of_ble_eq_true rfl) hz ⟨_, rfl, rfl, ok_some h⟩
      · refine p_iconst dX9_readSize_36 ?_
        exact p_zreturn dX9_readSize_37 (Nat.le_of_ble_eq_true rfl) (Nat.le_of_ble_eq_true rfl) (Or.inl rfl) ⟨_, rfl, rfl, ok_some h⟩
    · refine p_iconst dX9_readSize_19 ?_
      exact p_zreturn dX9_readSize_20 (Nat.le_of_ble_eq_true rfl) (Nat.le_of_ble_eq_true rfl) (Or.inl rfl) ⟨_, rfl, rfl, ok_some h⟩
theorem s_X9_readSize {l : Launch} {g : GH} (hG : G0 l g) {n : Nat} {D : DT} {K : (Int × DT) → Prop} (h : ok (m_X9_readSize D) K) : Sat l g yX9_readSize cX9_readSize 2 (some .boolean) 8 0 0 [vR g 55] (LF n) D (PIw n K) := Sat.of hG (by decide) (Nat.le_of_ble_eq_true rfl) (by simp [Value.category]) (x_X9_readSize hG h)
abbrev E_X9_readGroups (l : Launch) (g : GH) (P : PT) : ENV := mkE l g yX9_readGroups cX9_readGroups 1 (some .boolean) [] 3 0 0 P
set_option maxRecDepth 100000 in
set_option maxHeartbeats 4000000 in
theorem x_X9_readGroups {l : Launch} {g : GH} (hG : G0 l g) {n : Nat} {D : DT} {K : (Int × DT) → Prop} (h : ok (m_X9_readGroups D) K) : Px (E_X9_readGroups l g (PIw n K)) 0 [some (vR g 55)] [] (LF n) D 0 0 := by
  refine p_aload_n dX9_readGroups_0 rfl ?_
  refine p_geti dX9_readGroups_1 fl_X9_44 (fun _ _ _ => rfl) rfl ?_
  refine q_if_ne (tgt := 17) dX9_readGroups_4 (by decide) h (fun h => ?_) (fun h => ?_)
  · refine p_aload_n dX9_readGroups_17 rfl ?_
    refine p_aload_n dX9_readGroups_18 rfl ?_
    refine p_geti dX9_readGroups_19 fl_X9_29 (fun _ _ _ => rfl) rfl ?_
    refine cV_Iw [vI (D.1 55 4)] [] dX9_readGroups_22 yv_X9_failAt ml_X9_110 (r := (RX9, TX9, 10)) rfl rfl (Nat.le_of_ble_eq_true rfl) rfl (Nat.le_of_ble_eq_true rfl) (Nat.le_of_ble_eq_true rfl) (Nat.le_of_ble_eq_true rfl) rfl h (fun K h => s_X9_failAt hG h) (fun r22 D22 h => ?_)
    obtain ⟨hz, h⟩ := ok_gd h
    exact p_zreturn dX9_readGroups_25 (Nat.le_of_ble_eq_true rfl) (Nat.le_of_ble_eq_true rfl) hz ⟨_, rfl, rfl, ok_some h⟩
  · refine p_aload_n dX9_readGroups_7 rfl ?_
    refine p_getr dX9_readGroups_8 fl_X9_18 (fun _ _ _ => rfl) rfl rfl ?_
    refine p_geti dX9_readGroups_11 fl_X9_113 (fun _ _ _ => rfl) (wc_X1 wl_X1_56) ?_
    refine q_if_le (tgt := 26) dX9_readGroups_14 (by decide) h (fun h => ?_) (fun h => ?_)
    · refine p_aload_n dX9_readGroups_26 rfl ?_
      refine p_iconst dX9_readGroups_27 ?_
      refine p_iconst dX9_readGroups_28 ?_
      refine cV_Iw [vI 1, vI 3] [] dX9_readGroups_29 yv_X9_readNumber ml_X9_67 (r := (RX9, TX9, 10)) rfl rfl (Nat.le_of_ble_eq_true rfl) rfl (Nat.le_of_ble_eq_true rfl) (Nat.le_of_ble_eq_true rfl) (Nat.le_of_ble_eq_true rfl) rfl h (fun K h => s_X9_readNumber hG h) (fun r29 D29 h => ?_)
      refine q_if_ne (tgt := 37) dX9_readGroups_32 (by decide) h (fun h => ?_) (fun h => ?_)
      · refine p_aload_n dX9_readGroups_37 rfl ?_
        refine p_iconst dX9_readGroups_38 ?_
        refine q_putz0 dX9_readGroups_39 fq_X9_44 rfl (by decide) rfl h (fun D39 h => ?_)
        refine p_aload_n dX9_readGroups_42 rfl ?_
        refine p_getr dX9_readGroups_43 fl_X9_18 (fun _ _ _ => rfl) rfl rfl ?_
        refine p_aload_n dX9_readGroups_46 rfl ?_
        refine p_geti dX9_readGroups_47 fl_X9_38 (fun _ _ _ => rfl) rfl ?_
        refine q_puti dX9_readGroups_50 fq_X9_116 rfl (wc_X1 wl_X1_56) h (fun D50 h => ?_)
        refine p_aload_n dX9_readGroups_53 rfl ?_
        refine p_bipush dX9_readGroups_54 (by decide) ?_
        refine cV_Iw [vI 59] [] dX9_readGroups_56 yv_X9_readSign ml_X9_75 (r := (RX9, TX9, 10)) rfl rfl (Nat.le_of_ble_eq_true rfl) rfl (Nat.le_of_ble_eq_true rfl) (Nat.le_of_ble_eq_true rfl) (Nat.le_of_ble_eq_true rfl) rfl h (fun K h => s_X9_readSign hG h) (fun r56 D56 h => ?_)
        obtain ⟨hz, h⟩ := ok_gd h
        exact p_zreturn dX9_readGroups_59 (Nat.le_of_ble_eq_true rfl) (Nat.le_of_ble_eq_true rfl) hz ⟨_, rfl, rfl, ok_some h⟩
      · refine p_iconst dX9_readGroups_35 ?_
        exact p_zreturn dX9_readGroups_36 (Nat.le_of_ble_eq_true rfl) (Nat.le_of_ble_eq_true rfl) (Or.inl rfl) ⟨_, rfl, rfl, ok_some h⟩
    · refine p_aload_n dX9_readGroups_17 rfl ?_
      refine p_aload_n dX9_readGroups_18 rfl ?_
      refine p_geti dX9_readGroups_19 fl_X9_29 (fun _ _ _ => rfl) rfl ?_
      refine cV_Iw [vI (D.1 55 4)] [] dX9_readGroups_22 yv_X9_failAt ml_X9_110 (r := (RX9, TX9, 10)) rfl rfl (Nat.le_of_ble_eq_true rfl) rfl (Nat.le_of_ble_eq_true rfl) (Nat.le_of_ble_eq_true rfl) (Nat.le_of_ble_eq_true rfl) rfl h (fun K h => s_X9_failAt hG h) (fun r22 D22 h => ?_)
      obtain ⟨hz, h⟩ := ok_gd h
      exact p_zreturn dX9_readGroups_25 (Nat.le_of_ble_eq_true rfl) (Nat.le_of_ble_eq_true rfl) hz ⟨_, rfl, rfl, ok_some h⟩
theorem s_X9_readGroups {l : Launch} {g : GH} (hG : G0 l g) {n : Nat} {D : DT} {K : (Int × DT) → Prop} (h : ok (m_X9_readGroups D) K) : Sat l g yX9_readGroups cX9_readGroups 1 (some .boolean) 3 0 0 [vR g 55] (LF n) D (PIw n K) := Sat.of hG (by decide) (Nat.le_of_ble_eq_true rfl) (by simp [Value.category]) (x_X9_readGroups hG h)
abbrev E_X9_isReserved (l : Launch) (g : GH) (P : PT) : ENV := mkE l g yX9_isReserved cX9_isReserved 1 (some .boolean) [] 7 0 0 P
set_option maxRecDepth 100000 in
set_option maxHeartbeats 4000000 in
theorem x_X9_isReserved_54 {l : Launch} {g : GH} (hG : G0 l g) {n : Nat} {D : DT} {K : Int → Prop} (h : ok (m_X9_isReserved_54 D) K) : Px (E_X9_isReserved l g (PIr n D K)) 54 [none] [] (LF n) D 0 0 := by
  refine p_iconst dX9_isReserved_54 ?_
  refine p_goto (tgt := 59) dX9_isReserved_55 (by decide) ?_
  exact p_zreturn dX9_isReserved_59 (Nat.le_of_ble_eq_true rfl) (Nat.le_of_ble_eq_true rfl) (Or.inr rfl) ⟨_, rfl, rfl, rfl, ok_some h⟩
set_option maxRecDepth 100000 in
set_option maxHeartbeats 4000000 in
theorem x_X9_isReserved {l : Launch} {g : GH} (hG : G0 l g) {n : Nat} {D : DT} {K : Int → Prop} (h : ok (m_X9_isReserved D) K) : Px (E_X9_isReserved l g (PIr n D K)) 0 [some (vR g 55)] [] (LF n) D 0 0 := by
  refine p_aload_n dX9_isReserved_0 rfl ?_
  refine p_ldcS (i := 0) hG dX9_isReserved_1 (by decide) rfl rfl ?_
  refine cV_Ir [vS g 0] [] dX9_isReserved_3 yv_X9_wordIs ml_X9_84 (r := (RX9, TX9, 10)) rfl rfl (Nat.le_of_ble_eq_true rfl) rfl (Nat.le_of_ble_eq_true rfl) (Nat.le_of_ble_eq_true rfl) (Nat.le_of_ble_eq_true rfl) rfl h (fun K h => s_X9_wordIs hG (by decide) h) (fun r3 h => ?_)
  refine q_if_ne (tgt := 54) dX9_isReserved_6 (by decide) h (fun h => ?_) (fun h => ?_)
  · exact p_weak (leL.drop leL.nil) (x_X9_isReserved_54 hG h)
  · refine p_aload_n dX9_isReserved_9 rfl ?_
    refine p_ldcS (i := 1) hG dX9_isReserved_10 (by decide) rfl rfl ?_
    refine cV_Ir [vS g 1] [] dX9_isReserved_12 yv_X9_wordIs ml_X9_84 (r := (RX9, TX9, 10)) rfl rfl (Nat.le_of_ble_eq_true rfl) rfl (Nat.le_of_ble_eq_true rfl) (Nat.le_of_ble_eq_true rfl) (Nat.le_of_ble_eq_true rfl) rfl h (fun K h => s_X9_wordIs hG (by decide) h) (fun r12 h => ?_)
    refine q_if_ne (tgt := 54) dX9_isReserved_15 (by decide) h (fun h => ?_) (fun h => ?_)
    · exact p_weak (leL.drop leL.nil) (x_X9_isReserved_54 hG h)
    · refine p_aload_n dX9_isReserved_18 rfl ?_
      refine p_ldcS (i := 2) hG dX9_isReserved_19 (by decide) rfl rfl ?_
      refine cV_Ir [vS g 2] [] dX9_isReserved_21 yv_X9_wordIs ml_X9_84 (r := (RX9, TX9, 10)) rfl rfl (Nat.le_of_ble_eq_true rfl) rfl (Nat.le_of_ble_eq_true rfl) (Nat.le_of_ble_eq_true rfl) (Nat.le_of_ble_eq_true rfl) rfl h (fun K h => s_X9_wordIs hG (by decide) h) (fun r21 h => ?_)
      refine q_if_ne (tgt := 54) dX9_isReserved_24 (by decide) h (fun h => ?_) (fun h => ?_)
      · exact p_weak (leL.drop leL.nil) (x_X9_isReserved_54 hG h)
      · refine p_aload_n dX9_isReserved_27 rfl ?_
        refine p_ldcS (i := 3) hG dX9_isReserved_28 (by decide) rfl rfl ?_
        refine cV_Ir [vS g 3] [] dX9_isReserved_30 yv_X9_wordIs ml_X9_84 (r := (RX9, TX9, 10)) rfl rfl (Nat.le_of_ble_eq_true rfl) rfl (Nat.le_of_ble_eq_true rfl) (Nat.le_of_ble_eq_true rfl) (Nat.le_of_ble_eq_true rfl) rfl h (fun K h => s_X9_wordIs hG (by decide) h) (fun r30 h => ?_)
        refine q_if_ne (tgt := 54) dX9_isReserved_33 (by decide) h (fun h => ?_) (fun h => ?_)
        · exact p_weak (leL.drop leL.nil) (x_X9_isReserved_54 hG h)
        · refine p_aload_n dX9_isReserved_36 rfl ?_
          refine p_ldcS (i := 4) hG dX9_isReserved_37 (by decide) rfl rfl ?_
          refine cV_Ir [vS g 4] [] dX9_isReserved_39 yv_X9_wordIs ml_X9_84 (r := (RX9, TX9, 10)) rfl rfl (Nat.le_of_ble_eq_true rfl) rfl (Nat.le_of_ble_eq_true rfl) (Nat.le_of_ble_eq_true rfl) (Nat.le_of_ble_eq_true rfl) rfl h (fun K h => s_X9_wordIs hG (by decide) h) (fun r39 h => ?_)
          refine q_if_ne (tgt := 54) dX9_isReserved_42 (by decide) h (fun h => ?_) (fun h => ?_)
          · exact p_weak (leL.drop leL.nil) (x_X9_isReserved_54 hG h)
          · refine p_aload_n dX9_isReserved_45 rfl ?_
            refine p_ldcS (i := 5) hG dX9_isReserved_46 (by decide) rfl rfl ?_
            refine cV_Ir [vS g 5] [] dX9_isReserved_48 yv_X9_wordIs ml_X9_84 (r := (RX9, TX9, 10)) rfl rfl (Nat.le_of_ble_eq_true rfl) rfl (Nat.le_of_ble_eq_true rfl) (Nat.le_of_ble_eq_true rfl) (Nat.le_of_ble_eq_true rfl) rfl h (fun K h => s_X9_wordIs hG (by decide) h) (fun r48 h => ?_)
            refine q_if_eq (tgt := 58) dX9_isReserved_51 (by decide) h (fun h => ?_) (fun h => ?_)
            · refine p_iconst dX9_isReserved_58 ?_
              exact p_zreturn dX9_isReserved_59 (Nat.le_of_ble_eq_true rfl) (Nat.le_of_ble_eq_true rfl) (Or.inl rfl) ⟨_, rfl, rfl, rfl, ok_some h⟩
            · exact p_weak (leL.drop leL.nil) (x_X9_isReserved_54 hG h)
theorem s_X9_isReserved {l : Launch} {g : GH} (hG : G0 l g) {n : Nat} {D : DT} {K : Int → Prop} (h : ok (m_X9_isReserved D) K) : Sat l g yX9_isReserved cX9_isReserved 1 (some .boolean) 7 0 0 [vR g 55] (LF n) D (PIr n D K) := Sat.of hG (by decide) (Nat.le_of_ble_eq_true rfl) (by simp [Value.category]) (x_X9_isReserved hG h)
abbrev E_X9_wordIsNameOf (l : Launch) (g : GH) (P : PT) : ENV := mkE l g yX9_wordIsNameOf cX9_wordIsNameOf 3 (some .boolean) [] 0 0 0 P
abbrev P_X9_wordIsNameOf_20 (l : Launch) (g : GH) (n : Nat) (K : Int → Prop) (v1 : Int) (D : DT) : Int → Prop := fun s => Px (E_X9_wordIsNameOf l g (PIr n D K)) 20 [some (vR g 55), some (vI v1), some (vI s)] [] (LF n) D 0 0
set_option maxRecDepth 100000 in
set_option maxHeartbeats 4000000 in
theorem x_X9_wordIsNameOf_20 {l : Launch} {g : GH} (hG : G0 l g) {n : Nat} {v1 : Int} {D : DT} {K : Int → Prop} {s : Int} (h : ok (m_X9_wordIsNameOf_20 v1 D s) K) : Px (E_X9_wordIsNameOf l g (PIr n D K)) 20 [some (vR g 55), some (vI v1), some (vI s)] [] (LF n) D 0 0 := by
  refine ok_loop (P := (P_X9_wordIsNameOf_20 l g n K v1 D)) (fun s h => ?_) h
  refine p_iload_n dX9_wordIsNameOf_20 rfl ?_
  refine p_aload_n dX9_wordIsNameOf_21 rfl ?_
  refine p_geti dX9_wordIsNameOf_22 fl_X9_32 (fun _ _ _ => rfl) rfl ?_
  refine q_icmp_ge (tgt := 64) dX9_wordIsNameOf_25 (by decide) h (fun h => ?_) (fun h => ?_)
  · have h := kl_inr h
    refine p_iconst dX9_wordIsNameOf_64 ?_
    exact p_zreturn dX9_wordIsNameOf_65 (Nat.le_of_ble_eq_true rfl) (Nat.le_of_ble_eq_true rfl) (Or.inr rfl) ⟨_, rfl, rfl, rfl, ok_some h⟩
  · refine p_aload_n dX9_wordIsNameOf_28 rfl ?_
    refine p_getr dX9_wordIsNameOf_29 fl_X9_18 (fun _ _ _ => rfl) rfl rfl ?_
    refine p_getr dX9_wordIsNameOf_32 fl_X9_121 (fun _ _ _ => rfl) (wc_X1 wl_X1_56) (wf_X1_9 wl_X1_56) ?_
    refine p_iload_n dX9_wordIsNameOf_35 rfl ?_
    refine p_bipush dX9_wordIsNameOf_36 (by decide) ?_
    refine p_imul dX9_wordIsNameOf_38 ?_
    refine p_iload_n dX9_wordIsNameOf_39 rfl ?_
    refine p_iadd dX9_wordIsNameOf_40 ?_
    refine q_bald dX9_wordIsNameOf_41 (wa_X1_9 wl_X1_56) rfl h (fun h => ?_)
    refine p_aload_n dX9_wordIsNameOf_42 rfl ?_
    refine p_getr dX9_wordIsNameOf_43 fl_X9_22 (fun _ _ _ => rfl) rfl rfl ?_
    refine p_aload_n dX9_wordIsNameOf_46 rfl ?_
    refine p_geti dX9_wordIsNameOf_47 fl_X9_29 (fun _ _ _ => rfl) rfl ?_
    refine p_iload_n dX9_wordIsNameOf_50 rfl ?_
    refine p_iadd dX9_wordIsNameOf_51 ?_
    refine q_bald dX9_wordIsNameOf_52 rfl rfl h (fun h => ?_)
    refine q_icmp_eq (tgt := 58) dX9_wordIsNameOf_53 (by decide) h (fun h => ?_) (fun h => ?_)
    · refine p_iinc dX9_wordIsNameOf_58 rfl (Nat.le_of_ble_eq_true rfl) rfl ?_
      refine p_goto (tgt := 20) dX9_wordIsNameOf_61 (by decide) ?_
      exact p_weak (leL.same (leL.same (leL.same leL.nil))) (kl_inl (P := (P_X9_wordIsNameOf_20 l g n K v1 D)) h)
    · have h := kl_inr h
      refine p_iconst dX9_wordIsNameOf_56 ?_
      exact p_zreturn dX9_wordIsNameOf_57 (Nat.le_of_ble_eq_true rfl) (Nat.le_of_ble_eq_true rfl) (Or.inl rfl) ⟨_, rfl, rfl, rfl, ok_some h⟩
set_option maxRecDepth 100000 in
set_option maxHeartbeats 4000000 in
theorem x_X9_wordIsNameOf {l : Launch} {g : GH} (hG : G0 l g) {n : Nat} {v1 : Int} {D : DT} {K : Int → Prop} (h : ok (m_X9_wordIsNameOf v1 D) K) : Px (E_X9_wordIsNameOf l g (PIr n D K)) 0 [some (vR g 55), some (vI v1), none] [] (LF n) D 0 0 := by
  refine p_aload_n dX9_wordIsNameOf_0 rfl ?_
  refine p_getr dX9_wordIsNameOf_1 fl_X9_18 (fun _ _ _ => rfl) rfl rfl ?_
  refine p_getr dX9_wordIsNameOf_4 fl_X9_130 (fun _ _ _ => rfl) (wc_X1 wl_X1_56) (wf_X1_10 wl_X1_56) ?_
  refine p_iload_n dX9_wordIsNameOf_7 rfl ?_
  refine q_iald dX9_wordIsNameOf_8 (wa_X1_10 wl_X1_56) rfl h (fun h => ?_)
  refine p_aload_n dX9_wordIsNameOf_9 rfl ?_
  refine p_geti dX9_wordIsNameOf_10 fl_X9_32 (fun _ _ _ => rfl) rfl ?_
  refine q_icmp_eq (tgt := 18) dX9_wordIsNameOf_13 (by decide) h (fun h => ?_) (fun h => ?_)
  · refine p_iconst dX9_wordIsNameOf_18 ?_
    refine p_istore_n dX9_wordIsNameOf_19 (Nat.le_of_ble_eq_true rfl) rfl ?_
    exact p_weak (leL.same (leL.same (leL.same leL.nil))) (x_X9_wordIsNameOf_20 hG h)
  · refine p_iconst dX9_wordIsNameOf_16 ?_
    exact p_zreturn dX9_wordIsNameOf_17 (Nat.le_of_ble_eq_true rfl) (Nat.le_of_ble_eq_true rfl) (Or.inl rfl) ⟨_, rfl, rfl, rfl, ok_some h⟩
theorem s_X9_wordIsNameOf {l : Launch} {g : GH} (hG : G0 l g) {n : Nat} {v1 : Int} {D : DT} {K : Int → Prop} (h : ok (m_X9_wordIsNameOf v1 D) K) : Sat l g yX9_wordIsNameOf cX9_wordIsNameOf 3 (some .boolean) 0 0 0 [vR g 55, vI v1] (LF n) D (PIr n D K) := Sat.of hG (by decide) (Nat.le_of_ble_eq_true rfl) (by simp [Value.category]) (x_X9_wordIsNameOf hG h)
abbrev E_X9_zoneNamed (l : Launch) (g : GH) (P : PT) : ENV := mkE l g yX9_zoneNamed cX9_zoneNamed 2 (some .int) [] 1 0 0 P
abbrev P_X9_zoneNamed_2 (l : Launch) (g : GH) (n : Nat) (K : Int → Prop) (D : DT) : Int → Prop := fun s => Px (E_X9_zoneNamed l g (PIr n D K)) 2 [some (vR g 55), some (vI s)] [] (LF n) D 0 0
set_option maxRecDepth 100000 in
set_option maxHeartbeats 4000000 in
theorem x_X9_zoneNamed_2 {l : Launch} {g : GH} (hG : G0 l g) {n : Nat} {D : DT} {K : Int → Prop} {s : Int} (h : ok (m_X9_zoneNamed_2 D s) K) : Px (E_X9_zoneNamed l g (PIr n D K)) 2 [some (vR g 55), some (vI s)] [] (LF n) D 0 0 := by
  refine ok_loop (P := (P_X9_zoneNamed_2 l g n K D)) (fun s h => ?_) h
  refine p_iload_n dX9_zoneNamed_2 rfl ?_
  refine p_aload_n dX9_zoneNamed_3 rfl ?_
  refine p_getr dX9_zoneNamed_4 fl_X9_18 (fun _ _ _ => rfl) rfl rfl ?_
  refine p_geti dX9_zoneNamed_7 fl_X9_113 (fun _ _ _ => rfl) (wc_X1 wl_X1_56) ?_
  refine q_icmp_ge (tgt := 29) dX9_zoneNamed_10 (by decide) h (fun h => ?_) (fun h => ?_)
  · have h := kl_inr h
    refine p_iconst dX9_zoneNamed_29 ?_
    exact p_ireturn dX9_zoneNamed_30 (Nat.le_of_ble_eq_true rfl) (Nat.le_of_ble_eq_true rfl) ⟨_, rfl, rfl, rfl, ok_some h⟩
  · refine p_aload_n dX9_zoneNamed_13 rfl ?_
    refine p_iload_n dX9_zoneNamed_14 rfl ?_
    refine cV_Ir [vI s] [] dX9_zoneNamed_15 yv_X9_wordIsNameOf ml_X9_168 (r := (RX9, TX9, 10)) rfl rfl (Nat.le_of_ble_eq_true rfl) rfl (Nat.le_of_ble_eq_true rfl) (Nat.le_of_ble_eq_true rfl) (Nat.le_of_ble_eq_true rfl) rfl h (fun K h => s_X9_wordIsNameOf hG h) (fun r15 h => ?_)
    refine q_if_eq (tgt := 23) dX9_zoneNamed_18 (by decide) h (fun h => ?_) (fun h => ?_)
    · refine p_iinc dX9_zoneNamed_23 rfl (Nat.le_of_ble_eq_true rfl) rfl ?_
      refine p_goto (tgt := 2) dX9_zoneNamed_26 (by decide) ?_
      exact p_weak (leL.same (leL.same leL.nil)) (kl_inl (P := (P_X9_zoneNamed_2 l g n K D)) h)
    · have h := kl_inr h
      refine p_iload_n dX9_zoneNamed_21 rfl ?_
      exact p_ireturn dX9_zoneNamed_22 (Nat.le_of_ble_eq_true rfl) (Nat.le_of_ble_eq_true rfl) ⟨_, rfl, rfl, rfl, ok_some h⟩
set_option maxRecDepth 100000 in
set_option maxHeartbeats 4000000 in
theorem x_X9_zoneNamed {l : Launch} {g : GH} (hG : G0 l g) {n : Nat} {D : DT} {K : Int → Prop} (h : ok (m_X9_zoneNamed D) K) : Px (E_X9_zoneNamed l g (PIr n D K)) 0 [some (vR g 55), none] [] (LF n) D 0 0 := by
  refine p_iconst dX9_zoneNamed_0 ?_
  refine p_istore_n dX9_zoneNamed_1 (Nat.le_of_ble_eq_true rfl) rfl ?_
  exact p_weak (leL.same (leL.same leL.nil)) (x_X9_zoneNamed_2 hG h)
theorem s_X9_zoneNamed {l : Launch} {g : GH} (hG : G0 l g) {n : Nat} {D : DT} {K : Int → Prop} (h : ok (m_X9_zoneNamed D) K) : Sat l g yX9_zoneNamed cX9_zoneNamed 2 (some .int) 1 0 0 [vR g 55] (LF n) D (PIr n D K) := Sat.of hG (by decide) (Nat.le_of_ble_eq_true rfl) (by simp [Value.category]) (x_X9_zoneNamed hG h)
abbrev E_X9_readPeople (l : Launch) (g : GH) (P : PT) : ENV := mkE l g yX9_readPeople cX9_readPeople 3 (some .boolean) [] 3 0 0 P
abbrev P_X9_readPeople_2 (l : Launch) (g : GH) (n : Nat) (K : (Int × DT) → Prop) (v1 : Int) : (Int × DT) → Prop := fun s => Px (E_X9_readPeople l g (PIw n K)) 2 [some (vR g 55), some (vI v1), some (vI s.1)] [] (LF n) s.2 0 0
set_option maxRecDepth 100000 in
set_option maxHeartbeats 4000000 in
theorem x_X9_readPeople_28 {l : Launch} {g : GH} (hG : G0 l g) {n : Nat} {v1 v2 : Int} {D : DT} {K : (Int × DT) → Prop} (h : ok (m_X9_readPeople_28 v1 v2 D) (KL (P_X9_readPeople_2 l g n K v1) K)) : Px (E_X9_readPeople l g (PIw n K)) 28 [some (vR g 55), some (vI v1), some (vI v2)] [] (LF n) D 0 0 := by
  refine p_aload_n dX9_readPeople_28 rfl ?_
  refine p_iconst dX9_readPeople_29 ?_
  refine p_ldc (v := 99999) dX9_readPeople_30 cw_X9_139 ?_
  refine cV_Iw [vI 0, vI 99999] [] dX9_readPeople_32 yv_X9_readNumber ml_X9_67 (r := (RX9, TX9, 10)) rfl rfl (Nat.le_of_ble_eq_true rfl) rfl (Nat.le_of_ble_eq_true rfl) (Nat.le_of_ble_eq_true rfl) (Nat.le_of_ble_eq_true rfl) rfl h (fun K h => s_X9_readNumber hG h) (fun r32 D32 h => ?_)
  refine q_if_ne (tgt := 40) dX9_readPeople_35 (by decide) h (fun h => ?_) (fun h => ?_)
  · refine p_aload_n dX9_readPeople_40 rfl ?_
    refine p_getr dX9_readPeople_41 fl_X9_18 (fun _ _ _ => rfl) rfl rfl ?_
    refine p_iload_n dX9_readPeople_44 rfl ?_
    refine p_iload_n dX9_readPeople_45 rfl ?_
    refine p_aload_n dX9_readPeople_46 rfl ?_
    refine p_geti dX9_readPeople_47 fl_X9_38 (fun _ _ _ => rfl) rfl ?_
    refine cV_Vw [vI v1, vI v2, vI (D32.1 55 7)] [] dX9_readPeople_50 yv_X1_settle ml_X9_140 (r := (RX1, TX1, 11)) rfl rfl (Nat.le_of_ble_eq_true rfl) rfl (Nat.le_of_ble_eq_true rfl) (Nat.le_of_ble_eq_true rfl) (Nat.le_of_ble_eq_true rfl) (wc_X1 wl_X1_56) h (fun K h => s_X1_settle hG wl_X1_56 h) (fun D50 h => ?_)
    refine p_iinc dX9_readPeople_53 rfl (Nat.le_of_ble_eq_true rfl) rfl ?_
    refine p_goto (tgt := 2) dX9_readPeople_56 (by decide) ?_
    exact p_weak (leL.same (leL.same (leL.same leL.nil))) (kl_inl (P := (P_X9_readPeople_2 l g n K v1)) h)
  · have h := kl_inr h
    refine p_iconst dX9_readPeople_38 ?_
    exact p_zreturn dX9_readPeople_39 (Nat.le_of_ble_eq_true rfl) (Nat.le_of_ble_eq_true rfl) (Or.inl rfl) ⟨_, rfl, rfl, ok_some h⟩
set_option maxRecDepth 100000 in
set_option maxHeartbeats 4000000 in
theorem x_X9_readPeople_2 {l : Launch} {g : GH} (hG : G0 l g) {n : Nat} {v1 : Int} {K : (Int × DT) → Prop} {s : (Int × DT)} (h : ok (m_X9_readPeople_2 v1 s) K) : Px (E_X9_readPeople l g (PIw n K)) 2 [some (vR g 55), some (vI v1), some (vI s.1)] [] (LF n) s.2 0 0 := by
  refine ok_loop (P := (P_X9_readPeople_2 l g n K v1)) (fun s h => ?_) h
  refine p_iload_n dX9_readPeople_2 rfl ?_
  refine p_aload_n dX9_readPeople_3 rfl ?_
  refine p_getr dX9_readPeople_4 fl_X9_18 (fun _ _ _ => rfl) rfl rfl ?_
  refine p_geti dX9_readPeople_7 fl_X9_116 (fun _ _ _ => rfl) (wc_X1 wl_X1_56) ?_
  refine q_icmp_ge (tgt := 59) dX9_readPeople_10 (by decide) h (fun h => ?_) (fun h => ?_)
  · have h := kl_inr h
    refine p_iconst dX9_readPeople_59 ?_
    exact p_zreturn dX9_readPeople_60 (Nat.le_of_ble_eq_true rfl) (Nat.le_of_ble_eq_true rfl) (Or.inr rfl) ⟨_, rfl, rfl, ok_some h⟩
  · refine p_iload_n dX9_readPeople_13 rfl ?_
    refine q_if_le (tgt := 28) dX9_readPeople_14 (by decide) h (fun h => ?_) (fun h => ?_)
    · exact p_weak (leL.same (leL.same (leL.same leL.nil))) (x_X9_readPeople_28 hG h)
    · refine p_aload_n dX9_readPeople_17 rfl ?_
      refine p_bipush dX9_readPeople_18 (by decide) ?_
      refine cV_Iw [vI 44] [] dX9_readPeople_20 yv_X9_readSign ml_X9_75 (r := (RX9, TX9, 10)) rfl rfl (Nat.le_of_ble_eq_true rfl) rfl (Nat.le_of_ble_eq_true rfl) (Nat.le_of_ble_eq_true rfl) (Nat.le_of_ble_eq_true rfl) rfl h (fun K h => s_X9_readSign hG h) (fun r20 D20 h => ?_)
      refine q_if_ne (tgt := 28) dX9_readPeople_23 (by decide) h (fun h => ?_) (fun h => ?_)
      · exact p_weak (leL.same (leL.same (leL.same leL.nil))) (x_X9_readPeople_28 hG h)
      · have h := kl_inr h
        refine p_iconst dX9_readPeople_26 ?_
        exact p_zreturn dX9_readPeople_27 (Nat.le_of_ble_eq_true rfl) (Nat.le_of_ble_eq_true rfl) (Or.inl rfl) ⟨_, rfl, rfl, ok_some h⟩
set_option maxRecDepth 100000 in
set_option maxHeartbeats 4000000 in
theorem x_X9_readPeople {l : Launch} {g : GH} (hG : G0 l g) {n : Nat} {v1 : Int} {D : DT} {K : (Int × DT) → Prop} (h : ok (m_X9_readPeople v1 D) K) : Px (E_X9_readPeople l g (PIw n K)) 0 [some (vR g 55), some (vI v1), none] [] (LF n) D 0 0 := by
  refine p_iconst dX9_readPeople_0 ?_
  refine p_istore_n dX9_readPeople_1 (Nat.le_of_ble_eq_true rfl) rfl ?_
  exact p_weak (leL.same (leL.same (leL.same leL.nil))) (x_X9_readPeople_2 hG h)
theorem s_X9_readPeople {l : Launch} {g : GH} (hG : G0 l g) {n : Nat} {v1 : Int} {D : DT} {K : (Int × DT) → Prop} (h : ok (m_X9_readPeople v1 D) K) : Sat l g yX9_readPeople cX9_readPeople 3 (some .boolean) 3 0 0 [vR g 55, vI v1] (LF n) D (PIw n K) := Sat.of hG (by decide) (Nat.le_of_ble_eq_true rfl) (by simp [Value.category]) (x_X9_readPeople hG h)
abbrev E_X9_readZone (l : Launch) (g : GH) (P : PT) : ENV := mkE l g yX9_readZone cX9_readZone 2 (some .boolean) [] 8 0 0 P
set_option maxRecDepth 100000 in
set_option maxHeartbeats 4000000 in
theorem x_X9_readZone {l : Launch} {g : GH} (hG : G0 l g) {n : Nat} {D : DT} {K : (Int × DT) → Prop} (h : ok (m_X9_readZone D) K) : Px (E_X9_readZone l g (PIw n K)) 0 [some (vR g 55), none] [] (LF n) D 0 0 := by
  refine p_aload_n dX9_readZone_0 rfl ?_
  refine p_getr dX9_readZone_1 fl_X9_18 (fun _ _ _ => rfl) rfl rfl ?_
  refine p_geti dX9_readZone_4 fl_X9_113 (fun _ _ _ => rfl) (wc_X1 wl_X1_56) ?_
  refine p_bipush dX9_readZone_7 (by decide) ?_
  refine q_icmp_lt (tgt := 21) dX9_readZone_9 (by decide) h (fun h => ?_) (fun h => ?_)
  · refine p_aload_n dX9_readZone_21 rfl ?_
    refine cV_Iw [] [] dX9_readZone_22 yv_X9_readWord ml_X9_79 (r := (RX9, TX9, 10)) rfl rfl (Nat.le_of_ble_eq_true rfl) rfl (Nat.le_of_ble_eq_true rfl) (Nat.le_of_ble_eq_true rfl) (Nat.le_of_ble_eq_true rfl) rfl h (fun K h => s_X9_readWord hG h) (fun r22 D22 h => ?_)
    refine q_if_ne (tgt := 30) dX9_readZone_25 (by decide) h (fun h => ?_) (fun h => ?_)
    · refine p_aload_n dX9_readZone_30 rfl ?_
      refine p_geti dX9_readZone_31 fl_X9_32 (fun _ _ _ => rfl) rfl ?_
      refine p_bipush dX9_readZone_34 (by decide) ?_
      refine q_icmp_gt (tgt := 54) dX9_readZone_36 (by decide) h (fun h => ?_) (fun h => ?_)
      · refine p_aload_n dX9_readZone_54 rfl ?_
        refine p_aload_n dX9_readZone_55 rfl ?_
        refine p_geti dX9_readZone_56 fl_X9_29 (fun _ _ _ => rfl) rfl ?_
        refine cV_Iw [vI (D22.1 55 4)] [] dX9_readZone_59 yv_X9_failAt ml_X9_110 (r := (RX9, TX9, 10)) rfl rfl (Nat.le_of_ble_eq_true rfl) rfl (Nat.le_of_ble_eq_true rfl) (Nat.le_of_ble_eq_true rfl) (Nat.le_of_ble_eq_true rfl) rfl h (fun K h => s_X9_failAt hG h) (fun r59 D59 h => ?_)
        obtain ⟨hz, h⟩ := ok_gd h
        exact p_zreturn dX9_readZone_62 (Nat.le_of_ble_eq_true rfl) (Nat.le_of_ble_eq_true rfl) hz ⟨_, rfl, rfl, ok_some h⟩
      · refine p_aload_n dX9_readZone_39 rfl ?_
        refine cV_Ir [] [] dX9_readZone_40 yv_X9_isReserved ml_X9_118 (r := (RX9, TX9, 10)) rfl rfl (Nat.le_of_ble_eq_true rfl) rfl (Nat.le_of_ble_eq_true rfl) (Nat.le_of_ble_eq_true rfl) (Nat.le_of_ble_eq_true rfl) rfl h (fun K h => s_X9_isReserved hG h) (fun r40 h => ?_)
        refine q_if_ne (tgt := 54) dX9_readZone_43 (by decide) h (fun h => ?_) (fun h => ?_)
        · refine p_aload_n dX9_readZone_54 rfl ?_
          refine p_aload_n dX9_readZone_55 rfl ?_
          refine p_geti dX9_readZone_56 fl_X9_29 (fun _ _ _ => rfl) rfl ?_
          refine cV_Iw [vI (D22.1 55 4)] [] dX9_readZone_59 yv_X9_failAt ml_X9_110 (r := (RX9, TX9, 10)) rfl rfl (Nat.le_of_ble_eq_true rfl) rfl (Nat.le_of_ble_eq_true rfl) (Nat.le_of_ble_eq_true rfl) (Nat.le_of_ble_eq_true rfl) rfl h (fun K h => s_X9_failAt hG h) (fun r59 D59 h => ?_)
          obtain ⟨hz, h⟩ := ok_gd h
          exact p_zreturn dX9_readZone_62 (Nat.le_of_ble_eq_true rfl) (Nat.le_of_ble_eq_true rfl) hz ⟨_, rfl, rfl, ok_some h⟩
        · refine p_aload_n dX9_readZone_46 rfl ?_
          refine cV_Ir [] [] dX9_readZone_47 yv_X9_zoneNamed ml_X9_100 (r := (RX9, TX9, 10)) rfl rfl (Nat.le_of_ble_eq_true rfl) rfl (Nat.le_of_ble_eq_true rfl) (Nat.le_of_ble_eq_true rfl) (Nat.le_of_ble_eq_true rfl) rfl h (fun K h => s_X9_zoneNamed hG h) (fun r47 h => ?_)
          refine p_iconst dX9_readZone_50 ?_
          refine q_icmp_eq (tgt := 63) dX9_readZone_51 (by decide) h (fun h => ?_) (fun h => ?_)
          · refine p_aload_n dX9_readZone_63 rfl ?_
            refine p_getr dX9_readZone_64 fl_X9_18 (fun _ _ _ => rfl) rfl rfl ?_
            refine p_geti dX9_readZone_67 fl_X9_113 (fun _ _ _ => rfl) (wc_X1 wl_X1_56) ?_
            refine p_istore_n dX9_readZone_70 (Nat.le_of_ble_eq_true rfl) rfl ?_
            refine p_aload_n dX9_readZone_71 rfl ?_
            refine p_getr dX9_readZone_72 fl_X9_22 (fun _ _ _ => rfl) rfl rfl ?_
            refine p_aload_n dX9_readZone_75 rfl ?_
            refine p_geti dX9_readZone_76 fl_X9_29 (fun _ _ _ => rfl) rfl ?_
            refine p_aload_n dX9_readZone_79 rfl ?_
            refine p_getr dX9_readZone_80 fl_X9_18 (fun _ _ _ => rfl) rfl rfl ?_
            refine p_getr dX9_readZone_83 fl_X9_121 (fun _ _ _ => rfl) (wc_X1 wl_X1_56) (wf_X1_9 wl_X1_56) ?_
            refine p_iload_n dX9_readZone_86 rfl ?_
            refine p_bipush dX9_readZone_87 (by decide) ?_
            refine p_imul dX9_readZone_89 ?_
            refine p_aload_n dX9_readZone_90 rfl ?_
            refine p_geti dX9_readZone_91 fl_X9_32 (fun _ _ _ => rfl) rfl ?_
            refine q_copyb [] dX9_readZone_94 rfl (wa_X1_9 wl_X1_56) ml_X9_124 acw (Nat.le_of_ble_eq_true rfl) (Nat.le_of_ble_eq_true rfl) rfl rfl h (fun D94 h => ?_)
            refine p_aload_n dX9_readZone_97 rfl ?_
            refine p_getr dX9_readZone_98 fl_X9_18 (fun _ _ _ => rfl) rfl rfl ?_
            refine p_getr dX9_readZone_101 fl_X9_130 (fun _ _ _ => rfl) (wc_X1 wl_X1_56) (wf_X1_10 wl_X1_56) ?_
            refine p_iload_n dX9_readZone_104 rfl ?_
            refine p_aload_n dX9_readZone_105 rfl ?_
            refine p_geti dX9_readZone_106 fl_X9_32 (fun _ _ _ => rfl) rfl ?_
            refine q_iast dX9_readZone_109 (wa_X1_10 wl_X1_56) rfl h (fun D109 h => ?_)
            refine p_aload_n dX9_readZone_110 rfl ?_
            refine p_ldcS (i := 3) hG dX9_readZone_111 (by decide) rfl rfl ?_
            refine cV_Iw [vS g 3] [] dX9_readZone_113 yv_X9_readKeyword ml_X9_63 (r := (RX9, TX9, 10)) rfl rfl (Nat.le_of_ble_eq_true rfl) rfl (Nat.le_of_ble_eq_true rfl) (Nat.le_of_ble_eq_true rfl) (Nat.le_of_ble_eq_true rfl) rfl h (fun K h => s_X9_readKeyword hG (by decide) h) (fun r113 D113 h => ?_)
            refine q_if_eq (tgt := 136) dX9_readZone_116 (by decide) h (fun h => ?_) (fun h => ?_)
            · refine p_iconst dX9_readZone_136 ?_
              exact p_zreturn dX9_readZone_137 (Nat.le_of_ble_eq_true rfl) (Nat.le_of_ble_eq_true rfl) (Or.inl rfl) ⟨_, rfl, rfl, ok_some h⟩
            · refine p_aload_n dX9_readZone_119 rfl ?_
              refine p_iload_n dX9_readZone_120 rfl ?_
              refine cV_Iw [vI (D22.1 56 2)] [] dX9_readZone_121 yv_X9_readPeople ml_X9_136 (r := (RX9, TX9, 10)) rfl rfl (Nat.le_of_ble_eq_true rfl) rfl (Nat.le_of_ble_eq_true rfl) (Nat.le_of_ble_eq_true rfl) (Nat.le_of_ble_eq_true rfl) rfl h (fun K h => s_X9_readPeople hG h) (fun r121 D121 h => ?_)
              refine q_if_eq (tgt := 136) dX9_readZone_124 (by decide) h (fun h => ?_) (fun h => ?_)
              · refine p_iconst dX9_readZone_136 ?_
                exact p_zreturn dX9_readZone_137 (Nat.le_of_ble_eq_true rfl) (Nat.le_of_ble_eq_true rfl) (Or.inl rfl) ⟨_, rfl, rfl, ok_some h⟩
              · refine p_aload_n dX9_readZone_127 rfl ?_
                refine p_bipush dX9_readZone_128 (by decide) ?_
                refine cV_Iw [vI 59] [] dX9_readZone_130 yv_X9_readSign ml_X9_75 (r := (RX9, TX9, 10)) rfl rfl (Nat.le_of_ble_eq_true rfl) rfl (Nat.le_of_ble_eq_true rfl) (Nat.le_of_ble_eq_true rfl) (Nat.le_of_ble_eq_true rfl) rfl h (fun K h => s_X9_readSign hG h) (fun r130 D130 h => ?_)
                refine q_if_ne (tgt := 138) dX9_readZone_133 (by decide) h (fun h => ?_) (fun h => ?_)
                · refine p_aload_n dX9_readZone_138 rfl ?_
                  refine p_getr dX9_readZone_139 fl_X9_18 (fun _ _ _ => rfl) rfl rfl ?_
                  refine p_dup dX9_readZone_142 rfl ?_
                  refine p_geti dX9_readZone_143 fl_X9_113 (fun _ _ _ => rfl) (wc_X1 wl_X1_56) ?_
                  refine p_iconst dX9_readZone_146 ?_
                  refine p_iadd dX9_readZone_147 ?_
                  refine q_puti dX9_readZone_148 fq_X9_113 rfl (wc_X1 wl_X1_56) h (fun D148 h => ?_)
                  refine p_iconst dX9_readZone_151 ?_
                  exact p_zreturn dX9_readZone_152 (Nat.le_of_ble_eq_true rfl) (Nat.le_of_ble_eq_true rfl) (Or.inr rfl) ⟨_, rfl, rfl, ok_some h⟩
                · refine p_iconst dX9_readZone_136 ?_
                  exact p_zreturn dX9_readZone_137 (Nat.le_of_ble_eq_true rfl) (Nat.le_of_ble_eq_true rfl) (Or.inl rfl) ⟨_, rfl, rfl, ok_some h⟩
          · refine p_aload_n dX9_readZone_54 rfl ?_
            refine p_aload_n dX9_readZone_55 rfl ?_
            refine p_geti dX9_readZone_56 fl_X9_29 (fun _ _ _ => rfl) rfl ?_
            refine cV_Iw [vI (D22.1 55 4)] [] dX9_readZone_59 yv_X9_failAt ml_X9_110 (r := (RX9, TX9, 10)) rfl rfl (Nat.le_of_ble_eq_true rfl) rfl (Nat.le_of_ble_eq_true rfl) (Nat.le_of_ble_eq_true rfl) (Nat.le_of_ble_eq_true rfl) rfl h (fun K h => s_X9_failAt hG h) (fun r59 D59 h => ?_)
            obtain ⟨hz, h⟩ := ok_gd h
            exact p_zreturn dX9_readZone_62 (Nat.le_of_ble_eq_true rfl) (Nat.le_of_ble_eq_true rfl) hz ⟨_, rfl, rfl, ok_some h⟩
    · refine p_iconst dX9_readZone_28 ?_
      exact p_zreturn dX9_readZone_29 (Nat.le_of_ble_eq_true rfl) (Nat.le_of_ble_eq_true rfl) (Or.inl rfl) ⟨_, rfl, rfl, ok_some h⟩
  · refine p_aload_n dX9_readZone_12 rfl ?_
    refine p_aload_n dX9_readZone_13 rfl ?_
    refine p_geti dX9_readZone_14 fl_X9_29 (fun _ _ _ => rfl) rfl ?_
    refine cV_Iw [vI (D.1 55 4)] [] dX9_readZone_17 yv_X9_failAt ml_X9_110 (r := (RX9, TX9, 10)) rfl rfl (Nat.le_of_ble_eq_true rfl) rfl (Nat.le_of_ble_eq_true rfl) (Nat.le_of_ble_eq_true rfl) (Nat.le_of_ble_eq_true rfl) rfl h (fun K h => s_X9_failAt hG h) (fun r17 D17 h => ?_)
    obtain ⟨hz, h⟩ := ok_gd h
    exact p_zreturn dX9_readZone_20 (Nat.le_of_ble_eq_true rfl) (Nat.le_of_ble_eq_true rfl) hz ⟨_, rfl, rfl, ok_some h⟩
theorem s_X9_readZone {l : Launch} {g : GH} (hG : G0 l g) {n : Nat} {D : DT} {K : (Int × DT) → Prop} (h : ok (m_X9_readZone D) K) : Sat l g yX9_readZone cX9_readZone 2 (some .boolean) 8 0 0 [vR g 55] (LF n) D (PIw n K) := Sat.of hG (by decide) (Nat.le_of_ble_eq_true rfl) (by simp [Value.category]) (x_X9_readZone hG h)
abbrev E_X9_readToldName (l : Launch) (g : GH) (P : PT) : ENV := mkE l g yX9_readToldName cX9_readToldName 1 (some .boolean) [] 2 0 0 P
set_option maxRecDepth 100000 in
set_option maxHeartbeats 4000000 in
theorem x_X9_readToldName {l : Launch} {g : GH} (hG : G0 l g) {n : Nat} {D : DT} {K : (Int × DT) → Prop} (h : ok (m_X9_readToldName D) K) : Px (E_X9_readToldName l g (PIw n K)) 0 [some (vR g 55)] [] (LF n) D 0 0 := by
  refine p_aload_n dX9_readToldName_0 rfl ?_
  refine cV_Iw [] [] dX9_readToldName_1 yv_X9_readWord ml_X9_79 (r := (RX9, TX9, 10)) rfl rfl (Nat.le_of_ble_eq_true rfl) rfl (Nat.le_of_ble_eq_true rfl) (Nat.le_of_ble_eq_true rfl) (Nat.le_of_ble_eq_true rfl) rfl h (fun K h => s_X9_readWord hG h) (fun r1 D1 h => ?_)
  refine q_if_ne (tgt := 9) dX9_readToldName_4 (by decide) h (fun h => ?_) (fun h => ?_)
  · refine p_aload_n dX9_readToldName_9 rfl ?_
    refine cV_Ir [] [] dX9_readToldName_10 yv_X9_zoneNamed ml_X9_100 (r := (RX9, TX9, 10)) rfl rfl (Nat.le_of_ble_eq_true rfl) rfl (Nat.le_of_ble_eq_true rfl) (Nat.le_of_ble_eq_true rfl) (Nat.le_of_ble_eq_true rfl) rfl h (fun K h => s_X9_zoneNamed hG h) (fun r10 h => ?_)
    refine p_iconst dX9_readToldName_13 ?_
    refine q_icmp_ne (tgt := 28) dX9_readToldName_14 (by decide) h (fun h => ?_) (fun h => ?_)
    · refine p_iconst dX9_readToldName_28 ?_
      refine p_goto (tgt := 33) dX9_readToldName_29 (by decide) ?_
      exact p_zreturn dX9_readToldName_33 (Nat.le_of_ble_eq_true rfl) (Nat.le_of_ble_eq_true rfl) (Or.inr rfl) ⟨_, rfl, rfl, ok_some h⟩
    · refine p_aload_n dX9_readToldName_17 rfl ?_
      refine p_aload_n dX9_readToldName_18 rfl ?_
      refine p_geti dX9_readToldName_19 fl_X9_29 (fun _ _ _ => rfl) rfl ?_
      refine cV_Iw [vI (D1.1 55 4)] [] dX9_readToldName_22 yv_X9_failAt ml_X9_110 (r := (RX9, TX9, 10)) rfl rfl (Nat.le_of_ble_eq_true rfl) rfl (Nat.le_of_ble_eq_true rfl) (Nat.le_of_ble_eq_true rfl) (Nat.le_of_ble_eq_true rfl) rfl h (fun K h => s_X9_failAt hG h) (fun r22 D22 h => ?_)
      refine q_if_eq (tgt := 32) dX9_readToldName_25 (by decide) h (fun h => ?_) (fun h => ?_)
      · refine p_iconst dX9_readToldName_32 ?_
        exact p_zreturn dX9_readToldName_33 (Nat.le_of_ble_eq_true rfl) (Nat.le_of_ble_eq_true rfl) (Or.inl rfl) ⟨_, rfl, rfl, ok_some h⟩
      · refine p_iconst dX9_readToldName_28 ?_
        refine p_goto (tgt := 33) dX9_readToldName_29 (by decide) ?_
        exact p_zreturn dX9_readToldName_33 (Nat.le_of_ble_eq_true rfl) (Nat.le_of_ble_eq_true rfl) (Or.inr rfl) ⟨_, rfl, rfl, ok_some h⟩
  · refine p_iconst dX9_readToldName_7 ?_
    exact p_zreturn dX9_readToldName_8 (Nat.le_of_ble_eq_true rfl) (Nat.le_of_ble_eq_true rfl) (Or.inl rfl) ⟨_, rfl, rfl, ok_some h⟩
theorem s_X9_readToldName {l : Launch} {g : GH} (hG : G0 l g) {n : Nat} {D : DT} {K : (Int × DT) → Prop} (h : ok (m_X9_readToldName D) K) : Sat l g yX9_readToldName cX9_readToldName 1 (some .boolean) 2 0 0 [vR g 55] (LF n) D (PIw n K) := Sat.of hG (by decide) (Nat.le_of_ble_eq_true rfl) (by simp [Value.category]) (x_X9_readToldName hG h)
abbrev E_X9_isOfAnother (l : Launch) (g : GH) (P : PT) : ENV := mkE l g yX9_isOfAnother cX9_isOfAnother 3 (some .boolean) [] 0 0 0 P
set_option maxRecDepth 100000 in
set_option maxHeartbeats 4000000 in
theorem x_X9_isOfAnother {l : Launch} {g : GH} (hG : G0 l g) {n : Nat} {v1 : Int} {v2 : Int} {D : DT} {K : Int → Prop} (h : ok (m_X9_isOfAnother v1 v2 D) K) : Px (E_X9_isOfAnother l g (PIr n D K)) 0 [some (vR g 55), some (vI v1), some (vI v2)] [] (LF n) D 0 0 := by
  refine p_iload_n dX9_isOfAnother_0 rfl ?_
  refine p_iconst dX9_isOfAnother_1 ?_
  refine q_icmp_eq (tgt := 35) dX9_isOfAnother_2 (by decide) h (fun h => ?_) (fun h => ?_)
  · refine p_iconst dX9_isOfAnother_35 ?_
    exact p_zreturn dX9_isOfAnother_36 (Nat.le_of_ble_eq_true rfl) (Nat.le_of_ble_eq_true rfl) (Or.inl rfl) ⟨_, rfl, rfl, rfl, ok_some h⟩
  · refine p_aload_n dX9_isOfAnother_5 rfl ?_
    refine p_getr dX9_isOfAnother_6 fl_X9_18 (fun _ _ _ => rfl) rfl rfl ?_
    refine p_getr dX9_isOfAnother_9 fl_X9_162 (fun _ _ _ => rfl) (wc_X1 wl_X1_56) (wf_X1_4 wl_X1_56) ?_
    refine p_iload_n dX9_isOfAnother_12 rfl ?_
    refine q_iald dX9_isOfAnother_13 (wa_X1_4 wl_X1_56) rfl h (fun h => ?_)
    refine p_iconst dX9_isOfAnother_14 ?_
    refine q_icmp_eq (tgt := 35) dX9_isOfAnother_15 (by decide) h (fun h => ?_) (fun h => ?_)
    · refine p_iconst dX9_isOfAnother_35 ?_
      exact p_zreturn dX9_isOfAnother_36 (Nat.le_of_ble_eq_true rfl) (Nat.le_of_ble_eq_true rfl) (Or.inl rfl) ⟨_, rfl, rfl, rfl, ok_some h⟩
    · refine p_aload_n dX9_isOfAnother_18 rfl ?_
      refine p_getr dX9_isOfAnother_19 fl_X9_18 (fun _ _ _ => rfl) rfl rfl ?_
      refine p_getr dX9_isOfAnother_22 fl_X9_162 (fun _ _ _ => rfl) (wc_X1 wl_X1_56) (wf_X1_4 wl_X1_56) ?_
      refine p_iload_n dX9_isOfAnother_25 rfl ?_
      refine q_iald dX9_isOfAnother_26 (wa_X1_4 wl_X1_56) rfl h (fun h => ?_)
      refine p_iload_n dX9_isOfAnother_27 rfl ?_
      refine q_icmp_eq (tgt := 35) dX9_isOfAnother_28 (by decide) h (fun h => ?_) (fun h => ?_)
      · refine p_iconst dX9_isOfAnother_35 ?_
        exact p_zreturn dX9_isOfAnother_36 (Nat.le_of_ble_eq_true rfl) (Nat.le_of_ble_eq_true rfl) (Or.inl rfl) ⟨_, rfl, rfl, rfl, ok_some h⟩
      · refine p_iconst dX9_isOfAnother_31 ?_
        refine p_goto (tgt := 36) dX9_isOfAnother_32 (by decide) ?_
        exact p_zreturn dX9_isOfAnother_36 (Nat.le_of_ble_eq_true rfl) (Nat.le_of_ble_eq_true rfl) (Or.inr rfl) ⟨_, rfl, rfl, rfl, ok_some h⟩
theorem s_X9_isOfAnother {l : Launch} {g : GH} (hG : G0 l g) {n : Nat} {v1 : Int} {v2 : Int} {D : DT} {K : Int → Prop} (h : ok (m_X9_isOfAnother v1 v2 D) K) : Sat l g yX9_isOfAnother cX9_isOfAnother 3 (some .boolean) 0 0 0 [vR g 55, vI v1, vI v2] (LF n) D (PIr n D K) := Sat.of hG (by decide) (Nat.le_of_ble_eq_true rfl) (by simp [Value.category]) (x_X9_isOfAnother hG h)
abbrev E_X9_mark (l : Launch) (g : GH) (P : PT) : ENV := mkE l g yX9_mark cX9_mark 5 none [] 0 0 0 P
abbrev P_X9_mark_3 (l : Launch) (g : GH) (n : Nat) (K : DT → Prop) (v1 : Int) (v3 : Int) : (Int × DT) → Prop := fun s => Px (E_X9_mark l g (PVw n K)) 3 [some (vR g 55), some (vI v1), none, some (vI v3), some (vI s.1)] [] (LF n) s.2 0 0
set_option maxRecDepth 100000 in
set_option maxHeartbeats 4000000 in
theorem x_X9_mark_3 {l : Launch} {g : GH} (hG : G0 l g) {n : Nat} {v1 v3 : Int} {K : DT → Prop} {s : (Int × DT)} (h : ok (m_X9_mark_3 v1 v3 s) K) : Px (E_X9_mark l g (PVw n K)) 3 [some (vR g 55), some (vI v1), none, some (vI v3), some (vI s.1)] [] (LF n) s.2 0 0 := by
  refine ok_loop (P := (P_X9_mark_3 l g n K v1 v3)) (fun s h => ?_) h
  refine p_iload dX9_mark_3 rfl ?_
  refine p_iload_n dX9_mark_5 rfl ?_
  refine q_icmp_gt (tgt := 45) dX9_mark_6 (by decide) h (fun h => ?_) (fun h => ?_)
  · have h := kl_inr h
    exact p_return dX9_mark_45 (Nat.le_of_ble_eq_true rfl) (Nat.le_of_ble_eq_true rfl) ⟨rfl, rfl, ok_some h⟩
  · refine p_iload_n dX9_mark_9 rfl ?_
    refine p_iconst dX9_mark_10 ?_
    refine q_icmp_ne (tgt := 28) dX9_mark_11 (by decide) h (fun h => ?_) (fun h => ?_)
    · refine p_aload_n dX9_mark_28 rfl ?_
      refine p_getr dX9_mark_29 fl_X9_18 (fun _ _ _ => rfl) rfl rfl ?_
      refine p_getr dX9_mark_32 fl_X9_162 (fun _ _ _ => rfl) (wc_X1 wl_X1_56) (wf_X1_4 wl_X1_56) ?_
      refine p_iload dX9_mark_35 rfl ?_
      refine p_iload_n dX9_mark_37 rfl ?_
      refine q_iast dX9_mark_38 (wa_X1_4 wl_X1_56) rfl h (fun D38 h => ?_)
      refine p_iinc dX9_mark_39 rfl (Nat.le_of_ble_eq_true rfl) rfl ?_
      refine p_goto (tgt := 3) dX9_mark_42 (by decide) ?_
      exact p_weak (leL.same (leL.same (leL.drop (leL.same (leL.same leL.nil))))) (kl_inl (P := (P_X9_mark_3 l g n K v1 v3)) h)
    · refine p_aload_n dX9_mark_14 rfl ?_
      refine p_getr dX9_mark_15 fl_X9_18 (fun _ _ _ => rfl) rfl rfl ?_
      refine p_getr dX9_mark_18 fl_X9_165 (fun _ _ _ => rfl) (wc_X1 wl_X1_56) (wf_X1_5 wl_X1_56) ?_
      refine p_iload dX9_mark_21 rfl ?_
      refine p_iconst dX9_mark_23 ?_
      refine q_zast dX9_mark_24 (wa_X1_5 wl_X1_56) rfl h (fun D24 h => ?_)
      refine p_goto (tgt := 39) dX9_mark_25 (by decide) ?_
      refine p_iinc dX9_mark_39 rfl (Nat.le_of_ble_eq_true rfl) rfl ?_
      refine p_goto (tgt := 3) dX9_mark_42 (by decide) ?_
      exact p_weak (leL.same (leL.same (leL.drop (leL.same (leL.same leL.nil))))) (kl_inl (P := (P_X9_mark_3 l g n K v1 v3)) h)
set_option maxRecDepth 100000 in
set_option maxHeartbeats 4000000 in
theorem x_X9_mark {l : Launch} {g : GH} (hG : G0 l g) {n : Nat} {v1 : Int} {v2 : Int} {v3 : Int} {D : DT} {K : DT → Prop} (h : ok (m_X9_mark v1 v2 v3 D) K) : Px (E_X9_mark l g (PVw n K)) 0 [some (vR g 55), some (vI v1), some (vI v2), some (vI v3), none] [] (LF n) D 0 0 := by
  refine p_iload_n dX9_mark_0 rfl ?_
  refine p_istore dX9_mark_1 (Nat.le_of_ble_eq_true rfl) rfl ?_
  exact p_weak (leL.same (leL.same (leL.drop (leL.same (leL.same leL.nil))))) (x_X9_mark_3 hG h)
theorem s_X9_mark {l : Launch} {g : GH} (hG : G0 l g) {n : Nat} {v1 : Int} {v2 : Int} {v3 : Int} {D : DT} {K : DT → Prop} (h : ok (m_X9_mark v1 v2 v3 D) K) : Sat l g yX9_mark cX9_mark 5 none 0 0 0 [vR g 55, vI v1, vI v2, vI v3] (LF n) D (PVw n K) := Sat.of hG (by decide) (Nat.le_of_ble_eq_true rfl) (by simp [Value.category]) (x_X9_mark hG h)
abbrev E_X9_readRun (l : Launch) (g : GH) (P : PT) : ENV := mkE l g yX9_readRun cX9_readRun 8 (some .boolean) [] 3 0 0 P
abbrev P_X9_readRun_97 (l : Launch) (g : GH) (n : Nat) (K : (Int × DT) → Prop) (v1 : Int) (v3 : Int) (v4 : Int) (v5 : Int) (v6 : Int) (D : DT) : Int → Prop := fun s => Px (E_X9_readRun l g (PIw n K)) 97 [some (vR g 55), some (vI v1), none, some (vI v3), some (vI v4), some (vI v5), some (vI v6), some (vI s)] [] (LF n) D 0 0
set_option maxRecDepth 100000 in
set_option maxHeartbeats 4000000 in
theorem x_X9_readRun_97 {l : Launch} {g : GH} (hG : G0 l g) {n : Nat} {v1 v3 v4 v5 v6 : Int} {D : DT} {K : (Int × DT) → Prop} {s : Int} (h : ok (m_X9_readRun_97 v1 v3 v4 v5 v6 D s) K) : Px (E_X9_readRun l g (PIw n K)) 97 [some (vR g 55), some (vI v1), none, some (vI v3), some (vI v4), some (vI v5), some (vI v6), some (vI s)] [] (LF n) D 0 0 := by
  refine ok_loop (P := (P_X9_readRun_97 l g n K v1 v3 v4 v5 v6 D)) (fun s h => ?_) h
  refine p_iload dX9_readRun_97 rfl ?_
  refine p_iload dX9_readRun_99 rfl ?_
  refine q_icmp_gt (tgt := 130) dX9_readRun_101 (by decide) h (fun h => ?_) (fun h => ?_)
  · have h := kl_inr h
    refine p_aload_n dX9_readRun_130 rfl ?_
    refine p_iload_n dX9_readRun_131 rfl ?_
    refine p_iload dX9_readRun_132 rfl ?_
    refine p_iload_n dX9_readRun_134 rfl ?_
    refine p_iadd dX9_readRun_135 ?_
    refine p_iload dX9_readRun_136 rfl ?_
    refine p_iload dX9_readRun_138 rfl ?_
    refine p_iadd dX9_readRun_140 ?_
    refine cV_Vw [vI v1, vI (v5 + v3), vI (v5 + v6)] [] dX9_readRun_141 yv_X9_mark ml_X9_159 (r := (RX9, TX9, 10)) rfl rfl (Nat.le_of_ble_eq_true rfl) rfl (Nat.le_of_ble_eq_true rfl) (Nat.le_of_ble_eq_true rfl) (Nat.le_of_ble_eq_true rfl) rfl h (fun K h => s_X9_mark hG h) (fun D141 h => ?_)
    refine p_iconst dX9_readRun_144 ?_
    exact p_zreturn dX9_readRun_145 (Nat.le_of_ble_eq_true rfl) (Nat.le_of_ble_eq_true rfl) (Or.inr rfl) ⟨_, rfl, rfl, ok_some h⟩
  · refine p_aload_n dX9_readRun_104 rfl ?_
    refine p_iload dX9_readRun_105 rfl ?_
    refine p_iload dX9_readRun_107 rfl ?_
    refine p_iadd dX9_readRun_109 ?_
    refine p_iload_n dX9_readRun_110 rfl ?_
    refine cV_Ir [vI (v5 + s), vI v1] [] dX9_readRun_111 yv_X9_isOfAnother ml_X9_156 (r := (RX9, TX9, 10)) rfl rfl (Nat.le_of_ble_eq_true rfl) rfl (Nat.le_of_ble_eq_true rfl) (Nat.le_of_ble_eq_true rfl) (Nat.le_of_ble_eq_true rfl) rfl h (fun K h => s_X9_isOfAnother hG h) (fun r111 h => ?_)
    refine q_if_eq (tgt := 124) dX9_readRun_114 (by decide) h (fun h => ?_) (fun h => ?_)
    · refine p_iinc dX9_readRun_124 rfl (Nat.le_of_ble_eq_true rfl) rfl ?_
      refine p_goto (tgt := 97) dX9_readRun_127 (by decide) ?_
      exact p_weak (leL.same (leL.same (leL.drop (leL.same (leL.same (leL.same (leL.same (leL.same leL.nil)))))))) (kl_inl (P := (P_X9_readRun_97 l g n K v1 v3 v4 v5 v6 D)) h)
    · have h := kl_inr h
      refine p_aload_n dX9_readRun_117 rfl ?_
      refine p_iload dX9_readRun_118 rfl ?_
      refine cV_Iw [vI v4] [] dX9_readRun_120 yv_X9_failAt ml_X9_110 (r := (RX9, TX9, 10)) rfl rfl (Nat.le_of_ble_eq_true rfl) rfl (Nat.le_of_ble_eq_true rfl) (Nat.le_of_ble_eq_true rfl) (Nat.le_of_ble_eq_true rfl) rfl h (fun K h => s_X9_failAt hG h) (fun r120 D120 h => ?_)
      obtain ⟨hz, h⟩ := ok_gd h
      exact p_zreturn dX9_readRun_123 (Nat.le_of_ble_eq_true rfl) (Nat.le_of_ble_eq_true rfl) hz ⟨_, rfl, rfl, ok_some h⟩
set_option maxRecDepth 100000 in
set_option maxHeartbeats 4000000 in
theorem x_X9_readRun {l : Launch} {g : GH} (hG : G0 l g) {n : Nat} {v1 : Int} {v2 : Int} {D : DT} {K : (Int × DT) → Prop} (h : ok (m_X9_readRun v1 v2 D) K) : Px (E_X9_readRun l g (PIw n K)) 0 [some (vR g 55), some (vI v1), some (vI v2), none, none, none, none, none] [] (LF n) D 0 0 := by
  refine p_aload_n dX9_readRun_0 rfl ?_
  refine p_iconst dX9_readRun_1 ?_
  refine p_aload_n dX9_readRun_2 rfl ?_
  refine p_getr dX9_readRun_3 fl_X9_18 (fun _ _ _ => rfl) rfl rfl ?_
  refine p_geti dX9_readRun_6 fl_X9_153 (fun _ _ _ => rfl) (wc_X1 wl_X1_56) ?_
  refine p_iconst dX9_readRun_9 ?_
  refine p_isub dX9_readRun_10 ?_
  refine cV_Iw [vI 0, vI ((D.1 56 0) - 1)] [] dX9_readRun_11 yv_X9_readNumber ml_X9_67 (r := (RX9, TX9, 10)) rfl rfl (Nat.le_of_ble_eq_true rfl) rfl (Nat.le_of_ble_eq_true rfl) (Nat.le_of_ble_eq_true rfl) (Nat.le_of_ble_eq_true rfl) rfl h (fun K h => s_X9_readNumber hG h) (fun r11 D11 h => ?_)
  refine q_if_ne (tgt := 19) dX9_readRun_14 (by decide) h (fun h => ?_) (fun h => ?_)
  · refine p_aload_n dX9_readRun_19 rfl ?_
    refine p_geti dX9_readRun_20 fl_X9_38 (fun _ _ _ => rfl) rfl ?_
    refine p_istore_n dX9_readRun_23 (Nat.le_of_ble_eq_true rfl) rfl ?_
    refine p_aload_n dX9_readRun_24 rfl ?_
    refine p_geti dX9_readRun_25 fl_X9_35 (fun _ _ _ => rfl) rfl ?_
    refine p_istore dX9_readRun_28 (Nat.le_of_ble_eq_true rfl) rfl ?_
    refine p_iload_n dX9_readRun_30 rfl ?_
    refine p_aload_n dX9_readRun_31 rfl ?_
    refine p_getr dX9_readRun_32 fl_X9_18 (fun _ _ _ => rfl) rfl rfl ?_
    refine p_geti dX9_readRun_35 fl_X9_153 (fun _ _ _ => rfl) (wc_X1 wl_X1_56) ?_
    refine p_imul dX9_readRun_38 ?_
    refine p_istore dX9_readRun_39 (Nat.le_of_ble_eq_true rfl) rfl ?_
    refine p_aload_n dX9_readRun_41 rfl ?_
    refine p_iload dX9_readRun_42 rfl ?_
    refine p_iload_n dX9_readRun_44 rfl ?_
    refine p_iadd dX9_readRun_45 ?_
    refine p_iload_n dX9_readRun_46 rfl ?_
    refine cV_Ir [vI ((v2 * (D11.1 56 0)) + (D11.1 55 7)), vI v1] [] dX9_readRun_47 yv_X9_isOfAnother ml_X9_156 (r := (RX9, TX9, 10)) rfl rfl (Nat.le_of_ble_eq_true rfl) rfl (Nat.le_of_ble_eq_true rfl) (Nat.le_of_ble_eq_true rfl) (Nat.le_of_ble_eq_true rfl) rfl h (fun K h => s_X9_isOfAnother hG h) (fun r47 h => ?_)
    refine q_if_eq (tgt := 60) dX9_readRun_50 (by decide) h (fun h => ?_) (fun h => ?_)
    · refine p_aload_n dX9_readRun_60 rfl ?_
      refine p_bipush dX9_readRun_61 (by decide) ?_
      refine cV_Iw [vI 45] [] dX9_readRun_63 yv_X9_readSign ml_X9_75 (r := (RX9, TX9, 10)) rfl rfl (Nat.le_of_ble_eq_true rfl) rfl (Nat.le_of_ble_eq_true rfl) (Nat.le_of_ble_eq_true rfl) (Nat.le_of_ble_eq_true rfl) rfl h (fun K h => s_X9_readSign hG h) (fun r63 D63 h => ?_)
      refine q_if_eq (tgt := 86) dX9_readRun_66 (by decide) h (fun h => ?_) (fun h => ?_)
      · refine p_iconst dX9_readRun_86 ?_
        exact p_zreturn dX9_readRun_87 (Nat.le_of_ble_eq_true rfl) (Nat.le_of_ble_eq_true rfl) (Or.inl rfl) ⟨_, rfl, rfl, ok_some h⟩
      · refine p_aload_n dX9_readRun_69 rfl ?_
        refine p_iload_n dX9_readRun_70 rfl ?_
        refine p_aload_n dX9_readRun_71 rfl ?_
        refine p_getr dX9_readRun_72 fl_X9_18 (fun _ _ _ => rfl) rfl rfl ?_
        refine p_geti dX9_readRun_75 fl_X9_153 (fun _ _ _ => rfl) (wc_X1 wl_X1_56) ?_
        refine p_iconst dX9_readRun_78 ?_
        refine p_isub dX9_readRun_79 ?_
        refine cV_Iw [vI (D11.1 55 7), vI ((D63.1 56 0) - 1)] [] dX9_readRun_80 yv_X9_readNumber ml_X9_67 (r := (RX9, TX9, 10)) rfl rfl (Nat.le_of_ble_eq_true rfl) rfl (Nat.le_of_ble_eq_true rfl) (Nat.le_of_ble_eq_true rfl) (Nat.le_of_ble_eq_true rfl) rfl h (fun K h => s_X9_readNumber hG h) (fun r80 D80 h => ?_)
        refine q_if_ne (tgt := 88) dX9_readRun_83 (by decide) h (fun h => ?_) (fun h => ?_)
        · refine p_aload_n dX9_readRun_88 rfl ?_
          refine p_geti dX9_readRun_89 fl_X9_38 (fun _ _ _ => rfl) rfl ?_
          refine p_istore dX9_readRun_92 (Nat.le_of_ble_eq_true rfl) rfl ?_
          refine p_iload_n dX9_readRun_94 rfl ?_
          refine p_istore dX9_readRun_95 (Nat.le_of_ble_eq_true rfl) rfl ?_
          exact p_weak (leL.same (leL.same (leL.drop (leL.same (leL.same (leL.same (leL.same (leL.same leL.nil)))))))) (x_X9_readRun_97 hG h)
        · refine p_iconst dX9_readRun_86 ?_
          exact p_zreturn dX9_readRun_87 (Nat.le_of_ble_eq_true rfl) (Nat.le_of_ble_eq_true rfl) (Or.inl rfl) ⟨_, rfl, rfl, ok_some h⟩
    · refine p_aload_n dX9_readRun_53 rfl ?_
      refine p_iload dX9_readRun_54 rfl ?_
      refine cV_Iw [vI (D11.1 55 6)] [] dX9_readRun_56 yv_X9_failAt ml_X9_110 (r := (RX9, TX9, 10)) rfl rfl (Nat.le_of_ble_eq_true rfl) rfl (Nat.le_of_ble_eq_true rfl) (Nat.le_of_ble_eq_true rfl) (Nat.le_of_ble_eq_true rfl) rfl h (fun K h => s_X9_failAt hG h) (fun r56 D56 h => ?_)
      obtain ⟨hz, h⟩ := ok_gd h
      exact p_zreturn dX9_readRun_59 (Nat.le_of_ble_eq_true rfl) (Nat.le_of_ble_eq_true rfl) hz ⟨_, rfl, rfl, ok_some h⟩
  · refine p_iconst dX9_readRun_17 ?_
    exact p_zreturn dX9_readRun_18 (Nat.le_of_ble_eq_true rfl) (Nat.le_of_ble_eq_true rfl) (Or.inl rfl) ⟨_, rfl, rfl, ok_some h⟩
theorem s_X9_readRun {l : Launch} {g : GH} (hG : G0 l g) {n : Nat} {v1 : Int} {v2 : Int} {D : DT} {K : (Int × DT) → Prop} (h : ok (m_X9_readRun v1 v2 D) K) : Sat l g yX9_readRun cX9_readRun 8 (some .boolean) 3 0 0 [vR g 55, vI v1, vI v2] (LF n) D (PIw n K) := Sat.of hG (by decide) (Nat.le_of_ble_eq_true rfl) (by simp [Value.category]) (x_X9_readRun hG h)
abbrev E_X9_readRuns (l : Launch) (g : GH) (P : PT) : ENV := mkE l g yX9_readRuns cX9_readRuns 4 (some .boolean) [] 4 0 0 P
abbrev P_X9_readRuns_46 (l : Launch) (g : GH) (n : Nat) (K : (Int × DT) → Prop) (v1 : Int) (v2 : Int) : (Int × DT) → Prop := fun s => Px (E_X9_readRuns l g (PIw n K)) 46 [some (vR g 55), some (vI v1), some (vI v2), some (vI s.1)] [] (LF n) s.2 0 0
set_option maxRecDepth 100000 in
set_option maxHeartbeats 4000000 in
theorem x_X9_readRuns_46 {l : Launch} {g : GH} (hG : G0 l g) {n : Nat} {v1 v2 : Int} {K : (Int × DT) → Prop} {s : (Int × DT)} (h : ok (m_X9_readRuns_46 v1 v2 s) K) : Px (E_X9_readRuns l g (PIw n K)) 46 [some (vR g 55), some (vI v1), some (vI v2), some (vI s.1)] [] (LF n) s.2 0 0 := by
  refine ok_loop (P := (P_X9_readRuns_46 l g n K v1 v2)) (fun s h => ?_) h
  refine p_iload_n dX9_readRuns_46 rfl ?_
  refine p_sipush dX9_readRuns_47 (by decide) ?_
  refine q_icmp_ge (tgt := 89) dX9_readRuns_50 (by decide) h (fun h => ?_) (fun h => ?_)
  · have h := kl_inr h
    refine p_aload_n dX9_readRuns_89 rfl ?_
    refine p_bipush dX9_readRuns_90 (by decide) ?_
    refine cV_Iw [vI 59] [] dX9_readRuns_92 yv_X9_readSign ml_X9_75 (r := (RX9, TX9, 10)) rfl rfl (Nat.le_of_ble_eq_true rfl) rfl (Nat.le_of_ble_eq_true rfl) (Nat.le_of_ble_eq_true rfl) (Nat.le_of_ble_eq_true rfl) rfl h (fun K h => s_X9_readSign hG h) (fun r92 D92 h => ?_)
    obtain ⟨hz, h⟩ := ok_gd h
    exact p_zreturn dX9_readRuns_95 (Nat.le_of_ble_eq_true rfl) (Nat.le_of_ble_eq_true rfl) hz ⟨_, rfl, rfl, ok_some h⟩
  · refine p_aload_n dX9_readRuns_53 rfl ?_
    refine p_bipush dX9_readRuns_54 (by decide) ?_
    refine cV_Iw [vI 44] [] dX9_readRuns_56 yv_X9_nextIs ml_X9_150 (r := (RX9, TX9, 10)) rfl rfl (Nat.le_of_ble_eq_true rfl) rfl (Nat.le_of_ble_eq_true rfl) (Nat.le_of_ble_eq_true rfl) (Nat.le_of_ble_eq_true rfl) rfl h (fun K h => s_X9_nextIs hG h) (fun r56 D56 h => ?_)
    refine q_if_eq (tgt := 89) dX9_readRuns_59 (by decide) h (fun h => ?_) (fun h => ?_)
    · have h := kl_inr h
      refine p_aload_n dX9_readRuns_89 rfl ?_
      refine p_bipush dX9_readRuns_90 (by decide) ?_
      refine cV_Iw [vI 59] [] dX9_readRuns_92 yv_X9_readSign ml_X9_75 (r := (RX9, TX9, 10)) rfl rfl (Nat.le_of_ble_eq_true rfl) rfl (Nat.le_of_ble_eq_true rfl) (Nat.le_of_ble_eq_true rfl) (Nat.le_of_ble_eq_true rfl) rfl h (fun K h => s_X9_readSign hG h) (fun r92 D92 h => ?_)
      obtain ⟨hz, h⟩ := ok_gd h
      exact p_zreturn dX9_readRuns_95 (Nat.le_of_ble_eq_true rfl) (Nat.le_of_ble_eq_true rfl) hz ⟨_, rfl, rfl, ok_some h⟩
    · refine p_aload_n dX9_readRuns_62 rfl ?_
      refine p_dup dX9_readRuns_63 rfl ?_
      refine p_geti dX9_readRuns_64 fl_X9_26 (fun _ _ _ => rfl) rfl ?_
      refine p_iconst dX9_readRuns_67 ?_
      refine p_iadd dX9_readRuns_68 ?_
      refine q_puti dX9_readRuns_69 fq_X9_26 rfl rfl h (fun D69 h => ?_)
      refine p_aload_n dX9_readRuns_72 rfl ?_
      refine p_iload_n dX9_readRuns_73 rfl ?_
      refine p_iload_n dX9_readRuns_74 rfl ?_
      refine cV_Iw [vI v1, vI v2] [] dX9_readRuns_75 yv_X9_readRun ml_X9_147 (r := (RX9, TX9, 10)) rfl rfl (Nat.le_of_ble_eq_true rfl) rfl (Nat.le_of_ble_eq_true rfl) (Nat.le_of_ble_eq_true rfl) (Nat.le_of_ble_eq_true rfl) rfl h (fun K h => s_X9_readRun hG h) (fun r75 D75 h => ?_)
      refine q_if_ne (tgt := 83) dX9_readRuns_78 (by decide) h (fun h => ?_) (fun h => ?_)
      · refine p_iinc dX9_readRuns_83 rfl (Nat.le_of_ble_eq_true rfl) rfl ?_
        refine p_goto (tgt := 46) dX9_readRuns_86 (by decide) ?_
        exact p_weak (leL.same (leL.same (leL.same (leL.same leL.nil)))) (kl_inl (P := (P_X9_readRuns_46 l g n K v1 v2)) h)
      · have h := kl_inr h
        refine p_iconst dX9_readRuns_81 ?_
        exact p_zreturn dX9_readRuns_82 (Nat.le_of_ble_eq_true rfl) (Nat.le_of_ble_eq_true rfl) (Or.inl rfl) ⟨_, rfl, rfl, ok_some h⟩
set_option maxRecDepth 100000 in
set_option maxHeartbeats 4000000 in
theorem x_X9_readRuns {l : Launch} {g : GH} (hG : G0 l g) {n : Nat} {v1 : Int} {D : DT} {K : (Int × DT) → Prop} (h : ok (m_X9_readRuns v1 D) K) : Px (E_X9_readRuns l g (PIw n K)) 0 [some (vR g 55), some (vI v1), none, none] [] (LF n) D 0 0 := by
  refine p_aload_n dX9_readRuns_0 rfl ?_
  refine p_iconst dX9_readRuns_1 ?_
  refine p_aload_n dX9_readRuns_2 rfl ?_
  refine p_getr dX9_readRuns_3 fl_X9_18 (fun _ _ _ => rfl) rfl rfl ?_
  refine p_geti dX9_readRuns_6 fl_X9_144 (fun _ _ _ => rfl) (wc_X1 wl_X1_56) ?_
  refine p_iconst dX9_readRuns_9 ?_
  refine p_isub dX9_readRuns_10 ?_
  refine cV_Iw [vI 0, vI ((D.1 56 1) - 1)] [] dX9_readRuns_11 yv_X9_readNumber ml_X9_67 (r := (RX9, TX9, 10)) rfl rfl (Nat.le_of_ble_eq_true rfl) rfl (Nat.le_of_ble_eq_true rfl) (Nat.le_of_ble_eq_true rfl) (Nat.le_of_ble_eq_true rfl) rfl h (fun K h => s_X9_readNumber hG h) (fun r11 D11 h => ?_)
  refine q_if_ne (tgt := 19) dX9_readRuns_14 (by decide) h (fun h => ?_) (fun h => ?_)
  · refine p_aload_n dX9_readRuns_19 rfl ?_
    refine p_geti dX9_readRuns_20 fl_X9_38 (fun _ _ _ => rfl) rfl ?_
    refine p_istore_n dX9_readRuns_23 (Nat.le_of_ble_eq_true rfl) rfl ?_
    refine p_aload_n dX9_readRuns_24 rfl ?_
    refine p_bipush dX9_readRuns_25 (by decide) ?_
    refine cV_Iw [vI 58] [] dX9_readRuns_27 yv_X9_readSign ml_X9_75 (r := (RX9, TX9, 10)) rfl rfl (Nat.le_of_ble_eq_true rfl) rfl (Nat.le_of_ble_eq_true rfl) (Nat.le_of_ble_eq_true rfl) (Nat.le_of_ble_eq_true rfl) rfl h (fun K h => s_X9_readSign hG h) (fun r27 D27 h => ?_)
    refine q_if_eq (tgt := 42) dX9_readRuns_30 (by decide) h (fun h => ?_) (fun h => ?_)
    · refine p_iconst dX9_readRuns_42 ?_
      exact p_zreturn dX9_readRuns_43 (Nat.le_of_ble_eq_true rfl) (Nat.le_of_ble_eq_true rfl) (Or.inl rfl) ⟨_, rfl, rfl, ok_some h⟩
    · refine p_aload_n dX9_readRuns_33 rfl ?_
      refine p_iload_n dX9_readRuns_34 rfl ?_
      refine p_iload_n dX9_readRuns_35 rfl ?_
      refine cV_Iw [vI v1, vI (D11.1 55 7)] [] dX9_readRuns_36 yv_X9_readRun ml_X9_147 (r := (RX9, TX9, 10)) rfl rfl (Nat.le_of_ble_eq_true rfl) rfl (Nat.le_of_ble_eq_true rfl) (Nat.le_of_ble_eq_true rfl) (Nat.le_of_ble_eq_true rfl) rfl h (fun K h => s_X9_readRun hG h) (fun r36 D36 h => ?_)
      refine q_if_ne (tgt := 44) dX9_readRuns_39 (by decide) h (fun h => ?_) (fun h => ?_)
      · refine p_iconst dX9_readRuns_44 ?_
        refine p_istore_n dX9_readRuns_45 (Nat.le_of_ble_eq_true rfl) rfl ?_
        exact p_weak (leL.same (leL.same (leL.same (leL.same leL.nil)))) (x_X9_readRuns_46 hG h)
      · refine p_iconst dX9_readRuns_42 ?_
        exact p_zreturn dX9_readRuns_43 (Nat.le_of_ble_eq_true rfl) (Nat.le_of_ble_eq_true rfl) (Or.inl rfl) ⟨_, rfl, rfl, ok_some h⟩
  · refine p_iconst dX9_readRuns_17 ?_
    exact p_zreturn dX9_readRuns_18 (Nat.le_of_ble_eq_true rfl) (Nat.le_of_ble_eq_true rfl) (Or.inl rfl) ⟨_, rfl, rfl, ok_some h⟩
theorem s_X9_readRuns {l : Launch} {g : GH} (hG : G0 l g) {n : Nat} {v1 : Int} {D : DT} {K : (Int × DT) → Prop} (h : ok (m_X9_readRuns v1 D) K) : Sat l g yX9_readRuns cX9_readRuns 4 (some .boolean) 4 0 0 [vR g 55, vI v1] (LF n) D (PIw n K) := Sat.of hG (by decide) (Nat.le_of_ble_eq_true rfl) (by simp [Value.category]) (x_X9_readRuns hG h)
abbrev E_X9_readLine (l : Launch) (g : GH) (P : PT) : ENV := mkE l g yX9_readLine cX9_readLine 1 (some .boolean) [] 9 0 0 P
set_option maxRecDepth 100000 in
set_option maxHeartbeats 4000000 in
theorem x_X9_readLine {l : Launch} {g : GH} (hG : G0 l g) {n : Nat} {D : DT} {K : (Int × DT) → Prop} (h : ok (m_X9_readLine D) K) : Px (E_X9_readLine l g (PIw n K)) 0 [some (vR g 55)] [] (LF n) D 0 0 := by
  refine p_aload_n dX9_readLine_0 rfl ?_
  refine cV_Iw [] [] dX9_readLine_1 yv_X9_readWord ml_X9_79 (r := (RX9, TX9, 10)) rfl rfl (Nat.le_of_ble_eq_true rfl) rfl (Nat.le_of_ble_eq_true rfl) (Nat.le_of_ble_eq_true rfl) (Nat.le_of_ble_eq_true rfl) rfl h (fun K h => s_X9_readWord hG h) (fun r1 D1 h => ?_)
  refine q_if_ne (tgt := 9) dX9_readLine_4 (by decide) h (fun h => ?_) (fun h => ?_)
  · refine p_aload_n dX9_readLine_9 rfl ?_
    refine p_ldcS (i := 1) hG dX9_readLine_10 (by decide) rfl rfl ?_
    refine cV_Ir [vS g 1] [] dX9_readLine_12 yv_X9_wordIs ml_X9_84 (r := (RX9, TX9, 10)) rfl rfl (Nat.le_of_ble_eq_true rfl) rfl (Nat.le_of_ble_eq_true rfl) (Nat.le_of_ble_eq_true rfl) (Nat.le_of_ble_eq_true rfl) rfl h (fun K h => s_X9_wordIs hG (by decide) h) (fun r12 h => ?_)
    refine q_if_eq (tgt := 23) dX9_readLine_15 (by decide) h (fun h => ?_) (fun h => ?_)
    · refine p_aload_n dX9_readLine_23 rfl ?_
      refine p_ldcS (i := 2) hG dX9_readLine_24 (by decide) rfl rfl ?_
      refine cV_Ir [vS g 2] [] dX9_readLine_26 yv_X9_wordIs ml_X9_84 (r := (RX9, TX9, 10)) rfl rfl (Nat.le_of_ble_eq_true rfl) rfl (Nat.le_of_ble_eq_true rfl) (Nat.le_of_ble_eq_true rfl) (Nat.le_of_ble_eq_true rfl) rfl h (fun K h => s_X9_wordIs hG (by decide) h) (fun r26 h => ?_)
      refine q_if_eq (tgt := 37) dX9_readLine_29 (by decide) h (fun h => ?_) (fun h => ?_)
      · refine p_aload_n dX9_readLine_37 rfl ?_
        refine p_ldcS (i := 4) hG dX9_readLine_38 (by decide) rfl rfl ?_
        refine cV_Ir [vS g 4] [] dX9_readLine_40 yv_X9_wordIs ml_X9_84 (r := (RX9, TX9, 10)) rfl rfl (Nat.le_of_ble_eq_true rfl) rfl (Nat.le_of_ble_eq_true rfl) (Nat.le_of_ble_eq_true rfl) (Nat.le_of_ble_eq_true rfl) rfl h (fun K h => s_X9_wordIs hG (by decide) h) (fun r40 h => ?_)
        refine q_if_eq (tgt := 70) dX9_readLine_43 (by decide) h (fun h => ?_) (fun h => ?_)
        · refine p_aload_n dX9_readLine_70 rfl ?_
          refine p_ldcS (i := 5) hG dX9_readLine_71 (by decide) rfl rfl ?_
          refine cV_Ir [vS g 5] [] dX9_readLine_73 yv_X9_wordIs ml_X9_84 (r := (RX9, TX9, 10)) rfl rfl (Nat.le_of_ble_eq_true rfl) rfl (Nat.le_of_ble_eq_true rfl) (Nat.le_of_ble_eq_true rfl) (Nat.le_of_ble_eq_true rfl) rfl h (fun K h => s_X9_wordIs hG (by decide) h) (fun r73 h => ?_)
          refine q_if_eq (tgt := 85) dX9_readLine_76 (by decide) h (fun h => ?_) (fun h => ?_)
          · refine p_aload_n dX9_readLine_85 rfl ?_
            refine p_aload_n dX9_readLine_86 rfl ?_
            refine p_geti dX9_readLine_87 fl_X9_29 (fun _ _ _ => rfl) rfl ?_
            refine cV_Iw [vI (D1.1 55 4)] [] dX9_readLine_90 yv_X9_failAt ml_X9_110 (r := (RX9, TX9, 10)) rfl rfl (Nat.le_of_ble_eq_true rfl) rfl (Nat.le_of_ble_eq_true rfl) (Nat.le_of_ble_eq_true rfl) (Nat.le_of_ble_eq_true rfl) rfl h (fun K h => s_X9_failAt hG h) (fun r90 D90 h => ?_)
            obtain ⟨hz, h⟩ := ok_gd h
            exact p_zreturn dX9_readLine_93 (Nat.le_of_ble_eq_true rfl) (Nat.le_of_ble_eq_true rfl) hz ⟨_, rfl, rfl, ok_some h⟩
          · refine p_aload_n dX9_readLine_79 rfl ?_
            refine p_iconst dX9_readLine_80 ?_
            refine cV_Iw [vI (-1)] [] dX9_readLine_81 yv_X9_readRuns ml_X9_104 (r := (RX9, TX9, 10)) rfl rfl (Nat.le_of_ble_eq_true rfl) rfl (Nat.le_of_ble_eq_true rfl) (Nat.le_of_ble_eq_true rfl) (Nat.le_of_ble_eq_true rfl) rfl h (fun K h => s_X9_readRuns hG h) (fun r81 D81 h => ?_)
            obtain ⟨hz, h⟩ := ok_gd h
            exact p_zreturn dX9_readLine_84 (Nat.le_of_ble_eq_true rfl) (Nat.le_of_ble_eq_true rfl) hz ⟨_, rfl, rfl, ok_some h⟩
        · refine p_aload_n dX9_readLine_46 rfl ?_
          refine cV_Iw [] [] dX9_readLine_47 yv_X9_readToldName ml_X9_97 (r := (RX9, TX9, 10)) rfl rfl (Nat.le_of_ble_eq_true rfl) rfl (Nat.le_of_ble_eq_true rfl) (Nat.le_of_ble_eq_true rfl) (Nat.le_of_ble_eq_true rfl) rfl h (fun K h => s_X9_readToldName hG h) (fun r47 D47 h => ?_)
          refine q_if_eq (tgt := 68) dX9_readLine_50 (by decide) h (fun h => ?_) (fun h => ?_)
          · refine p_iconst dX9_readLine_68 ?_
            exact p_zreturn dX9_readLine_69 (Nat.le_of_ble_eq_true rfl) (Nat.le_of_ble_eq_true rfl) (Or.inl rfl) ⟨_, rfl, rfl, ok_some h⟩
          · refine p_aload_n dX9_readLine_53 rfl ?_
            refine p_aload_n dX9_readLine_54 rfl ?_
            refine cV_Ir [] [vR g 55] dX9_readLine_55 yv_X9_zoneNamed ml_X9_100 (r := (RX9, TX9, 10)) rfl rfl (Nat.le_of_ble_eq_true rfl) rfl (Nat.le_of_ble_eq_true rfl) (Nat.le_of_ble_eq_true rfl) (Nat.le_of_ble_eq_true rfl) rfl h (fun K h => s_X9_zoneNamed hG h) (fun r55 h => ?_)
            refine cV_Iw [vI r55] [] dX9_readLine_58 yv_X9_readRuns ml_X9_104 (r := (RX9, TX9, 10)) rfl rfl (Nat.le_of_ble_eq_true rfl) rfl (Nat.le_of_ble_eq_true rfl) (Nat.le_of_ble_eq_true rfl) (Nat.le_of_ble_eq_true rfl) rfl h (fun K h => s_X9_readRuns hG h) (fun r58 D58 h => ?_)
            refine q_if_eq (tgt := 68) dX9_readLine_61 (by decide) h (fun h => ?_) (fun h => ?_)
            · refine p_iconst dX9_readLine_68 ?_
              exact p_zreturn dX9_readLine_69 (Nat.le_of_ble_eq_true rfl) (Nat.le_of_ble_eq_true rfl) (Or.inl rfl) ⟨_, rfl, rfl, ok_some h⟩
            · refine p_iconst dX9_readLine_64 ?_
              refine p_goto (tgt := 69) dX9_readLine_65 (by decide) ?_
              exact p_zreturn dX9_readLine_69 (Nat.le_of_ble_eq_true rfl) (Nat.le_of_ble_eq_true rfl) (Or.inr rfl) ⟨_, rfl, rfl, ok_some h⟩
      · refine p_aload_n dX9_readLine_32 rfl ?_
        refine cV_Iw [] [] dX9_readLine_33 yv_X9_readZone ml_X9_92 (r := (RX9, TX9, 10)) rfl rfl (Nat.le_of_ble_eq_true rfl) rfl (Nat.le_of_ble_eq_true rfl) (Nat.le_of_ble_eq_true rfl) (Nat.le_of_ble_eq_true rfl) rfl h (fun K h => s_X9_readZone hG h) (fun r33 D33 h => ?_)
        obtain ⟨hz, h⟩ := ok_gd h
        exact p_zreturn dX9_readLine_36 (Nat.le_of_ble_eq_true rfl) (Nat.le_of_ble_eq_true rfl) hz ⟨_, rfl, rfl, ok_some h⟩
    · refine p_aload_n dX9_readLine_18 rfl ?_
      refine cV_Iw [] [] dX9_readLine_19 yv_X9_readGroups ml_X9_87 (r := (RX9, TX9, 10)) rfl rfl (Nat.le_of_ble_eq_true rfl) rfl (Nat.le_of_ble_eq_true rfl) (Nat.le_of_ble_eq_true rfl) (Nat.le_of_ble_eq_true rfl) rfl h (fun K h => s_X9_readGroups hG h) (fun r19 D19 h => ?_)
      obtain ⟨hz, h⟩ := ok_gd h
      exact p_zreturn dX9_readLine_22 (Nat.le_of_ble_eq_true rfl) (Nat.le_of_ble_eq_true rfl) hz ⟨_, rfl, rfl, ok_some h⟩
  · refine p_iconst dX9_readLine_7 ?_
    exact p_zreturn dX9_readLine_8 (Nat.le_of_ble_eq_true rfl) (Nat.le_of_ble_eq_true rfl) (Or.inl rfl) ⟨_, rfl, rfl, ok_some h⟩
theorem s_X9_readLine {l : Launch} {g : GH} (hG : G0 l g) {n : Nat} {D : DT} {K : (Int × DT) → Prop} (h : ok (m_X9_readLine D) K) : Sat l g yX9_readLine cX9_readLine 1 (some .boolean) 9 0 0 [vR g 55] (LF n) D (PIw n K) := Sat.of hG (by decide) (Nat.le_of_ble_eq_true rfl) (by simp [Value.category]) (x_X9_readLine hG h)
abbrev E_X9_useUp (l : Launch) (g : GH) (P : PT) : ENV := mkE l g yX9_useUp cX9_useUp 3 (some .int) [] 10 0 0 P
abbrev P_X9_useUp_33 (l : Launch) (g : GH) (n : Nat) (K : (Int × DT) → Prop) : (Int × Int × DT) → Prop := fun s => Px (E_X9_useUp l g (PIw n K)) 33 [some (vR g 55), some (vI s.1), some (vI s.2.1)] [] (LF n) s.2.2 0 0
set_option maxRecDepth 100000 in
set_option maxHeartbeats 4000000 in
theorem x_X9_useUp_33 {l : Launch} {g : GH} (hG : G0 l g) {n : Nat} {K : (Int × DT) → Prop} {s : (Int × Int × DT)} (h : ok (m_X9_useUp_33 s) K) : Px (E_X9_useUp l g (PIw n K)) 33 [some (vR g 55), some (vI s.1), some (vI s.2.1)] [] (LF n) s.2.2 0 0 := by
  refine ok_loop (P := (P_X9_useUp_33 l g n K)) (fun s h => ?_) h
  refine p_iload_n dX9_useUp_33 rfl ?_
  refine q_if_eq (tgt := 70) dX9_useUp_34 (by decide) h (fun h => ?_) (fun h => ?_)
  · have h := kl_inr h
    refine p_aload_n dX9_useUp_70 rfl ?_
    refine p_iconst dX9_useUp_71 ?_
    refine q_puti dX9_useUp_72 fq_X9_9 rfl rfl h (fun D72 h => ?_)
    refine p_aload_n dX9_useUp_75 rfl ?_
    refine p_geti dX9_useUp_76 fl_X9_41 (fun _ _ _ => rfl) rfl ?_
    exact p_ireturn dX9_useUp_79 (Nat.le_of_ble_eq_true rfl) (Nat.le_of_ble_eq_true rfl) ⟨_, rfl, rfl, ok_some h⟩
  · refine p_aload_n dX9_useUp_37 rfl ?_
    refine p_geti dX9_useUp_38 fl_X9_26 (fun _ _ _ => rfl) rfl ?_
    refine p_aload_n dX9_useUp_41 rfl ?_
    refine p_geti dX9_useUp_42 fl_X9_9 (fun _ _ _ => rfl) rfl ?_
    refine q_icmp_ge (tgt := 70) dX9_useUp_45 (by decide) h (fun h => ?_) (fun h => ?_)
    · have h := kl_inr h
      refine p_aload_n dX9_useUp_70 rfl ?_
      refine p_iconst dX9_useUp_71 ?_
      refine q_puti dX9_useUp_72 fq_X9_9 rfl rfl h (fun D72 h => ?_)
      refine p_aload_n dX9_useUp_75 rfl ?_
      refine p_geti dX9_useUp_76 fl_X9_41 (fun _ _ _ => rfl) rfl ?_
      exact p_ireturn dX9_useUp_79 (Nat.le_of_ble_eq_true rfl) (Nat.le_of_ble_eq_true rfl) ⟨_, rfl, rfl, ok_some h⟩
    · refine p_iload_n dX9_useUp_48 rfl ?_
      refine p_sipush dX9_useUp_49 (by decide) ?_
      refine q_icmp_ge (tgt := 70) dX9_useUp_52 (by decide) h (fun h => ?_) (fun h => ?_)
      · have h := kl_inr h
        refine p_aload_n dX9_useUp_70 rfl ?_
        refine p_iconst dX9_useUp_71 ?_
        refine q_puti dX9_useUp_72 fq_X9_9 rfl rfl h (fun D72 h => ?_)
        refine p_aload_n dX9_useUp_75 rfl ?_
        refine p_geti dX9_useUp_76 fl_X9_41 (fun _ _ _ => rfl) rfl ?_
        exact p_ireturn dX9_useUp_79 (Nat.le_of_ble_eq_true rfl) (Nat.le_of_ble_eq_true rfl) ⟨_, rfl, rfl, ok_some h⟩
      · refine p_aload_n dX9_useUp_55 rfl ?_
        refine cV_Iw [] [] dX9_useUp_56 yv_X9_readLine ml_X9_58 (r := (RX9, TX9, 10)) rfl rfl (Nat.le_of_ble_eq_true rfl) rfl (Nat.le_of_ble_eq_true rfl) (Nat.le_of_ble_eq_true rfl) (Nat.le_of_ble_eq_true rfl) rfl h (fun K h => s_X9_readLine hG h) (fun r56 D56 h => ?_)
        refine p_istore_n dX9_useUp_59 (Nat.le_of_ble_eq_true rfl) rfl ?_
        refine p_aload_n dX9_useUp_60 rfl ?_
        refine cV_Vw [] [] dX9_useUp_61 yv_X9_skipBlanks ml_X9_55 (r := (RX9, TX9, 10)) rfl rfl (Nat.le_of_ble_eq_true rfl) rfl (Nat.le_of_ble_eq_true rfl) (Nat.le_of_ble_eq_true rfl) (Nat.le_of_ble_eq_true rfl) rfl h (fun K h => s_X9_skipBlanks hG h) (fun D61 h => ?_)
        refine p_iinc dX9_useUp_64 rfl (Nat.le_of_ble_eq_true rfl) rfl ?_
        refine p_goto (tgt := 33) dX9_useUp_67 (by decide) ?_
        exact p_weak (leL.same (leL.same (leL.same leL.nil))) (kl_inl (P := (P_X9_useUp_33 l g n K)) h)
set_option maxRecDepth 100000 in
set_option maxHeartbeats 4000000 in
theorem x_X9_useUp {l : Launch} {g : GH} (hG : G0 l g) {n : Nat} {D : DT} {K : (Int × DT) → Prop} (h : ok (m_X9_useUp D) K) : Px (E_X9_useUp l g (PIw n K)) 0 [some (vR g 55), none, none] [] (LF n) D 0 0 := by
  refine p_aload_n dX9_useUp_0 rfl ?_
  refine p_iconst dX9_useUp_1 ?_
  refine q_puti dX9_useUp_2 fq_X9_26 rfl rfl h (fun D2 h => ?_)
  refine p_aload_n dX9_useUp_5 rfl ?_
  refine p_iconst dX9_useUp_6 ?_
  refine q_puti dX9_useUp_7 fq_X9_41 rfl rfl h (fun D7 h => ?_)
  refine p_aload_n dX9_useUp_10 rfl ?_
  refine p_iconst dX9_useUp_11 ?_
  refine q_putz0 dX9_useUp_12 fq_X9_44 rfl (by decide) rfl h (fun D12 h => ?_)
  refine p_aload_n dX9_useUp_15 rfl ?_
  refine p_getr dX9_useUp_16 fl_X9_18 (fun _ _ _ => rfl) rfl rfl ?_
  refine cV_Vw [] [] dX9_useUp_19 yv_X1_clear ml_X9_48 (r := (RX1, TX1, 11)) rfl rfl (Nat.le_of_ble_eq_true rfl) rfl (Nat.le_of_ble_eq_true rfl) (Nat.le_of_ble_eq_true rfl) (Nat.le_of_ble_eq_true rfl) (wc_X1 wl_X1_56) h (fun K h => s_X1_clear hG wl_X1_56 h) (fun D19 h => ?_)
  refine p_aload_n dX9_useUp_22 rfl ?_
  refine cV_Iw [] [] dX9_useUp_23 yv_X9_readSize ml_X9_51 (r := (RX9, TX9, 10)) rfl rfl (Nat.le_of_ble_eq_true rfl) rfl (Nat.le_of_ble_eq_true rfl) (Nat.le_of_ble_eq_true rfl) (Nat.le_of_ble_eq_true rfl) rfl h (fun K h => s_X9_readSize hG h) (fun r23 D23 h => ?_)
  refine p_istore_n dX9_useUp_26 (Nat.le_of_ble_eq_true rfl) rfl ?_
  refine p_aload_n dX9_useUp_27 rfl ?_
  refine cV_Vw [] [] dX9_useUp_28 yv_X9_skipBlanks ml_X9_55 (r := (RX9, TX9, 10)) rfl rfl (Nat.le_of_ble_eq_true rfl) rfl (Nat.le_of_ble_eq_true rfl) (Nat.le_of_ble_eq_true rfl) (Nat.le_of_ble_eq_true rfl) rfl h (fun K h => s_X9_skipBlanks hG h) (fun D28 h => ?_)
  refine p_iconst dX9_useUp_31 ?_
  refine p_istore_n dX9_useUp_32 (Nat.le_of_ble_eq_true rfl) rfl ?_
  exact p_weak (leL.same (leL.same (leL.same leL.nil))) (x_X9_useUp_33 hG h)
theorem s_X9_useUp {l : Launch} {g : GH} (hG : G0 l g) {n : Nat} {D : DT} {K : (Int × DT) → Prop} (h : ok (m_X9_useUp D) K) : Sat l g yX9_useUp cX9_useUp 3 (some .int) 10 0 0 [vR g 55] (LF n) D (PIw n K) := Sat.of hG (by decide) (Nat.le_of_ble_eq_true rfl) (by simp [Value.category]) (x_X9_useUp hG h)
abbrev E_X10_feed (l : Launch) (g : GH) (P : PT) : ENV := mkE l g yX10_feed cX10_feed 6 (some .int) [] 1 0 0 P
set_option maxRecDepth 100000 in
set_option maxHeartbeats 4000000 in
theorem x_X10_feed {l : Launch} {g : GH} (hG : G0 l g) {n : Nat} {v1 : Int} {v2 : Int} {v3 : Int} {v4 : Int} {v5 : Int} {D : DT} {K : (Int × DT) → Prop} (h : ok (m_X10_feed v1 v2 v3 v4 v5 D) K) : Px (E_X10_feed l g (PIw n K)) 0 [some (vR g 0), some (vI v1), some (vI v2), some (vI v3), some (vI v4), some (vI v5)] [] (LF n) D 0 0 := by
  refine p_aload_n dX10_feed_0 rfl ?_
  refine p_getr dX10_feed_1 fl_X10_22 (fun _ _ _ => rfl) rfl rfl ?_
  refine p_geti dX10_feed_4 fl_X10_51 (fun _ _ _ => rfl) rfl ?_
  refine p_bipush dX10_feed_7 (by decide) ?_
  refine p_iadd dX10_feed_9 ?_
  refine p_sipush dX10_feed_10 (by decide) ?_
  refine q_icmp_le (tgt := 18) dX10_feed_13 (by decide) h (fun h => ?_) (fun h => ?_)
  · refine p_aload_n dX10_feed_18 rfl ?_
    refine p_getr dX10_feed_19 fl_X10_22 (fun _ _ _ => rfl) rfl rfl ?_
    refine p_iload_n dX10_feed_22 rfl ?_
    refine cV_Vw [vI v1] [] dX10_feed_23 yv_X9_takeBytes ml_X10_54 (r := (RX9, TX9, 10)) rfl rfl (Nat.le_of_ble_eq_true rfl) rfl (Nat.le_of_ble_eq_true rfl) (Nat.le_of_ble_eq_true rfl) (Nat.le_of_ble_eq_true rfl) rfl h (fun K h => s_X9_takeBytes hG h) (fun D23 h => ?_)
    refine p_aload_n dX10_feed_26 rfl ?_
    refine p_getr dX10_feed_27 fl_X10_22 (fun _ _ _ => rfl) rfl rfl ?_
    refine p_iload_n dX10_feed_30 rfl ?_
    refine cV_Vw [vI v2] [] dX10_feed_31 yv_X9_takeBytes ml_X10_54 (r := (RX9, TX9, 10)) rfl rfl (Nat.le_of_ble_eq_true rfl) rfl (Nat.le_of_ble_eq_true rfl) (Nat.le_of_ble_eq_true rfl) (Nat.le_of_ble_eq_true rfl) rfl h (fun K h => s_X9_takeBytes hG h) (fun D31 h => ?_)
    refine p_aload_n dX10_feed_34 rfl ?_
    refine p_getr dX10_feed_35 fl_X10_22 (fun _ _ _ => rfl) rfl rfl ?_
    refine p_iload_n dX10_feed_38 rfl ?_
    refine cV_Vw [vI v3] [] dX10_feed_39 yv_X9_takeBytes ml_X10_54 (r := (RX9, TX9, 10)) rfl rfl (Nat.le_of_ble_eq_true rfl) rfl (Nat.le_of_ble_eq_true rfl) (Nat.le_of_ble_eq_true rfl) (Nat.le_of_ble_eq_true rfl) rfl h (fun K h => s_X9_takeBytes hG h) (fun D39 h => ?_)
    refine p_aload_n dX10_feed_42 rfl ?_
    refine p_getr dX10_feed_43 fl_X10_22 (fun _ _ _ => rfl) rfl rfl ?_
    refine p_iload dX10_feed_46 rfl ?_
    refine cV_Vw [vI v4] [] dX10_feed_48 yv_X9_takeBytes ml_X10_54 (r := (RX9, TX9, 10)) rfl rfl (Nat.le_of_ble_eq_true rfl) rfl (Nat.le_of_ble_eq_true rfl) (Nat.le_of_ble_eq_true rfl) (Nat.le_of_ble_eq_true rfl) rfl h (fun K h => s_X9_takeBytes hG h) (fun D48 h => ?_)
    refine p_aload_n dX10_feed_51 rfl ?_
    refine p_getr dX10_feed_52 fl_X10_22 (fun _ _ _ => rfl) rfl rfl ?_
    refine p_iload dX10_feed_55 rfl ?_
    refine cV_Vw [vI v5] [] dX10_feed_57 yv_X9_takeBytes ml_X10_54 (r := (RX9, TX9, 10)) rfl rfl (Nat.le_of_ble_eq_true rfl) rfl (Nat.le_of_ble_eq_true rfl) (Nat.le_of_ble_eq_true rfl) (Nat.le_of_ble_eq_true rfl) rfl h (fun K h => s_X9_takeBytes hG h) (fun D57 h => ?_)
    refine p_aload_n dX10_feed_60 rfl ?_
    refine p_getr dX10_feed_61 fl_X10_22 (fun _ _ _ => rfl) rfl rfl ?_
    refine p_geti dX10_feed_64 fl_X10_51 (fun _ _ _ => rfl) rfl ?_
    exact p_ireturn dX10_feed_67 (Nat.le_of_ble_eq_true rfl) (Nat.le_of_ble_eq_true rfl) ⟨_, rfl, rfl, ok_some h⟩
  · refine p_iconst dX10_feed_16 ?_
    exact p_ireturn dX10_feed_17 (Nat.le_of_ble_eq_true rfl) (Nat.le_of_ble_eq_true rfl) ⟨_, rfl, rfl, ok_some h⟩
theorem s_X10_feed {l : Launch} {g : GH} (hG : G0 l g) {n : Nat} {v1 : Int} {v2 : Int} {v3 : Int} {v4 : Int} {v5 : Int} {D : DT} {K : (Int × DT) → Prop} (h : ok (m_X10_feed v1 v2 v3 v4 v5 D) K) : Sat l g yX10_feed cX10_feed 6 (some .int) 1 0 0 [vR g 0, vI v1, vI v2, vI v3, vI v4, vI v5] (LF n) D (PIw n K) := Sat.of hG (by decide) (Nat.le_of_ble_eq_true rfl) (by simp [Value.category]) (x_X10_feed hG h)
abbrev E_X10_end (l : Launch) (g : GH) (P : PT) : ENV := mkE l g yX10_end cX10_end 2 (some .boolean) [] 0 0 0 P
set_option maxRecDepth 100000 in
set_option maxHeartbeats 4000000 in
theorem x_X10_end {l : Launch} {g : GH} (hG : G0 l g) {n : Nat} {v1 : Int} {D : DT} {K : (Int × DT) → Prop} (h : ok (m_X10_end v1 D) K) : Px (E_X10_end l g (PIw n K)) 0 [some (vR g 0), some (vI v1)] [] (LF n) D 0 0 := by
  refine p_iload_n dX10_end_0 rfl ?_
  refine q_if_lt (tgt := 15) dX10_end_1 (by decide) h (fun h => ?_) (fun h => ?_)
  · refine p_iconst dX10_end_15 ?_
    exact p_zreturn dX10_end_16 (Nat.le_of_ble_eq_true rfl) (Nat.le_of_ble_eq_true rfl) (Or.inl rfl) ⟨_, rfl, rfl, ok_some h⟩
  · refine p_iload_n dX10_end_4 rfl ?_
    refine p_aload_n dX10_end_5 rfl ?_
    refine p_getr dX10_end_6 fl_X10_22 (fun _ _ _ => rfl) rfl rfl ?_
    refine p_geti dX10_end_9 fl_X10_51 (fun _ _ _ => rfl) rfl ?_
    refine q_icmp_le (tgt := 17) dX10_end_12 (by decide) h (fun h => ?_) (fun h => ?_)
    · refine p_aload_n dX10_end_17 rfl ?_
      refine p_getr dX10_end_18 fl_X10_22 (fun _ _ _ => rfl) rfl rfl ?_
      refine p_iload_n dX10_end_21 rfl ?_
      refine q_puti dX10_end_22 fq_X10_51 rfl rfl h (fun D22 h => ?_)
      refine p_iconst dX10_end_25 ?_
      exact p_zreturn dX10_end_26 (Nat.le_of_ble_eq_true rfl) (Nat.le_of_ble_eq_true rfl) (Or.inr rfl) ⟨_, rfl, rfl, ok_some h⟩
    · refine p_iconst dX10_end_15 ?_
      exact p_zreturn dX10_end_16 (Nat.le_of_ble_eq_true rfl) (Nat.le_of_ble_eq_true rfl) (Or.inl rfl) ⟨_, rfl, rfl, ok_some h⟩
theorem s_X10_end {l : Launch} {g : GH} (hG : G0 l g) {n : Nat} {v1 : Int} {D : DT} {K : (Int × DT) → Prop} (h : ok (m_X10_end v1 D) K) : Sat l g yX10_end cX10_end 2 (some .boolean) 0 0 0 [vR g 0, vI v1] (LF n) D (PIw n K) := Sat.of hG (by decide) (Nat.le_of_ble_eq_true rfl) (by simp [Value.category]) (x_X10_end hG h)
abbrev E_X10_read (l : Launch) (g : GH) (P : PT) : ENV := mkE l g yX10_read cX10_read 1 (some .int) [] 11 1 6 P
set_option maxRecDepth 100000 in
set_option maxHeartbeats 4000000 in
theorem x_X10_read {l : Launch} {g : GH} (hG : G0 l g) {n : Nat} {D : DT} {K : ((Int ⊕ Nat) × DT) → Prop} (h : ok (m_X10_read D) K) : Px (E_X10_read l g (PXw n K)) 0 [some (vR g 0)] [] (LF n) D 0 0 := by
  refine p_aload_n dX10_read_0 rfl ?_
  refine p_aload_n dX10_read_1 rfl ?_
  refine p_getr dX10_read_2 fl_X10_22 (fun _ _ _ => rfl) rfl rfl ?_
  refine cV_Iw [] [vR g 0] dX10_read_5 yv_X9_useUp ml_X10_58 (r := (RX9, TX9, 10)) rfl rfl (Nat.le_of_ble_eq_true rfl) rfl (Nat.le_of_ble_eq_true rfl) (Nat.le_of_ble_eq_true rfl) (Nat.le_of_ble_eq_true rfl) rfl h (fun K h => s_X9_useUp hG h) (fun r5 D5 h => ?_)
  refine q_puti dX10_read_8 fq_X10_26 rfl rfl h (fun D8 h => ?_)
  refine p_aload_n dX10_read_11 rfl ?_
  refine p_geti dX10_read_12 fl_X10_26 (fun _ _ _ => rfl) rfl ?_
  refine p_iconst dX10_read_15 ?_
  refine q_icmp_eq (tgt := 29) dX10_read_16 (by decide) h (fun h => ?_) (fun h => ?_)
  · refine p_aload_n dX10_read_29 rfl ?_
    refine p_getr dX10_read_30 fl_X10_10 (fun _ _ _ => rfl) rfl rfl ?_
    refine p_getr dX10_read_33 fl_X10_69 (fun _ _ _ => rfl) (wc_X5 wl_X5_1) (wf_X5_0 wl_X5_1) ?_
    refine p_aload_n dX10_read_36 rfl ?_
    refine p_getr dX10_read_37 fl_X10_22 (fun _ _ _ => rfl) rfl rfl ?_
    refine p_getr dX10_read_40 fl_X10_73 (fun _ _ _ => rfl) rfl rfl ?_
    refine cV_Vw [vR g 56] [] dX10_read_43 yv_X1_copyFrom ml_X10_76 (r := (RX1, TX1, 11)) rfl rfl (Nat.le_of_ble_eq_true rfl) rfl (Nat.le_of_ble_eq_true rfl) (Nat.le_of_ble_eq_true rfl) (Nat.le_of_ble_eq_true rfl) (wc_X1 (wo_X5_0 wl_X5_1)) h (fun K h => s_X1_copyFrom hG (wo_X5_0 wl_X5_1) wl_X1_56 h) (fun D43 h => ?_)
    refine p_aload_n dX10_read_46 rfl ?_
    refine p_getr dX10_read_47 fl_X10_10 (fun _ _ _ => rfl) rfl rfl ?_
    refine cV_Vw [] [] dX10_read_50 yv_X5_mapChanged ml_X10_82 (r := (RX5, TX5, 6)) rfl rfl (Nat.le_of_ble_eq_true rfl) rfl (Nat.le_of_ble_eq_true rfl) (Nat.le_of_ble_eq_true rfl) (Nat.le_of_ble_eq_true rfl) (wc_X5 wl_X5_1) h (fun K h => s_X5_mapChanged hG wl_X5_1 h) (fun D50 h => ?_)
    refine p_aload_n dX10_read_53 rfl ?_
    refine p_getr dX10_read_54 fl_X10_47 (fun _ _ _ => rfl) rfl rfl ?_
    refine cV_Vw [] [] dX10_read_57 yv_X4_forget ml_X10_85 (r := (RX4, TX4, 8)) rfl rfl (Nat.le_of_ble_eq_true rfl) rfl (Nat.le_of_ble_eq_true rfl) (Nat.le_of_ble_eq_true rfl) (Nat.le_of_ble_eq_true rfl) rfl h (fun K h => s_X4_forget hG h) (fun D57 h => ?_)
    refine p_aload_n dX10_read_60 rfl ?_
    refine p_getr dX10_read_61 fl_X10_10 (fun _ _ _ => rfl) rfl rfl ?_
    refine p_getr dX10_read_64 fl_X10_69 (fun _ _ _ => rfl) (wc_X5 wl_X5_1) (wf_X5_0 wl_X5_1) ?_
    refine p_geti dX10_read_67 fl_X10_88 (fun _ _ _ => rfl) (wc_X1 (wo_X5_0 wl_X5_1)) ?_
    exact p_ireturn dX10_read_70 (Nat.le_of_ble_eq_true rfl) (Nat.le_of_ble_eq_true rfl) (Or.inl ⟨_, rfl, rfl, ok_some h⟩)
  · exact p_throwS (e := 2) (i := 22) hG tw_2 (by decide) rfl rfl dX10_read_19 dX10_read_22 dX10_read_23 dX10_read_25 dX10_read_28 (Nat.le_of_ble_eq_true rfl) (Nat.le_of_ble_eq_true rfl) (Nat.le_of_ble_eq_true rfl) (Nat.le_of_ble_eq_true rfl) (fun n => Or.inr ⟨_, _, rfl, rfl, ok_some h⟩)
theorem s_X10_read {l : Launch} {g : GH} (hG : G0 l g) {n : Nat} {D : DT} {K : ((Int ⊕ Nat) × DT) → Prop} (h : ok (m_X10_read D) K) : Sat l g yX10_read cX10_read 1 (some .int) 11 1 6 [vR g 0] (LF n) D (PXw n K) := Sat.of hG (by decide) (Nat.le_of_ble_eq_true rfl) (by simp [Value.category]) (x_X10_read hG h)
abbrev E_X10_fault (l : Launch) (g : GH) (P : PT) : ENV := mkE l g yX10_fault cX10_fault 1 (some .int) [] 0 0 0 P
set_option maxRecDepth 100000 in
set_option maxHeartbeats 4000000 in
theorem x_X10_fault {l : Launch} {g : GH} (hG : G0 l g) {n : Nat} {D : DT} {K : Int → Prop} (h : ok (m_X10_fault D) K) : Px (E_X10_fault l g (PIr n D K)) 0 [some (vR g 0)] [] (LF n) D 0 0 := by
  refine p_aload_n dX10_fault_0 rfl ?_
  refine p_geti dX10_fault_1 fl_X10_26 (fun _ _ _ => rfl) rfl ?_
  exact p_ireturn dX10_fault_4 (Nat.le_of_ble_eq_true rfl) (Nat.le_of_ble_eq_true rfl) ⟨_, rfl, rfl, rfl, ok_some h⟩
theorem s_X10_fault {l : Launch} {g : GH} (hG : G0 l g) {n : Nat} {D : DT} {K : Int → Prop} (h : ok (m_X10_fault D) K) : Sat l g yX10_fault cX10_fault 1 (some .int) 0 0 0 [vR g 0] (LF n) D (PIr n D K) := Sat.of hG (by decide) (Nat.le_of_ble_eq_true rfl) (by simp [Value.category]) (x_X10_fault hG h)
abbrev E_X10_needCell (l : Launch) (g : GH) (P : PT) : ENV := mkE l g yX10_needCell cX10_needCell 2 none [] 8 1 6 P
set_option maxRecDepth 100000 in
set_option maxHeartbeats 4000000 in
theorem x_X10_needCell {l : Launch} {g : GH} (hG : G0 l g) {n : Nat} {v1 : Int} {D : DT} {K : (Unit ⊕ Nat) → Prop} (h : ok (m_X10_needCell v1 D) K) : Px (E_X10_needCell l g (PNr n D K)) 0 [some (vR g 0), some (vI v1)] [] (LF n) D 0 0 := by
  refine p_iload_n dX10_needCell_0 rfl ?_
  refine q_if_lt (tgt := 18) dX10_needCell_1 (by decide) h (fun h => ?_) (fun h => ?_)
  · exact p_throwW (e := 0) (i := 23) hG tw_0 (by decide) rfl rfl dX10_needCell_18 dX10_needCell_21 dX10_needCell_22 dX10_needCell_25 dX10_needCell_28 (Nat.le_of_ble_eq_true rfl) (Nat.le_of_ble_eq_true rfl) (Nat.le_of_ble_eq_true rfl) (Nat.le_of_ble_eq_true rfl) (fun n => ⟨rfl, Or.inr ⟨_, _, rfl, rfl, ok_some h⟩⟩)
  · refine p_iload_n dX10_needCell_4 rfl ?_
    refine p_aload_n dX10_needCell_5 rfl ?_
    refine p_getr dX10_needCell_6 fl_X10_10 (fun _ _ _ => rfl) rfl rfl ?_
    refine p_getr dX10_needCell_9 fl_X10_69 (fun _ _ _ => rfl) (wc_X5 wl_X5_1) (wf_X5_0 wl_X5_1) ?_
    refine cV_Ir [] [vI v1] dX10_needCell_12 yv_X1_cells ml_X10_351 (r := (RX1, TX1, 11)) rfl rfl (Nat.le_of_ble_eq_true rfl) rfl (Nat.le_of_ble_eq_true rfl) (Nat.le_of_ble_eq_true rfl) (Nat.le_of_ble_eq_true rfl) (wc_X1 (wo_X5_0 wl_X5_1)) h (fun K h => s_X1_cells hG (wo_X5_0 wl_X5_1) h) (fun r12 h => ?_)
    refine q_icmp_lt (tgt := 29) dX10_needCell_15 (by decide) h (fun h => ?_) (fun h => ?_)
    · exact p_return dX10_needCell_29 (Nat.le_of_ble_eq_true rfl) (Nat.le_of_ble_eq_true rfl) ⟨rfl, Or.inl ⟨rfl, rfl, ok_some h⟩⟩
    · exact p_throwW (e := 0) (i := 23) hG tw_0 (by decide) rfl rfl dX10_needCell_18 dX10_needCell_21 dX10_needCell_22 dX10_needCell_25 dX10_needCell_28 (Nat.le_of_ble_eq_true rfl) (Nat.le_of_ble_eq_true rfl) (Nat.le_of_ble_eq_true rfl) (Nat.le_of_ble_eq_true rfl) (fun n => ⟨rfl, Or.inr ⟨_, _, rfl, rfl, ok_some h⟩⟩)
theorem s_X10_needCell {l : Launch} {g : GH} (hG : G0 l g) {n : Nat} {v1 : Int} {D : DT} {K : (Unit ⊕ Nat) → Prop} (h : ok (m_X10_needCell v1 D) K) : Sat l g yX10_needCell cX10_needCell 2 none 8 1 6 [vR g 0, vI v1] (LF n) D (PNr n D K) := Sat.of hG (by decide) (Nat.le_of_ble_eq_true rfl) (by simp [Value.category]) (x_X10_needCell hG h)
abbrev E_X10_cell (l : Launch) (g : GH) (P : PT) : ENV := mkE l g yX10_cell cX10_cell 3 (some .int) [] 9 2 12 P
set_option maxRecDepth 100000 in
set_option maxHeartbeats 4000000 in
theorem x_X10_cell {l : Launch} {g : GH} (hG : G0 l g) {n : Nat} {v1 : Int} {v2 : Int} {D : DT} {K : ((Int ⊕ Nat) × DT) → Prop} (h : ok (m_X10_cell v1 v2 D) K) : Px (E_X10_cell l g (PXw n K)) 0 [some (vR g 0), some (vI v1), some (vI v2)] [] (LF n) D 0 0 := by
  refine p_aload_n dX10_cell_0 rfl ?_
  refine p_iload_n dX10_cell_1 rfl ?_
  refine cV_Nr [vI v1] [] dX10_cell_2 yv_X10_needCell ml_X10_91 (r := (RX10, TX10, 7)) rfl rfl (Nat.le_of_ble_eq_true rfl) rfl (Nat.le_of_ble_eq_true rfl) (Nat.le_of_ble_eq_true rfl) (Nat.le_of_ble_eq_true rfl) rfl h (fun K h => s_X10_needCell hG h) (fun e n h => px_out (Nat.le_of_ble_eq_true rfl) (Nat.le_of_ble_eq_true rfl) (Or.inr ⟨_, _, rfl, rfl, h⟩)) (fun h => ?_)
  refine p_iload_n dX10_cell_5 rfl ?_
  obtain ⟨hr, h⟩ := ok_gd h
  by_cases e0 : v2 = 0
  · have h := (ok_ite h).1 e0
    refine p_lookup (tgt := 32) dX10_cell_6 hr (by decide) (by rw [e0]; try rfl) (by decide) ?_
    refine p_aload_n dX10_cell_32 rfl ?_
    refine p_getr dX10_cell_33 fl_X10_10 (fun _ _ _ => rfl) rfl rfl ?_
    refine p_getr dX10_cell_36 fl_X10_69 (fun _ _ _ => rfl) (wc_X5 wl_X5_1) (wf_X5_0 wl_X5_1) ?_
    refine p_getr dX10_cell_39 fl_X10_94 (fun _ _ _ => rfl) (wc_X1 (wo_X5_0 wl_X5_1)) (wf_X1_4 (wo_X5_0 wl_X5_1)) ?_
    refine p_iload_n dX10_cell_42 rfl ?_
    refine q_iald dX10_cell_43 (wa_X1_4 (wo_X5_0 wl_X5_1)) rfl h (fun h => ?_)
    exact p_ireturn dX10_cell_44 (Nat.le_of_ble_eq_true rfl) (Nat.le_of_ble_eq_true rfl) (Or.inl ⟨_, rfl, rfl, ok_some h⟩)
  have h := (ok_ite h).2 e0
  by_cases e1 : v2 = 1
  · have h := (ok_ite h).1 e1
    refine p_lookup (tgt := 45) dX10_cell_6 hr (by decide) (by rw [e1]; try rfl) (by decide) ?_
    refine p_aload_n dX10_cell_45 rfl ?_
    refine p_getr dX10_cell_46 fl_X10_10 (fun _ _ _ => rfl) rfl rfl ?_
    refine p_getr dX10_cell_49 fl_X10_69 (fun _ _ _ => rfl) (wc_X5 wl_X5_1) (wf_X5_0 wl_X5_1) ?_
    refine p_getr dX10_cell_52 fl_X10_98 (fun _ _ _ => rfl) (wc_X1 (wo_X5_0 wl_X5_1)) (wf_X1_5 (wo_X5_0 wl_X5_1)) ?_
    refine p_iload_n dX10_cell_55 rfl ?_
    refine q_zald dX10_cell_56 (wa_X1_5 (wo_X5_0 wl_X5_1)) rfl h (fun h => ?_)
    refine q_if_eq (tgt := 64) dX10_cell_57 (by decide) h (fun h => ?_) (fun h => ?_)
    · refine p_iconst dX10_cell_64 ?_
      exact p_ireturn dX10_cell_65 (Nat.le_of_ble_eq_true rfl) (Nat.le_of_ble_eq_true rfl) (Or.inl ⟨_, rfl, rfl, ok_some h⟩)
    · refine p_iconst dX10_cell_60 ?_
      refine p_goto (tgt := 65) dX10_cell_61 (by decide) ?_
      exact p_ireturn dX10_cell_65 (Nat.le_of_ble_eq_true rfl) (Nat.le_of_ble_eq_true rfl) (Or.inl ⟨_, rfl, rfl, ok_some h⟩)
  have h := (ok_ite h).2 e1
  refine p_lookup (tgt := 66) (off := 60) dX10_cell_6 hr (by decide) (lk2 e0 e1) (by decide) ?_
  exact p_throwNS (i := 24) hG rfl (by decide) rfl rfl dX10_cell_66 dX10_cell_69 dX10_cell_70 dX10_cell_72 dX10_cell_75 (Nat.le_of_ble_eq_true rfl) (Nat.le_of_ble_eq_true rfl) (Nat.le_of_ble_eq_true rfl) (Nat.le_of_ble_eq_true rfl) (fun n => Or.inr ⟨_, _, rfl, rfl, ok_some h⟩)
theorem s_X10_cell {l : Launch} {g : GH} (hG : G0 l g) {n : Nat} {v1 : Int} {v2 : Int} {D : DT} {K : ((Int ⊕ Nat) × DT) → Prop} (h : ok (m_X10_cell v1 v2 D) K) : Sat l g yX10_cell cX10_cell 3 (some .int) 9 2 12 [vR g 0, vI v1, vI v2] (LF n) D (PXw n K) := Sat.of hG (by decide) (Nat.le_of_ble_eq_true rfl) (by simp [Value.category]) (x_X10_cell hG h)
abbrev E_X10_needZone (l : Launch) (g : GH) (P : PT) : ENV := mkE l g yX10_needZone cX10_needZone 2 none [] 8 1 6 P
set_option maxRecDepth 100000 in
set_option maxHeartbeats 4000000 in
theorem x_X10_needZone {l : Launch} {g : GH} (hG : G0 l g) {n : Nat} {v1 : Int} {D : DT} {K : (Unit ⊕ Nat) → Prop} (h : ok (m_X10_needZone v1 D) K) : Px (E_X10_needZone l g (PNr n D K)) 0 [some (vR g 0), some (vI v1)] [] (LF n) D 0 0 := by
  refine p_iload_n dX10_needZone_0 rfl ?_
  refine q_if_lt (tgt := 18) dX10_needZone_1 (by decide) h (fun h => ?_) (fun h => ?_)
  · exact p_throwW (e := 0) (i := 25) hG tw_0 (by decide) rfl rfl dX10_needZone_18 dX10_needZone_21 dX10_needZone_22 dX10_needZone_25 dX10_needZone_28 (Nat.le_of_ble_eq_true rfl) (Nat.le_of_ble_eq_true rfl) (Nat.le_of_ble_eq_true rfl) (Nat.le_of_ble_eq_true rfl) (fun n => ⟨rfl, Or.inr ⟨_, _, rfl, rfl, ok_some h⟩⟩)
  · refine p_iload_n dX10_needZone_4 rfl ?_
    refine p_aload_n dX10_needZone_5 rfl ?_
    refine p_getr dX10_needZone_6 fl_X10_10 (fun _ _ _ => rfl) rfl rfl ?_
    refine p_getr dX10_needZone_9 fl_X10_69 (fun _ _ _ => rfl) (wc_X5 wl_X5_1) (wf_X5_0 wl_X5_1) ?_
    refine p_geti dX10_needZone_12 fl_X10_88 (fun _ _ _ => rfl) (wc_X1 (wo_X5_0 wl_X5_1)) ?_
    refine q_icmp_lt (tgt := 29) dX10_needZone_15 (by decide) h (fun h => ?_) (fun h => ?_)
    · exact p_return dX10_needZone_29 (Nat.le_of_ble_eq_true rfl) (Nat.le_of_ble_eq_true rfl) ⟨rfl, Or.inl ⟨rfl, rfl, ok_some h⟩⟩
    · exact p_throwW (e := 0) (i := 25) hG tw_0 (by decide) rfl rfl dX10_needZone_18 dX10_needZone_21 dX10_needZone_22 dX10_needZone_25 dX10_needZone_28 (Nat.le_of_ble_eq_true rfl) (Nat.le_of_ble_eq_true rfl) (Nat.le_of_ble_eq_true rfl) (Nat.le_of_ble_eq_true rfl) (fun n => ⟨rfl, Or.inr ⟨_, _, rfl, rfl, ok_some h⟩⟩)
theorem s_X10_needZone {l : Launch} {g : GH} (hG : G0 l g) {n : Nat} {v1 : Int} {D : DT} {K : (Unit ⊕ Nat) → Prop} (h : ok (m_X10_needZone v1 D) K) : Sat l g yX10_needZone cX10_needZone 2 none 8 1 6 [vR g 0, vI v1] (LF n) D (PNr n D K) := Sat.of hG (by decide) (Nat.le_of_ble_eq_true rfl) (by simp [Value.category]) (x_X10_needZone hG h)
abbrev E_X10_zone (l : Launch) (g : GH) (P : PT) : ENV := mkE l g yX10_zone cX10_zone 3 (some .int) [] 9 2 12 P
set_option maxRecDepth 100000 in
set_option maxHeartbeats 4000000 in
theorem x_X10_zone {l : Launch} {g : GH} (hG : G0 l g) {n : Nat} {v1 : Int} {v2 : Int} {D : DT} {K : ((Int ⊕ Nat) × DT) → Prop} (h : ok (m_X10_zone v1 v2 D) K) : Px (E_X10_zone l g (PXw n K)) 0 [some (vR g 0), some (vI v1), some (vI v2)] [] (LF n) D 0 0 := by
  refine p_aload_n dX10_zone_0 rfl ?_
  refine p_iload_n dX10_zone_1 rfl ?_
  refine cV_Nr [vI v1] [] dX10_zone_2 yv_X10_needZone ml_X10_107 (r := (RX10, TX10, 7)) rfl rfl (Nat.le_of_ble_eq_true rfl) rfl (Nat.le_of_ble_eq_true rfl) (Nat.le_of_ble_eq_true rfl) (Nat.le_of_ble_eq_true rfl) rfl h (fun K h => s_X10_needZone hG h) (fun e n h => px_out (Nat.le_of_ble_eq_true rfl) (Nat.le_of_ble_eq_true rfl) (Or.inr ⟨_, _, rfl, rfl, h⟩)) (fun h => ?_)
  refine p_iload_n dX10_zone_5 rfl ?_
  obtain ⟨hr, h⟩ := ok_gd h
  by_cases e0 : v2 = 0
  · have h := (ok_ite h).1 e0
    refine p_tableIn (tgt := 44) dX10_zone_6 hr (by omega) (by omega) (by rw [e0]; try rfl) (by decide) ?_
    refine p_aload_n dX10_zone_44 rfl ?_
    refine p_getr dX10_zone_45 fl_X10_10 (fun _ _ _ => rfl) rfl rfl ?_
    refine p_getr dX10_zone_48 fl_X10_69 (fun _ _ _ => rfl) (wc_X5 wl_X5_1) (wf_X5_0 wl_X5_1) ?_
    refine p_iload_n dX10_zone_51 rfl ?_
    refine cV_Ir [vI v1] [] dX10_zone_52 yv_X1_cellsOf ml_X10_110 (r := (RX1, TX1, 11)) rfl rfl (Nat.le_of_ble_eq_true rfl) rfl (Nat.le_of_ble_eq_true rfl) (Nat.le_of_ble_eq_true rfl) (Nat.le_of_ble_eq_true rfl) (wc_X1 (wo_X5_0 wl_X5_1)) h (fun K h => s_X1_cellsOf hG (wo_X5_0 wl_X5_1) h) (fun r52 h => ?_)
    exact p_ireturn dX10_zone_55 (Nat.le_of_ble_eq_true rfl) (Nat.le_of_ble_eq_true rfl) (Or.inl ⟨_, rfl, rfl, ok_some h⟩)
  have h := (ok_ite h).2 e0
  by_cases e1 : v2 = 1
  · have h := (ok_ite h).1 e1
    refine p_tableIn (tgt := 56) dX10_zone_6 hr (by omega) (by omega) (by rw [e1]; try rfl) (by decide) ?_
    refine p_aload_n dX10_zone_56 rfl ?_
    refine p_getr dX10_zone_57 fl_X10_10 (fun _ _ _ => rfl) rfl rfl ?_
    refine p_getr dX10_zone_60 fl_X10_69 (fun _ _ _ => rfl) (wc_X5 wl_X5_1) (wf_X5_0 wl_X5_1) ?_
    refine p_iload_n dX10_zone_63 rfl ?_
    refine cV_Ir [vI v1] [] dX10_zone_64 yv_X1_landOf ml_X10_114 (r := (RX1, TX1, 11)) rfl rfl (Nat.le_of_ble_eq_true rfl) rfl (Nat.le_of_ble_eq_true rfl) (Nat.le_of_ble_eq_true rfl) (Nat.le_of_ble_eq_true rfl) (wc_X1 (wo_X5_0 wl_X5_1)) h (fun K h => s_X1_landOf hG (wo_X5_0 wl_X5_1) h) (fun r64 h => ?_)
    exact p_ireturn dX10_zone_67 (Nat.le_of_ble_eq_true rfl) (Nat.le_of_ble_eq_true rfl) (Or.inl ⟨_, rfl, rfl, ok_some h⟩)
  have h := (ok_ite h).2 e1
  by_cases e2 : v2 = 2
  · have h := (ok_ite h).1 e2
    refine p_tableIn (tgt := 68) dX10_zone_6 hr (by omega) (by omega) (by rw [e2]; try rfl) (by decide) ?_
    refine p_aload_n dX10_zone_68 rfl ?_
    refine p_getr dX10_zone_69 fl_X10_40 (fun _ _ _ => rfl) rfl rfl ?_
    refine p_aload_n dX10_zone_72 rfl ?_
    refine p_getr dX10_zone_73 fl_X10_10 (fun _ _ _ => rfl) rfl rfl ?_
    refine p_getr dX10_zone_76 fl_X10_69 (fun _ _ _ => rfl) (wc_X5 wl_X5_1) (wf_X5_0 wl_X5_1) ?_
    refine p_iload_n dX10_zone_79 rfl ?_
    refine cV_Vw [vR g 2, vI v1] [] dX10_zone_80 yv_X3_find ml_X10_117 (r := (RX3, TX3, 4)) rfl rfl (Nat.le_of_ble_eq_true rfl) rfl (Nat.le_of_ble_eq_true rfl) (Nat.le_of_ble_eq_true rfl) (Nat.le_of_ble_eq_true rfl) rfl h (fun K h => s_X3_find hG (wo_X5_0 wl_X5_1) h) (fun D80 h => ?_)
    refine p_aload_n dX10_zone_83 rfl ?_
    refine p_getr dX10_zone_84 fl_X10_40 (fun _ _ _ => rfl) rfl rfl ?_
    refine p_geti dX10_zone_87 fl_X10_121 (fun _ _ _ => rfl) rfl ?_
    exact p_ireturn dX10_zone_90 (Nat.le_of_ble_eq_true rfl) (Nat.le_of_ble_eq_true rfl) (Or.inl ⟨_, rfl, rfl, ok_some h⟩)
  have h := (ok_ite h).2 e2
  by_cases e3 : v2 = 3
  · have h := (ok_ite h).1 e3
    refine p_tableIn (tgt := 91) dX10_zone_6 hr (by omega) (by omega) (by rw [e3]; try rfl) (by decide) ?_
    refine p_aload_n dX10_zone_91 rfl ?_
    refine p_getr dX10_zone_92 fl_X10_10 (fun _ _ _ => rfl) rfl rfl ?_
    refine p_getr dX10_zone_95 fl_X10_69 (fun _ _ _ => rfl) (wc_X5 wl_X5_1) (wf_X5_0 wl_X5_1) ?_
    refine p_iload_n dX10_zone_98 rfl ?_
    refine cV_Ir [vI v1] [] dX10_zone_99 yv_X1_shoreOf ml_X10_124 (r := (RX1, TX1, 11)) rfl rfl (Nat.le_of_ble_eq_true rfl) rfl (Nat.le_of_ble_eq_true rfl) (Nat.le_of_ble_eq_true rfl) (Nat.le_of_ble_eq_true rfl) (wc_X1 (wo_X5_0 wl_X5_1)) h (fun K h => s_X1_shoreOf hG (wo_X5_0 wl_X5_1) h) (fun r99 h => ?_)
    exact p_ireturn dX10_zone_102 (Nat.le_of_ble_eq_true rfl) (Nat.le_of_ble_eq_true rfl) (Or.inl ⟨_, rfl, rfl, ok_some h⟩)
  have h := (ok_ite h).2 e3
  by_cases e4 : v2 = 4
  · have h := (ok_ite h).1 e4
    refine p_tableIn (tgt := 103) dX10_zone_6 hr (by omega) (by omega) (by rw [e4]; try rfl) (by decide) ?_
    refine p_aload_n dX10_zone_103 rfl ?_
    refine p_getr dX10_zone_104 fl_X10_10 (fun _ _ _ => rfl) rfl rfl ?_
    refine p_getr dX10_zone_107 fl_X10_69 (fun _ _ _ => rfl) (wc_X5 wl_X5_1) (wf_X5_0 wl_X5_1) ?_
    refine p_iload_n dX10_zone_110 rfl ?_
    refine cV_Ir [vI v1] [] dX10_zone_111 yv_X1_borderOf ml_X10_127 (r := (RX1, TX1, 11)) rfl rfl (Nat.le_of_ble_eq_true rfl) rfl (Nat.le_of_ble_eq_true rfl) (Nat.le_of_ble_eq_true rfl) (Nat.le_of_ble_eq_true rfl) (wc_X1 (wo_X5_0 wl_X5_1)) h (fun K h => s_X1_borderOf hG (wo_X5_0 wl_X5_1) h) (fun r111 h => ?_)
    exact p_ireturn dX10_zone_114 (Nat.le_of_ble_eq_true rfl) (Nat.le_of_ble_eq_true rfl) (Or.inl ⟨_, rfl, rfl, ok_some h⟩)
  have h := (ok_ite h).2 e4
  by_cases e5 : v2 = 5
  · have h := (ok_ite h).1 e5
    refine p_tableIn (tgt := 115) dX10_zone_6 hr (by omega) (by omega) (by rw [e5]; try rfl) (by decide) ?_
    refine p_aload_n dX10_zone_115 rfl ?_
    refine p_getr dX10_zone_116 fl_X10_10 (fun _ _ _ => rfl) rfl rfl ?_
    refine p_getr dX10_zone_119 fl_X10_69 (fun _ _ _ => rfl) (wc_X5 wl_X5_1) (wf_X5_0 wl_X5_1) ?_
    refine p_iload_n dX10_zone_122 rfl ?_
    refine cV_Ir [vI v1] [] dX10_zone_123 yv_X1_allRunsOf ml_X10_130 (r := (RX1, TX1, 11)) rfl rfl (Nat.le_of_ble_eq_true rfl) rfl (Nat.le_of_ble_eq_true rfl) (Nat.le_of_ble_eq_true rfl) (Nat.le_of_ble_eq_true rfl) (wc_X1 (wo_X5_0 wl_X5_1)) h (fun K h => s_X1_allRunsOf hG (wo_X5_0 wl_X5_1) h) (fun r123 h => ?_)
    exact p_ireturn dX10_zone_126 (Nat.le_of_ble_eq_true rfl) (Nat.le_of_ble_eq_true rfl) (Or.inl ⟨_, rfl, rfl, ok_some h⟩)
  have h := (ok_ite h).2 e5
  refine p_tableOut (tgt := 127) dX10_zone_6 hr (by omega) (by decide) ?_
  exact p_throwNS (i := 26) hG rfl (by decide) rfl rfl dX10_zone_127 dX10_zone_130 dX10_zone_131 dX10_zone_133 dX10_zone_136 (Nat.le_of_ble_eq_true rfl) (Nat.le_of_ble_eq_true rfl) (Nat.le_of_ble_eq_true rfl) (Nat.le_of_ble_eq_true rfl) (fun n => Or.inr ⟨_, _, rfl, rfl, ok_some h⟩)
theorem s_X10_zone {l : Launch} {g : GH} (hG : G0 l g) {n : Nat} {v1 : Int} {v2 : Int} {D : DT} {K : ((Int ⊕ Nat) × DT) → Prop} (h : ok (m_X10_zone v1 v2 D) K) : Sat l g yX10_zone cX10_zone 3 (some .int) 9 2 12 [vR g 0, vI v1, vI v2] (LF n) D (PXw n K) := Sat.of hG (by decide) (Nat.le_of_ble_eq_true rfl) (by simp [Value.category]) (x_X10_zone hG h)
abbrev E_X10_name (l : Launch) (g : GH) (P : PT) : ENV := mkE l g yX10_name cX10_name 3 (some .int) [] 9 1 6 P
set_option maxRecDepth 100000 in
set_option maxHeartbeats 4000000 in
theorem x_X10_name {l : Launch} {g : GH} (hG : G0 l g) {n : Nat} {v1 : Int} {v2 : Int} {D : DT} {K : ((Int ⊕ Nat) × DT) → Prop} (h : ok (m_X10_name v1 v2 D) K) : Px (E_X10_name l g (PXw n K)) 0 [some (vR g 0), some (vI v1), some (vI v2)] [] (LF n) D 0 0 := by
  refine p_aload_n dX10_name_0 rfl ?_
  refine p_iload_n dX10_name_1 rfl ?_
  refine cV_Nr [vI v1] [] dX10_name_2 yv_X10_needZone ml_X10_107 (r := (RX10, TX10, 7)) rfl rfl (Nat.le_of_ble_eq_true rfl) rfl (Nat.le_of_ble_eq_true rfl) (Nat.le_of_ble_eq_true rfl) (Nat.le_of_ble_eq_true rfl) rfl h (fun K h => s_X10_needZone hG h) (fun e n h => px_out (Nat.le_of_ble_eq_true rfl) (Nat.le_of_ble_eq_true rfl) (Or.inr ⟨_, _, rfl, rfl, h⟩)) (fun h => ?_)
  refine p_iload_n dX10_name_5 rfl ?_
  refine q_if_lt (tgt := 45) dX10_name_6 (by decide) h (fun h => ?_) (fun h => ?_)
  · refine p_iconst dX10_name_45 ?_
    exact p_ireturn dX10_name_46 (Nat.le_of_ble_eq_true rfl) (Nat.le_of_ble_eq_true rfl) (Or.inl ⟨_, rfl, rfl, ok_some h⟩)
  · refine p_iload_n dX10_name_9 rfl ?_
    refine p_aload_n dX10_name_10 rfl ?_
    refine p_getr dX10_name_11 fl_X10_10 (fun _ _ _ => rfl) rfl rfl ?_
    refine p_getr dX10_name_14 fl_X10_69 (fun _ _ _ => rfl) (wc_X5 wl_X5_1) (wf_X5_0 wl_X5_1) ?_
    refine p_getr dX10_name_17 fl_X10_135 (fun _ _ _ => rfl) (wc_X1 (wo_X5_0 wl_X5_1)) (wf_X1_10 (wo_X5_0 wl_X5_1)) ?_
    refine p_iload_n dX10_name_20 rfl ?_
    refine q_iald dX10_name_21 (wa_X1_10 (wo_X5_0 wl_X5_1)) rfl h (fun h => ?_)
    refine q_icmp_ge (tgt := 45) dX10_name_22 (by decide) h (fun h => ?_) (fun h => ?_)
    · refine p_iconst dX10_name_45 ?_
      exact p_ireturn dX10_name_46 (Nat.le_of_ble_eq_true rfl) (Nat.le_of_ble_eq_true rfl) (Or.inl ⟨_, rfl, rfl, ok_some h⟩)
    · refine p_aload_n dX10_name_25 rfl ?_
      refine p_getr dX10_name_26 fl_X10_10 (fun _ _ _ => rfl) rfl rfl ?_
      refine p_getr dX10_name_29 fl_X10_69 (fun _ _ _ => rfl) (wc_X5 wl_X5_1) (wf_X5_0 wl_X5_1) ?_
      refine p_getr dX10_name_32 fl_X10_138 (fun _ _ _ => rfl) (wc_X1 (wo_X5_0 wl_X5_1)) (wf_X1_9 (wo_X5_0 wl_X5_1)) ?_
      refine p_iload_n dX10_name_35 rfl ?_
      refine p_bipush dX10_name_36 (by decide) ?_
      refine p_imul dX10_name_38 ?_
      refine p_iload_n dX10_name_39 rfl ?_
      refine p_iadd dX10_name_40 ?_
      refine q_bald dX10_name_41 (wa_X1_9 (wo_X5_0 wl_X5_1)) rfl h (fun h => ?_)
      refine p_goto (tgt := 46) dX10_name_42 (by decide) ?_
      exact p_ireturn dX10_name_46 (Nat.le_of_ble_eq_true rfl) (Nat.le_of_ble_eq_true rfl) (Or.inl ⟨_, rfl, rfl, ok_some h⟩)
theorem s_X10_name {l : Launch} {g : GH} (hG : G0 l g) {n : Nat} {v1 : Int} {v2 : Int} {D : DT} {K : ((Int ⊕ Nat) × DT) → Prop} (h : ok (m_X10_name v1 v2 D) K) : Sat l g yX10_name cX10_name 3 (some .int) 9 1 6 [vR g 0, vI v1, vI v2] (LF n) D (PXw n K) := Sat.of hG (by decide) (Nat.le_of_ble_eq_true rfl) (by simp [Value.category]) (x_X10_name hG h)
abbrev E_X10_needGroup (l : Launch) (g : GH) (P : PT) : ENV := mkE l g yX10_needGroup cX10_needGroup 2 none [] 8 1 6 P
set_option maxRecDepth 100000 in
set_option maxHeartbeats 4000000 in
theorem x_X10_needGroup {l : Launch} {g : GH} (hG : G0 l g) {n : Nat} {v1 : Int} {D : DT} {K : (Unit ⊕ Nat) → Prop} (h : ok (m_X10_needGroup v1 D) K) : Px (E_X10_needGroup l g (PNr n D K)) 0 [some (vR g 0), some (vI v1)] [] (LF n) D 0 0 := by
  refine p_iload_n dX10_needGroup_0 rfl ?_
  refine q_if_lt (tgt := 18) dX10_needGroup_1 (by decide) h (fun h => ?_) (fun h => ?_)
  · exact p_throwW (e := 0) (i := 27) hG tw_0 (by decide) rfl rfl dX10_needGroup_18 dX10_needGroup_21 dX10_needGroup_22 dX10_needGroup_25 dX10_needGroup_28 (Nat.le_of_ble_eq_true rfl) (Nat.le_of_ble_eq_true rfl) (Nat.le_of_ble_eq_true rfl) (Nat.le_of_ble_eq_true rfl) (fun n => ⟨rfl, Or.inr ⟨_, _, rfl, rfl, ok_some h⟩⟩)
  · refine p_iload_n dX10_needGroup_4 rfl ?_
    refine p_aload_n dX10_needGroup_5 rfl ?_
    refine p_getr dX10_needGroup_6 fl_X10_10 (fun _ _ _ => rfl) rfl rfl ?_
    refine p_getr dX10_needGroup_9 fl_X10_69 (fun _ _ _ => rfl) (wc_X5 wl_X5_1) (wf_X5_0 wl_X5_1) ?_
    refine p_geti dX10_needGroup_12 fl_X10_217 (fun _ _ _ => rfl) (wc_X1 (wo_X5_0 wl_X5_1)) ?_
    refine q_icmp_lt (tgt := 29) dX10_needGroup_15 (by decide) h (fun h => ?_) (fun h => ?_)
    · exact p_return dX10_needGroup_29 (Nat.le_of_ble_eq_true rfl) (Nat.le_of_ble_eq_true rfl) ⟨rfl, Or.inl ⟨rfl, rfl, ok_some h⟩⟩
    · exact p_throwW (e := 0) (i := 27) hG tw_0 (by decide) rfl rfl dX10_needGroup_18 dX10_needGroup_21 dX10_needGroup_22 dX10_needGroup_25 dX10_needGroup_28 (Nat.le_of_ble_eq_true rfl) (Nat.le_of_ble_eq_true rfl) (Nat.le_of_ble_eq_true rfl) (Nat.le_of_ble_eq_true rfl) (fun n => ⟨rfl, Or.inr ⟨_, _, rfl, rfl, ok_some h⟩⟩)
theorem s_X10_needGroup {l : Launch} {g : GH} (hG : G0 l g) {n : Nat} {v1 : Int} {D : DT} {K : (Unit ⊕ Nat) → Prop} (h : ok (m_X10_needGroup v1 D) K) : Sat l g yX10_needGroup cX10_needGroup 2 none 8 1 6 [vR g 0, vI v1] (LF n) D (PNr n D K) := Sat.of hG (by decide) (Nat.le_of_ble_eq_true rfl) (by simp [Value.category]) (x_X10_needGroup hG h)
abbrev E_X10_numbersChanged (l : Launch) (g : GH) (P : PT) : ENV := mkE l g yX10_numbersChanged cX10_numbersChanged 1 none [] 2 0 0 P
set_option maxRecDepth 100000 in
set_option maxHeartbeats 4000000 in
theorem x_X10_numbersChanged {l : Launch} {g : GH} (hG : G0 l g) {n : Nat} {D : DT} {K : DT → Prop} (h : ok (m_X10_numbersChanged D) K) : Px (E_X10_numbersChanged l g (PVw n K)) 0 [some (vR g 0)] [] (LF n) D 0 0 := by
  refine p_aload_n dX10_numbersChanged_0 rfl ?_
  refine p_getr dX10_numbersChanged_1 fl_X10_10 (fun _ _ _ => rfl) rfl rfl ?_
  refine cV_Vw [] [] dX10_numbersChanged_4 yv_X5_numbersChanged ml_X10_372 (r := (RX5, TX5, 6)) rfl rfl (Nat.le_of_ble_eq_true rfl) rfl (Nat.le_of_ble_eq_true rfl) (Nat.le_of_ble_eq_true rfl) (Nat.le_of_ble_eq_true rfl) (wc_X5 wl_X5_1) h (fun K h => s_X5_numbersChanged hG wl_X5_1 h) (fun D4 h => ?_)
  refine p_aload_n dX10_numbersChanged_7 rfl ?_
  refine p_getr dX10_numbersChanged_8 fl_X10_47 (fun _ _ _ => rfl) rfl rfl ?_
  refine cV_Vw [] [] dX10_numbersChanged_11 yv_X4_forget ml_X10_85 (r := (RX4, TX4, 8)) rfl rfl (Nat.le_of_ble_eq_true rfl) rfl (Nat.le_of_ble_eq_true rfl) (Nat.le_of_ble_eq_true rfl) (Nat.le_of_ble_eq_true rfl) rfl h (fun K h => s_X4_forget hG h) (fun D11 h => ?_)
  exact p_return dX10_numbersChanged_14 (Nat.le_of_ble_eq_true rfl) (Nat.le_of_ble_eq_true rfl) ⟨rfl, rfl, ok_some h⟩
theorem s_X10_numbersChanged {l : Launch} {g : GH} (hG : G0 l g) {n : Nat} {D : DT} {K : DT → Prop} (h : ok (m_X10_numbersChanged D) K) : Sat l g yX10_numbersChanged cX10_numbersChanged 1 none 2 0 0 [vR g 0] (LF n) D (PVw n K) := Sat.of hG (by decide) (Nat.le_of_ble_eq_true rfl) (by simp [Value.category]) (x_X10_numbersChanged hG h)
abbrev E_X10_people (l : Launch) (g : GH) (P : PT) : ENV := mkE l g yX10_people cX10_people 5 (some .int) [] 9 3 18 P
set_option maxRecDepth 100000 in
set_option maxHeartbeats 4000000 in
theorem x_X10_people {l : Launch} {g : GH} (hG : G0 l g) {n : Nat} {v1 : Int} {v2 : Int} {v3 : Int} {D : DT} {K : ((Int ⊕ Nat) × DT) → Prop} (h : ok (m_X10_people v1 v2 v3 D) K) : Px (E_X10_people l g (PXw n K)) 0 [some (vR g 0), some (vI v1), some (vI v2), some (vI v3), none] [] (LF n) D 0 0 := by
  refine p_aload_n dX10_people_0 rfl ?_
  refine p_iload_n dX10_people_1 rfl ?_
  refine cV_Nr [vI v1] [] dX10_people_2 yv_X10_needZone ml_X10_107 (r := (RX10, TX10, 7)) rfl rfl (Nat.le_of_ble_eq_true rfl) rfl (Nat.le_of_ble_eq_true rfl) (Nat.le_of_ble_eq_true rfl) (Nat.le_of_ble_eq_true rfl) rfl h (fun K h => s_X10_needZone hG h) (fun e n h => px_out (Nat.le_of_ble_eq_true rfl) (Nat.le_of_ble_eq_true rfl) (Or.inr ⟨_, _, rfl, rfl, h⟩)) (fun h => ?_)
  refine p_aload_n dX10_people_5 rfl ?_
  refine p_iload_n dX10_people_6 rfl ?_
  refine cV_Nr [vI v2] [] dX10_people_7 yv_X10_needGroup ml_X10_142 (r := (RX10, TX10, 7)) rfl rfl (Nat.le_of_ble_eq_true rfl) rfl (Nat.le_of_ble_eq_true rfl) (Nat.le_of_ble_eq_true rfl) (Nat.le_of_ble_eq_true rfl) rfl h (fun K h => s_X10_needGroup hG h) (fun e n h => px_out (Nat.le_of_ble_eq_true rfl) (Nat.le_of_ble_eq_true rfl) (Or.inr ⟨_, _, rfl, rfl, h⟩)) (fun h => ?_)
  refine p_iload_n dX10_people_10 rfl ?_
  refine q_if_lt (tgt := 20) dX10_people_11 (by decide) h (fun h => ?_) (fun h => ?_)
  · exact p_throwS (e := 2) (i := 28) hG tw_2 (by decide) rfl rfl dX10_people_20 dX10_people_23 dX10_people_24 dX10_people_26 dX10_people_29 (Nat.le_of_ble_eq_true rfl) (Nat.le_of_ble_eq_true rfl) (Nat.le_of_ble_eq_true rfl) (Nat.le_of_ble_eq_true rfl) (fun n => Or.inr ⟨_, _, rfl, rfl, ok_some h⟩)
  · refine p_iload_n dX10_people_14 rfl ?_
    refine p_ldc (v := 99999) dX10_people_15 cw_X10_145 ?_
    refine q_icmp_le (tgt := 30) dX10_people_17 (by decide) h (fun h => ?_) (fun h => ?_)
    · refine p_aload_n dX10_people_30 rfl ?_
      refine p_getr dX10_people_31 fl_X10_10 (fun _ _ _ => rfl) rfl rfl ?_
      refine p_getr dX10_people_34 fl_X10_69 (fun _ _ _ => rfl) (wc_X5 wl_X5_1) (wf_X5_0 wl_X5_1) ?_
      refine p_iload_n dX10_people_37 rfl ?_
      refine p_iload_n dX10_people_38 rfl ?_
      refine cV_Ir [vI v1, vI v2] [] dX10_people_39 yv_X1_livingIn ml_X10_148 (r := (RX1, TX1, 11)) rfl rfl (Nat.le_of_ble_eq_true rfl) rfl (Nat.le_of_ble_eq_true rfl) (Nat.le_of_ble_eq_true rfl) (Nat.le_of_ble_eq_true rfl) (wc_X1 (wo_X5_0 wl_X5_1)) h (fun K h => s_X1_livingIn hG (wo_X5_0 wl_X5_1) h) (fun r39 h => ?_)
      refine p_istore dX10_people_42 (Nat.le_of_ble_eq_true rfl) rfl ?_
      refine p_aload_n dX10_people_44 rfl ?_
      refine p_getr dX10_people_45 fl_X10_10 (fun _ _ _ => rfl) rfl rfl ?_
      refine p_getr dX10_people_48 fl_X10_69 (fun _ _ _ => rfl) (wc_X5 wl_X5_1) (wf_X5_0 wl_X5_1) ?_
      refine p_iload_n dX10_people_51 rfl ?_
      refine p_iload_n dX10_people_52 rfl ?_
      refine p_iload_n dX10_people_53 rfl ?_
      refine cV_Vw [vI v1, vI v2, vI v3] [] dX10_people_54 yv_X1_settle ml_X10_152 (r := (RX1, TX1, 11)) rfl rfl (Nat.le_of_ble_eq_true rfl) rfl (Nat.le_of_ble_eq_true rfl) (Nat.le_of_ble_eq_true rfl) (Nat.le_of_ble_eq_true rfl) (wc_X1 (wo_X5_0 wl_X5_1)) h (fun K h => s_X1_settle hG (wo_X5_0 wl_X5_1) h) (fun D54 h => ?_)
      refine p_aload_n dX10_people_57 rfl ?_
      refine cV_Vw [] [] dX10_people_58 yv_X10_numbersChanged ml_X10_156 (r := (RX10, TX10, 7)) rfl rfl (Nat.le_of_ble_eq_true rfl) rfl (Nat.le_of_ble_eq_true rfl) (Nat.le_of_ble_eq_true rfl) (Nat.le_of_ble_eq_true rfl) rfl h (fun K h => s_X10_numbersChanged hG h) (fun D58 h => ?_)
      refine p_iload dX10_people_61 rfl ?_
      exact p_ireturn dX10_people_63 (Nat.le_of_ble_eq_true rfl) (Nat.le_of_ble_eq_true rfl) (Or.inl ⟨_, rfl, rfl, ok_some h⟩)
    · exact p_throwS (e := 2) (i := 28) hG tw_2 (by decide) rfl rfl dX10_people_20 dX10_people_23 dX10_people_24 dX10_people_26 dX10_people_29 (Nat.le_of_ble_eq_true rfl) (Nat.le_of_ble_eq_true rfl) (Nat.le_of_ble_eq_true rfl) (Nat.le_of_ble_eq_true rfl) (fun n => Or.inr ⟨_, _, rfl, rfl, ok_some h⟩)
theorem s_X10_people {l : Launch} {g : GH} (hG : G0 l g) {n : Nat} {v1 : Int} {v2 : Int} {v3 : Int} {D : DT} {K : ((Int ⊕ Nat) × DT) → Prop} (h : ok (m_X10_people v1 v2 v3 D) K) : Sat l g yX10_people cX10_people 5 (some .int) 9 3 18 [vR g 0, vI v1, vI v2, vI v3] (LF n) D (PXw n K) := Sat.of hG (by decide) (Nat.le_of_ble_eq_true rfl) (by simp [Value.category]) (x_X10_people hG h)
abbrev E_X10_lives (l : Launch) (g : GH) (P : PT) : ENV := mkE l g yX10_lives cX10_lives 3 (some .int) [] 9 2 12 P
set_option maxRecDepth 100000 in
set_option maxHeartbeats 4000000 in
theorem x_X10_lives {l : Launch} {g : GH} (hG : G0 l g) {n : Nat} {v1 : Int} {v2 : Int} {D : DT} {K : ((Int ⊕ Nat) × DT) → Prop} (h : ok (m_X10_lives v1 v2 D) K) : Px (E_X10_lives l g (PXw n K)) 0 [some (vR g 0), some (vI v1), some (vI v2)] [] (LF n) D 0 0 := by
  refine p_aload_n dX10_lives_0 rfl ?_
  refine p_iload_n dX10_lives_1 rfl ?_
  refine cV_Nr [vI v1] [] dX10_lives_2 yv_X10_needZone ml_X10_107 (r := (RX10, TX10, 7)) rfl rfl (Nat.le_of_ble_eq_true rfl) rfl (Nat.le_of_ble_eq_true rfl) (Nat.le_of_ble_eq_true rfl) (Nat.le_of_ble_eq_true rfl) rfl h (fun K h => s_X10_needZone hG h) (fun e n h => px_out (Nat.le_of_ble_eq_true rfl) (Nat.le_of_ble_eq_true rfl) (Or.inr ⟨_, _, rfl, rfl, h⟩)) (fun h => ?_)
  refine p_aload_n dX10_lives_5 rfl ?_
  refine p_iload_n dX10_lives_6 rfl ?_
  refine cV_Nr [vI v2] [] dX10_lives_7 yv_X10_needGroup ml_X10_142 (r := (RX10, TX10, 7)) rfl rfl (Nat.le_of_ble_eq_true rfl) rfl (Nat.le_of_ble_eq_true rfl) (Nat.le_of_ble_eq_true rfl) (Nat.le_of_ble_eq_true rfl) rfl h (fun K h => s_X10_needGroup hG h) (fun e n h => px_out (Nat.le_of_ble_eq_true rfl) (Nat.le_of_ble_eq_true rfl) (Or.inr ⟨_, _, rfl, rfl, h⟩)) (fun h => ?_)
  refine p_aload_n dX10_lives_10 rfl ?_
  refine p_getr dX10_lives_11 fl_X10_10 (fun _ _ _ => rfl) rfl rfl ?_
  refine p_getr dX10_lives_14 fl_X10_69 (fun _ _ _ => rfl) (wc_X5 wl_X5_1) (wf_X5_0 wl_X5_1) ?_
  refine p_iload_n dX10_lives_17 rfl ?_
  refine p_iload_n dX10_lives_18 rfl ?_
  refine cV_Ir [vI v1, vI v2] [] dX10_lives_19 yv_X1_livingIn ml_X10_148 (r := (RX1, TX1, 11)) rfl rfl (Nat.le_of_ble_eq_true rfl) rfl (Nat.le_of_ble_eq_true rfl) (Nat.le_of_ble_eq_true rfl) (Nat.le_of_ble_eq_true rfl) (wc_X1 (wo_X5_0 wl_X5_1)) h (fun K h => s_X1_livingIn hG (wo_X5_0 wl_X5_1) h) (fun r19 h => ?_)
  exact p_ireturn dX10_lives_22 (Nat.le_of_ble_eq_true rfl) (Nat.le_of_ble_eq_true rfl) (Or.inl ⟨_, rfl, rfl, ok_some h⟩)
theorem s_X10_lives {l : Launch} {g : GH} (hG : G0 l g) {n : Nat} {v1 : Int} {v2 : Int} {D : DT} {K : ((Int ⊕ Nat) × DT) → Prop} (h : ok (m_X10_lives v1 v2 D) K) : Sat l g yX10_lives cX10_lives 3 (some .int) 9 2 12 [vR g 0, vI v1, vI v2] (LF n) D (PXw n K) := Sat.of hG (by decide) (Nat.le_of_ble_eq_true rfl) (by simp [Value.category]) (x_X10_lives hG h)
abbrev E_X10_landChanged (l : Launch) (g : GH) (P : PT) : ENV := mkE l g yX10_landChanged cX10_landChanged 2 none [] 3 0 0 P
set_option maxRecDepth 100000 in
set_option maxHeartbeats 4000000 in
theorem x_X10_landChanged {l : Launch} {g : GH} (hG : G0 l g) {n : Nat} {v1 : Int} {D : DT} {K : DT → Prop} (h : ok (m_X10_landChanged v1 D) K) : Px (E_X10_landChanged l g (PVw n K)) 0 [some (vR g 0), some (vI v1)] [] (LF n) D 0 0 := by
  refine p_aload_n dX10_landChanged_0 rfl ?_
  refine p_getr dX10_landChanged_1 fl_X10_10 (fun _ _ _ => rfl) rfl rfl ?_
  refine p_iload_n dX10_landChanged_4 rfl ?_
  refine cV_Vw [vI v1] [] dX10_landChanged_5 yv_X5_landChanged ml_X10_247 (r := (RX5, TX5, 6)) rfl rfl (Nat.le_of_ble_eq_true rfl) rfl (Nat.le_of_ble_eq_true rfl) (Nat.le_of_ble_eq_true rfl) (Nat.le_of_ble_eq_true rfl) (wc_X5 wl_X5_1) h (fun K h => s_X5_landChanged hG wl_X5_1 h) (fun D5 h => ?_)
  refine p_aload_n dX10_landChanged_8 rfl ?_
  refine p_getr dX10_landChanged_9 fl_X10_47 (fun _ _ _ => rfl) rfl rfl ?_
  refine cV_Vw [] [] dX10_landChanged_12 yv_X4_forget ml_X10_85 (r := (RX4, TX4, 8)) rfl rfl (Nat.le_of_ble_eq_true rfl) rfl (Nat.le_of_ble_eq_true rfl) (Nat.le_of_ble_eq_true rfl) (Nat.le_of_ble_eq_true rfl) rfl h (fun K h => s_X4_forget hG h) (fun D12 h => ?_)
  exact p_return dX10_landChanged_15 (Nat.le_of_ble_eq_true rfl) (Nat.le_of_ble_eq_true rfl) ⟨rfl, rfl, ok_some h⟩
theorem s_X10_landChanged {l : Launch} {g : GH} (hG : G0 l g) {n : Nat} {v1 : Int} {D : DT} {K : DT → Prop} (h : ok (m_X10_landChanged v1 D) K) : Sat l g yX10_landChanged cX10_landChanged 2 none 3 0 0 [vR g 0, vI v1] (LF n) D (PVw n K) := Sat.of hG (by decide) (Nat.le_of_ble_eq_true rfl) (by simp [Value.category]) (x_X10_landChanged hG h)
abbrev E_X10_flood (l : Launch) (g : GH) (P : PT) : ENV := mkE l g yX10_flood cX10_flood 3 (some .boolean) [] 9 1 6 P
set_option maxRecDepth 100000 in
set_option maxHeartbeats 4000000 in
theorem x_X10_flood {l : Launch} {g : GH} (hG : G0 l g) {n : Nat} {v1 : Int} {v2 : Int} {D : DT} {K : ((Int ⊕ Nat) × DT) → Prop} (h : ok (m_X10_flood v1 v2 D) K) : Px (E_X10_flood l g (PXw n K)) 0 [some (vR g 0), some (vI v1), some (vI v2)] [] (LF n) D 0 0 := by
  refine p_aload_n dX10_flood_0 rfl ?_
  refine p_iload_n dX10_flood_1 rfl ?_
  refine cV_Nr [vI v1] [] dX10_flood_2 yv_X10_needCell ml_X10_91 (r := (RX10, TX10, 7)) rfl rfl (Nat.le_of_ble_eq_true rfl) rfl (Nat.le_of_ble_eq_true rfl) (Nat.le_of_ble_eq_true rfl) (Nat.le_of_ble_eq_true rfl) rfl h (fun K h => s_X10_needCell hG h) (fun e n h => px_out (Nat.le_of_ble_eq_true rfl) (Nat.le_of_ble_eq_true rfl) (Or.inr ⟨_, _, rfl, rfl, h⟩)) (fun h => ?_)
  refine p_aload_n dX10_flood_5 rfl ?_
  refine p_getr dX10_flood_6 fl_X10_10 (fun _ _ _ => rfl) rfl rfl ?_
  refine p_getr dX10_flood_9 fl_X10_69 (fun _ _ _ => rfl) (wc_X5 wl_X5_1) (wf_X5_0 wl_X5_1) ?_
  refine p_getr dX10_flood_12 fl_X10_98 (fun _ _ _ => rfl) (wc_X1 (wo_X5_0 wl_X5_1)) (wf_X1_5 (wo_X5_0 wl_X5_1)) ?_
  refine p_iload_n dX10_flood_15 rfl ?_
  refine q_zald dX10_flood_16 (wa_X1_5 (wo_X5_0 wl_X5_1)) rfl h (fun h => ?_)
  refine p_iload_n dX10_flood_17 rfl ?_
  refine q_icmp_ne (tgt := 23) dX10_flood_18 (by decide) h (fun h => ?_) (fun h => ?_)
  · refine p_aload_n dX10_flood_23 rfl ?_
    refine p_getr dX10_flood_24 fl_X10_10 (fun _ _ _ => rfl) rfl rfl ?_
    refine p_getr dX10_flood_27 fl_X10_69 (fun _ _ _ => rfl) (wc_X5 wl_X5_1) (wf_X5_0 wl_X5_1) ?_
    refine p_getr dX10_flood_30 fl_X10_98 (fun _ _ _ => rfl) (wc_X1 (wo_X5_0 wl_X5_1)) (wf_X1_5 (wo_X5_0 wl_X5_1)) ?_
    refine p_iload_n dX10_flood_33 rfl ?_
    refine p_iload_n dX10_flood_34 rfl ?_
    refine q_zast dX10_flood_35 (wa_X1_5 (wo_X5_0 wl_X5_1)) rfl h (fun D35 h => ?_)
    refine p_aload_n dX10_flood_36 rfl ?_
    refine p_aload_n dX10_flood_37 rfl ?_
    refine p_getr dX10_flood_38 fl_X10_10 (fun _ _ _ => rfl) rfl rfl ?_
    refine p_getr dX10_flood_41 fl_X10_69 (fun _ _ _ => rfl) (wc_X5 wl_X5_1) (wf_X5_0 wl_X5_1) ?_
    refine p_getr dX10_flood_44 fl_X10_94 (fun _ _ _ => rfl) (wc_X1 (wo_X5_0 wl_X5_1)) (wf_X1_4 (wo_X5_0 wl_X5_1)) ?_
    refine p_iload_n dX10_flood_47 rfl ?_
    refine q_iald dX10_flood_48 (wa_X1_4 (wo_X5_0 wl_X5_1)) rfl h (fun h => ?_)
    refine cV_Vw [vI (D35.2 3 (Int.toNat v1))] [] dX10_flood_49 yv_X10_landChanged ml_X10_159 (r := (RX10, TX10, 7)) rfl rfl (Nat.le_of_ble_eq_true rfl) rfl (Nat.le_of_ble_eq_true rfl) (Nat.le_of_ble_eq_true rfl) (Nat.le_of_ble_eq_true rfl) rfl h (fun K h => s_X10_landChanged hG h) (fun D49 h => ?_)
    refine p_iconst dX10_flood_52 ?_
    exact p_zreturn dX10_flood_53 (Nat.le_of_ble_eq_true rfl) (Nat.le_of_ble_eq_true rfl) (Or.inr rfl) (Or.inl ⟨_, rfl, rfl, ok_some h⟩)
  · refine p_iconst dX10_flood_21 ?_
    exact p_zreturn dX10_flood_22 (Nat.le_of_ble_eq_true rfl) (Nat.le_of_ble_eq_true rfl) (Or.inl rfl) (Or.inl ⟨_, rfl, rfl, ok_some h⟩)
theorem s_X10_flood {l : Launch} {g : GH} (hG : G0 l g) {n : Nat} {v1 : Int} {v2 : Int} {D : DT} {K : ((Int ⊕ Nat) × DT) → Prop} (h : ok (m_X10_flood v1 v2 D) K) : Sat l g yX10_flood cX10_flood 3 (some .boolean) 9 1 6 [vR g 0, vI v1, vI v2] (LF n) D (PXw n K) := Sat.of hG (by decide) (Nat.le_of_ble_eq_true rfl) (by simp [Value.category]) (x_X10_flood hG h)
abbrev E_X10_unit (l : Launch) (g : GH) (P : PT) : ENV := mkE l g yX10_unit cX10_unit 3 (some .int) [] 8 1 6 P
set_option maxRecDepth 100000 in
set_option maxHeartbeats 4000000 in
theorem x_X10_unit {l : Launch} {g : GH} (hG : G0 l g) {n : Nat} {v1 : Int} {D : DT} {K : ((Int ⊕ Nat) × DT) → Prop} (h : ok (m_X10_unit v1 D) K) : Px (E_X10_unit l g (PXw n K)) 0 [some (vR g 0), some (vI v1), none] [] (LF n) D 0 0 := by
  refine p_iload_n dX10_unit_0 rfl ?_
  refine p_iconst dX10_unit_1 ?_
  refine q_icmp_lt (tgt := 12) dX10_unit_2 (by decide) h (fun h => ?_) (fun h => ?_)
  · exact p_throwS (e := 2) (i := 29) hG tw_2 (by decide) rfl rfl dX10_unit_12 dX10_unit_15 dX10_unit_16 dX10_unit_18 dX10_unit_21 (Nat.le_of_ble_eq_true rfl) (Nat.le_of_ble_eq_true rfl) (Nat.le_of_ble_eq_true rfl) (Nat.le_of_ble_eq_true rfl) (fun n => Or.inr ⟨_, _, rfl, rfl, ok_some h⟩)
  · refine p_iload_n dX10_unit_5 rfl ?_
    refine p_sipush dX10_unit_6 (by decide) ?_
    refine q_icmp_le (tgt := 22) dX10_unit_9 (by decide) h (fun h => ?_) (fun h => ?_)
    · refine p_aload_n dX10_unit_22 rfl ?_
      refine p_getr dX10_unit_23 fl_X10_10 (fun _ _ _ => rfl) rfl rfl ?_
      refine p_geti dX10_unit_26 fl_X10_164 (fun _ _ _ => rfl) (wc_X5 wl_X5_1) ?_
      refine p_istore_n dX10_unit_29 (Nat.le_of_ble_eq_true rfl) rfl ?_
      refine p_aload_n dX10_unit_30 rfl ?_
      refine p_getr dX10_unit_31 fl_X10_10 (fun _ _ _ => rfl) rfl rfl ?_
      refine p_iload_n dX10_unit_34 rfl ?_
      refine q_puti dX10_unit_35 fq_X10_164 rfl (wc_X5 wl_X5_1) h (fun D35 h => ?_)
      refine p_aload_n dX10_unit_38 rfl ?_
      refine cV_Vw [] [] dX10_unit_39 yv_X10_numbersChanged ml_X10_156 (r := (RX10, TX10, 7)) rfl rfl (Nat.le_of_ble_eq_true rfl) rfl (Nat.le_of_ble_eq_true rfl) (Nat.le_of_ble_eq_true rfl) (Nat.le_of_ble_eq_true rfl) rfl h (fun K h => s_X10_numbersChanged hG h) (fun D39 h => ?_)
      refine p_iload_n dX10_unit_42 rfl ?_
      exact p_ireturn dX10_unit_43 (Nat.le_of_ble_eq_true rfl) (Nat.le_of_ble_eq_true rfl) (Or.inl ⟨_, rfl, rfl, ok_some h⟩)
    · exact p_throwS (e := 2) (i := 29) hG tw_2 (by decide) rfl rfl dX10_unit_12 dX10_unit_15 dX10_unit_16 dX10_unit_18 dX10_unit_21 (Nat.le_of_ble_eq_true rfl) (Nat.le_of_ble_eq_true rfl) (Nat.le_of_ble_eq_true rfl) (Nat.le_of_ble_eq_true rfl) (fun n => Or.inr ⟨_, _, rfl, rfl, ok_some h⟩)
theorem s_X10_unit {l : Launch} {g : GH} (hG : G0 l g) {n : Nat} {v1 : Int} {D : DT} {K : ((Int ⊕ Nat) × DT) → Prop} (h : ok (m_X10_unit v1 D) K) : Sat l g yX10_unit cX10_unit 3 (some .int) 8 1 6 [vR g 0, vI v1] (LF n) D (PXw n K) := Sat.of hG (by decide) (Nat.le_of_ble_eq_true rfl) (by simp [Value.category]) (x_X10_unit hG h)
abbrev E_X10_factor (l : Launch) (g : GH) (P : PT) : ENV := mkE l g yX10_factor cX10_factor 3 (some .int) [] 8 1 6 P
set_option maxRecDepth 100000 in
set_option maxHeartbeats 4000000 in
theorem x_X10_factor {l : Launch} {g : GH} (hG : G0 l g) {n : Nat} {v1 : Int} {D : DT} {K : ((Int ⊕ Nat) × DT) → Prop} (h : ok (m_X10_factor v1 D) K) : Px (E_X10_factor l g (PXw n K)) 0 [some (vR g 0), some (vI v1), none] [] (LF n) D 0 0 := by
  refine p_iload_n dX10_factor_0 rfl ?_
  refine p_iconst dX10_factor_1 ?_
  refine q_icmp_lt (tgt := 11) dX10_factor_2 (by decide) h (fun h => ?_) (fun h => ?_)
  · exact p_throwS (e := 2) (i := 30) hG tw_2 (by decide) rfl rfl dX10_factor_11 dX10_factor_14 dX10_factor_15 dX10_factor_17 dX10_factor_20 (Nat.le_of_ble_eq_true rfl) (Nat.le_of_ble_eq_true rfl) (Nat.le_of_ble_eq_true rfl) (Nat.le_of_ble_eq_true rfl) (fun n => Or.inr ⟨_, _, rfl, rfl, ok_some h⟩)
  · refine p_iload_n dX10_factor_5 rfl ?_
    refine p_bipush dX10_factor_6 (by decide) ?_
    refine q_icmp_le (tgt := 21) dX10_factor_8 (by decide) h (fun h => ?_) (fun h => ?_)
    · refine p_aload_n dX10_factor_21 rfl ?_
      refine p_getr dX10_factor_22 fl_X10_10 (fun _ _ _ => rfl) rfl rfl ?_
      refine p_geti dX10_factor_25 fl_X10_169 (fun _ _ _ => rfl) (wc_X5 wl_X5_1) ?_
      refine p_istore_n dX10_factor_28 (Nat.le_of_ble_eq_true rfl) rfl ?_
      refine p_aload_n dX10_factor_29 rfl ?_
      refine p_getr dX10_factor_30 fl_X10_10 (fun _ _ _ => rfl) rfl rfl ?_
      refine p_iload_n dX10_factor_33 rfl ?_
      refine q_puti dX10_factor_34 fq_X10_169 rfl (wc_X5 wl_X5_1) h (fun D34 h => ?_)
      refine p_aload_n dX10_factor_37 rfl ?_
      refine cV_Vw [] [] dX10_factor_38 yv_X10_numbersChanged ml_X10_156 (r := (RX10, TX10, 7)) rfl rfl (Nat.le_of_ble_eq_true rfl) rfl (Nat.le_of_ble_eq_true rfl) (Nat.le_of_ble_eq_true rfl) (Nat.le_of_ble_eq_true rfl) rfl h (fun K h => s_X10_numbersChanged hG h) (fun D38 h => ?_)
      refine p_iload_n dX10_factor_41 rfl ?_
      exact p_ireturn dX10_factor_42 (Nat.le_of_ble_eq_true rfl) (Nat.le_of_ble_eq_true rfl) (Or.inl ⟨_, rfl, rfl, ok_some h⟩)
    · exact p_throwS (e := 2) (i := 30) hG tw_2 (by decide) rfl rfl dX10_factor_11 dX10_factor_14 dX10_factor_15 dX10_factor_17 dX10_factor_20 (Nat.le_of_ble_eq_true rfl) (Nat.le_of_ble_eq_true rfl) (Nat.le_of_ble_eq_true rfl) (Nat.le_of_ble_eq_true rfl) (fun n => Or.inr ⟨_, _, rfl, rfl, ok_some h⟩)
theorem s_X10_factor {l : Launch} {g : GH} (hG : G0 l g) {n : Nat} {v1 : Int} {D : DT} {K : ((Int ⊕ Nat) × DT) → Prop} (h : ok (m_X10_factor v1 D) K) : Sat l g yX10_factor cX10_factor 3 (some .int) 8 1 6 [vR g 0, vI v1] (LF n) D (PXw n K) := Sat.of hG (by decide) (Nat.le_of_ble_eq_true rfl) (by simp [Value.category]) (x_X10_factor hG h)
abbrev E_X10_order (l : Launch) (g : GH) (P : PT) : ENV := mkE l g yX10_order cX10_order 3 (some .int) [] 9 1 6 P
set_option maxRecDepth 100000 in
set_option maxHeartbeats 4000000 in
theorem x_X10_order {l : Launch} {g : GH} (hG : G0 l g) {n : Nat} {v1 : Int} {v2 : Int} {D : DT} {K : ((Int ⊕ Nat) × DT) → Prop} (h : ok (m_X10_order v1 v2 D) K) : Px (E_X10_order l g (PXw n K)) 0 [some (vR g 0), some (vI v1), some (vI v2)] [] (LF n) D 0 0 := by
  refine p_aload_n dX10_order_0 rfl ?_
  refine p_iload_n dX10_order_1 rfl ?_
  refine cV_Nr [vI v1] [] dX10_order_2 yv_X10_needZone ml_X10_107 (r := (RX10, TX10, 7)) rfl rfl (Nat.le_of_ble_eq_true rfl) rfl (Nat.le_of_ble_eq_true rfl) (Nat.le_of_ble_eq_true rfl) (Nat.le_of_ble_eq_true rfl) rfl h (fun K h => s_X10_needZone hG h) (fun e n h => px_out (Nat.le_of_ble_eq_true rfl) (Nat.le_of_ble_eq_true rfl) (Or.inr ⟨_, _, rfl, rfl, h⟩)) (fun h => ?_)
  refine p_iload_n dX10_order_5 rfl ?_
  refine q_if_lt (tgt := 40) dX10_order_6 (by decide) h (fun h => ?_) (fun h => ?_)
  · refine p_iconst dX10_order_40 ?_
    exact p_ireturn dX10_order_41 (Nat.le_of_ble_eq_true rfl) (Nat.le_of_ble_eq_true rfl) (Or.inl ⟨_, rfl, rfl, ok_some h⟩)
  · refine p_iload_n dX10_order_9 rfl ?_
    refine p_aload_n dX10_order_10 rfl ?_
    refine p_getr dX10_order_11 fl_X10_10 (fun _ _ _ => rfl) rfl rfl ?_
    refine cV_Aw [] [vI v2] dX10_order_14 yv_X5_tallied ml_X10_172 (r := (RX5, TX5, 6)) rfl rfl (Nat.le_of_ble_eq_true rfl) rfl (Nat.le_of_ble_eq_true rfl) (Nat.le_of_ble_eq_true rfl) (Nat.le_of_ble_eq_true rfl) (wc_X5 wl_X5_1) h (fun K h => s_X5_tallied hG wl_X5_1 h) (fun D14 h => ?_)
    refine p_getr dX10_order_17 fl_X10_176 (fun _ _ _ => rfl) (wc_X8 (wo_X5_3 wl_X5_1)) (wf_X8_1 (wo_X5_3 wl_X5_1)) ?_
    refine p_iload_n dX10_order_20 rfl ?_
    refine q_iald dX10_order_21 (wa_X8_1 (wo_X5_3 wl_X5_1)) rfl h (fun h => ?_)
    refine q_icmp_ge (tgt := 40) dX10_order_22 (by decide) h (fun h => ?_) (fun h => ?_)
    · refine p_iconst dX10_order_40 ?_
      exact p_ireturn dX10_order_41 (Nat.le_of_ble_eq_true rfl) (Nat.le_of_ble_eq_true rfl) (Or.inl ⟨_, rfl, rfl, ok_some h⟩)
    · refine p_aload_n dX10_order_25 rfl ?_
      refine p_getr dX10_order_26 fl_X10_10 (fun _ _ _ => rfl) rfl rfl ?_
      refine cV_Aw [] [] dX10_order_29 yv_X5_ranked ml_X10_181 (r := (RX5, TX5, 6)) rfl rfl (Nat.le_of_ble_eq_true rfl) rfl (Nat.le_of_ble_eq_true rfl) (Nat.le_of_ble_eq_true rfl) (Nat.le_of_ble_eq_true rfl) (wc_X5 wl_X5_1) h (fun K h => s_X5_ranked hG wl_X5_1 h) (fun D29 h => ?_)
      refine p_iload_n dX10_order_32 rfl ?_
      refine p_iload_n dX10_order_33 rfl ?_
      refine cV_Ir [vI v1, vI v2] [] dX10_order_34 yv_X6_cellAt ml_X10_185 (r := (RX6, TX6, 9)) rfl rfl (Nat.le_of_ble_eq_true rfl) rfl (Nat.le_of_ble_eq_true rfl) (Nat.le_of_ble_eq_true rfl) (Nat.le_of_ble_eq_true rfl) (wc_X6 (wo_X5_4 wl_X5_1)) h (fun K h => s_X6_cellAt hG (wo_X5_4 wl_X5_1) h) (fun r34 h => ?_)
      refine p_goto (tgt := 41) dX10_order_37 (by decide) ?_
      exact p_ireturn dX10_order_41 (Nat.le_of_ble_eq_true rfl) (Nat.le_of_ble_eq_true rfl) (Or.inl ⟨_, rfl, rfl, ok_some h⟩)
theorem s_X10_order {l : Launch} {g : GH} (hG : G0 l g) {n : Nat} {v1 : Int} {v2 : Int} {D : DT} {K : ((Int ⊕ Nat) × DT) → Prop} (h : ok (m_X10_order v1 v2 D) K) : Sat l g yX10_order cX10_order 3 (some .int) 9 1 6 [vR g 0, vI v1, vI v2] (LF n) D (PXw n K) := Sat.of hG (by decide) (Nat.le_of_ble_eq_true rfl) (by simp [Value.category]) (x_X10_order hG h)
abbrev E_X10_stands (l : Launch) (g : GH) (P : PT) : ENV := mkE l g yX10_stands cX10_stands 2 (some .int) [] 9 1 6 P
set_option maxRecDepth 100000 in
set_option maxHeartbeats 4000000 in
theorem x_X10_stands {l : Launch} {g : GH} (hG : G0 l g) {n : Nat} {v1 : Int} {D : DT} {K : ((Int ⊕ Nat) × DT) → Prop} (h : ok (m_X10_stands v1 D) K) : Px (E_X10_stands l g (PXw n K)) 0 [some (vR g 0), some (vI v1)] [] (LF n) D 0 0 := by
  refine p_aload_n dX10_stands_0 rfl ?_
  refine p_iload_n dX10_stands_1 rfl ?_
  refine cV_Nr [vI v1] [] dX10_stands_2 yv_X10_needCell ml_X10_91 (r := (RX10, TX10, 7)) rfl rfl (Nat.le_of_ble_eq_true rfl) rfl (Nat.le_of_ble_eq_true rfl) (Nat.le_of_ble_eq_true rfl) (Nat.le_of_ble_eq_true rfl) rfl h (fun K h => s_X10_needCell hG h) (fun e n h => px_out (Nat.le_of_ble_eq_true rfl) (Nat.le_of_ble_eq_true rfl) (Or.inr ⟨_, _, rfl, rfl, h⟩)) (fun h => ?_)
  refine p_aload_n dX10_stands_5 rfl ?_
  refine p_getr dX10_stands_6 fl_X10_10 (fun _ _ _ => rfl) rfl rfl ?_
  refine cV_Aw [] [] dX10_stands_9 yv_X5_ranked ml_X10_181 (r := (RX5, TX5, 6)) rfl rfl (Nat.le_of_ble_eq_true rfl) rfl (Nat.le_of_ble_eq_true rfl) (Nat.le_of_ble_eq_true rfl) (Nat.le_of_ble_eq_true rfl) (wc_X5 wl_X5_1) h (fun K h => s_X5_ranked hG wl_X5_1 h) (fun D9 h => ?_)
  refine p_getr dX10_stands_12 fl_X10_190 (fun _ _ _ => rfl) (wc_X6 (wo_X5_4 wl_X5_1)) (wf_X6_0 (wo_X5_4 wl_X5_1)) ?_
  refine p_iload_n dX10_stands_15 rfl ?_
  refine q_iald dX10_stands_16 (wa_X6_0 (wo_X5_4 wl_X5_1)) rfl h (fun h => ?_)
  exact p_ireturn dX10_stands_17 (Nat.le_of_ble_eq_true rfl) (Nat.le_of_ble_eq_true rfl) (Or.inl ⟨_, rfl, rfl, ok_some h⟩)
theorem s_X10_stands {l : Launch} {g : GH} (hG : G0 l g) {n : Nat} {v1 : Int} {D : DT} {K : ((Int ⊕ Nat) × DT) → Prop} (h : ok (m_X10_stands v1 D) K) : Sat l g yX10_stands cX10_stands 2 (some .int) 9 1 6 [vR g 0, vI v1] (LF n) D (PXw n K) := Sat.of hG (by decide) (Nat.le_of_ble_eq_true rfl) (by simp [Value.category]) (x_X10_stands hG h)
abbrev E_X10_needLevel (l : Launch) (g : GH) (P : PT) : ENV := mkE l g yX10_needLevel cX10_needLevel 2 none [] 8 1 6 P
set_option maxRecDepth 100000 in
set_option maxHeartbeats 4000000 in
theorem x_X10_needLevel {l : Launch} {g : GH} (hG : G0 l g) {n : Nat} {v1 : Int} {D : DT} {K : (Unit ⊕ Nat) → Prop} (h : ok (m_X10_needLevel v1 D) K) : Px (E_X10_needLevel l g (PNr n D K)) 0 [some (vR g 0), some (vI v1)] [] (LF n) D 0 0 := by
  refine p_iload_n dX10_needLevel_0 rfl ?_
  refine q_if_lt (tgt := 9) dX10_needLevel_1 (by decide) h (fun h => ?_) (fun h => ?_)
  · exact p_throwW (e := 0) (i := 31) hG tw_0 (by decide) rfl rfl dX10_needLevel_9 dX10_needLevel_12 dX10_needLevel_13 dX10_needLevel_16 dX10_needLevel_19 (Nat.le_of_ble_eq_true rfl) (Nat.le_of_ble_eq_true rfl) (Nat.le_of_ble_eq_true rfl) (Nat.le_of_ble_eq_true rfl) (fun n => ⟨rfl, Or.inr ⟨_, _, rfl, rfl, ok_some h⟩⟩)
  · refine p_iload_n dX10_needLevel_4 rfl ?_
    refine p_iconst dX10_needLevel_5 ?_
    refine q_icmp_lt (tgt := 20) dX10_needLevel_6 (by decide) h (fun h => ?_) (fun h => ?_)
    · exact p_return dX10_needLevel_20 (Nat.le_of_ble_eq_true rfl) (Nat.le_of_ble_eq_true rfl) ⟨rfl, Or.inl ⟨rfl, rfl, ok_some h⟩⟩
    · exact p_throwW (e := 0) (i := 31) hG tw_0 (by decide) rfl rfl dX10_needLevel_9 dX10_needLevel_12 dX10_needLevel_13 dX10_needLevel_16 dX10_needLevel_19 (Nat.le_of_ble_eq_true rfl) (Nat.le_of_ble_eq_true rfl) (Nat.le_of_ble_eq_true rfl) (Nat.le_of_ble_eq_true rfl) (fun n => ⟨rfl, Or.inr ⟨_, _, rfl, rfl, ok_some h⟩⟩)
theorem s_X10_needLevel {l : Launch} {g : GH} (hG : G0 l g) {n : Nat} {v1 : Int} {D : DT} {K : (Unit ⊕ Nat) → Prop} (h : ok (m_X10_needLevel v1 D) K) : Sat l g yX10_needLevel cX10_needLevel 2 none 8 1 6 [vR g 0, vI v1] (LF n) D (PNr n D K) := Sat.of hG (by decide) (Nat.le_of_ble_eq_true rfl) (by simp [Value.category]) (x_X10_needLevel hG h)
abbrev E_X10_dots (l : Launch) (g : GH) (P : PT) : ENV := mkE l g yX10_dots cX10_dots 4 (some .int) [] 9 3 18 P
set_option maxRecDepth 100000 in
set_option maxHeartbeats 4000000 in
theorem x_X10_dots {l : Launch} {g : GH} (hG : G0 l g) {n : Nat} {v1 : Int} {v2 : Int} {v3 : Int} {D : DT} {K : ((Int ⊕ Nat) × DT) → Prop} (h : ok (m_X10_dots v1 v2 v3 D) K) : Px (E_X10_dots l g (PXw n K)) 0 [some (vR g 0), some (vI v1), some (vI v2), some (vI v3)] [] (LF n) D 0 0 := by
  refine p_aload_n dX10_dots_0 rfl ?_
  refine p_iload_n dX10_dots_1 rfl ?_
  refine cV_Nr [vI v1] [] dX10_dots_2 yv_X10_needZone ml_X10_107 (r := (RX10, TX10, 7)) rfl rfl (Nat.le_of_ble_eq_true rfl) rfl (Nat.le_of_ble_eq_true rfl) (Nat.le_of_ble_eq_true rfl) (Nat.le_of_ble_eq_true rfl) rfl h (fun K h => s_X10_needZone hG h) (fun e n h => px_out (Nat.le_of_ble_eq_true rfl) (Nat.le_of_ble_eq_true rfl) (Or.inr ⟨_, _, rfl, rfl, h⟩)) (fun h => ?_)
  refine p_aload_n dX10_dots_5 rfl ?_
  refine p_iload_n dX10_dots_6 rfl ?_
  refine cV_Nr [vI v2] [] dX10_dots_7 yv_X10_needGroup ml_X10_142 (r := (RX10, TX10, 7)) rfl rfl (Nat.le_of_ble_eq_true rfl) rfl (Nat.le_of_ble_eq_true rfl) (Nat.le_of_ble_eq_true rfl) (Nat.le_of_ble_eq_true rfl) rfl h (fun K h => s_X10_needGroup hG h) (fun e n h => px_out (Nat.le_of_ble_eq_true rfl) (Nat.le_of_ble_eq_true rfl) (Or.inr ⟨_, _, rfl, rfl, h⟩)) (fun h => ?_)
  refine p_aload_n dX10_dots_10 rfl ?_
  refine p_iload_n dX10_dots_11 rfl ?_
  refine cV_Nr [vI v3] [] dX10_dots_12 yv_X10_needLevel ml_X10_193 (r := (RX10, TX10, 7)) rfl rfl (Nat.le_of_ble_eq_true rfl) rfl (Nat.le_of_ble_eq_true rfl) (Nat.le_of_ble_eq_true rfl) (Nat.le_of_ble_eq_true rfl) rfl h (fun K h => s_X10_needLevel hG h) (fun e n h => px_out (Nat.le_of_ble_eq_true rfl) (Nat.le_of_ble_eq_true rfl) (Or.inr ⟨_, _, rfl, rfl, h⟩)) (fun h => ?_)
  refine p_aload_n dX10_dots_15 rfl ?_
  refine p_getr dX10_dots_16 fl_X10_10 (fun _ _ _ => rfl) rfl rfl ?_
  refine cV_Aw [] [] dX10_dots_19 yv_X5_tallied ml_X10_172 (r := (RX5, TX5, 6)) rfl rfl (Nat.le_of_ble_eq_true rfl) rfl (Nat.le_of_ble_eq_true rfl) (Nat.le_of_ble_eq_true rfl) (Nat.le_of_ble_eq_true rfl) (wc_X5 wl_X5_1) h (fun K h => s_X5_tallied hG wl_X5_1 h) (fun D19 h => ?_)
  refine p_iload_n dX10_dots_22 rfl ?_
  refine p_iload_n dX10_dots_23 rfl ?_
  refine p_iload_n dX10_dots_24 rfl ?_
  refine cV_Ir [vI v1, vI v2, vI v3] [] dX10_dots_25 yv_X8_dotsOf ml_X10_196 (r := (RX8, TX8, 7)) rfl rfl (Nat.le_of_ble_eq_true rfl) rfl (Nat.le_of_ble_eq_true rfl) (Nat.le_of_ble_eq_true rfl) (Nat.le_of_ble_eq_true rfl) (wc_X8 (wo_X5_3 wl_X5_1)) h (fun K h => s_X8_dotsOf hG (wo_X5_3 wl_X5_1) h) (fun r25 h => ?_)
  exact p_ireturn dX10_dots_28 (Nat.le_of_ble_eq_true rfl) (Nat.le_of_ble_eq_true rfl) (Or.inl ⟨_, rfl, rfl, ok_some h⟩)
theorem s_X10_dots {l : Launch} {g : GH} (hG : G0 l g) {n : Nat} {v1 : Int} {v2 : Int} {v3 : Int} {D : DT} {K : ((Int ⊕ Nat) × DT) → Prop} (h : ok (m_X10_dots v1 v2 v3 D) K) : Sat l g yX10_dots cX10_dots 4 (some .int) 9 3 18 [vR g 0, vI v1, vI v2, vI v3] (LF n) D (PXw n K) := Sat.of hG (by decide) (Nat.le_of_ble_eq_true rfl) (by simp [Value.category]) (x_X10_dots hG h)
abbrev E_X10_carried (l : Launch) (g : GH) (P : PT) : ENV := mkE l g yX10_carried cX10_carried 4 (some .int) [] 9 3 18 P
set_option maxRecDepth 100000 in
set_option maxHeartbeats 4000000 in
theorem x_X10_carried {l : Launch} {g : GH} (hG : G0 l g) {n : Nat} {v1 : Int} {v2 : Int} {v3 : Int} {D : DT} {K : ((Int ⊕ Nat) × DT) → Prop} (h : ok (m_X10_carried v1 v2 v3 D) K) : Px (E_X10_carried l g (PXw n K)) 0 [some (vR g 0), some (vI v1), some (vI v2), some (vI v3)] [] (LF n) D 0 0 := by
  refine p_aload_n dX10_carried_0 rfl ?_
  refine p_iload_n dX10_carried_1 rfl ?_
  refine cV_Nr [vI v1] [] dX10_carried_2 yv_X10_needZone ml_X10_107 (r := (RX10, TX10, 7)) rfl rfl (Nat.le_of_ble_eq_true rfl) rfl (Nat.le_of_ble_eq_true rfl) (Nat.le_of_ble_eq_true rfl) (Nat.le_of_ble_eq_true rfl) rfl h (fun K h => s_X10_needZone hG h) (fun e n h => px_out (Nat.le_of_ble_eq_true rfl) (Nat.le_of_ble_eq_true rfl) (Or.inr ⟨_, _, rfl, rfl, h⟩)) (fun h => ?_)
  refine p_aload_n dX10_carried_5 rfl ?_
  refine p_iload_n dX10_carried_6 rfl ?_
  refine cV_Nr [vI v2] [] dX10_carried_7 yv_X10_needGroup ml_X10_142 (r := (RX10, TX10, 7)) rfl rfl (Nat.le_of_ble_eq_true rfl) rfl (Nat.le_of_ble_eq_true rfl) (Nat.le_of_ble_eq_true rfl) (Nat.le_of_ble_eq_true rfl) rfl h (fun K h => s_X10_needGroup hG h) (fun e n h => px_out (Nat.le_of_ble_eq_true rfl) (Nat.le_of_ble_eq_true rfl) (Or.inr ⟨_, _, rfl, rfl, h⟩)) (fun h => ?_)
  refine p_aload_n dX10_carried_10 rfl ?_
  refine p_iload_n dX10_carried_11 rfl ?_
  refine cV_Nr [vI v3] [] dX10_carried_12 yv_X10_needLevel ml_X10_193 (r := (RX10, TX10, 7)) rfl rfl (Nat.le_of_ble_eq_true rfl) rfl (Nat.le_of_ble_eq_true rfl) (Nat.le_of_ble_eq_true rfl) (Nat.le_of_ble_eq_true rfl) rfl h (fun K h => s_X10_needLevel hG h) (fun e n h => px_out (Nat.le_of_ble_eq_true rfl) (Nat.le_of_ble_eq_true rfl) (Or.inr ⟨_, _, rfl, rfl, h⟩)) (fun h => ?_)
  refine p_aload_n dX10_carried_15 rfl ?_
  refine p_getr dX10_carried_16 fl_X10_10 (fun _ _ _ => rfl) rfl rfl ?_
  refine cV_Aw [] [] dX10_carried_19 yv_X5_tallied ml_X10_172 (r := (RX5, TX5, 6)) rfl rfl (Nat.le_of_ble_eq_true rfl) rfl (Nat.le_of_ble_eq_true rfl) (Nat.le_of_ble_eq_true rfl) (Nat.le_of_ble_eq_true rfl) (wc_X5 wl_X5_1) h (fun K h => s_X5_tallied hG wl_X5_1 h) (fun D19 h => ?_)
  refine p_iload_n dX10_carried_22 rfl ?_
  refine p_iload_n dX10_carried_23 rfl ?_
  refine p_iload_n dX10_carried_24 rfl ?_
  refine cV_Ir [vI v1, vI v2, vI v3] [] dX10_carried_25 yv_X8_broughtTo ml_X10_200 (r := (RX8, TX8, 7)) rfl rfl (Nat.le_of_ble_eq_true rfl) rfl (Nat.le_of_ble_eq_true rfl) (Nat.le_of_ble_eq_true rfl) (Nat.le_of_ble_eq_true rfl) (wc_X8 (wo_X5_3 wl_X5_1)) h (fun K h => s_X8_broughtTo hG (wo_X5_3 wl_X5_1) h) (fun r25 h => ?_)
  exact p_ireturn dX10_carried_28 (Nat.le_of_ble_eq_true rfl) (Nat.le_of_ble_eq_true rfl) (Or.inl ⟨_, rfl, rfl, ok_some h⟩)
theorem s_X10_carried {l : Launch} {g : GH} (hG : G0 l g) {n : Nat} {v1 : Int} {v2 : Int} {v3 : Int} {D : DT} {K : ((Int ⊕ Nat) × DT) → Prop} (h : ok (m_X10_carried v1 v2 v3 D) K) : Sat l g yX10_carried cX10_carried 4 (some .int) 9 3 18 [vR g 0, vI v1, vI v2, vI v3] (LF n) D (PXw n K) := Sat.of hG (by decide) (Nat.le_of_ble_eq_true rfl) (by simp [Value.category]) (x_X10_carried hG h)
abbrev E_X10_left (l : Launch) (g : GH) (P : PT) : ENV := mkE l g yX10_left cX10_left 3 (some .int) [] 9 2 12 P
set_option maxRecDepth 100000 in
set_option maxHeartbeats 4000000 in
theorem x_X10_left {l : Launch} {g : GH} (hG : G0 l g) {n : Nat} {v1 : Int} {v2 : Int} {D : DT} {K : ((Int ⊕ Nat) × DT) → Prop} (h : ok (m_X10_left v1 v2 D) K) : Px (E_X10_left l g (PXw n K)) 0 [some (vR g 0), some (vI v1), some (vI v2)] [] (LF n) D 0 0 := by
  refine p_aload_n dX10_left_0 rfl ?_
  refine p_iload_n dX10_left_1 rfl ?_
  refine cV_Nr [vI v1] [] dX10_left_2 yv_X10_needGroup ml_X10_142 (r := (RX10, TX10, 7)) rfl rfl (Nat.le_of_ble_eq_true rfl) rfl (Nat.le_of_ble_eq_true rfl) (Nat.le_of_ble_eq_true rfl) (Nat.le_of_ble_eq_true rfl) rfl h (fun K h => s_X10_needGroup hG h) (fun e n h => px_out (Nat.le_of_ble_eq_true rfl) (Nat.le_of_ble_eq_true rfl) (Or.inr ⟨_, _, rfl, rfl, h⟩)) (fun h => ?_)
  refine p_aload_n dX10_left_5 rfl ?_
  refine p_iload_n dX10_left_6 rfl ?_
  refine cV_Nr [vI v2] [] dX10_left_7 yv_X10_needLevel ml_X10_193 (r := (RX10, TX10, 7)) rfl rfl (Nat.le_of_ble_eq_true rfl) rfl (Nat.le_of_ble_eq_true rfl) (Nat.le_of_ble_eq_true rfl) (Nat.le_of_ble_eq_true rfl) rfl h (fun K h => s_X10_needLevel hG h) (fun e n h => px_out (Nat.le_of_ble_eq_true rfl) (Nat.le_of_ble_eq_true rfl) (Or.inr ⟨_, _, rfl, rfl, h⟩)) (fun h => ?_)
  refine p_aload_n dX10_left_10 rfl ?_
  refine p_getr dX10_left_11 fl_X10_10 (fun _ _ _ => rfl) rfl rfl ?_
  refine cV_Aw [] [] dX10_left_14 yv_X5_tallied ml_X10_172 (r := (RX5, TX5, 6)) rfl rfl (Nat.le_of_ble_eq_true rfl) rfl (Nat.le_of_ble_eq_true rfl) (Nat.le_of_ble_eq_true rfl) (Nat.le_of_ble_eq_true rfl) (wc_X5 wl_X5_1) h (fun K h => s_X5_tallied hG wl_X5_1 h) (fun D14 h => ?_)
  refine p_iload_n dX10_left_17 rfl ?_
  refine p_iload_n dX10_left_18 rfl ?_
  refine cV_Ir [vI v1, vI v2] [] dX10_left_19 yv_X8_restOf ml_X10_203 (r := (RX8, TX8, 7)) rfl rfl (Nat.le_of_ble_eq_true rfl) rfl (Nat.le_of_ble_eq_true rfl) (Nat.le_of_ble_eq_true rfl) (Nat.le_of_ble_eq_true rfl) (wc_X8 (wo_X5_3 wl_X5_1)) h (fun K h => s_X8_restOf hG (wo_X5_3 wl_X5_1) h) (fun r19 h => ?_)
  exact p_ireturn dX10_left_22 (Nat.le_of_ble_eq_true rfl) (Nat.le_of_ble_eq_true rfl) (Or.inl ⟨_, rfl, rfl, ok_some h⟩)
theorem s_X10_left {l : Launch} {g : GH} (hG : G0 l g) {n : Nat} {v1 : Int} {v2 : Int} {D : DT} {K : ((Int ⊕ Nat) × DT) → Prop} (h : ok (m_X10_left v1 v2 D) K) : Sat l g yX10_left cX10_left 3 (some .int) 9 2 12 [vR g 0, vI v1, vI v2] (LF n) D (PXw n K) := Sat.of hG (by decide) (Nat.le_of_ble_eq_true rfl) (by simp [Value.category]) (x_X10_left hG h)
abbrev E_X10_needGroupOrNone (l : Launch) (g : GH) (P : PT) : ENV := mkE l g yX10_needGroupOrNone cX10_needGroupOrNone 2 none [] 9 1 6 P
set_option maxRecDepth 100000 in
set_option maxHeartbeats 4000000 in
theorem x_X10_needGroupOrNone {l : Launch} {g : GH} (hG : G0 l g) {n : Nat} {v1 : Int} {D : DT} {K : (Unit ⊕ Nat) → Prop} (h : ok (m_X10_needGroupOrNone v1 D) K) : Px (E_X10_needGroupOrNone l g (PNr n D K)) 0 [some (vR g 0), some (vI v1)] [] (LF n) D 0 0 := by
  refine p_iload_n dX10_needGroupOrNone_0 rfl ?_
  refine p_iconst dX10_needGroupOrNone_1 ?_
  refine q_icmp_eq (tgt := 10) dX10_needGroupOrNone_2 (by decide) h (fun h => ?_) (fun h => ?_)
  · exact p_return dX10_needGroupOrNone_10 (Nat.le_of_ble_eq_true rfl) (Nat.le_of_ble_eq_true rfl) ⟨rfl, Or.inl ⟨rfl, rfl, ok_some h⟩⟩
  · refine p_aload_n dX10_needGroupOrNone_5 rfl ?_
    refine p_iload_n dX10_needGroupOrNone_6 rfl ?_
    refine cV_Mr [vI v1] [] dX10_needGroupOrNone_7 yv_X10_needGroup ml_X10_142 (r := (RX10, TX10, 7)) rfl rfl (Nat.le_of_ble_eq_true rfl) rfl (Nat.le_of_ble_eq_true rfl) (Nat.le_of_ble_eq_true rfl) (Nat.le_of_ble_eq_true rfl) rfl h (fun K h => s_X10_needGroup hG h) (fun e n h => px_out (Nat.le_of_ble_eq_true rfl) (Nat.le_of_ble_eq_true rfl) ⟨rfl, Or.inr ⟨_, _, rfl, rfl, h⟩⟩) (fun h => ?_)
    exact p_return dX10_needGroupOrNone_10 (Nat.le_of_ble_eq_true rfl) (Nat.le_of_ble_eq_true rfl) ⟨rfl, Or.inl ⟨rfl, rfl, ok_some h⟩⟩
theorem s_X10_needGroupOrNone {l : Launch} {g : GH} (hG : G0 l g) {n : Nat} {v1 : Int} {D : DT} {K : (Unit ⊕ Nat) → Prop} (h : ok (m_X10_needGroupOrNone v1 D) K) : Sat l g yX10_needGroupOrNone cX10_needGroupOrNone 2 none 9 1 6 [vR g 0, vI v1] (LF n) D (PNr n D K) := Sat.of hG (by decide) (Nat.le_of_ble_eq_true rfl) (by simp [Value.category]) (x_X10_needGroupOrNone hG h)
abbrev E_X10_all (l : Launch) (g : GH) (P : PT) : ENV := mkE l g yX10_all cX10_all 3 (some .int) [] 10 2 12 P
set_option maxRecDepth 100000 in
set_option maxHeartbeats 4000000 in
theorem x_X10_all {l : Launch} {g : GH} (hG : G0 l g) {n : Nat} {v1 : Int} {v2 : Int} {D : DT} {K : ((Int ⊕ Nat) × DT) → Prop} (h : ok (m_X10_all v1 v2 D) K) : Px (E_X10_all l g (PXw n K)) 0 [some (vR g 0), some (vI v1), some (vI v2)] [] (LF n) D 0 0 := by
  refine p_aload_n dX10_all_0 rfl ?_
  refine p_iload_n dX10_all_1 rfl ?_
  refine cV_Nr [vI v1] [] dX10_all_2 yv_X10_needGroupOrNone ml_X10_206 (r := (RX10, TX10, 7)) rfl rfl (Nat.le_of_ble_eq_true rfl) rfl (Nat.le_of_ble_eq_true rfl) (Nat.le_of_ble_eq_true rfl) (Nat.le_of_ble_eq_true rfl) rfl h (fun K h => s_X10_needGroupOrNone hG h) (fun e n h => px_out (Nat.le_of_ble_eq_true rfl) (Nat.le_of_ble_eq_true rfl) (Or.inr ⟨_, _, rfl, rfl, h⟩)) (fun h => ?_)
  refine p_aload_n dX10_all_5 rfl ?_
  refine p_iload_n dX10_all_6 rfl ?_
  refine cV_Nr [vI v2] [] dX10_all_7 yv_X10_needLevel ml_X10_193 (r := (RX10, TX10, 7)) rfl rfl (Nat.le_of_ble_eq_true rfl) rfl (Nat.le_of_ble_eq_true rfl) (Nat.le_of_ble_eq_true rfl) (Nat.le_of_ble_eq_true rfl) rfl h (fun K h => s_X10_needLevel hG h) (fun e n h => px_out (Nat.le_of_ble_eq_true rfl) (Nat.le_of_ble_eq_true rfl) (Or.inr ⟨_, _, rfl, rfl, h⟩)) (fun h => ?_)
  refine p_iload_n dX10_all_10 rfl ?_
  refine p_iconst dX10_all_11 ?_
  refine q_icmp_ne (tgt := 29) dX10_all_12 (by decide) h (fun h => ?_) (fun h => ?_)
  · refine p_aload_n dX10_all_29 rfl ?_
    refine p_getr dX10_all_30 fl_X10_10 (fun _ _ _ => rfl) rfl rfl ?_
    refine cV_Aw [] [] dX10_all_33 yv_X5_tallied ml_X10_172 (r := (RX5, TX5, 6)) rfl rfl (Nat.le_of_ble_eq_true rfl) rfl (Nat.le_of_ble_eq_true rfl) (Nat.le_of_ble_eq_true rfl) (Nat.le_of_ble_eq_true rfl) (wc_X5 wl_X5_1) h (fun K h => s_X5_tallied hG wl_X5_1 h) (fun D33 h => ?_)
    refine p_iload_n dX10_all_36 rfl ?_
    refine p_iload_n dX10_all_37 rfl ?_
    refine cV_Ir [vI v1, vI v2] [] dX10_all_38 yv_X8_sumOfGroup ml_X10_212 (r := (RX8, TX8, 7)) rfl rfl (Nat.le_of_ble_eq_true rfl) rfl (Nat.le_of_ble_eq_true rfl) (Nat.le_of_ble_eq_true rfl) (Nat.le_of_ble_eq_true rfl) (wc_X8 (wo_X5_3 wl_X5_1)) h (fun K h => s_X8_sumOfGroup hG (wo_X5_3 wl_X5_1) h) (fun r38 h => ?_)
    exact p_ireturn dX10_all_41 (Nat.le_of_ble_eq_true rfl) (Nat.le_of_ble_eq_true rfl) (Or.inl ⟨_, rfl, rfl, ok_some h⟩)
  · refine p_aload_n dX10_all_15 rfl ?_
    refine p_getr dX10_all_16 fl_X10_10 (fun _ _ _ => rfl) rfl rfl ?_
    refine cV_Aw [] [] dX10_all_19 yv_X5_tallied ml_X10_172 (r := (RX5, TX5, 6)) rfl rfl (Nat.le_of_ble_eq_true rfl) rfl (Nat.le_of_ble_eq_true rfl) (Nat.le_of_ble_eq_true rfl) (Nat.le_of_ble_eq_true rfl) (wc_X5 wl_X5_1) h (fun K h => s_X5_tallied hG wl_X5_1 h) (fun D19 h => ?_)
    refine p_iload_n dX10_all_22 rfl ?_
    refine cV_Ir [vI v2] [] dX10_all_23 yv_X8_sumOfLevel ml_X10_209 (r := (RX8, TX8, 7)) rfl rfl (Nat.le_of_ble_eq_true rfl) rfl (Nat.le_of_ble_eq_true rfl) (Nat.le_of_ble_eq_true rfl) (Nat.le_of_ble_eq_true rfl) (wc_X8 (wo_X5_3 wl_X5_1)) h (fun K h => s_X8_sumOfLevel hG (wo_X5_3 wl_X5_1) h) (fun r23 h => ?_)
    refine p_goto (tgt := 41) dX10_all_26 (by decide) ?_
    exact p_ireturn dX10_all_41 (Nat.le_of_ble_eq_true rfl) (Nat.le_of_ble_eq_true rfl) (Or.inl ⟨_, rfl, rfl, ok_some h⟩)
theorem s_X10_all {l : Launch} {g : GH} (hG : G0 l g) {n : Nat} {v1 : Int} {v2 : Int} {D : DT} {K : ((Int ⊕ Nat) × DT) → Prop} (h : ok (m_X10_all v1 v2 D) K) : Sat l g yX10_all cX10_all 3 (some .int) 10 2 12 [vR g 0, vI v1, vI v2] (LF n) D (PXw n K) := Sat.of hG (by decide) (Nat.le_of_ble_eq_true rfl) (by simp [Value.category]) (x_X10_all hG h)
abbrev E_X10_dot (l : Launch) (g : GH) (P : PT) : ENV := mkE l g yX10_dot cX10_dot 6 (some .int) [] 9 4 24 P
set_option maxRecDepth 100000 in
set_option maxHeartbeats 4000000 in
theorem x_X10_dot {l : Launch} {g : GH} (hG : G0 l g) {n : Nat} {v1 : Int} {v2 : Int} {v3 : Int} {v4 : Int} {D : DT} {K : ((Int ⊕ Nat) × DT) → Prop} (h : ok (m_X10_dot v1 v2 v3 v4 D) K) : Px (E_X10_dot l g (PXw n K)) 0 [some (vR g 0), some (vI v1), some (vI v2), some (vI v3), some (vI v4), none] [] (LF n) D 0 0 := by
  refine p_aload_n dX10_dot_0 rfl ?_
  refine p_iload_n dX10_dot_1 rfl ?_
  refine cV_Nr [vI v1] [] dX10_dot_2 yv_X10_needZone ml_X10_107 (r := (RX10, TX10, 7)) rfl rfl (Nat.le_of_ble_eq_true rfl) rfl (Nat.le_of_ble_eq_true rfl) (Nat.le_of_ble_eq_true rfl) (Nat.le_of_ble_eq_true rfl) rfl h (fun K h => s_X10_needZone hG h) (fun e n h => px_out (Nat.le_of_ble_eq_true rfl) (Nat.le_of_ble_eq_true rfl) (Or.inr ⟨_, _, rfl, rfl, h⟩)) (fun h => ?_)
  refine p_aload_n dX10_dot_5 rfl ?_
  refine p_iload_n dX10_dot_6 rfl ?_
  refine cV_Nr [vI v2] [] dX10_dot_7 yv_X10_needGroup ml_X10_142 (r := (RX10, TX10, 7)) rfl rfl (Nat.le_of_ble_eq_true rfl) rfl (Nat.le_of_ble_eq_true rfl) (Nat.le_of_ble_eq_true rfl) (Nat.le_of_ble_eq_true rfl) rfl h (fun K h => s_X10_needGroup hG h) (fun e n h => px_out (Nat.le_of_ble_eq_true rfl) (Nat.le_of_ble_eq_true rfl) (Or.inr ⟨_, _, rfl, rfl, h⟩)) (fun h => ?_)
  refine p_aload_n dX10_dot_10 rfl ?_
  refine p_iload_n dX10_dot_11 rfl ?_
  refine cV_Nr [vI v3] [] dX10_dot_12 yv_X10_needLevel ml_X10_193 (r := (RX10, TX10, 7)) rfl rfl (Nat.le_of_ble_eq_true rfl) rfl (Nat.le_of_ble_eq_true rfl) (Nat.le_of_ble_eq_true rfl) (Nat.le_of_ble_eq_true rfl) rfl h (fun K h => s_X10_needLevel hG h) (fun e n h => px_out (Nat.le_of_ble_eq_true rfl) (Nat.le_of_ble_eq_true rfl) (Or.inr ⟨_, _, rfl, rfl, h⟩)) (fun h => ?_)
  refine p_aload_n dX10_dot_15 rfl ?_
  refine p_getr dX10_dot_16 fl_X10_10 (fun _ _ _ => rfl) rfl rfl ?_
  refine cV_Aw [] [] dX10_dot_19 yv_X5_tallied ml_X10_172 (r := (RX5, TX5, 6)) rfl rfl (Nat.le_of_ble_eq_true rfl) rfl (Nat.le_of_ble_eq_true rfl) (Nat.le_of_ble_eq_true rfl) (Nat.le_of_ble_eq_true rfl) (wc_X5 wl_X5_1) h (fun K h => s_X5_tallied hG wl_X5_1 h) (fun D19 h => ?_)
  refine p_getr dX10_dot_22 fl_X10_176 (fun _ _ _ => rfl) (wc_X8 (wo_X5_3 wl_X5_1)) (wf_X8_1 (wo_X5_3 wl_X5_1)) ?_
  refine p_iload_n dX10_dot_25 rfl ?_
  refine q_iald dX10_dot_26 (wa_X8_1 (wo_X5_3 wl_X5_1)) rfl h (fun h => ?_)
  refine p_istore dX10_dot_27 (Nat.le_of_ble_eq_true rfl) rfl ?_
  refine p_iload dX10_dot_29 rfl ?_
  refine q_if_lt (tgt := 58) dX10_dot_31 (by decide) h (fun h => ?_) (fun h => ?_)
  · exact p_throwNS (i := 32) hG rfl (by decide) rfl rfl dX10_dot_58 dX10_dot_61 dX10_dot_62 dX10_dot_64 dX10_dot_67 (Nat.le_of_ble_eq_true rfl) (Nat.le_of_ble_eq_true rfl) (Nat.le_of_ble_eq_true rfl) (Nat.le_of_ble_eq_true rfl) (fun n => Or.inr ⟨_, _, rfl, rfl, ok_some h⟩)
  · refine p_iload dX10_dot_34 rfl ?_
    refine p_aload_n dX10_dot_36 rfl ?_
    refine p_getr dX10_dot_37 fl_X10_10 (fun _ _ _ => rfl) rfl rfl ?_
    refine cV_Aw [] [vI v4] dX10_dot_40 yv_X5_tallied ml_X10_172 (r := (RX5, TX5, 6)) rfl rfl (Nat.le_of_ble_eq_true rfl) rfl (Nat.le_of_ble_eq_true rfl) (Nat.le_of_ble_eq_true rfl) (Nat.le_of_ble_eq_true rfl) (wc_X5 wl_X5_1) h (fun K h => s_X5_tallied hG wl_X5_1 h) (fun D40 h => ?_)
    refine p_iload_n dX10_dot_43 rfl ?_
    refine p_iload_n dX10_dot_44 rfl ?_
    refine p_iload_n dX10_dot_45 rfl ?_
    refine cV_Ir [vI v1, vI v2, vI v3] [vI v4] dX10_dot_46 yv_X8_dotsOf ml_X10_196 (r := (RX8, TX8, 7)) rfl rfl (Nat.le_of_ble_eq_true rfl) rfl (Nat.le_of_ble_eq_true rfl) (Nat.le_of_ble_eq_true rfl) (Nat.le_of_ble_eq_true rfl) (wc_X8 (wo_X5_3 wl_X5_1)) h (fun K h => s_X8_dotsOf hG (wo_X5_3 wl_X5_1) h) (fun r46 h => ?_)
    refine q_icmp_ge (tgt := 58) dX10_dot_49 (by decide) h (fun h => ?_) (fun h => ?_)
    · exact p_throwNS (i := 32) hG rfl (by decide) rfl rfl dX10_dot_58 dX10_dot_61 dX10_dot_62 dX10_dot_64 dX10_dot_67 (Nat.le_of_ble_eq_true rfl) (Nat.le_of_ble_eq_true rfl) (Nat.le_of_ble_eq_true rfl) (Nat.le_of_ble_eq_true rfl) (fun n => Or.inr ⟨_, _, rfl, rfl, ok_some h⟩)
    · refine p_iload dX10_dot_52 rfl ?_
      refine p_iconst dX10_dot_54 ?_
      refine q_icmp_ge (tgt := 68) dX10_dot_55 (by decide) h (fun h => ?_) (fun h => ?_)
      · refine p_aload_n dX10_dot_68 rfl ?_
        refine p_getr dX10_dot_69 fl_X10_10 (fun _ _ _ => rfl) rfl rfl ?_
        refine cV_Aw [] [] dX10_dot_72 yv_X5_ranked ml_X10_181 (r := (RX5, TX5, 6)) rfl rfl (Nat.le_of_ble_eq_true rfl) rfl (Nat.le_of_ble_eq_true rfl) (Nat.le_of_ble_eq_true rfl) (Nat.le_of_ble_eq_true rfl) (wc_X5 wl_X5_1) h (fun K h => s_X5_ranked hG wl_X5_1 h) (fun D72 h => ?_)
        refine p_iload_n dX10_dot_75 rfl ?_
        refine p_iload dX10_dot_76 rfl ?_
        refine p_aload_n dX10_dot_78 rfl ?_
        refine p_getr dX10_dot_79 fl_X10_10 (fun _ _ _ => rfl) rfl rfl ?_
        refine p_getr dX10_dot_82 fl_X10_69 (fun _ _ _ => rfl) (wc_X5 wl_X5_1) (wf_X5_0 wl_X5_1) ?_
        refine p_geti dX10_dot_85 fl_X10_217 (fun _ _ _ => rfl) (wc_X1 (wo_X5_0 wl_X5_1)) ?_
        refine p_imul dX10_dot_88 ?_
        refine p_iload_n dX10_dot_89 rfl ?_
        refine p_iadd dX10_dot_90 ?_
        refine p_iload dX10_dot_91 rfl ?_
        refine q_irem dX10_dot_93 h (fun h => ?_)
        refine cV_Ir [vI v1, vI (((v4 * (D72.1 2 3)) + v2) % (D19.2 11 (Int.toNat v1)))] [] dX10_dot_94 yv_X6_cellAt ml_X10_185 (r := (RX6, TX6, 9)) rfl rfl (Nat.le_of_ble_eq_true rfl) rfl (Nat.le_of_ble_eq_true rfl) (Nat.le_of_ble_eq_true rfl) (Nat.le_of_ble_eq_true rfl) (wc_X6 (wo_X5_4 wl_X5_1)) h (fun K h => s_X6_cellAt hG (wo_X5_4 wl_X5_1) h) (fun r94 h => ?_)
        exact p_ireturn dX10_dot_97 (Nat.le_of_ble_eq_true rfl) (Nat.le_of_ble_eq_true rfl) (Or.inl ⟨_, rfl, rfl, ok_some h⟩)
      · exact p_throwNS (i := 32) hG rfl (by decide) rfl rfl dX10_dot_58 dX10_dot_61 dX10_dot_62 dX10_dot_64 dX10_dot_67 (Nat.le_of_ble_eq_true rfl) (Nat.le_of_ble_eq_true rfl) (Nat.le_of_ble_eq_true rfl) (Nat.le_of_ble_eq_true rfl) (fun n => Or.inr ⟨_, _, rfl, rfl, ok_some h⟩)
theorem s_X10_dot {l : Launch} {g : GH} (hG : G0 l g) {n : Nat} {v1 : Int} {v2 : Int} {v3 : Int} {v4 : Int} {D : DT} {K : ((Int ⊕ Nat) × DT) → Prop} (h : ok (m_X10_dot v1 v2 v3 v4 D) K) : Sat l g yX10_dot cX10_dot 6 (some .int) 9 4 24 [vR g 0, vI v1, vI v2, vI v3, vI v4] (LF n) D (PXw n K) := Sat.of hG (by decide) (Nat.le_of_ble_eq_true rfl) (by simp [Value.category]) (x_X10_dot hG h)
abbrev E_X10_crowd (l : Launch) (g : GH) (P : PT) : ENV := mkE l g yX10_crowd cX10_crowd 4 (some .int) [] 10 3 18 P
set_option maxRecDepth 100000 in
set_option maxHeartbeats 4000000 in
theorem x_X10_crowd {l : Launch} {g : GH} (hG : G0 l g) {n : Nat} {v1 : Int} {v2 : Int} {v3 : Int} {D : DT} {K : ((Int ⊕ Nat) × DT) → Prop} (h : ok (m_X10_crowd v1 v2 v3 D) K) : Px (E_X10_crowd l g (PXw n K)) 0 [some (vR g 0), some (vI v1), some (vI v2), some (vI v3)] [] (LF n) D 0 0 := by
  refine p_aload_n dX10_crowd_0 rfl ?_
  refine p_iload_n dX10_crowd_1 rfl ?_
  refine cV_Nr [vI v1] [] dX10_crowd_2 yv_X10_needCell ml_X10_91 (r := (RX10, TX10, 7)) rfl rfl (Nat.le_of_ble_eq_true rfl) rfl (Nat.le_of_ble_eq_true rfl) (Nat.le_of_ble_eq_true rfl) (Nat.le_of_ble_eq_true rfl) rfl h (fun K h => s_X10_needCell hG h) (fun e n h => px_out (Nat.le_of_ble_eq_true rfl) (Nat.le_of_ble_eq_true rfl) (Or.inr ⟨_, _, rfl, rfl, h⟩)) (fun h => ?_)
  refine p_aload_n dX10_crowd_5 rfl ?_
  refine p_iload_n dX10_crowd_6 rfl ?_
  refine cV_Nr [vI v2] [] dX10_crowd_7 yv_X10_needGroupOrNone ml_X10_206 (r := (RX10, TX10, 7)) rfl rfl (Nat.le_of_ble_eq_true rfl) rfl (Nat.le_of_ble_eq_true rfl) (Nat.le_of_ble_eq_true rfl) (Nat.le_of_ble_eq_true rfl) rfl h (fun K h => s_X10_needGroupOrNone hG h) (fun e n h => px_out (Nat.le_of_ble_eq_true rfl) (Nat.le_of_ble_eq_true rfl) (Or.inr ⟨_, _, rfl, rfl, h⟩)) (fun h => ?_)
  refine p_aload_n dX10_crowd_10 rfl ?_
  refine p_iload_n dX10_crowd_11 rfl ?_
  refine cV_Nr [vI v3] [] dX10_crowd_12 yv_X10_needLevel ml_X10_193 (r := (RX10, TX10, 7)) rfl rfl (Nat.le_of_ble_eq_true rfl) rfl (Nat.le_of_ble_eq_true rfl) (Nat.le_of_ble_eq_true rfl) (Nat.le_of_ble_eq_true rfl) rfl h (fun K h => s_X10_needLevel hG h) (fun e n h => px_out (Nat.le_of_ble_eq_true rfl) (Nat.le_of_ble_eq_true rfl) (Or.inr ⟨_, _, rfl, rfl, h⟩)) (fun h => ?_)
  refine p_aload_n dX10_crowd_15 rfl ?_
  refine p_getr dX10_crowd_16 fl_X10_10 (fun _ _ _ => rfl) rfl rfl ?_
  refine p_iload_n dX10_crowd_19 rfl ?_
  refine cV_Aw [vI v3] [] dX10_crowd_20 yv_X5_crowded ml_X10_220 (r := (RX5, TX5, 6)) rfl rfl (Nat.le_of_ble_eq_true rfl) rfl (Nat.le_of_ble_eq_true rfl) (Nat.le_of_ble_eq_true rfl) (Nat.le_of_ble_eq_true rfl) (wc_X5 wl_X5_1) h (fun K h => s_X5_crowded hG wl_X5_1 h) (fun D20 h => ?_)
  refine p_iload_n dX10_crowd_23 rfl ?_
  refine p_iload_n dX10_crowd_24 rfl ?_
  refine cV_Ir [vI v1, vI v2] [] dX10_crowd_25 yv_X2_weightOf ml_X10_224 (r := (RX2, TX2, 7)) rfl rfl (Nat.le_of_ble_eq_true rfl) rfl (Nat.le_of_ble_eq_true rfl) (Nat.le_of_ble_eq_true rfl) (Nat.le_of_ble_eq_true rfl) (wc_X2 (wo_X5_5 wl_X5_1)) h (fun K h => s_X2_weightOf hG (wo_X5_5 wl_X5_1) h) (fun r25 h => ?_)
  exact p_ireturn dX10_crowd_28 (Nat.le_of_ble_eq_true rfl) (Nat.le_of_ble_eq_true rfl) (Or.inl ⟨_, rfl, rfl, ok_some h⟩)
theorem s_X10_crowd {l : Launch} {g : GH} (hG : G0 l g) {n : Nat} {v1 : Int} {v2 : Int} {v3 : Int} {D : DT} {K : ((Int ⊕ Nat) × DT) → Prop} (h : ok (m_X10_crowd v1 v2 v3 D) K) : Sat l g yX10_crowd cX10_crowd 4 (some .int) 10 3 18 [vR g 0, vI v1, vI v2, vI v3] (LF n) D (PXw n K) := Sat.of hG (by decide) (Nat.le_of_ble_eq_true rfl) (by simp [Value.category]) (x_X10_crowd hG h)
abbrev E_X10_apart (l : Launch) (g : GH) (P : PT) : ENV := mkE l g yX10_apart cX10_apart 2 (some .int) [] 9 1 6 P
set_option maxRecDepth 100000 in
set_option maxHeartbeats 4000000 in
theorem x_X10_apart {l : Launch} {g : GH} (hG : G0 l g) {n : Nat} {v1 : Int} {D : DT} {K : ((Int ⊕ Nat) × DT) → Prop} (h : ok (m_X10_apart v1 D) K) : Px (E_X10_apart l g (PXw n K)) 0 [some (vR g 0), some (vI v1)] [] (LF n) D 0 0 := by
  refine p_aload_n dX10_apart_0 rfl ?_
  refine p_iload_n dX10_apart_1 rfl ?_
  refine cV_Nr [vI v1] [] dX10_apart_2 yv_X10_needLevel ml_X10_193 (r := (RX10, TX10, 7)) rfl rfl (Nat.le_of_ble_eq_true rfl) rfl (Nat.le_of_ble_eq_true rfl) (Nat.le_of_ble_eq_true rfl) (Nat.le_of_ble_eq_true rfl) rfl h (fun K h => s_X10_needLevel hG h) (fun e n h => px_out (Nat.le_of_ble_eq_true rfl) (Nat.le_of_ble_eq_true rfl) (Or.inr ⟨_, _, rfl, rfl, h⟩)) (fun h => ?_)
  refine p_aload_n dX10_apart_5 rfl ?_
  refine p_getr dX10_apart_6 fl_X10_10 (fun _ _ _ => rfl) rfl rfl ?_
  refine p_iload_n dX10_apart_9 rfl ?_
  refine cV_Aw [vI v1] [] dX10_apart_10 yv_X5_crowded ml_X10_220 (r := (RX5, TX5, 6)) rfl rfl (Nat.le_of_ble_eq_true rfl) rfl (Nat.le_of_ble_eq_true rfl) (Nat.le_of_ble_eq_true rfl) (Nat.le_of_ble_eq_true rfl) (wc_X5 wl_X5_1) h (fun K h => s_X5_crowded hG wl_X5_1 h) (fun D10 h => ?_)
  refine p_aload_n dX10_apart_13 rfl ?_
  refine p_getr dX10_apart_14 fl_X10_10 (fun _ _ _ => rfl) rfl rfl ?_
  refine p_getr dX10_apart_17 fl_X10_69 (fun _ _ _ => rfl) (wc_X5 wl_X5_1) (wf_X5_0 wl_X5_1) ?_
  refine cV_Ir [vR g 2] [] dX10_apart_20 yv_X2_leastGap ml_X10_229 (r := (RX2, TX2, 7)) rfl rfl (Nat.le_of_ble_eq_true rfl) rfl (Nat.le_of_ble_eq_true rfl) (Nat.le_of_ble_eq_true rfl) (Nat.le_of_ble_eq_true rfl) (wc_X2 (wo_X5_5 wl_X5_1)) h (fun K h => s_X2_leastGap hG (wo_X5_5 wl_X5_1) (wo_X5_0 wl_X5_1) h) (fun r20 h => ?_)
  exact p_ireturn dX10_apart_23 (Nat.le_of_ble_eq_true rfl) (Nat.le_of_ble_eq_true rfl) (Or.inl ⟨_, rfl, rfl, ok_some h⟩)
theorem s_X10_apart {l : Launch} {g : GH} (hG : G0 l g) {n : Nat} {v1 : Int} {D : DT} {K : ((Int ⊕ Nat) × DT) → Prop} (h : ok (m_X10_apart v1 D) K) : Sat l g yX10_apart cX10_apart 2 (some .int) 9 1 6 [vR g 0, vI v1] (LF n) D (PXw n K) := Sat.of hG (by decide) (Nat.le_of_ble_eq_true rfl) (by simp [Value.category]) (x_X10_apart hG h)
abbrev E_X10_off (l : Launch) (g : GH) (P : PT) : ENV := mkE l g yX10_off cX10_off 3 (some .int) [] 9 2 12 P
set_option maxRecDepth 100000 in
set_option maxHeartbeats 4000000 in
theorem x_X10_off {l : Launch} {g : GH} (hG : G0 l g) {n : Nat} {v1 : Int} {v2 : Int} {D : DT} {K : ((Int ⊕ Nat) × DT) → Prop} (h : ok (m_X10_off v1 v2 D) K) : Px (E_X10_off l g (PXw n K)) 0 [some (vR g 0), some (vI v1), some (vI v2)] [] (LF n) D 0 0 := by
  refine p_aload_n dX10_off_0 rfl ?_
  refine p_iload_n dX10_off_1 rfl ?_
  refine cV_Nr [vI v1] [] dX10_off_2 yv_X10_needZone ml_X10_107 (r := (RX10, TX10, 7)) rfl rfl (Nat.le_of_ble_eq_true rfl) rfl (Nat.le_of_ble_eq_true rfl) (Nat.le_of_ble_eq_true rfl) (Nat.le_of_ble_eq_true rfl) rfl h (fun K h => s_X10_needZone hG h) (fun e n h => px_out (Nat.le_of_ble_eq_true rfl) (Nat.le_of_ble_eq_true rfl) (Or.inr ⟨_, _, rfl, rfl, h⟩)) (fun h => ?_)
  refine p_aload_n dX10_off_5 rfl ?_
  refine p_iload_n dX10_off_6 rfl ?_
  refine cV_Nr [vI v2] [] dX10_off_7 yv_X10_needGroup ml_X10_142 (r := (RX10, TX10, 7)) rfl rfl (Nat.le_of_ble_eq_true rfl) rfl (Nat.le_of_ble_eq_true rfl) (Nat.le_of_ble_eq_true rfl) (Nat.le_of_ble_eq_true rfl) rfl h (fun K h => s_X10_needGroup hG h) (fun e n h => px_out (Nat.le_of_ble_eq_true rfl) (Nat.le_of_ble_eq_true rfl) (Or.inr ⟨_, _, rfl, rfl, h⟩)) (fun h => ?_)
  refine p_aload_n dX10_off_10 rfl ?_
  refine p_getr dX10_off_11 fl_X10_10 (fun _ _ _ => rfl) rfl rfl ?_
  refine cV_Aw [] [] dX10_off_14 yv_X5_tallied ml_X10_172 (r := (RX5, TX5, 6)) rfl rfl (Nat.le_of_ble_eq_true rfl) rfl (Nat.le_of_ble_eq_true rfl) (Nat.le_of_ble_eq_true rfl) (Nat.le_of_ble_eq_true rfl) (wc_X5 wl_X5_1) h (fun K h => s_X5_tallied hG wl_X5_1 h) (fun D14 h => ?_)
  refine p_iload_n dX10_off_17 rfl ?_
  refine p_iload_n dX10_off_18 rfl ?_
  refine p_iconst dX10_off_19 ?_
  refine cV_Ir [vI v1, vI v2, vI 0] [] dX10_off_20 yv_X8_dotsOf ml_X10_196 (r := (RX8, TX8, 7)) rfl rfl (Nat.le_of_ble_eq_true rfl) rfl (Nat.le_of_ble_eq_true rfl) (Nat.le_of_ble_eq_true rfl) (Nat.le_of_ble_eq_true rfl) (wc_X8 (wo_X5_3 wl_X5_1)) h (fun K h => s_X8_dotsOf hG (wo_X5_3 wl_X5_1) h) (fun r20 h => ?_)
  refine p_aload_n dX10_off_23 rfl ?_
  refine p_getr dX10_off_24 fl_X10_10 (fun _ _ _ => rfl) rfl rfl ?_
  refine p_geti dX10_off_27 fl_X10_164 (fun _ _ _ => rfl) (wc_X5 wl_X5_1) ?_
  refine p_imul dX10_off_30 ?_
  refine p_aload_n dX10_off_31 rfl ?_
  refine p_getr dX10_off_32 fl_X10_10 (fun _ _ _ => rfl) rfl rfl ?_
  refine p_getr dX10_off_35 fl_X10_69 (fun _ _ _ => rfl) (wc_X5 wl_X5_1) (wf_X5_0 wl_X5_1) ?_
  refine p_iload_n dX10_off_38 rfl ?_
  refine p_iload_n dX10_off_39 rfl ?_
  refine cV_Ir [vI v1, vI v2] [vI (r20 * (D14.1 1 1))] dX10_off_40 yv_X1_livingIn ml_X10_148 (r := (RX1, TX1, 11)) rfl rfl (Nat.le_of_ble_eq_true rfl) rfl (Nat.le_of_ble_eq_true rfl) (Nat.le_of_ble_eq_true rfl) (Nat.le_of_ble_eq_true rfl) (wc_X1 (wo_X5_0 wl_X5_1)) h (fun K h => s_X1_livingIn hG (wo_X5_0 wl_X5_1) h) (fun r40 h => ?_)
  refine p_isub dX10_off_43 ?_
  exact p_ireturn dX10_off_44 (Nat.le_of_ble_eq_true rfl) (Nat.le_of_ble_eq_true rfl) (Or.inl ⟨_, rfl, rfl, ok_some h⟩)
theorem s_X10_off {l : Launch} {g : GH} (hG : G0 l g) {n : Nat} {v1 : Int} {v2 : Int} {D : DT} {K : ((Int ⊕ Nat) × DT) → Prop} (h : ok (m_X10_off v1 v2 D) K) : Sat l g yX10_off cX10_off 3 (some .int) 9 2 12 [vR g 0, vI v1, vI v2] (LF n) D (PXw n K) := Sat.of hG (by decide) (Nat.le_of_ble_eq_true rfl) (by simp [Value.category]) (x_X10_off hG h)
abbrev E_X10_needRow (l : Launch) (g : GH) (P : PT) : ENV := mkE l g yX10_needRow cX10_needRow 2 none [] 8 1 6 P
set_option maxRecDepth 100000 in
set_option maxHeartbeats 4000000 in
theorem x_X10_needRow {l : Launch} {g : GH} (hG : G0 l g) {n : Nat} {v1 : Int} {D : DT} {K : (Unit ⊕ Nat) → Prop} (h : ok (m_X10_needRow v1 D) K) : Px (E_X10_needRow l g (PNr n D K)) 0 [some (vR g 0), some (vI v1)] [] (LF n) D 0 0 := by
  refine p_iload_n dX10_needRow_0 rfl ?_
  refine q_if_lt (tgt := 18) dX10_needRow_1 (by decide) h (fun h => ?_) (fun h => ?_)
  · exact p_throwW (e := 0) (i := 33) hG tw_0 (by decide) rfl rfl dX10_needRow_18 dX10_needRow_21 dX10_needRow_22 dX10_needRow_25 dX10_needRow_28 (Nat.le_of_ble_eq_true rfl) (Nat.le_of_ble_eq_true rfl) (Nat.le_of_ble_eq_true rfl) (Nat.le_of_ble_eq_true rfl) (fun n => ⟨rfl, Or.inr ⟨_, _, rfl, rfl, ok_some h⟩⟩)
  · refine p_iload_n dX10_needRow_4 rfl ?_
    refine p_aload_n dX10_needRow_5 rfl ?_
    refine p_getr dX10_needRow_6 fl_X10_10 (fun _ _ _ => rfl) rfl rfl ?_
    refine p_getr dX10_needRow_9 fl_X10_69 (fun _ _ _ => rfl) (wc_X5 wl_X5_1) (wf_X5_0 wl_X5_1) ?_
    refine p_geti dX10_needRow_12 fl_X10_305 (fun _ _ _ => rfl) (wc_X1 (wo_X5_0 wl_X5_1)) ?_
    refine q_icmp_lt (tgt := 29) dX10_needRow_15 (by decide) h (fun h => ?_) (fun h => ?_)
    · exact p_return dX10_needRow_29 (Nat.le_of_ble_eq_true rfl) (Nat.le_of_ble_eq_true rfl) ⟨rfl, Or.inl ⟨rfl, rfl, ok_some h⟩⟩
    · exact p_throwW (e := 0) (i := 33) hG tw_0 (by decide) rfl rfl dX10_needRow_18 dX10_needRow_21 dX10_needRow_22 dX10_needRow_25 dX10_needRow_28 (Nat.le_of_ble_eq_true rfl) (Nat.le_of_ble_eq_true rfl) (Nat.le_of_ble_eq_true rfl) (Nat.le_of_ble_eq_true rfl) (fun n => ⟨rfl, Or.inr ⟨_, _, rfl, rfl, ok_some h⟩⟩)
theorem s_X10_needRow {l : Launch} {g : GH} (hG : G0 l g) {n : Nat} {v1 : Int} {D : DT} {K : (Unit ⊕ Nat) → Prop} (h : ok (m_X10_needRow v1 D) K) : Sat l g yX10_needRow cX10_needRow 2 none 8 1 6 [vR g 0, vI v1] (LF n) D (PNr n D K) := Sat.of hG (by decide) (Nat.le_of_ble_eq_true rfl) (by simp [Value.category]) (x_X10_needRow hG h)
abbrev E_X10_needTwo (l : Launch) (g : GH) (P : PT) : ENV := mkE l g yX10_needTwo cX10_needTwo 3 none [] 8 1 6 P
set_option maxRecDepth 100000 in
set_option maxHeartbeats 4000000 in
theorem x_X10_needTwo {l : Launch} {g : GH} (hG : G0 l g) {n : Nat} {v1 : Int} {v2 : Int} {D : DT} {K : (Unit ⊕ Nat) → Prop} (h : ok (m_X10_needTwo v1 v2 D) K) : Px (E_X10_needTwo l g (PNr n D K)) 0 [some (vR g 0), some (vI v1), some (vI v2)] [] (LF n) D 0 0 := by
  refine p_iload_n dX10_needTwo_0 rfl ?_
  refine p_iload_n dX10_needTwo_1 rfl ?_
  refine q_icmp_ne (tgt := 16) dX10_needTwo_2 (by decide) h (fun h => ?_) (fun h => ?_)
  · exact p_return dX10_needTwo_16 (Nat.le_of_ble_eq_true rfl) (Nat.le_of_ble_eq_true rfl) ⟨rfl, Or.inl ⟨rfl, rfl, ok_some h⟩⟩
  · exact p_throwW (e := 2) (i := 34) hG tw_2 (by decide) rfl rfl dX10_needTwo_5 dX10_needTwo_8 dX10_needTwo_9 dX10_needTwo_12 dX10_needTwo_15 (Nat.le_of_ble_eq_true rfl) (Nat.le_of_ble_eq_true rfl) (Nat.le_of_ble_eq_true rfl) (Nat.le_of_ble_eq_true rfl) (fun n => ⟨rfl, Or.inr ⟨_, _, rfl, rfl, ok_some h⟩⟩)
theorem s_X10_needTwo {l : Launch} {g : GH} (hG : G0 l g) {n : Nat} {v1 : Int} {v2 : Int} {D : DT} {K : (Unit ⊕ Nat) → Prop} (h : ok (m_X10_needTwo v1 v2 D) K) : Sat l g yX10_needTwo cX10_needTwo 3 none 8 1 6 [vR g 0, vI v1, vI v2] (LF n) D (PNr n D K) := Sat.of hG (by decide) (Nat.le_of_ble_eq_true rfl) (by simp [Value.category]) (x_X10_needTwo hG h)
abbrev E_X10_needEdge (l : Launch) (g : GH) (P : PT) : ENV := mkE l g yX10_needEdge cX10_needEdge 5 none [] 9 2 12 P
set_option maxRecDepth 100000 in
set_option maxHeartbeats 4000000 in
theorem x_X10_needEdge {l : Launch} {g : GH} (hG : G0 l g) {n : Nat} {v1 : Int} {v2 : Int} {v3 : Int} {v4 : Int} {D : DT} {K : (Unit ⊕ Nat) → Prop} (h : ok (m_X10_needEdge v1 v2 v3 v4 D) K) : Px (E_X10_needEdge l g (PNr n D K)) 0 [some (vR g 0), some (vI v1), some (vI v2), some (vI v3), some (vI v4)] [] (LF n) D 0 0 := by
  refine p_aload_n dX10_needEdge_0 rfl ?_
  refine p_iload_n dX10_needEdge_1 rfl ?_
  refine p_iload_n dX10_needEdge_2 rfl ?_
  refine cV_Mr [vI v1, vI v2] [] dX10_needEdge_3 yv_X10_needTwo ml_X10_319 (r := (RX10, TX10, 7)) rfl rfl (Nat.le_of_ble_eq_true rfl) rfl (Nat.le_of_ble_eq_true rfl) (Nat.le_of_ble_eq_true rfl) (Nat.le_of_ble_eq_true rfl) rfl h (fun K h => s_X10_needTwo hG h) (fun e n h => px_out (Nat.le_of_ble_eq_true rfl) (Nat.le_of_ble_eq_true rfl) ⟨rfl, Or.inr ⟨_, _, rfl, rfl, h⟩⟩) (fun h => ?_)
  refine p_iload_n dX10_needEdge_6 rfl ?_
  refine q_if_lt (tgt := 31) dX10_needEdge_7 (by decide) h (fun h => ?_) (fun h => ?_)
  · exact p_throwW (e := 2) (i := 35) hG tw_2 (by decide) rfl rfl dX10_needEdge_31 dX10_needEdge_34 dX10_needEdge_35 dX10_needEdge_38 dX10_needEdge_41 (Nat.le_of_ble_eq_true rfl) (Nat.le_of_ble_eq_true rfl) (Nat.le_of_ble_eq_true rfl) (Nat.le_of_ble_eq_true rfl) (fun n => ⟨rfl, Or.inr ⟨_, _, rfl, rfl, ok_some h⟩⟩)
  · refine p_iload_n dX10_needEdge_10 rfl ?_
    refine p_iload dX10_needEdge_11 rfl ?_
    refine q_icmp_gt (tgt := 31) dX10_needEdge_13 (by decide) h (fun h => ?_) (fun h => ?_)
    · exact p_throwW (e := 2) (i := 35) hG tw_2 (by decide) rfl rfl dX10_needEdge_31 dX10_needEdge_34 dX10_needEdge_35 dX10_needEdge_38 dX10_needEdge_41 (Nat.le_of_ble_eq_true rfl) (Nat.le_of_ble_eq_true rfl) (Nat.le_of_ble_eq_true rfl) (Nat.le_of_ble_eq_true rfl) (fun n => ⟨rfl, Or.inr ⟨_, _, rfl, rfl, ok_some h⟩⟩)
    · refine p_iload dX10_needEdge_16 rfl ?_
      refine p_aload_n dX10_needEdge_18 rfl ?_
      refine p_getr dX10_needEdge_19 fl_X10_10 (fun _ _ _ => rfl) rfl rfl ?_
      refine p_getr dX10_needEdge_22 fl_X10_69 (fun _ _ _ => rfl) (wc_X5 wl_X5_1) (wf_X5_0 wl_X5_1) ?_
      refine p_geti dX10_needEdge_25 fl_X10_302 (fun _ _ _ => rfl) (wc_X1 (wo_X5_0 wl_X5_1)) ?_
      refine q_icmp_lt (tgt := 42) dX10_needEdge_28 (by decide) h (fun h => ?_) (fun h => ?_)
      · exact p_return dX10_needEdge_42 (Nat.le_of_ble_eq_true rfl) (Nat.le_of_ble_eq_true rfl) ⟨rfl, Or.inl ⟨rfl, rfl, ok_some h⟩⟩
      · exact p_throwW (e := 2) (i := 35) hG tw_2 (by decide) rfl rfl dX10_needEdge_31 dX10_needEdge_34 dX10_needEdge_35 dX10_needEdge_38 dX10_needEdge_41 (Nat.le_of_ble_eq_true rfl) (Nat.le_of_ble_eq_true rfl) (Nat.le_of_ble_eq_true rfl) (Nat.le_of_ble_eq_true rfl) (fun n => ⟨rfl, Or.inr ⟨_, _, rfl, rfl, ok_some h⟩⟩)
theorem s_X10_needEdge {l : Launch} {g : GH} (hG : G0 l g) {n : Nat} {v1 : Int} {v2 : Int} {v3 : Int} {v4 : Int} {D : DT} {K : (Unit ⊕ Nat) → Prop} (h : ok (m_X10_needEdge v1 v2 v3 v4 D) K) : Sat l g yX10_needEdge cX10_needEdge 5 none 9 2 12 [vR g 0, vI v1, vI v2, vI v3, vI v4] (LF n) D (PNr n D K) := Sat.of hG (by decide) (Nat.le_of_ble_eq_true rfl) (by simp [Value.category]) (x_X10_needEdge hG h)
abbrev E_X10_move (l : Launch) (g : GH) (P : PT) : ENV := mkE l g yX10_move cX10_move 7 (some .int) [] 10 5 30 P
set_option maxRecDepth 100000 in
set_option maxHeartbeats 4000000 in
theorem x_X10_move {l : Launch} {g : GH} (hG : G0 l g) {n : Nat} {v1 : Int} {v2 : Int} {v3 : Int} {v4 : Int} {v5 : Int} {D : DT} {K : ((Int ⊕ Nat) × DT) → Prop} (h : ok (m_X10_move v1 v2 v3 v4 v5 D) K) : Px (E_X10_move l g (PXw n K)) 0 [some (vR g 0), some (vI v1), some (vI v2), some (vI v3), some (vI v4), some (vI v5), none] [] (LF n) D 0 0 := by
  refine p_aload_n dX10_move_0 rfl ?_
  refine p_iload_n dX10_move_1 rfl ?_
  refine cV_Nr [vI v1] [] dX10_move_2 yv_X10_needZone ml_X10_107 (r := (RX10, TX10, 7)) rfl rfl (Nat.le_of_ble_eq_true rfl) rfl (Nat.le_of_ble_eq_true rfl) (Nat.le_of_ble_eq_true rfl) (Nat.le_of_ble_eq_true rfl) rfl h (fun K h => s_X10_needZone hG h) (fun e n h => px_out (Nat.le_of_ble_eq_true rfl) (Nat.le_of_ble_eq_true rfl) (Or.inr ⟨_, _, rfl, rfl, h⟩)) (fun h => ?_)
  refine p_aload_n dX10_move_5 rfl ?_
  refine p_iload_n dX10_move_6 rfl ?_
  refine cV_Nr [vI v2] [] dX10_move_7 yv_X10_needZone ml_X10_107 (r := (RX10, TX10, 7)) rfl rfl (Nat.le_of_ble_eq_true rfl) rfl (Nat.le_of_ble_eq_true rfl) (Nat.le_of_ble_eq_true rfl) (Nat.le_of_ble_eq_true rfl) rfl h (fun K h => s_X10_needZone hG h) (fun e n h => px_out (Nat.le_of_ble_eq_true rfl) (Nat.le_of_ble_eq_true rfl) (Or.inr ⟨_, _, rfl, rfl, h⟩)) (fun h => ?_)
  refine p_aload_n dX10_move_10 rfl ?_
  refine p_iload_n dX10_move_11 rfl ?_
  refine cV_Nr [vI v3] [] dX10_move_12 yv_X10_needRow ml_X10_233 (r := (RX10, TX10, 7)) rfl rfl (Nat.le_of_ble_eq_true rfl) rfl (Nat.le_of_ble_eq_true rfl) (Nat.le_of_ble_eq_true rfl) (Nat.le_of_ble_eq_true rfl) rfl h (fun K h => s_X10_needRow hG h) (fun e n h => px_out (Nat.le_of_ble_eq_true rfl) (Nat.le_of_ble_eq_true rfl) (Or.inr ⟨_, _, rfl, rfl, h⟩)) (fun h => ?_)
  refine p_aload_n dX10_move_15 rfl ?_
  refine p_iload_n dX10_move_16 rfl ?_
  refine p_iload_n dX10_move_17 rfl ?_
  refine p_iload dX10_move_18 rfl ?_
  refine p_iload dX10_move_20 rfl ?_
  refine cV_Nr [vI v1, vI v2, vI v4, vI v5] [] dX10_move_22 yv_X10_needEdge ml_X10_236 (r := (RX10, TX10, 7)) rfl rfl (Nat.le_of_ble_eq_true rfl) rfl (Nat.le_of_ble_eq_true rfl) (Nat.le_of_ble_eq_true rfl) (Nat.le_of_ble_eq_true rfl) rfl h (fun K h => s_X10_needEdge hG h) (fun e n h => px_out (Nat.le_of_ble_eq_true rfl) (Nat.le_of_ble_eq_true rfl) (Or.inr ⟨_, _, rfl, rfl, h⟩)) (fun h => ?_)
  refine p_aload_n dX10_move_25 rfl ?_
  refine p_getr dX10_move_26 fl_X10_10 (fun _ _ _ => rfl) rfl rfl ?_
  refine p_getr dX10_move_29 fl_X10_69 (fun _ _ _ => rfl) (wc_X5 wl_X5_1) (wf_X5_0 wl_X5_1) ?_
  refine p_iload_n dX10_move_32 rfl ?_
  refine p_iload_n dX10_move_33 rfl ?_
  refine p_iload_n dX10_move_34 rfl ?_
  refine p_iload dX10_move_35 rfl ?_
  refine p_iload dX10_move_37 rfl ?_
  refine cV_Iw [vI v1, vI v2, vI v3, vI v4, vI v5] [] dX10_move_39 yv_X1_shift ml_X10_240 (r := (RX1, TX1, 11)) rfl rfl (Nat.le_of_ble_eq_true rfl) rfl (Nat.le_of_ble_eq_true rfl) (Nat.le_of_ble_eq_true rfl) (Nat.le_of_ble_eq_true rfl) (wc_X1 (wo_X5_0 wl_X5_1)) h (fun K h => s_X1_shift hG (wo_X5_0 wl_X5_1) h) (fun r39 D39 h => ?_)
  refine p_istore dX10_move_42 (Nat.le_of_ble_eq_true rfl) rfl ?_
  refine p_aload_n dX10_move_44 rfl ?_
  refine p_iload_n dX10_move_45 rfl ?_
  refine cV_Vw [vI v1] [] dX10_move_46 yv_X10_landChanged ml_X10_159 (r := (RX10, TX10, 7)) rfl rfl (Nat.le_of_ble_eq_true rfl) rfl (Nat.le_of_ble_eq_true rfl) (Nat.le_of_ble_eq_true rfl) (Nat.le_of_ble_eq_true rfl) rfl h (fun K h => s_X10_landChanged hG h) (fun D46 h => ?_)
  refine p_aload_n dX10_move_49 rfl ?_
  refine p_iload_n dX10_move_50 rfl ?_
  refine cV_Vw [vI v2] [] dX10_move_51 yv_X10_landChanged ml_X10_159 (r := (RX10, TX10, 7)) rfl rfl (Nat.le_of_ble_eq_true rfl) rfl (Nat.le_of_ble_eq_true rfl) (Nat.le_of_ble_eq_true rfl) (Nat.le_of_ble_eq_true rfl) rfl h (fun K h => s_X10_landChanged hG h) (fun D51 h => ?_)
  refine p_iload dX10_move_54 rfl ?_
  exact p_ireturn dX10_move_56 (Nat.le_of_ble_eq_true rfl) (Nat.le_of_ble_eq_true rfl) (Or.inl ⟨_, rfl, rfl, ok_some h⟩)
theorem s_X10_move {l : Launch} {g : GH} (hG : G0 l g) {n : Nat} {v1 : Int} {v2 : Int} {v3 : Int} {v4 : Int} {v5 : Int} {D : DT} {K : ((Int ⊕ Nat) × DT) → Prop} (h : ok (m_X10_move v1 v2 v3 v4 v5 D) K) : Sat l g yX10_move cX10_move 7 (some .int) 10 5 30 [vR g 0, vI v1, vI v2, vI v3, vI v4, vI v5] (LF n) D (PXw n K) := Sat.of hG (by decide) (Nat.le_of_ble_eq_true rfl) (by simp [Value.category]) (x_X10_move hG h)
abbrev E_X10_tries (l : Launch) (g : GH) (P : PT) : ENV := mkE l g yX10_tries cX10_tries 7 (some .int) [] 10 6 36 P
set_option maxRecDepth 100000 in
set_option maxHeartbeats 4000000 in
theorem x_X10_tries {l : Launch} {g : GH} (hG : G0 l g) {n : Nat} {v1 : Int} {v2 : Int} {v3 : Int} {v4 : Int} {v5 : Int} {v6 : Int} {D : DT} {K : ((Int ⊕ Nat) × DT) → Prop} (h : ok (m_X10_tries v1 v2 v3 v4 v5 v6 D) K) : Px (E_X10_tries l g (PXw n K)) 0 [some (vR g 0), some (vI v1), some (vI v2), some (vI v3), some (vI v4), some (vI v5), some (vI v6)] [] (LF n) D 0 0 := by
  refine p_aload_n dX10_tries_0 rfl ?_
  refine p_iload_n dX10_tries_1 rfl ?_
  refine cV_Nr [vI v1] [] dX10_tries_2 yv_X10_needZone ml_X10_107 (r := (RX10, TX10, 7)) rfl rfl (Nat.le_of_ble_eq_true rfl) rfl (Nat.le_of_ble_eq_true rfl) (Nat.le_of_ble_eq_true rfl) (Nat.le_of_ble_eq_true rfl) rfl h (fun K h => s_X10_needZone hG h) (fun e n h => px_out (Nat.le_of_ble_eq_true rfl) (Nat.le_of_ble_eq_true rfl) (Or.inr ⟨_, _, rfl, rfl, h⟩)) (fun h => ?_)
  refine p_aload_n dX10_tries_5 rfl ?_
  refine p_iload_n dX10_tries_6 rfl ?_
  refine cV_Nr [vI v2] [] dX10_tries_7 yv_X10_needZone ml_X10_107 (r := (RX10, TX10, 7)) rfl rfl (Nat.le_of_ble_eq_true rfl) rfl (Nat.le_of_ble_eq_true rfl) (Nat.le_of_ble_eq_true rfl) (Nat.le_of_ble_eq_true rfl) rfl h (fun K h => s_X10_needZone hG h) (fun e n h => px_out (Nat.le_of_ble_eq_true rfl) (Nat.le_of_ble_eq_true rfl) (Or.inr ⟨_, _, rfl, rfl, h⟩)) (fun h => ?_)
  refine p_aload_n dX10_tries_10 rfl ?_
  refine p_iload_n dX10_tries_11 rfl ?_
  refine cV_Nr [vI v3] [] dX10_tries_12 yv_X10_needRow ml_X10_233 (r := (RX10, TX10, 7)) rfl rfl (Nat.le_of_ble_eq_true rfl) rfl (Nat.le_of_ble_eq_true rfl) (Nat.le_of_ble_eq_true rfl) (Nat.le_of_ble_eq_true rfl) rfl h (fun K h => s_X10_needRow hG h) (fun e n h => px_out (Nat.le_of_ble_eq_true rfl) (Nat.le_of_ble_eq_true rfl) (Or.inr ⟨_, _, rfl, rfl, h⟩)) (fun h => ?_)
  refine p_aload_n dX10_tries_15 rfl ?_
  refine p_iload dX10_tries_16 rfl ?_
  refine cV_Nr [vI v6] [] dX10_tries_18 yv_X10_needLevel ml_X10_193 (r := (RX10, TX10, 7)) rfl rfl (Nat.le_of_ble_eq_true rfl) rfl (Nat.le_of_ble_eq_true rfl) (Nat.le_of_ble_eq_true rfl) (Nat.le_of_ble_eq_true rfl) rfl h (fun K h => s_X10_needLevel hG h) (fun e n h => px_out (Nat.le_of_ble_eq_true rfl) (Nat.le_of_ble_eq_true rfl) (Or.inr ⟨_, _, rfl, rfl, h⟩)) (fun h => ?_)
  refine p_aload_n dX10_tries_21 rfl ?_
  refine p_iload_n dX10_tries_22 rfl ?_
  refine p_iload_n dX10_tries_23 rfl ?_
  refine p_iload dX10_tries_24 rfl ?_
  refine p_iload dX10_tries_26 rfl ?_
  refine cV_Nr [vI v1, vI v2, vI v4, vI v5] [] dX10_tries_28 yv_X10_needEdge ml_X10_236 (r := (RX10, TX10, 7)) rfl rfl (Nat.le_of_ble_eq_true rfl) rfl (Nat.le_of_ble_eq_true rfl) (Nat.le_of_ble_eq_true rfl) (Nat.le_of_ble_eq_true rfl) rfl h (fun K h => s_X10_needEdge hG h) (fun e n h => px_out (Nat.le_of_ble_eq_true rfl) (Nat.le_of_ble_eq_true rfl) (Or.inr ⟨_, _, rfl, rfl, h⟩)) (fun h => ?_)
  refine p_aload_n dX10_tries_31 rfl ?_
  refine p_getr dX10_tries_32 fl_X10_10 (fun _ _ _ => rfl) rfl rfl ?_
  refine cV_Aw [] [] dX10_tries_35 yv_X5_ranked ml_X10_181 (r := (RX5, TX5, 6)) rfl rfl (Nat.le_of_ble_eq_true rfl) rfl (Nat.le_of_ble_eq_true rfl) (Nat.le_of_ble_eq_true rfl) (Nat.le_of_ble_eq_true rfl) (wc_X5 wl_X5_1) h (fun K h => s_X5_ranked hG wl_X5_1 h) (fun D35 h => ?_)
  refine p_pop dX10_tries_38 rfl ?_
  refine p_aload_n dX10_tries_39 rfl ?_
  refine p_getr dX10_tries_40 fl_X10_16 (fun _ _ _ => rfl) rfl rfl ?_
  refine p_aload_n dX10_tries_43 rfl ?_
  refine p_getr dX10_tries_44 fl_X10_10 (fun _ _ _ => rfl) rfl rfl ?_
  refine cV_Vw [vR g 1] [] dX10_tries_47 yv_X5_copyFrom ml_X10_244 (r := (RX5, TX5, 6)) rfl rfl (Nat.le_of_ble_eq_true rfl) rfl (Nat.le_of_ble_eq_true rfl) (Nat.le_of_ble_eq_true rfl) (Nat.le_of_ble_eq_true rfl) (wc_X5 wl_X5_28) h (fun K h => s_X5_copyFrom hG wl_X5_28 wl_X5_1 h) (fun D47 h => ?_)
  refine p_aload_n dX10_tries_50 rfl ?_
  refine p_getr dX10_tries_51 fl_X10_16 (fun _ _ _ => rfl) rfl rfl ?_
  refine p_getr dX10_tries_54 fl_X10_69 (fun _ _ _ => rfl) (wc_X5 wl_X5_28) (wf_X5_0 wl_X5_28) ?_
  refine p_iload_n dX10_tries_57 rfl ?_
  refine p_iload_n dX10_tries_58 rfl ?_
  refine p_iload_n dX10_tries_59 rfl ?_
  refine p_iload dX10_tries_60 rfl ?_
  refine p_iload dX10_tries_62 rfl ?_
  refine cV_Iw [vI v1, vI v2, vI v3, vI v4, vI v5] [] dX10_tries_64 yv_X1_shift ml_X10_240 (r := (RX1, TX1, 11)) rfl rfl (Nat.le_of_ble_eq_true rfl) rfl (Nat.le_of_ble_eq_true rfl) (Nat.le_of_ble_eq_true rfl) (Nat.le_of_ble_eq_true rfl) (wc_X1 (wo_X5_0 wl_X5_28)) h (fun K h => s_X1_shift hG (wo_X5_0 wl_X5_28) h) (fun r64 D64 h => ?_)
  refine p_pop dX10_tries_67 rfl ?_
  refine p_aload_n dX10_tries_68 rfl ?_
  refine p_getr dX10_tries_69 fl_X10_16 (fun _ _ _ => rfl) rfl rfl ?_
  refine p_iload_n dX10_tries_72 rfl ?_
  refine cV_Vw [vI v1] [] dX10_tries_73 yv_X5_landChanged ml_X10_247 (r := (RX5, TX5, 6)) rfl rfl (Nat.le_of_ble_eq_true rfl) rfl (Nat.le_of_ble_eq_true rfl) (Nat.le_of_ble_eq_true rfl) (Nat.le_of_ble_eq_true rfl) (wc_X5 wl_X5_28) h (fun K h => s_X5_landChanged hG wl_X5_28 h) (fun D73 h => ?_)
  refine p_aload_n dX10_tries_76 rfl ?_
  refine p_getr dX10_tries_77 fl_X10_16 (fun _ _ _ => rfl) rfl rfl ?_
  refine p_iload_n dX10_tries_80 rfl ?_
  refine cV_Vw [vI v2] [] dX10_tries_81 yv_X5_landChanged ml_X10_247 (r := (RX5, TX5, 6)) rfl rfl (Nat.le_of_ble_eq_true rfl) rfl (Nat.le_of_ble_eq_true rfl) (Nat.le_of_ble_eq_true rfl) (Nat.le_of_ble_eq_true rfl) (wc_X5 wl_X5_28) h (fun K h => s_X5_landChanged hG wl_X5_28 h) (fun D81 h => ?_)
  refine p_aload_n dX10_tries_84 rfl ?_
  refine p_getr dX10_tries_85 fl_X10_16 (fun _ _ _ => rfl) rfl rfl ?_
  refine p_iload dX10_tries_88 rfl ?_
  refine cV_Aw [vI v6] [] dX10_tries_90 yv_X5_crowded ml_X10_220 (r := (RX5, TX5, 6)) rfl rfl (Nat.le_of_ble_eq_true rfl) rfl (Nat.le_of_ble_eq_true rfl) (Nat.le_of_ble_eq_true rfl) (Nat.le_of_ble_eq_true rfl) (wc_X5 wl_X5_28) h (fun K h => s_X5_crowded hG wl_X5_28 h) (fun D90 h => ?_)
  refine p_aload_n dX10_tries_93 rfl ?_
  refine p_getr dX10_tries_94 fl_X10_10 (fun _ _ _ => rfl) rfl rfl ?_
  refine p_iload dX10_tries_97 rfl ?_
  refine cV_Aw [vI v6] [vR g 50] dX10_tries_99 yv_X5_crowded ml_X10_220 (r := (RX5, TX5, 6)) rfl rfl (Nat.le_of_ble_eq_true rfl) rfl (Nat.le_of_ble_eq_true rfl) (Nat.le_of_ble_eq_true rfl) (Nat.le_of_ble_eq_true rfl) (wc_X5 wl_X5_1) h (fun K h => s_X5_crowded hG wl_X5_1 h) (fun D99 h => ?_)
  refine p_aload_n dX10_tries_102 rfl ?_
  refine p_getr dX10_tries_103 fl_X10_10 (fun _ _ _ => rfl) rfl rfl ?_
  refine p_getr dX10_tries_106 fl_X10_69 (fun _ _ _ => rfl) (wc_X5 wl_X5_1) (wf_X5_0 wl_X5_1) ?_
  refine cV_Ir [vR g 23, vR g 2] [] dX10_tries_109 yv_X2_moreThan ml_X10_248 (r := (RX2, TX2, 7)) rfl rfl (Nat.le_of_ble_eq_true rfl) rfl (Nat.le_of_ble_eq_true rfl) (Nat.le_of_ble_eq_true rfl) (Nat.le_of_ble_eq_true rfl) (wc_X2 (wo_X5_5 wl_X5_28)) h (fun K h => s_X2_moreThan hG (wo_X5_5 wl_X5_28) (wo_X5_5 wl_X5_1) (wo_X5_0 wl_X5_1) h) (fun r109 h => ?_)
  exact p_ireturn dX10_tries_112 (Nat.le_of_ble_eq_true rfl) (Nat.le_of_ble_eq_true rfl) (Or.inl ⟨_, rfl, rfl, ok_some h⟩)
theorem s_X10_tries {l : Launch} {g : GH} (hG : G0 l g) {n : Nat} {v1 : Int} {v2 : Int} {v3 : Int} {v4 : Int} {v5 : Int} {v6 : Int} {D : DT} {K : ((Int ⊕ Nat) × DT) → Prop} (h : ok (m_X10_tries v1 v2 v3 v4 v5 v6 D) K) : Sat l g yX10_tries cX10_tries 7 (some .int) 10 6 36 [vR g 0, vI v1, vI v2, vI v3, vI v4, vI v5, vI v6] (LF n) D (PXw n K) := Sat.of hG (by decide) (Nat.le_of_ble_eq_true rfl) (by simp [Value.category]) (x_X10_tries hG h)
abbrev E_X10_run (l : Launch) (g : GH) (P : PT) : ENV := mkE l g yX10_run cX10_run 5 (some .int) [] 9 2 12 P
set_option maxRecDepth 100000 in
set_option maxHeartbeats 4000000 in
theorem x_X10_run {l : Launch} {g : GH} (hG : G0 l g) {n : Nat} {v1 : Int} {v2 : Int} {v3 : Int} {v4 : Int} {D : DT} {K : ((Int ⊕ Nat) × DT) → Prop} (h : ok (m_X10_run v1 v2 v3 v4 D) K) : Px (E_X10_run l g (PXw n K)) 0 [some (vR g 0), some (vI v1), some (vI v2), some (vI v3), some (vI v4)] [] (LF n) D 0 0 := by
  refine p_aload_n dX10_run_0 rfl ?_
  refine p_iload_n dX10_run_1 rfl ?_
  refine cV_Nr [vI v1] [] dX10_run_2 yv_X10_needZone ml_X10_107 (r := (RX10, TX10, 7)) rfl rfl (Nat.le_of_ble_eq_true rfl) rfl (Nat.le_of_ble_eq_true rfl) (Nat.le_of_ble_eq_true rfl) (Nat.le_of_ble_eq_true rfl) rfl h (fun K h => s_X10_needZone hG h) (fun e n h => px_out (Nat.le_of_ble_eq_true rfl) (Nat.le_of_ble_eq_true rfl) (Or.inr ⟨_, _, rfl, rfl, h⟩)) (fun h => ?_)
  refine p_aload_n dX10_run_5 rfl ?_
  refine p_iload_n dX10_run_6 rfl ?_
  refine cV_Nr [vI v2] [] dX10_run_7 yv_X10_needRow ml_X10_233 (r := (RX10, TX10, 7)) rfl rfl (Nat.le_of_ble_eq_true rfl) rfl (Nat.le_of_ble_eq_true rfl) (Nat.le_of_ble_eq_true rfl) (Nat.le_of_ble_eq_true rfl) rfl h (fun K h => s_X10_needRow hG h) (fun e n h => px_out (Nat.le_of_ble_eq_true rfl) (Nat.le_of_ble_eq_true rfl) (Or.inr ⟨_, _, rfl, rfl, h⟩)) (fun h => ?_)
  refine p_iload_n dX10_run_10 rfl ?_
  refine p_iconst dX10_run_11 ?_
  refine q_icmp_ne (tgt := 30) dX10_run_12 (by decide) h (fun h => ?_) (fun h => ?_)
  · refine p_aload_n dX10_run_30 rfl ?_
    refine p_getr dX10_run_31 fl_X10_10 (fun _ _ _ => rfl) rfl rfl ?_
    refine p_getr dX10_run_34 fl_X10_69 (fun _ _ _ => rfl) (wc_X5 wl_X5_1) (wf_X5_0 wl_X5_1) ?_
    refine p_iload_n dX10_run_37 rfl ?_
    refine p_iload_n dX10_run_38 rfl ?_
    refine p_iload_n dX10_run_39 rfl ?_
    refine p_iload dX10_run_40 rfl ?_
    refine cV_Ir [vI v1, vI v2, vI v3, vI v4] [] dX10_run_42 yv_X1_runEdge ml_X10_255 (r := (RX1, TX1, 11)) rfl rfl (Nat.le_of_ble_eq_true rfl) rfl (Nat.le_of_ble_eq_true rfl) (Nat.le_of_ble_eq_true rfl) (Nat.le_of_ble_eq_true rfl) (wc_X1 (wo_X5_0 wl_X5_1)) h (fun K h => s_X1_runEdge hG (wo_X5_0 wl_X5_1) h) (fun r42 h => ?_)
    exact p_ireturn dX10_run_45 (Nat.le_of_ble_eq_true rfl) (Nat.le_of_ble_eq_true rfl) (Or.inl ⟨_, rfl, rfl, ok_some h⟩)
  · refine p_aload_n dX10_run_15 rfl ?_
    refine p_getr dX10_run_16 fl_X10_10 (fun _ _ _ => rfl) rfl rfl ?_
    refine p_getr dX10_run_19 fl_X10_69 (fun _ _ _ => rfl) (wc_X5 wl_X5_1) (wf_X5_0 wl_X5_1) ?_
    refine p_iload_n dX10_run_22 rfl ?_
    refine p_iload_n dX10_run_23 rfl ?_
    refine cV_Ir [vI v1, vI v2] [] dX10_run_24 yv_X1_runsOf ml_X10_252 (r := (RX1, TX1, 11)) rfl rfl (Nat.le_of_ble_eq_true rfl) rfl (Nat.le_of_ble_eq_true rfl) (Nat.le_of_ble_eq_true rfl) (Nat.le_of_ble_eq_true rfl) (wc_X1 (wo_X5_0 wl_X5_1)) h (fun K h => s_X1_runsOf hG (wo_X5_0 wl_X5_1) h) (fun r24 h => ?_)
    refine p_goto (tgt := 45) dX10_run_27 (by decide) ?_
    exact p_ireturn dX10_run_45 (Nat.le_of_ble_eq_true rfl) (Nat.le_of_ble_eq_true rfl) (Or.inl ⟨_, rfl, rfl, ok_some h⟩)
theorem s_X10_run {l : Launch} {g : GH} (hG : G0 l g) {n : Nat} {v1 : Int} {v2 : Int} {v3 : Int} {v4 : Int} {D : DT} {K : ((Int ⊕ Nat) × DT) → Prop} (h : ok (m_X10_run v1 v2 v3 v4 D) K) : Sat l g yX10_run cX10_run 5 (some .int) 9 2 12 [vR g 0, vI v1, vI v2, vI v3, vI v4] (LF n) D (PXw n K) := Sat.of hG (by decide) (Nat.le_of_ble_eq_true rfl) (by simp [Value.category]) (x_X10_run hG h)
abbrev E_X10_part (l : Launch) (g : GH) (P : PT) : ENV := mkE l g yX10_part cX10_part 2 (some .int) [] 9 1 6 P
set_option maxRecDepth 100000 in
set_option maxHeartbeats 4000000 in
theorem x_X10_part {l : Launch} {g : GH} (hG : G0 l g) {n : Nat} {v1 : Int} {D : DT} {K : ((Int ⊕ Nat) × DT) → Prop} (h : ok (m_X10_part v1 D) K) : Px (E_X10_part l g (PXw n K)) 0 [some (vR g 0), some (vI v1)] [] (LF n) D 0 0 := by
  refine p_aload_n dX10_part_0 rfl ?_
  refine p_iload_n dX10_part_1 rfl ?_
  refine cV_Nr [vI v1] [] dX10_part_2 yv_X10_needCell ml_X10_91 (r := (RX10, TX10, 7)) rfl rfl (Nat.le_of_ble_eq_true rfl) rfl (Nat.le_of_ble_eq_true rfl) (Nat.le_of_ble_eq_true rfl) (Nat.le_of_ble_eq_true rfl) rfl h (fun K h => s_X10_needCell hG h) (fun e n h => px_out (Nat.le_of_ble_eq_true rfl) (Nat.le_of_ble_eq_true rfl) (Or.inr ⟨_, _, rfl, rfl, h⟩)) (fun h => ?_)
  refine p_aload_n dX10_part_5 rfl ?_
  refine p_getr dX10_part_6 fl_X10_10 (fun _ _ _ => rfl) rfl rfl ?_
  refine p_getr dX10_part_9 fl_X10_69 (fun _ _ _ => rfl) (wc_X5 wl_X5_1) (wf_X5_0 wl_X5_1) ?_
  refine p_iload_n dX10_part_12 rfl ?_
  refine cV_Ir [vI v1] [] dX10_part_13 yv_X1_isLand ml_X10_259 (r := (RX1, TX1, 11)) rfl rfl (Nat.le_of_ble_eq_true rfl) rfl (Nat.le_of_ble_eq_true rfl) (Nat.le_of_ble_eq_true rfl) (Nat.le_of_ble_eq_true rfl) (wc_X1 (wo_X5_0 wl_X5_1)) h (fun K h => s_X1_isLand hG (wo_X5_0 wl_X5_1) h) (fun r13 h => ?_)
  refine q_if_ne (tgt := 21) dX10_part_16 (by decide) h (fun h => ?_) (fun h => ?_)
  · refine p_aload_n dX10_part_21 rfl ?_
    refine p_getr dX10_part_22 fl_X10_40 (fun _ _ _ => rfl) rfl rfl ?_
    refine p_aload_n dX10_part_25 rfl ?_
    refine p_getr dX10_part_26 fl_X10_10 (fun _ _ _ => rfl) rfl rfl ?_
    refine p_getr dX10_part_29 fl_X10_69 (fun _ _ _ => rfl) (wc_X5 wl_X5_1) (wf_X5_0 wl_X5_1) ?_
    refine p_aload_n dX10_part_32 rfl ?_
    refine p_getr dX10_part_33 fl_X10_10 (fun _ _ _ => rfl) rfl rfl ?_
    refine p_getr dX10_part_36 fl_X10_69 (fun _ _ _ => rfl) (wc_X5 wl_X5_1) (wf_X5_0 wl_X5_1) ?_
    refine p_getr dX10_part_39 fl_X10_94 (fun _ _ _ => rfl) (wc_X1 (wo_X5_0 wl_X5_1)) (wf_X1_4 (wo_X5_0 wl_X5_1)) ?_
    refine p_iload_n dX10_part_42 rfl ?_
    refine q_iald dX10_part_43 (wa_X1_4 (wo_X5_0 wl_X5_1)) rfl h (fun h => ?_)
    refine cV_Vw [vR g 2, vI (D.2 3 (Int.toNat v1))] [] dX10_part_44 yv_X3_find ml_X10_117 (r := (RX3, TX3, 4)) rfl rfl (Nat.le_of_ble_eq_true rfl) rfl (Nat.le_of_ble_eq_true rfl) (Nat.le_of_ble_eq_true rfl) (Nat.le_of_ble_eq_true rfl) rfl h (fun K h => s_X3_find hG (wo_X5_0 wl_X5_1) h) (fun D44 h => ?_)
    refine p_aload_n dX10_part_47 rfl ?_
    refine p_getr dX10_part_48 fl_X10_40 (fun _ _ _ => rfl) rfl rfl ?_
    refine p_getr dX10_part_51 fl_X10_263 (fun _ _ _ => rfl) rfl rfl ?_
    refine p_iload_n dX10_part_54 rfl ?_
    refine q_iald dX10_part_55 rfl rfl h (fun h => ?_)
    exact p_ireturn dX10_part_56 (Nat.le_of_ble_eq_true rfl) (Nat.le_of_ble_eq_true rfl) (Or.inl ⟨_, rfl, rfl, ok_some h⟩)
  · refine p_iconst dX10_part_19 ?_
    exact p_ireturn dX10_part_20 (Nat.le_of_ble_eq_true rfl) (Nat.le_of_ble_eq_true rfl) (Or.inl ⟨_, rfl, rfl, ok_some h⟩)
theorem s_X10_part {l : Launch} {g : GH} (hG : G0 l g) {n : Nat} {v1 : Int} {D : DT} {K : ((Int ⊕ Nat) × DT) → Prop} (h : ok (m_X10_part v1 D) K) : Sat l g yX10_part cX10_part 2 (some .int) 9 1 6 [vR g 0, vI v1] (LF n) D (PXw n K) := Sat.of hG (by decide) (Nat.le_of_ble_eq_true rfl) (by simp [Value.category]) (x_X10_part hG h)
abbrev E_X10_needMeasure (l : Launch) (g : GH) (P : PT) : ENV := mkE l g yX10_needMeasure cX10_needMeasure 2 none [] 8 1 6 P
set_option maxRecDepth 100000 in
set_option maxHeartbeats 4000000 in
theorem x_X10_needMeasure {l : Launch} {g : GH} (hG : G0 l g) {n : Nat} {v1 : Int} {D : DT} {K : (Unit ⊕ Nat) → Prop} (h : ok (m_X10_needMeasure v1 D) K) : Px (E_X10_needMeasure l g (PNr n D K)) 0 [some (vR g 0), some (vI v1)] [] (LF n) D 0 0 := by
  refine p_iload_n dX10_needMeasure_0 rfl ?_
  refine q_if_lt (tgt := 9) dX10_needMeasure_1 (by decide) h (fun h => ?_) (fun h => ?_)
  · exact p_throwNW (i := 36) hG rfl (by decide) rfl rfl dX10_needMeasure_9 dX10_needMeasure_12 dX10_needMeasure_13 dX10_needMeasure_16 dX10_needMeasure_19 (Nat.le_of_ble_eq_true rfl) (Nat.le_of_ble_eq_true rfl) (Nat.le_of_ble_eq_true rfl) (Nat.le_of_ble_eq_true rfl) (fun n => ⟨rfl, Or.inr ⟨_, _, rfl, rfl, ok_some h⟩⟩)
  · refine p_iload_n dX10_needMeasure_4 rfl ?_
    refine p_iconst dX10_needMeasure_5 ?_
    refine q_icmp_lt (tgt := 20) dX10_needMeasure_6 (by decide) h (fun h => ?_) (fun h => ?_)
    · exact p_return dX10_needMeasure_20 (Nat.le_of_ble_eq_true rfl) (Nat.le_of_ble_eq_true rfl) ⟨rfl, Or.inl ⟨rfl, rfl, ok_some h⟩⟩
    · exact p_throwNW (i := 36) hG rfl (by decide) rfl rfl dX10_needMeasure_9 dX10_needMeasure_12 dX10_needMeasure_13 dX10_needMeasure_16 dX10_needMeasure_19 (Nat.le_of_ble_eq_true rfl) (Nat.le_of_ble_eq_true rfl) (Nat.le_of_ble_eq_true rfl) (Nat.le_of_ble_eq_true rfl) (fun n => ⟨rfl, Or.inr ⟨_, _, rfl, rfl, ok_some h⟩⟩)
theorem s_X10_needMeasure {l : Launch} {g : GH} (hG : G0 l g) {n : Nat} {v1 : Int} {D : DT} {K : (Unit ⊕ Nat) → Prop} (h : ok (m_X10_needMeasure v1 D) K) : Sat l g yX10_needMeasure cX10_needMeasure 2 none 8 1 6 [vR g 0, vI v1] (LF n) D (PNr n D K) := Sat.of hG (by decide) (Nat.le_of_ble_eq_true rfl) (by simp [Value.category]) (x_X10_needMeasure hG h)
abbrev E_X10_needFar (l : Launch) (g : GH) (P : PT) : ENV := mkE l g yX10_needFar cX10_needFar 2 none [] 8 1 6 P
set_option maxRecDepth 100000 in
set_option maxHeartbeats 4000000 in
theorem x_X10_needFar {l : Launch} {g : GH} (hG : G0 l g) {n : Nat} {v1 : Int} {D : DT} {K : (Unit ⊕ Nat) → Prop} (h : ok (m_X10_needFar v1 D) K) : Px (E_X10_needFar l g (PNr n D K)) 0 [some (vR g 0), some (vI v1)] [] (LF n) D 0 0 := by
  refine p_iload_n dX10_needFar_0 rfl ?_
  refine q_if_lt (tgt := 11) dX10_needFar_1 (by decide) h (fun h => ?_) (fun h => ?_)
  · exact p_throwW (e := 2) (i := 37) hG tw_2 (by decide) rfl rfl dX10_needFar_11 dX10_needFar_14 dX10_needFar_15 dX10_needFar_18 dX10_needFar_21 (Nat.le_of_ble_eq_true rfl) (Nat.le_of_ble_eq_true rfl) (Nat.le_of_ble_eq_true rfl) (Nat.le_of_ble_eq_true rfl) (fun n => ⟨rfl, Or.inr ⟨_, _, rfl, rfl, ok_some h⟩⟩)
  · refine p_iload_n dX10_needFar_4 rfl ?_
    refine p_sipush dX10_needFar_5 (by decide) ?_
    refine q_icmp_le (tgt := 22) dX10_needFar_8 (by decide) h (fun h => ?_) (fun h => ?_)
    · exact p_return dX10_needFar_22 (Nat.le_of_ble_eq_true rfl) (Nat.le_of_ble_eq_true rfl) ⟨rfl, Or.inl ⟨rfl, rfl, ok_some h⟩⟩
    · exact p_throwW (e := 2) (i := 37) hG tw_2 (by decide) rfl rfl dX10_needFar_11 dX10_needFar_14 dX10_needFar_15 dX10_needFar_18 dX10_needFar_21 (Nat.le_of_ble_eq_true rfl) (Nat.le_of_ble_eq_true rfl) (Nat.le_of_ble_eq_true rfl) (Nat.le_of_ble_eq_true rfl) (fun n => ⟨rfl, Or.inr ⟨_, _, rfl, rfl, ok_some h⟩⟩)
theorem s_X10_needFar {l : Launch} {g : GH} (hG : G0 l g) {n : Nat} {v1 : Int} {D : DT} {K : (Unit ⊕ Nat) → Prop} (h : ok (m_X10_needFar v1 D) K) : Sat l g yX10_needFar cX10_needFar 2 none 8 1 6 [vR g 0, vI v1] (LF n) D (PNr n D K) := Sat.of hG (by decide) (Nat.le_of_ble_eq_true rfl) (by simp [Value.category]) (x_X10_needFar hG h)
abbrev E_X10_measure (l : Launch) (g : GH) (P : PT) : ENV := mkE l g yX10_measure cX10_measure 5 (some .int) [] 9 4 24 P
set_option maxRecDepth 100000 in
set_option maxHeartbeats 4000000 in
theorem x_X10_measure {l : Launch} {g : GH} (hG : G0 l g) {n : Nat} {v1 : Int} {v2 : Int} {v3 : Int} {v4 : Int} {D : DT} {K : ((Int ⊕ Nat) × DT) → Prop} (h : ok (m_X10_measure v1 v2 v3 v4 D) K) : Px (E_X10_measure l g (PXw n K)) 0 [some (vR g 0), some (vI v1), some (vI v2), some (vI v3), some (vI v4)] [] (LF n) D 0 0 := by
  refine p_aload_n dX10_measure_0 rfl ?_
  refine p_iload_n dX10_measure_1 rfl ?_
  refine cV_Nr [vI v1] [] dX10_measure_2 yv_X10_needCell ml_X10_91 (r := (RX10, TX10, 7)) rfl rfl (Nat.le_of_ble_eq_true rfl) rfl (Nat.le_of_ble_eq_true rfl) (Nat.le_of_ble_eq_true rfl) (Nat.le_of_ble_eq_true rfl) rfl h (fun K h => s_X10_needCell hG h) (fun e n h => px_out (Nat.le_of_ble_eq_true rfl) (Nat.le_of_ble_eq_true rfl) (Or.inr ⟨_, _, rfl, rfl, h⟩)) (fun h => ?_)
  refine p_aload_n dX10_measure_5 rfl ?_
  refine p_iload_n dX10_measure_6 rfl ?_
  refine cV_Nr [vI v3] [] dX10_measure_7 yv_X10_needLevel ml_X10_193 (r := (RX10, TX10, 7)) rfl rfl (Nat.le_of_ble_eq_true rfl) rfl (Nat.le_of_ble_eq_true rfl) (Nat.le_of_ble_eq_true rfl) (Nat.le_of_ble_eq_true rfl) rfl h (fun K h => s_X10_needLevel hG h) (fun e n h => px_out (Nat.le_of_ble_eq_true rfl) (Nat.le_of_ble_eq_true rfl) (Or.inr ⟨_, _, rfl, rfl, h⟩)) (fun h => ?_)
  refine p_aload_n dX10_measure_10 rfl ?_
  refine p_iload_n dX10_measure_11 rfl ?_
  refine cV_Nr [vI v2] [] dX10_measure_12 yv_X10_needMeasure ml_X10_266 (r := (RX10, TX10, 7)) rfl rfl (Nat.le_of_ble_eq_true rfl) rfl (Nat.le_of_ble_eq_true rfl) (Nat.le_of_ble_eq_true rfl) (Nat.le_of_ble_eq_true rfl) rfl h (fun K h => s_X10_needMeasure hG h) (fun e n h => px_out (Nat.le_of_ble_eq_true rfl) (Nat.le_of_ble_eq_true rfl) (Or.inr ⟨_, _, rfl, rfl, h⟩)) (fun h => ?_)
  refine p_aload_n dX10_measure_15 rfl ?_
  refine p_iload dX10_measure_16 rfl ?_
  refine cV_Nr [vI v4] [] dX10_measure_18 yv_X10_needFar ml_X10_269 (r := (RX10, TX10, 7)) rfl rfl (Nat.le_of_ble_eq_true rfl) rfl (Nat.le_of_ble_eq_true rfl) (Nat.le_of_ble_eq_true rfl) (Nat.le_of_ble_eq_true rfl) rfl h (fun K h => s_X10_needFar hG h) (fun e n h => px_out (Nat.le_of_ble_eq_true rfl) (Nat.le_of_ble_eq_true rfl) (Or.inr ⟨_, _, rfl, rfl, h⟩)) (fun h => ?_)
  refine p_aload_n dX10_measure_21 rfl ?_
  refine p_getr dX10_measure_22 fl_X10_10 (fun _ _ _ => rfl) rfl rfl ?_
  refine p_iload_n dX10_measure_25 rfl ?_
  refine cV_Aw [vI v3] [] dX10_measure_26 yv_X5_crowded ml_X10_220 (r := (RX5, TX5, 6)) rfl rfl (Nat.le_of_ble_eq_true rfl) rfl (Nat.le_of_ble_eq_true rfl) (Nat.le_of_ble_eq_true rfl) (Nat.le_of_ble_eq_true rfl) (wc_X5 wl_X5_1) h (fun K h => s_X5_crowded hG wl_X5_1 h) (fun D26 h => ?_)
  refine p_aload_n dX10_measure_29 rfl ?_
  refine p_getr dX10_measure_30 fl_X10_10 (fun _ _ _ => rfl) rfl rfl ?_
  refine p_getr dX10_measure_33 fl_X10_69 (fun _ _ _ => rfl) (wc_X5 wl_X5_1) (wf_X5_0 wl_X5_1) ?_
  refine p_iload_n dX10_measure_36 rfl ?_
  refine p_iload_n dX10_measure_37 rfl ?_
  refine p_iload dX10_measure_38 rfl ?_
  refine cV_Ir [vR g 2, vI v1, vI v2, vI v4] [] dX10_measure_40 yv_X2_gauge ml_X10_272 (r := (RX2, TX2, 7)) rfl rfl (Nat.le_of_ble_eq_true rfl) rfl (Nat.le_of_ble_eq_true rfl) (Nat.le_of_ble_eq_true rfl) (Nat.le_of_ble_eq_true rfl) (wc_X2 (wo_X5_5 wl_X5_1)) h (fun K h => s_X2_gauge hG (wo_X5_5 wl_X5_1) (wo_X5_0 wl_X5_1) h) (fun r40 h => ?_)
  exact p_ireturn dX10_measure_43 (Nat.le_of_ble_eq_true rfl) (Nat.le_of_ble_eq_true rfl) (Or.inl ⟨_, rfl, rfl, ok_some h⟩)
theorem s_X10_measure {l : Launch} {g : GH} (hG : G0 l g) {n : Nat} {v1 : Int} {v2 : Int} {v3 : Int} {v4 : Int} {D : DT} {K : ((Int ⊕ Nat) × DT) → Prop} (h : ok (m_X10_measure v1 v2 v3 v4 D) K) : Sat l g yX10_measure cX10_measure 5 (some .int) 9 4 24 [vR g 0, vI v1, vI v2, vI v3, vI v4] (LF n) D (PXw n K) := Sat.of hG (by decide) (Nat.le_of_ble_eq_true rfl) (by simp [Value.category]) (x_X10_measure hG h)
abbrev E_X10_best (l : Launch) (g : GH) (P : PT) : ENV := mkE l g yX10_best cX10_best 4 (some .int) [] 9 3 18 P
set_option maxRecDepth 100000 in
set_option maxHeartbeats 4000000 in
theorem x_X10_best {l : Launch} {g : GH} (hG : G0 l g) {n : Nat} {v1 : Int} {v2 : Int} {v3 : Int} {D : DT} {K : ((Int ⊕ Nat) × DT) → Prop} (h : ok (m_X10_best v1 v2 v3 D) K) : Px (E_X10_best l g (PXw n K)) 0 [some (vR g 0), some (vI v1), some (vI v2), some (vI v3)] [] (LF n) D 0 0 := by
  refine p_aload_n dX10_best_0 rfl ?_
  refine p_iload_n dX10_best_1 rfl ?_
  refine cV_Nr [vI v2] [] dX10_best_2 yv_X10_needLevel ml_X10_193 (r := (RX10, TX10, 7)) rfl rfl (Nat.le_of_ble_eq_true rfl) rfl (Nat.le_of_ble_eq_true rfl) (Nat.le_of_ble_eq_true rfl) (Nat.le_of_ble_eq_true rfl) rfl h (fun K h => s_X10_needLevel hG h) (fun e n h => px_out (Nat.le_of_ble_eq_true rfl) (Nat.le_of_ble_eq_true rfl) (Or.inr ⟨_, _, rfl, rfl, h⟩)) (fun h => ?_)
  refine p_aload_n dX10_best_5 rfl ?_
  refine p_iload_n dX10_best_6 rfl ?_
  refine cV_Nr [vI v1] [] dX10_best_7 yv_X10_needMeasure ml_X10_266 (r := (RX10, TX10, 7)) rfl rfl (Nat.le_of_ble_eq_true rfl) rfl (Nat.le_of_ble_eq_true rfl) (Nat.le_of_ble_eq_true rfl) (Nat.le_of_ble_eq_true rfl) rfl h (fun K h => s_X10_needMeasure hG h) (fun e n h => px_out (Nat.le_of_ble_eq_true rfl) (Nat.le_of_ble_eq_true rfl) (Or.inr ⟨_, _, rfl, rfl, h⟩)) (fun h => ?_)
  refine p_aload_n dX10_best_10 rfl ?_
  refine p_iload_n dX10_best_11 rfl ?_
  refine cV_Nr [vI v3] [] dX10_best_12 yv_X10_needFar ml_X10_269 (r := (RX10, TX10, 7)) rfl rfl (Nat.le_of_ble_eq_true rfl) rfl (Nat.le_of_ble_eq_true rfl) (Nat.le_of_ble_eq_true rfl) (Nat.le_of_ble_eq_true rfl) rfl h (fun K h => s_X10_needFar hG h) (fun e n h => px_out (Nat.le_of_ble_eq_true rfl) (Nat.le_of_ble_eq_true rfl) (Or.inr ⟨_, _, rfl, rfl, h⟩)) (fun h => ?_)
  refine p_aload_n dX10_best_15 rfl ?_
  refine p_getr dX10_best_16 fl_X10_10 (fun _ _ _ => rfl) rfl rfl ?_
  refine p_iload_n dX10_best_19 rfl ?_
  refine cV_Aw [vI v2] [] dX10_best_20 yv_X5_crowded ml_X10_220 (r := (RX5, TX5, 6)) rfl rfl (Nat.le_of_ble_eq_true rfl) rfl (Nat.le_of_ble_eq_true rfl) (Nat.le_of_ble_eq_true rfl) (Nat.le_of_ble_eq_true rfl) (wc_X5 wl_X5_1) h (fun K h => s_X5_crowded hG wl_X5_1 h) (fun D20 h => ?_)
  refine p_aload_n dX10_best_23 rfl ?_
  refine p_getr dX10_best_24 fl_X10_10 (fun _ _ _ => rfl) rfl rfl ?_
  refine p_getr dX10_best_27 fl_X10_69 (fun _ _ _ => rfl) (wc_X5 wl_X5_1) (wf_X5_0 wl_X5_1) ?_
  refine p_iload_n dX10_best_30 rfl ?_
  refine p_iload_n dX10_best_31 rfl ?_
  refine cV_Ir [vR g 2, vI v1, vI v3] [] dX10_best_32 yv_X2_topCell ml_X10_276 (r := (RX2, TX2, 7)) rfl rfl (Nat.le_of_ble_eq_true rfl) rfl (Nat.le_of_ble_eq_true rfl) (Nat.le_of_ble_eq_true rfl) (Nat.le_of_ble_eq_true rfl) (wc_X2 (wo_X5_5 wl_X5_1)) h (fun K h => s_X2_topCell hG (wo_X5_5 wl_X5_1) (wo_X5_0 wl_X5_1) h) (fun r32 h => ?_)
  exact p_ireturn dX10_best_35 (Nat.le_of_ble_eq_true rfl) (Nat.le_of_ble_eq_true rfl) (Or.inl ⟨_, rfl, rfl, ok_some h⟩)
theorem s_X10_best {l : Launch} {g : GH} (hG : G0 l g) {n : Nat} {v1 : Int} {v2 : Int} {v3 : Int} {D : DT} {K : ((Int ⊕ Nat) × DT) → Prop} (h : ok (m_X10_best v1 v2 v3 D) K) : Sat l g yX10_best cX10_best 4 (some .int) 9 3 18 [vR g 0, vI v1, vI v2, vI v3] (LF n) D (PXw n K) := Sat.of hG (by decide) (Nat.le_of_ble_eq_true rfl) (by simp [Value.category]) (x_X10_best hG h)
abbrev E_X10_nearest (l : Launch) (g : GH) (P : PT) : ENV := mkE l g yX10_nearest cX10_nearest 3 (some .int) [] 9 2 12 P
set_option maxRecDepth 100000 in
set_option maxHeartbeats 4000000 in
theorem x_X10_nearest {l : Launch} {g : GH} (hG : G0 l g) {n : Nat} {v1 : Int} {v2 : Int} {D : DT} {K : ((Int ⊕ Nat) × DT) → Prop} (h : ok (m_X10_nearest v1 v2 D) K) : Px (E_X10_nearest l g (PXw n K)) 0 [some (vR g 0), some (vI v1), some (vI v2)] [] (LF n) D 0 0 := by
  refine p_aload_n dX10_nearest_0 rfl ?_
  refine p_iload_n dX10_nearest_1 rfl ?_
  refine cV_Nr [vI v1] [] dX10_nearest_2 yv_X10_needCell ml_X10_91 (r := (RX10, TX10, 7)) rfl rfl (Nat.le_of_ble_eq_true rfl) rfl (Nat.le_of_ble_eq_true rfl) (Nat.le_of_ble_eq_true rfl) (Nat.le_of_ble_eq_true rfl) rfl h (fun K h => s_X10_needCell hG h) (fun e n h => px_out (Nat.le_of_ble_eq_true rfl) (Nat.le_of_ble_eq_true rfl) (Or.inr ⟨_, _, rfl, rfl, h⟩)) (fun h => ?_)
  refine p_aload_n dX10_nearest_5 rfl ?_
  refine p_iload_n dX10_nearest_6 rfl ?_
  refine cV_Nr [vI v2] [] dX10_nearest_7 yv_X10_needLevel ml_X10_193 (r := (RX10, TX10, 7)) rfl rfl (Nat.le_of_ble_eq_true rfl) rfl (Nat.le_of_ble_eq_true rfl) (Nat.le_of_ble_eq_true rfl) (Nat.le_of_ble_eq_true rfl) rfl h (fun K h => s_X10_needLevel hG h) (fun e n h => px_out (Nat.le_of_ble_eq_true rfl) (Nat.le_of_ble_eq_true rfl) (Or.inr ⟨_, _, rfl, rfl, h⟩)) (fun h => ?_)
  refine p_aload_n dX10_nearest_10 rfl ?_
  refine p_getr dX10_nearest_11 fl_X10_10 (fun _ _ _ => rfl) rfl rfl ?_
  refine p_iload_n dX10_nearest_14 rfl ?_
  refine cV_Aw [vI v2] [] dX10_nearest_15 yv_X5_crowded ml_X10_220 (r := (RX5, TX5, 6)) rfl rfl (Nat.le_of_ble_eq_true rfl) rfl (Nat.le_of_ble_eq_true rfl) (Nat.le_of_ble_eq_true rfl) (Nat.le_of_ble_eq_true rfl) (wc_X5 wl_X5_1) h (fun K h => s_X5_crowded hG wl_X5_1 h) (fun D15 h => ?_)
  refine p_aload_n dX10_nearest_18 rfl ?_
  refine p_getr dX10_nearest_19 fl_X10_10 (fun _ _ _ => rfl) rfl rfl ?_
  refine p_getr dX10_nearest_22 fl_X10_69 (fun _ _ _ => rfl) (wc_X5 wl_X5_1) (wf_X5_0 wl_X5_1) ?_
  refine p_iload_n dX10_nearest_25 rfl ?_
  refine cV_Ir [vR g 2, vI v1] [] dX10_nearest_26 yv_X2_nextSpot ml_X10_280 (r := (RX2, TX2, 7)) rfl rfl (Nat.le_of_ble_eq_true rfl) rfl (Nat.le_of_ble_eq_true rfl) (Nat.le_of_ble_eq_true rfl) (Nat.le_of_ble_eq_true rfl) (wc_X2 (wo_X5_5 wl_X5_1)) h (fun K h => s_X2_nextSpot hG (wo_X5_5 wl_X5_1) (wo_X5_0 wl_X5_1) h) (fun r26 h => ?_)
  exact p_ireturn dX10_nearest_29 (Nat.le_of_ble_eq_true rfl) (Nat.le_of_ble_eq_true rfl) (Or.inl ⟨_, rfl, rfl, ok_some h⟩)
theorem s_X10_nearest {l : Launch} {g : GH} (hG : G0 l g) {n : Nat} {v1 : Int} {v2 : Int} {D : DT} {K : ((Int ⊕ Nat) × DT) → Prop} (h : ok (m_X10_nearest v1 v2 D) K) : Sat l g yX10_nearest cX10_nearest 3 (some .int) 9 2 12 [vR g 0, vI v1, vI v2] (LF n) D (PXw n K) := Sat.of hG (by decide) (Nat.le_of_ble_eq_true rfl) (by simp [Value.category]) (x_X10_nearest hG h)
abbrev E_X10_served (l : Launch) (g : GH) (P : PT) : ENV := mkE l g yX10_served cX10_served 3 (some .int) [] 9 2 12 P
set_option maxRecDepth 100000 in
set_option maxHeartbeats 4000000 in
theorem x_X10_served {l : Launch} {g : GH} (hG : G0 l g) {n : Nat} {v1 : Int} {v2 : Int} {D : DT} {K : ((Int ⊕ Nat) × DT) → Prop} (h : ok (m_X10_served v1 v2 D) K) : Px (E_X10_served l g (PXw n K)) 0 [some (vR g 0), some (vI v1), some (vI v2)] [] (LF n) D 0 0 := by
  refine p_aload_n dX10_served_0 rfl ?_
  refine p_iload_n dX10_served_1 rfl ?_
  refine cV_Nr [vI v1] [] dX10_served_2 yv_X10_needCell ml_X10_91 (r := (RX10, TX10, 7)) rfl rfl (Nat.le_of_ble_eq_true rfl) rfl (Nat.le_of_ble_eq_true rfl) (Nat.le_of_ble_eq_true rfl) (Nat.le_of_ble_eq_true rfl) rfl h (fun K h => s_X10_needCell hG h) (fun e n h => px_out (Nat.le_of_ble_eq_true rfl) (Nat.le_of_ble_eq_true rfl) (Or.inr ⟨_, _, rfl, rfl, h⟩)) (fun h => ?_)
  refine p_aload_n dX10_served_5 rfl ?_
  refine p_iload_n dX10_served_6 rfl ?_
  refine cV_Nr [vI v2] [] dX10_served_7 yv_X10_needLevel ml_X10_193 (r := (RX10, TX10, 7)) rfl rfl (Nat.le_of_ble_eq_true rfl) rfl (Nat.le_of_ble_eq_true rfl) (Nat.le_of_ble_eq_true rfl) (Nat.le_of_ble_eq_true rfl) rfl h (fun K h => s_X10_needLevel hG h) (fun e n h => px_out (Nat.le_of_ble_eq_true rfl) (Nat.le_of_ble_eq_true rfl) (Or.inr ⟨_, _, rfl, rfl, h⟩)) (fun h => ?_)
  refine p_aload_n dX10_served_10 rfl ?_
  refine p_getr dX10_served_11 fl_X10_10 (fun _ _ _ => rfl) rfl rfl ?_
  refine p_iload_n dX10_served_14 rfl ?_
  refine cV_Aw [vI v2] [] dX10_served_15 yv_X5_crowded ml_X10_220 (r := (RX5, TX5, 6)) rfl rfl (Nat.le_of_ble_eq_true rfl) rfl (Nat.le_of_ble_eq_true rfl) (Nat.le_of_ble_eq_true rfl) (Nat.le_of_ble_eq_true rfl) (wc_X5 wl_X5_1) h (fun K h => s_X5_crowded hG wl_X5_1 h) (fun D15 h => ?_)
  refine p_aload_n dX10_served_18 rfl ?_
  refine p_getr dX10_served_19 fl_X10_10 (fun _ _ _ => rfl) rfl rfl ?_
  refine p_getr dX10_served_22 fl_X10_69 (fun _ _ _ => rfl) (wc_X5 wl_X5_1) (wf_X5_0 wl_X5_1) ?_
  refine p_iload_n dX10_served_25 rfl ?_
  refine cV_Ir [vR g 2, vI v1] [] dX10_served_26 yv_X2_clientsOf ml_X10_284 (r := (RX2, TX2, 7)) rfl rfl (Nat.le_of_ble_eq_true rfl) rfl (Nat.le_of_ble_eq_true rfl) (Nat.le_of_ble_eq_true rfl) (Nat.le_of_ble_eq_true rfl) (wc_X2 (wo_X5_5 wl_X5_1)) h (fun K h => s_X2_clientsOf hG (wo_X5_5 wl_X5_1) (wo_X5_0 wl_X5_1) h) (fun r26 h => ?_)
  exact p_ireturn dX10_served_29 (Nat.le_of_ble_eq_true rfl) (Nat.le_of_ble_eq_true rfl) (Or.inl ⟨_, rfl, rfl, ok_some h⟩)
theorem s_X10_served {l : Launch} {g : GH} (hG : G0 l g) {n : Nat} {v1 : Int} {v2 : Int} {D : DT} {K : ((Int ⊕ Nat) × DT) → Prop} (h : ok (m_X10_served v1 v2 D) K) : Sat l g yX10_served cX10_served 3 (some .int) 9 2 12 [vR g 0, vI v1, vI v2] (LF n) D (PXw n K) := Sat.of hG (by decide) (Nat.le_of_ble_eq_true rfl) (by simp [Value.category]) (x_X10_served hG h)
abbrev E_X10_bringPath (l : Launch) (g : GH) (P : PT) : ENV := mkE l g yX10_bringPath cX10_bringPath 4 none [] 6 0 0 P
set_option maxRecDepth 100000 in
set_option maxHeartbeats 4000000 in
theorem x_X10_bringPath {l : Launch} {g : GH} (hG : G0 l g) {n : Nat} {v1 : Int} {v2 : Int} {v3 : Int} {D : DT} {K : DT → Prop} (h : ok (m_X10_bringPath v1 v2 v3 D) K) : Px (E_X10_bringPath l g (PVw n K)) 0 [some (vR g 0), some (vI v1), some (vI v2), some (vI v3)] [] (LF n) D 0 0 := by
  refine p_aload_n dX10_bringPath_0 rfl ?_
  refine p_getr dX10_bringPath_1 fl_X10_47 (fun _ _ _ => rfl) rfl rfl ?_
  refine p_iload_n dX10_bringPath_4 rfl ?_
  refine p_iload_n dX10_bringPath_5 rfl ?_
  refine p_iload_n dX10_bringPath_6 rfl ?_
  refine cV_Ir [vI v1, vI v2, vI v3] [] dX10_bringPath_7 yv_X4_isOf ml_X10_373 (r := (RX4, TX4, 8)) rfl rfl (Nat.le_of_ble_eq_true rfl) rfl (Nat.le_of_ble_eq_true rfl) (Nat.le_of_ble_eq_true rfl) (Nat.le_of_ble_eq_true rfl) rfl h (fun K h => s_X4_isOf hG h) (fun r7 h => ?_)
  refine q_if_ne (tgt := 47) dX10_bringPath_10 (by decide) h (fun h => ?_) (fun h => ?_)
  · exact p_return dX10_bringPath_47 (Nat.le_of_ble_eq_true rfl) (Nat.le_of_ble_eq_true rfl) ⟨rfl, rfl, ok_some h⟩
  · refine p_aload_n dX10_bringPath_13 rfl ?_
    refine p_getr dX10_bringPath_14 fl_X10_47 (fun _ _ _ => rfl) rfl rfl ?_
    refine p_aload_n dX10_bringPath_17 rfl ?_
    refine p_getr dX10_bringPath_18 fl_X10_10 (fun _ _ _ => rfl) rfl rfl ?_
    refine p_getr dX10_bringPath_21 fl_X10_69 (fun _ _ _ => rfl) (wc_X5 wl_X5_1) (wf_X5_0 wl_X5_1) ?_
    refine p_aload_n dX10_bringPath_24 rfl ?_
    refine p_getr dX10_bringPath_25 fl_X10_10 (fun _ _ _ => rfl) rfl rfl ?_
    refine p_iload_n dX10_bringPath_28 rfl ?_
    refine cV_Aw [vI v2] [vR g 2, vR g 70] dX10_bringPath_29 yv_X5_crowded ml_X10_220 (r := (RX5, TX5, 6)) rfl rfl (Nat.le_of_ble_eq_true rfl) rfl (Nat.le_of_ble_eq_true rfl) (Nat.le_of_ble_eq_true rfl) (Nat.le_of_ble_eq_true rfl) (wc_X5 wl_X5_1) h (fun K h => s_X5_crowded hG wl_X5_1 h) (fun D29 h => ?_)
    refine p_iload_n dX10_bringPath_32 rfl ?_
    refine p_iload_n dX10_bringPath_33 rfl ?_
    refine cV_Vw [vR g 2, vR g 23, vI v1, vI v3] [] dX10_bringPath_34 yv_X4_follow ml_X10_377 (r := (RX4, TX4, 8)) rfl rfl (Nat.le_of_ble_eq_true rfl) rfl (Nat.le_of_ble_eq_true rfl) (Nat.le_of_ble_eq_true rfl) (Nat.le_of_ble_eq_true rfl) rfl h (fun K h => s_X4_follow hG (wo_X5_0 wl_X5_1) (wo_X5_5 wl_X5_1) h) (fun D34 h => ?_)
    refine p_aload_n dX10_bringPath_37 rfl ?_
    refine p_getr dX10_bringPath_38 fl_X10_47 (fun _ _ _ => rfl) rfl rfl ?_
    refine p_iload_n dX10_bringPath_41 rfl ?_
    refine p_iload_n dX10_bringPath_42 rfl ?_
    refine p_iload_n dX10_bringPath_43 rfl ?_
    refine cV_Vw [vI v1, vI v2, vI v3] [] dX10_bringPath_44 yv_X4_keepAs ml_X10_381 (r := (RX4, TX4, 8)) rfl rfl (Nat.le_of_ble_eq_true rfl) rfl (Nat.le_of_ble_eq_true rfl) (Nat.le_of_ble_eq_true rfl) (Nat.le_of_ble_eq_true rfl) rfl h (fun K h => s_X4_keepAs hG h) (fun D44 h => ?_)
    exact p_return dX10_bringPath_47 (Nat.le_of_ble_eq_true rfl) (Nat.le_of_ble_eq_true rfl) ⟨rfl, rfl, ok_some h⟩
theorem s_X10_bringPath {l : Launch} {g : GH} (hG : G0 l g) {n : Nat} {v1 : Int} {v2 : Int} {v3 : Int} {D : DT} {K : DT → Prop} (h : ok (m_X10_bringPath v1 v2 v3 D) K) : Sat l g yX10_bringPath cX10_bringPath 4 none 6 0 0 [vR g 0, vI v1, vI v2, vI v3] (LF n) D (PVw n K) := Sat.of hG (by decide) (Nat.le_of_ble_eq_true rfl) (by simp [Value.category]) (x_X10_bringPath hG h)
abbrev E_X10_countOrStop (l : Launch) (g : GH) (P : PT) : ENV := mkE l g yX10_countOrStop cX10_countOrStop 2 (some .int) [] 1 0 0 P
set_option maxRecDepth 100000 in
set_option maxHeartbeats 4000000 in
theorem x_X10_countOrStop {l : Launch} {g : GH} (hG : G0 l g) {n : Nat} {v1 : Int} {D : DT} {K : Int → Prop} (h : ok (m_X10_countOrStop v1 D) K) : Px (E_X10_countOrStop l g (PIr n D K)) 0 [some (vR g 0), some (vI v1)] [] (LF n) D 0 0 := by
  refine p_iload_n dX10_countOrStop_0 rfl ?_
  refine p_iconst dX10_countOrStop_1 ?_
  refine q_icmp_ne (tgt := 15) dX10_countOrStop_2 (by decide) h (fun h => ?_) (fun h => ?_)
  · refine p_aload_n dX10_countOrStop_15 rfl ?_
    refine p_getr dX10_countOrStop_16 fl_X10_47 (fun _ _ _ => rfl) rfl rfl ?_
    refine p_iload_n dX10_countOrStop_19 rfl ?_
    refine cV_Ir [vI v1] [] dX10_countOrStop_20 yv_X4_stopAt ml_X10_387 (r := (RX4, TX4, 8)) rfl rfl (Nat.le_of_ble_eq_true rfl) rfl (Nat.le_of_ble_eq_true rfl) (Nat.le_of_ble_eq_true rfl) (Nat.le_of_ble_eq_true rfl) rfl h (fun K h => s_X4_stopAt hG h) (fun r20 h => ?_)
    exact p_ireturn dX10_countOrStop_23 (Nat.le_of_ble_eq_true rfl) (Nat.le_of_ble_eq_true rfl) ⟨_, rfl, rfl, rfl, ok_some h⟩
  · refine p_aload_n dX10_countOrStop_5 rfl ?_
    refine p_getr dX10_countOrStop_6 fl_X10_47 (fun _ _ _ => rfl) rfl rfl ?_
    refine p_geti dX10_countOrStop_9 fl_X10_384 (fun _ _ _ => rfl) rfl ?_
    refine p_goto (tgt := 23) dX10_countOrStop_12 (by decide) ?_
    exact p_ireturn dX10_countOrStop_23 (Nat.le_of_ble_eq_true rfl) (Nat.le_of_ble_eq_true rfl) ⟨_, rfl, rfl, rfl, ok_some h⟩
theorem s_X10_countOrStop {l : Launch} {g : GH} (hG : G0 l g) {n : Nat} {v1 : Int} {D : DT} {K : Int → Prop} (h : ok (m_X10_countOrStop v1 D) K) : Sat l g yX10_countOrStop cX10_countOrStop 2 (some .int) 1 0 0 [vR g 0, vI v1] (LF n) D (PIr n D K) := Sat.of hG (by decide) (Nat.le_of_ble_eq_true rfl) (by simp [Value.category]) (x_X10_countOrStop hG h)
