set_option maxRecDepth 100000 in
theorem yw_J9_max_7cf53 : YW yJ9_max_7cf53 cJ9_max_7cf53 2 (some .int) 2 := ⟨TBm (i := 1291) rfl rfl, TBm (i := 154) rfl rfl, by decide, by decide +kernel⟩
set_option maxRecDepth 100000 in
theorem ys_J9_max_7cf53 : YS yJ9_max_7cf53 cJ9_max_7cf53 2 (some .int) 2 := ⟨yw_J9_max_7cf53, TBm (i := 1290) rfl rfl⟩
set_option maxRecDepth 100000 in
theorem yw_J9_min_7cf53 : YW yJ9_min_7cf53 cJ9_min_7cf53 2 (some .int) 2 := ⟨TBm (i := 1113) rfl rfl, TBm (i := 154) rfl rfl, by decide, by decide +kernel⟩
set_option maxRecDepth 100000 in
theorem ys_J9_min_7cf53 : YS yJ9_min_7cf53 cJ9_min_7cf53 2 (some .int) 2 := ⟨yw_J9_min_7cf53, TBm (i := 1112) rfl rfl⟩
set_option maxRecDepth 100000 in
theorem yw_J0_length_8abf5 : YW yJ0_length_8abf5 cJ0_length_8abf5 1 (some .int) 0 := ⟨TBm (i := 663) rfl rfl, TBm (i := 142) rfl rfl, by decide, by decide +kernel⟩
set_option maxRecDepth 100000 in
theorem yv_J0_length_8abf5 : YV yJ0_length_8abf5 cJ0_length_8abf5 1 (some .int) 0 := ⟨yw_J0_length_8abf5, TBm (i := 661) rfl rfl, TBm (i := 662) rfl rfl⟩
set_option maxRecDepth 100000 in
theorem yw_J0_charAt_5068e : YW yJ0_charAt_5068e cJ0_charAt_5068e 2 (some .char) 1 := ⟨TBm (i := 673) rfl rfl, TBm (i := 142) rfl rfl, by decide, by decide +kernel⟩
set_option maxRecDepth 100000 in
theorem yv_J0_charAt_5068e : YV yJ0_charAt_5068e cJ0_charAt_5068e 2 (some .char) 1 := ⟨yw_J0_charAt_5068e, TBm (i := 671) rfl rfl, TBm (i := 672) rfl rfl⟩
set_option maxRecDepth 100000 in
theorem yw_J0_coder_7d493 : YW yJ0_coder_7d493 cJ0_coder_7d493 1 (some .byte) 0 := ⟨TBm (i := 667) rfl rfl, TBm (i := 142) rfl rfl, by decide, by decide +kernel⟩
set_option maxRecDepth 100000 in
theorem yv_J0_coder_7d493 : YV yJ0_coder_7d493 cJ0_coder_7d493 1 (some .byte) 0 := ⟨yw_J0_coder_7d493, TBm (i := 665) rfl rfl, TBm (i := 666) rfl rfl⟩
set_option maxRecDepth 100000 in
theorem yw_J0_isLatin1_aae02 : YW yJ0_isLatin1_aae02 cJ0_isLatin1_aae02 1 (some .boolean) 0 := ⟨TBm (i := 677) rfl rfl, TBm (i := 142) rfl rfl, by decide, by decide +kernel⟩
set_option maxRecDepth 100000 in
theorem yv_J0_isLatin1_aae02 : YV yJ0_isLatin1_aae02 cJ0_isLatin1_aae02 1 (some .boolean) 0 := ⟨yw_J0_isLatin1_aae02, TBm (i := 675) rfl rfl, TBm (i := 676) rfl rfl⟩
set_option maxRecDepth 100000 in
theorem yw_J0_checkIndex_df160 : YW yJ0_checkIndex_df160 cJ0_checkIndex_df160 2 none 2 := ⟨TBm (i := 683) rfl rfl, TBm (i := 142) rfl rfl, by decide, by decide +kernel⟩
set_option maxRecDepth 100000 in
theorem ys_J0_checkIndex_df160 : YS yJ0_checkIndex_df160 cJ0_checkIndex_df160 2 none 2 := ⟨yw_J0_checkIndex_df160, TBm (i := 682) rfl rfl⟩
set_option maxRecDepth 100000 in
theorem yw_J1_charAt_3b067 : YW yJ1_charAt_3b067 cJ1_charAt_3b067 2 (some .char) 2 := ⟨TBm (i := 680) rfl rfl, TBm (i := 143) rfl rfl, by decide, by decide +kernel⟩
set_option maxRecDepth 100000 in
theorem ys_J1_charAt_3b067 : YS yJ1_charAt_3b067 cJ1_charAt_3b067 2 (some .char) 2 := ⟨yw_J1_charAt_3b067, TBm (i := 679) rfl rfl⟩
set_option maxRecDepth 100000 in
theorem yw_J7_fill_53178 : YW yJ7_fill_53178 cJ7_fill_53178 4 none 2 := ⟨TBm (i := 550) rfl rfl, TBm (i := 153) rfl rfl, by decide, by decide +kernel⟩
set_option maxRecDepth 100000 in
theorem ys_J7_fill_53178 : YS yJ7_fill_53178 cJ7_fill_53178 4 none 2 := ⟨yw_J7_fill_53178, TBm (i := 549) rfl rfl⟩
set_option maxRecDepth 100000 in
theorem yw_J3_checkIndex_8e157 : YW yJ3_checkIndex_8e157 cJ3_checkIndex_8e157 3 (some .int) 3 := ⟨TBm (i := 688) rfl rfl, TBm (i := 144) rfl rfl, by decide, by decide +kernel⟩
set_option maxRecDepth 100000 in
theorem ys_J3_checkIndex_8e157 : YS yJ3_checkIndex_8e157 cJ3_checkIndex_8e157 3 (some .int) 3 := ⟨yw_J3_checkIndex_8e157, TBm (i := 687) rfl rfl⟩
set_option maxRecDepth 100000 in
theorem ml_J0_335 : Cond.methodLink RJ0 335 yJ0_coder_7d493 ∈ TB := TBm (i := 664) rfl rfl
set_option maxRecDepth 100000 in
theorem ml_J0_492 : Cond.methodLink RJ0 492 yJ0_isLatin1_aae02 ∈ TB := TBm (i := 674) rfl rfl
set_option maxRecDepth 100000 in
theorem ml_J0_495 : Cond.methodLink RJ0 495 yJ1_charAt_3b067 ∈ TB := TBm (i := 678) rfl rfl
set_option maxRecDepth 100000 in
theorem ml_J1_9 : Cond.methodLink RJ1 9 yJ0_checkIndex_df160 ∈ TB := TBm (i := 681) rfl rfl
set_option maxRecDepth 100000 in
theorem ml_J0_1059 : Cond.methodLink RJ0 1059 yJ3_checkIndex_8e157 ∈ TB := TBm (i := 686) rfl rfl
set_option maxRecDepth 100000 in
theorem ml_J0_498 : Cond.methodLink RJ0 498 yJ2_charAt_3b067 ∈ TB := TBm (i := 689) rfl rfl
set_option maxRecDepth 100000 in
theorem acw : Cond.native arraycopyName ∈ TB ∧ Cond.static arraycopyName ∈ TB ∧ Cond.initialized "java/lang/System" ∈ TB := ⟨TBm (i := 755) rfl rfl, TBm (i := 754) rfl rfl, TBm (i := 146) rfl rfl⟩
set_option maxRecDepth 100000 in
theorem ml_X9_124 : Cond.methodLink RX9 124 arraycopyName ∈ TB := TBm (i := 753) rfl rfl
set_option maxRecDepth 100000 in
theorem cw_X9_139 : Cond.constant RX9 139 (Int32.ofInt 99999) ∈ TB := by
  have h : Cond.constant RX9 139 (99999 : Int32) ∈ TB := TBm (i := 760) rfl rfl
  rw [show (Int32.ofInt 99999) = (99999 : Int32) by decide]
  exact h
set_option maxRecDepth 100000 in
theorem cw_X1_54 : Cond.constant RX1 54 (Int32.ofInt 99999) ∈ TB := by
  have h : Cond.constant RX1 54 (99999 : Int32) ∈ TB := TBm (i := 765) rfl rfl
  rw [show (Int32.ofInt 99999) = (99999 : Int32) by decide]
  exact h
set_option maxRecDepth 100000 in
theorem ml_X1_48 : Cond.methodLink RX1 48 arraycopyName ∈ TB := TBm (i := 857) rfl rfl
set_option maxRecDepth 100000 in
theorem cw_X10_145 : Cond.constant RX10 145 (Int32.ofInt 99999) ∈ TB := by
  have h : Cond.constant RX10 145 (99999 : Int32) ∈ TB := TBm (i := 1012) rfl rfl
  rw [show (Int32.ofInt 99999) = (99999 : Int32) by decide]
  exact h
set_option maxRecDepth 100000 in
theorem cl_X0_28 : Cond.constantLong RX0 28 (Int64.ofInt 2) ∈ TB := by
  have h : Cond.constantLong RX0 28 (2 : Int64) ∈ TB := TBm (i := 1102) rfl rfl
  rw [show (Int64.ofInt 2) = (2 : Int64) by decide]
  exact h
set_option maxRecDepth 100000 in
theorem ml_X6_50 : Cond.methodLink RX6 50 arraycopyName ∈ TB := TBm (i := 1283) rfl rfl
set_option maxRecDepth 100000 in
theorem ml_X4_70 : Cond.methodLink RX4 70 arraycopyName ∈ TB := TBm (i := 1425) rfl rfl
set_option maxRecDepth 100000 in
theorem cw_X11_194 : Cond.constant RX11 194 (Int32.ofInt 99999) ∈ TB := by
  have h : Cond.constant RX11 194 (99999 : Int32) ∈ TB := TBm (i := 1797) rfl rfl
  rw [show (Int32.ofInt 99999) = (99999 : Int32) by decide]
  exact h
set_option maxRecDepth 100000 in
theorem cw_X11_232 : Cond.constant RX11 232 (Int32.ofInt 268435456) ∈ TB := by
  have h : Cond.constant RX11 232 (268435456 : Int32) ∈ TB := TBm (i := 1838) rfl rfl
  rw [show (Int32.ofInt 268435456) = (268435456 : Int32) by decide]
  exact h
