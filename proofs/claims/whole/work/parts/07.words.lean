/-! ===== words of the tables, by their places ===== -/
theorem TBp {ws : List Cond} (ps : List Nat) (hp : ws = ps.filterMap (fun i => lw_tbl[i]?)) (h : ws.all goodWord = true) : ∀ w ∈ ws, w ∈ TB := by
  intro w hw
  have h1 := List.all_eq_true.mp h w hw
  rw [hp] at hw
  obtain ⟨i, -, hi⟩ := List.mem_filterMap.mp hw
  exact TBm hi h1
theorem uw_X0 : ∀ w ∈ u_ws RX0 TX0 3, w ∈ TB := by decide +kernel
theorem ck_X0 : CK 0 RX0 TX0 3 := ⟨rfl, uw_X0, tyX0_ok, nmX0⟩
theorem uw_X1 : ∀ w ∈ u_ws RX1 TX1 11, w ∈ TB := by decide +kernel
theorem ck_X1 : CK 1 RX1 TX1 11 := ⟨rfl, uw_X1, tyX1_ok, nmX1⟩
theorem uw_X2 : ∀ w ∈ u_ws RX2 TX2 7, w ∈ TB := by decide +kernel
theorem ck_X2 : CK 2 RX2 TX2 7 := ⟨rfl, uw_X2, tyX2_ok, nmX2⟩
theorem uw_X3 : ∀ w ∈ u_ws RX3 TX3 4, w ∈ TB := by decide +kernel
theorem ck_X3 : CK 3 RX3 TX3 4 := ⟨rfl, uw_X3, tyX3_ok, nmX3⟩
theorem uw_X4 : ∀ w ∈ u_ws RX4 TX4 8, w ∈ TB := by decide +kernel
theorem ck_X4 : CK 4 RX4 TX4 8 := ⟨rfl, uw_X4, tyX4_ok, nmX4⟩
theorem uw_X5 : ∀ w ∈ u_ws RX5 TX5 6, w ∈ TB := by decide +kernel
theorem ck_X5 : CK 5 RX5 TX5 6 := ⟨rfl, uw_X5, tyX5_ok, nmX5⟩
theorem uw_X6 : ∀ w ∈ u_ws RX6 TX6 9, w ∈ TB := by decide +kernel
theorem ck_X6 : CK 6 RX6 TX6 9 := ⟨rfl, uw_X6, tyX6_ok, nmX6⟩
theorem uw_X7 : ∀ w ∈ u_ws RX7 TX7 2, w ∈ TB := by decide +kernel
theorem ck_X7 : CK 7 RX7 TX7 2 := ⟨rfl, uw_X7, tyX7_ok, nmX7⟩
theorem uw_X8 : ∀ w ∈ u_ws RX8 TX8 7, w ∈ TB := by decide +kernel
theorem ck_X8 : CK 8 RX8 TX8 7 := ⟨rfl, uw_X8, tyX8_ok, nmX8⟩
theorem uw_X9 : ∀ w ∈ u_ws RX9 TX9 10, w ∈ TB := by decide +kernel
theorem ck_X9 : CK 9 RX9 TX9 10 := ⟨rfl, uw_X9, tyX9_ok, nmX9⟩
theorem uw_X10 : ∀ w ∈ u_ws RX10 TX10 7, w ∈ TB := by decide +kernel
theorem ck_X10 : CK 10 RX10 TX10 7 := ⟨rfl, uw_X10, tyX10_ok, nmX10⟩
theorem uw_X11 : ∀ w ∈ u_ws RX11 TX11 41, w ∈ TB := by decide +kernel
theorem ck_X11 : CK 11 RX11 TX11 41 := ⟨rfl, uw_X11, tyX11_ok, nmX11⟩
set_option maxRecDepth 100000 in
theorem fw_X1_9 : Cond.fieldLink RX1 9 (TX1 0).1 (TX1 0).2.1 (TX1 0).2.2.1 ∈ TB := TBm (i := 175) rfl rfl
theorem fl_X1_9 : FLk RX1 9 1 0 := ⟨_, _, _, ck_X1, by decide, fw_X1_9⟩
theorem fq_X1_9 : FLw RX1 9 1 0 := ⟨_, _, _, ck_X1, by decide, fw_X1_9, rfl⟩
set_option maxRecDepth 100000 in
theorem fw_X9_153 : Cond.fieldLink RX9 153 (TX1 0).1 (TX1 0).2.1 (TX1 0).2.2.1 ∈ TB := TBm (i := 176) rfl rfl
theorem fl_X9_153 : FLk RX9 153 1 0 := ⟨_, _, _, ck_X1, by decide, fw_X9_153⟩
theorem fq_X9_153 : FLw RX9 153 1 0 := ⟨_, _, _, ck_X1, by decide, fw_X9_153, rfl⟩
set_option maxRecDepth 100000 in
theorem fw_X2_139 : Cond.fieldLink RX2 139 (TX1 0).1 (TX1 0).2.1 (TX1 0).2.2.1 ∈ TB := TBm (i := 177) rfl rfl
theorem fl_X2_139 : FLk RX2 139 1 0 := ⟨_, _, _, ck_X1, by decide, fw_X2_139⟩
theorem fq_X2_139 : FLw RX2 139 1 0 := ⟨_, _, _, ck_X1, by decide, fw_X2_139, rfl⟩
set_option maxRecDepth 100000 in
theorem fw_X10_302 : Cond.fieldLink RX10 302 (TX1 0).1 (TX1 0).2.1 (TX1 0).2.2.1 ∈ TB := TBm (i := 178) rfl rfl
theorem fl_X10_302 : FLk RX10 302 1 0 := ⟨_, _, _, ck_X1, by decide, fw_X10_302⟩
theorem fq_X10_302 : FLw RX10 302 1 0 := ⟨_, _, _, ck_X1, by decide, fw_X10_302, rfl⟩
set_option maxRecDepth 100000 in
theorem fw_X1_15 : Cond.fieldLink RX1 15 (TX1 1).1 (TX1 1).2.1 (TX1 1).2.2.1 ∈ TB := TBm (i := 179) rfl rfl
theorem fl_X1_15 : FLk RX1 15 1 1 := ⟨_, _, _, ck_X1, by decide, fw_X1_15⟩
theorem fq_X1_15 : FLw RX1 15 1 1 := ⟨_, _, _, ck_X1, by decide, fw_X1_15, rfl⟩
set_option maxRecDepth 100000 in
theorem fw_X7_19 : Cond.fieldLink RX7 19 (TX1 1).1 (TX1 1).2.1 (TX1 1).2.2.1 ∈ TB := TBm (i := 180) rfl rfl
theorem fl_X7_19 : FLk RX7 19 1 1 := ⟨_, _, _, ck_X1, by decide, fw_X7_19⟩
theorem fq_X7_19 : FLw RX7 19 1 1 := ⟨_, _, _, ck_X1, by decide, fw_X7_19, rfl⟩
set_option maxRecDepth 100000 in
theorem fw_X9_144 : Cond.fieldLink RX9 144 (TX1 1).1 (TX1 1).2.1 (TX1 1).2.2.1 ∈ TB := TBm (i := 181) rfl rfl
theorem fl_X9_144 : FLk RX9 144 1 1 := ⟨_, _, _, ck_X1, by decide, fw_X9_144⟩
theorem fq_X9_144 : FLw RX9 144 1 1 := ⟨_, _, _, ck_X1, by decide, fw_X9_144, rfl⟩
set_option maxRecDepth 100000 in
theorem fw_X2_142 : Cond.fieldLink RX2 142 (TX1 1).1 (TX1 1).2.1 (TX1 1).2.2.1 ∈ TB := TBm (i := 182) rfl rfl
theorem fl_X2_142 : FLk RX2 142 1 1 := ⟨_, _, _, ck_X1, by decide, fw_X2_142⟩
theorem fq_X2_142 : FLw RX2 142 1 1 := ⟨_, _, _, ck_X1, by decide, fw_X2_142, rfl⟩
set_option maxRecDepth 100000 in
theorem fw_X10_305 : Cond.fieldLink RX10 305 (TX1 1).1 (TX1 1).2.1 (TX1 1).2.2.1 ∈ TB := TBm (i := 183) rfl rfl
theorem fl_X10_305 : FLk RX10 305 1 1 := ⟨_, _, _, ck_X1, by decide, fw_X10_305⟩
theorem fq_X10_305 : FLw RX10 305 1 1 := ⟨_, _, _, ck_X1, by decide, fw_X10_305, rfl⟩
set_option maxRecDepth 100000 in
theorem fw_X1_18 : Cond.fieldLink RX1 18 (TX1 2).1 (TX1 2).2.1 (TX1 2).2.2.1 ∈ TB := TBm (i := 184) rfl rfl
theorem fl_X1_18 : FLk RX1 18 1 2 := ⟨_, _, _, ck_X1, by decide, fw_X1_18⟩
theorem fq_X1_18 : FLw RX1 18 1 2 := ⟨_, _, _, ck_X1, by decide, fw_X1_18, rfl⟩
set_option maxRecDepth 100000 in
theorem fw_X8_35 : Cond.fieldLink RX8 35 (TX1 2).1 (TX1 2).2.1 (TX1 2).2.2.1 ∈ TB := TBm (i := 185) rfl rfl
theorem fl_X8_35 : FLk RX8 35 1 2 := ⟨_, _, _, ck_X1, by decide, fw_X8_35⟩
theorem fq_X8_35 : FLw RX8 35 1 2 := ⟨_, _, _, ck_X1, by decide, fw_X8_35, rfl⟩
set_option maxRecDepth 100000 in
theorem fw_X2_49 : Cond.fieldLink RX2 49 (TX1 2).1 (TX1 2).2.1 (TX1 2).2.2.1 ∈ TB := TBm (i := 186) rfl rfl
theorem fl_X2_49 : FLk RX2 49 1 2 := ⟨_, _, _, ck_X1, by decide, fw_X2_49⟩
theorem fq_X2_49 : FLw RX2 49 1 2 := ⟨_, _, _, ck_X1, by decide, fw_X2_49, rfl⟩
set_option maxRecDepth 100000 in
theorem fw_X10_88 : Cond.fieldLink RX10 88 (TX1 2).1 (TX1 2).2.1 (TX1 2).2.2.1 ∈ TB := TBm (i := 187) rfl rfl
theorem fl_X10_88 : FLk RX10 88 1 2 := ⟨_, _, _, ck_X1, by decide, fw_X10_88⟩
theorem fq_X10_88 : FLw RX10 88 1 2 := ⟨_, _, _, ck_X1, by decide, fw_X10_88, rfl⟩
set_option maxRecDepth 100000 in
theorem fw_X9_113 : Cond.fieldLink RX9 113 (TX1 2).1 (TX1 2).2.1 (TX1 2).2.2.1 ∈ TB := TBm (i := 188) rfl rfl
theorem fl_X9_113 : FLk RX9 113 1 2 := ⟨_, _, _, ck_X1, by decide, fw_X9_113⟩
theorem fq_X9_113 : FLw RX9 113 1 2 := ⟨_, _, _, ck_X1, by decide, fw_X9_113, rfl⟩
set_option maxRecDepth 100000 in
theorem fw_X6_56 : Cond.fieldLink RX6 56 (TX1 2).1 (TX1 2).2.1 (TX1 2).2.2.1 ∈ TB := TBm (i := 189) rfl rfl
theorem fl_X6_56 : FLk RX6 56 1 2 := ⟨_, _, _, ck_X1, by decide, fw_X6_56⟩
theorem fq_X6_56 : FLw RX6 56 1 2 := ⟨_, _, _, ck_X1, by decide, fw_X6_56, rfl⟩
set_option maxRecDepth 100000 in
theorem fw_X1_21 : Cond.fieldLink RX1 21 (TX1 3).1 (TX1 3).2.1 (TX1 3).2.2.1 ∈ TB := TBm (i := 190) rfl rfl
theorem fl_X1_21 : FLk RX1 21 1 3 := ⟨_, _, _, ck_X1, by decide, fw_X1_21⟩
theorem fq_X1_21 : FLw RX1 21 1 3 := ⟨_, _, _, ck_X1, by decide, fw_X1_21, rfl⟩
set_option maxRecDepth 100000 in
theorem fw_X8_38 : Cond.fieldLink RX8 38 (TX1 3).1 (TX1 3).2.1 (TX1 3).2.2.1 ∈ TB := TBm (i := 191) rfl rfl
theorem fl_X8_38 : FLk RX8 38 1 3 := ⟨_, _, _, ck_X1, by decide, fw_X8_38⟩
theorem fq_X8_38 : FLw RX8 38 1 3 := ⟨_, _, _, ck_X1, by decide, fw_X8_38, rfl⟩
set_option maxRecDepth 100000 in
theorem fw_X2_52 : Cond.fieldLink RX2 52 (TX1 3).1 (TX1 3).2.1 (TX1 3).2.2.1 ∈ TB := TBm (i := 192) rfl rfl
theorem fl_X2_52 : FLk RX2 52 1 3 := ⟨_, _, _, ck_X1, by decide, fw_X2_52⟩
theorem fq_X2_52 : FLw RX2 52 1 3 := ⟨_, _, _, ck_X1, by decide, fw_X2_52, rfl⟩
set_option maxRecDepth 100000 in
theorem fw_X9_116 : Cond.fieldLink RX9 116 (TX1 3).1 (TX1 3).2.1 (TX1 3).2.2.1 ∈ TB := TBm (i := 193) rfl rfl
theorem fl_X9_116 : FLk RX9 116 1 3 := ⟨_, _, _, ck_X1, by decide, fw_X9_116⟩
theorem fq_X9_116 : FLw RX9 116 1 3 := ⟨_, _, _, ck_X1, by decide, fw_X9_116, rfl⟩
set_option maxRecDepth 100000 in
theorem fw_X10_217 : Cond.fieldLink RX10 217 (TX1 3).1 (TX1 3).2.1 (TX1 3).2.2.1 ∈ TB := TBm (i := 194) rfl rfl
theorem fl_X10_217 : FLk RX10 217 1 3 := ⟨_, _, _, ck_X1, by decide, fw_X10_217⟩
theorem fq_X10_217 : FLw RX10 217 1 3 := ⟨_, _, _, ck_X1, by decide, fw_X10_217, rfl⟩
set_option maxRecDepth 100000 in
theorem fw_X1_24 : Cond.fieldLink RX1 24 (TX1 4).1 (TX1 4).2.1 (TX1 4).2.2.1 ∈ TB := TBm (i := 195) rfl rfl
theorem fl_X1_24 : FLk RX1 24 1 4 := ⟨_, _, _, ck_X1, by decide, fw_X1_24⟩
theorem ff_X1_24 : FLf RX1 24 1 4 := ⟨_, _, _, ck_X1, by decide, fw_X1_24, rfl, rfl⟩
set_option maxRecDepth 100000 in
theorem fw_X8_61 : Cond.fieldLink RX8 61 (TX1 4).1 (TX1 4).2.1 (TX1 4).2.2.1 ∈ TB := TBm (i := 196) rfl rfl
theorem fl_X8_61 : FLk RX8 61 1 4 := ⟨_, _, _, ck_X1, by decide, fw_X8_61⟩
set_option maxRecDepth 100000 in
theorem fw_X10_94 : Cond.fieldLink RX10 94 (TX1 4).1 (TX1 4).2.1 (TX1 4).2.2.1 ∈ TB := TBm (i := 197) rfl rfl
theorem fl_X10_94 : FLk RX10 94 1 4 := ⟨_, _, _, ck_X1, by decide, fw_X10_94⟩
set_option maxRecDepth 100000 in
theorem fw_X6_112 : Cond.fieldLink RX6 112 (TX1 4).1 (TX1 4).2.1 (TX1 4).2.2.1 ∈ TB := TBm (i := 198) rfl rfl
theorem fl_X6_112 : FLk RX6 112 1 4 := ⟨_, _, _, ck_X1, by decide, fw_X6_112⟩
set_option maxRecDepth 100000 in
theorem fw_X9_162 : Cond.fieldLink RX9 162 (TX1 4).1 (TX1 4).2.1 (TX1 4).2.2.1 ∈ TB := TBm (i := 199) rfl rfl
theorem fl_X9_162 : FLk RX9 162 1 4 := ⟨_, _, _, ck_X1, by decide, fw_X9_162⟩
set_option maxRecDepth 100000 in
theorem fw_X1_28 : Cond.fieldLink RX1 28 (TX1 5).1 (TX1 5).2.1 (TX1 5).2.2.1 ∈ TB := TBm (i := 200) rfl rfl
theorem fl_X1_28 : FLk RX1 28 1 5 := ⟨_, _, _, ck_X1, by decide, fw_X1_28⟩
theorem ff_X1_28 : FLf RX1 28 1 5 := ⟨_, _, _, ck_X1, by decide, fw_X1_28, rfl, rfl⟩
set_option maxRecDepth 100000 in
theorem fw_X10_98 : Cond.fieldLink RX10 98 (TX1 5).1 (TX1 5).2.1 (TX1 5).2.2.1 ∈ TB := TBm (i := 201) rfl rfl
theorem fl_X10_98 : FLk RX10 98 1 5 := ⟨_, _, _, ck_X1, by decide, fw_X10_98⟩
set_option maxRecDepth 100000 in
theorem fw_X2_102 : Cond.fieldLink RX2 102 (TX1 5).1 (TX1 5).2.1 (TX1 5).2.2.1 ∈ TB := TBm (i := 202) rfl rfl
theorem fl_X2_102 : FLk RX2 102 1 5 := ⟨_, _, _, ck_X1, by decide, fw_X2_102⟩
set_option maxRecDepth 100000 in
theorem fw_X9_165 : Cond.fieldLink RX9 165 (TX1 5).1 (TX1 5).2.1 (TX1 5).2.2.1 ∈ TB := TBm (i := 203) rfl rfl
theorem fl_X9_165 : FLk RX9 165 1 5 := ⟨_, _, _, ck_X1, by decide, fw_X9_165⟩
set_option maxRecDepth 100000 in
theorem fw_X1_32 : Cond.fieldLink RX1 32 (TX1 6).1 (TX1 6).2.1 (TX1 6).2.2.1 ∈ TB := TBm (i := 204) rfl rfl
theorem fl_X1_32 : FLk RX1 32 1 6 := ⟨_, _, _, ck_X1, by decide, fw_X1_32⟩
theorem ff_X1_32 : FLf RX1 32 1 6 := ⟨_, _, _, ck_X1, by decide, fw_X1_32, rfl, rfl⟩
set_option maxRecDepth 100000 in
theorem fw_X0_19 : Cond.fieldLink RX0 19 (TX1 6).1 (TX1 6).2.1 (TX1 6).2.2.1 ∈ TB := TBm (i := 205) rfl rfl
theorem fl_X0_19 : FLk RX0 19 1 6 := ⟨_, _, _, ck_X1, by decide, fw_X0_19⟩
set_option maxRecDepth 100000 in
theorem fw_X2_109 : Cond.fieldLink RX2 109 (TX1 6).1 (TX1 6).2.1 (TX1 6).2.2.1 ∈ TB := TBm (i := 206) rfl rfl
theorem fl_X2_109 : FLk RX2 109 1 6 := ⟨_, _, _, ck_X1, by decide, fw_X2_109⟩
set_option maxRecDepth 100000 in
theorem fw_X4_88 : Cond.fieldLink RX4 88 (TX1 6).1 (TX1 6).2.1 (TX1 6).2.2.1 ∈ TB := TBm (i := 207) rfl rfl
theorem fl_X4_88 : FLk RX4 88 1 6 := ⟨_, _, _, ck_X1, by decide, fw_X4_88⟩
set_option maxRecDepth 100000 in
theorem fw_X1_35 : Cond.fieldLink RX1 35 (TX1 7).1 (TX1 7).2.1 (TX1 7).2.2.1 ∈ TB := TBm (i := 208) rfl rfl
theorem fl_X1_35 : FLk RX1 35 1 7 := ⟨_, _, _, ck_X1, by decide, fw_X1_35⟩
theorem ff_X1_35 : FLf RX1 35 1 7 := ⟨_, _, _, ck_X1, by decide, fw_X1_35, rfl, rfl⟩
set_option maxRecDepth 100000 in
theorem fw_X0_25 : Cond.fieldLink RX0 25 (TX1 7).1 (TX1 7).2.1 (TX1 7).2.2.1 ∈ TB := TBm (i := 209) rfl rfl
theorem fl_X0_25 : FLk RX0 25 1 7 := ⟨_, _, _, ck_X1, by decide, fw_X0_25⟩
set_option maxRecDepth 100000 in
theorem fw_X2_106 : Cond.fieldLink RX2 106 (TX1 7).1 (TX1 7).2.1 (TX1 7).2.2.1 ∈ TB := TBm (i := 210) rfl rfl
theorem fl_X2_106 : FLk RX2 106 1 7 := ⟨_, _, _, ck_X1, by decide, fw_X2_106⟩
set_option maxRecDepth 100000 in
theorem fw_X4_91 : Cond.fieldLink RX4 91 (TX1 7).1 (TX1 7).2.1 (TX1 7).2.2.1 ∈ TB := TBm (i := 211) rfl rfl
theorem fl_X4_91 : FLk RX4 91 1 7 := ⟨_, _, _, ck_X1, by decide, fw_X4_91⟩
set_option maxRecDepth 100000 in
theorem fw_X1_38 : Cond.fieldLink RX1 38 (TX1 8).1 (TX1 8).2.1 (TX1 8).2.2.1 ∈ TB := TBm (i := 212) rfl rfl
theorem fl_X1_38 : FLk RX1 38 1 8 := ⟨_, _, _, ck_X1, by decide, fw_X1_38⟩
theorem ff_X1_38 : FLf RX1 38 1 8 := ⟨_, _, _, ck_X1, by decide, fw_X1_38, rfl, rfl⟩
set_option maxRecDepth 100000 in
theorem fw_X1_41 : Cond.fieldLink RX1 41 (TX1 9).1 (TX1 9).2.1 (TX1 9).2.2.1 ∈ TB := TBm (i := 213) rfl rfl
theorem fl_X1_41 : FLk RX1 41 1 9 := ⟨_, _, _, ck_X1, by decide, fw_X1_41⟩
theorem ff_X1_41 : FLf RX1 41 1 9 := ⟨_, _, _, ck_X1, by decide, fw_X1_41, rfl, rfl⟩
set_option maxRecDepth 100000 in
theorem fw_X7_46 : Cond.fieldLink RX7 46 (TX1 9).1 (TX1 9).2.1 (TX1 9).2.2.1 ∈ TB := TBm (i := 214) rfl rfl
theorem fl_X7_46 : FLk RX7 46 1 9 := ⟨_, _, _, ck_X1, by decide, fw_X7_46⟩
set_option maxRecDepth 100000 in
theorem fw_X9_121 : Cond.fieldLink RX9 121 (TX1 9).1 (TX1 9).2.1 (TX1 9).2.2.1 ∈ TB := TBm (i := 215) rfl rfl
theorem fl_X9_121 : FLk RX9 121 1 9 := ⟨_, _, _, ck_X1, by decide, fw_X9_121⟩
set_option maxRecDepth 100000 in
theorem fw_X10_138 : Cond.fieldLink RX10 138 (TX1 9).1 (TX1 9).2.1 (TX1 9).2.2.1 ∈ TB := TBm (i := 216) rfl rfl
theorem fl_X10_138 : FLk RX10 138 1 9 := ⟨_, _, _, ck_X1, by decide, fw_X10_138⟩
set_option maxRecDepth 100000 in
theorem fw_X1_45 : Cond.fieldLink RX1 45 (TX1 10).1 (TX1 10).2.1 (TX1 10).2.2.1 ∈ TB := TBm (i := 217) rfl rfl
theorem fl_X1_45 : FLk RX1 45 1 10 := ⟨_, _, _, ck_X1, by decide, fw_X1_45⟩
theorem ff_X1_45 : FLf RX1 45 1 10 := ⟨_, _, _, ck_X1, by decide, fw_X1_45, rfl, rfl⟩
set_option maxRecDepth 100000 in
theorem fw_X7_42 : Cond.fieldLink RX7 42 (TX1 10).1 (TX1 10).2.1 (TX1 10).2.2.1 ∈ TB := TBm (i := 218) rfl rfl
theorem fl_X7_42 : FLk RX7 42 1 10 := ⟨_, _, _, ck_X1, by decide, fw_X7_42⟩
set_option maxRecDepth 100000 in
theorem fw_X9_130 : Cond.fieldLink RX9 130 (TX1 10).1 (TX1 10).2.1 (TX1 10).2.2.1 ∈ TB := TBm (i := 219) rfl rfl
theorem fl_X9_130 : FLk RX9 130 1 10 := ⟨_, _, _, ck_X1, by decide, fw_X9_130⟩
set_option maxRecDepth 100000 in
theorem fw_X10_135 : Cond.fieldLink RX10 135 (TX1 10).1 (TX1 10).2.1 (TX1 10).2.2.1 ∈ TB := TBm (i := 220) rfl rfl
theorem fl_X10_135 : FLk RX10 135 1 10 := ⟨_, _, _, ck_X1, by decide, fw_X10_135⟩
set_option maxRecDepth 100000 in
theorem fw_X8_9 : Cond.fieldLink RX8 9 (TX8 0).1 (TX8 0).2.1 (TX8 0).2.2.1 ∈ TB := TBm (i := 253) rfl rfl
theorem fl_X8_9 : FLk RX8 9 8 0 := ⟨_, _, _, ck_X8, by decide, fw_X8_9⟩
theorem fq_X8_9 : FLw RX8 9 8 0 := ⟨_, _, _, ck_X8, by decide, fw_X8_9, rfl⟩
set_option maxRecDepth 100000 in
theorem fw_X5_46 : Cond.fieldLink RX5 46 (TX8 0).1 (TX8 0).2.1 (TX8 0).2.2.1 ∈ TB := TBm (i := 254) rfl rfl
theorem fl_X5_46 : FLk RX5 46 8 0 := ⟨_, _, _, ck_X8, by decide, fw_X5_46⟩
theorem fq_X5_46 : FLw RX5 46 8 0 := ⟨_, _, _, ck_X8, by decide, fw_X5_46, rfl⟩
set_option maxRecDepth 100000 in
theorem fw_X8_15 : Cond.fieldLink RX8 15 (TX8 1).1 (TX8 1).2.1 (TX8 1).2.2.1 ∈ TB := TBm (i := 255) rfl rfl
theorem fl_X8_15 : FLk RX8 15 8 1 := ⟨_, _, _, ck_X8, by decide, fw_X8_15⟩
theorem ff_X8_15 : FLf RX8 15 8 1 := ⟨_, _, _, ck_X8, by decide, fw_X8_15, rfl, rfl⟩
set_option maxRecDepth 100000 in
theorem fw_X5_58 : Cond.fieldLink RX5 58 (TX8 1).1 (TX8 1).2.1 (TX8 1).2.2.1 ∈ TB := TBm (i := 256) rfl rfl
theorem fl_X5_58 : FLk RX5 58 8 1 := ⟨_, _, _, ck_X8, by decide, fw_X5_58⟩
set_option maxRecDepth 100000 in
theorem fw_X2_62 : Cond.fieldLink RX2 62 (TX8 1).1 (TX8 1).2.1 (TX8 1).2.2.1 ∈ TB := TBm (i := 257) rfl rfl
theorem fl_X2_62 : FLk RX2 62 8 1 := ⟨_, _, _, ck_X8, by decide, fw_X2_62⟩
set_option maxRecDepth 100000 in
theorem fw_X10_176 : Cond.fieldLink RX10 176 (TX8 1).1 (TX8 1).2.1 (TX8 1).2.2.1 ∈ TB := TBm (i := 258) rfl rfl
theorem fl_X10_176 : FLk RX10 176 8 1 := ⟨_, _, _, ck_X8, by decide, fw_X10_176⟩
set_option maxRecDepth 100000 in
theorem fw_X8_19 : Cond.fieldLink RX8 19 (TX8 2).1 (TX8 2).2.1 (TX8 2).2.2.1 ∈ TB := TBm (i := 259) rfl rfl
theorem fl_X8_19 : FLk RX8 19 8 2 := ⟨_, _, _, ck_X8, by decide, fw_X8_19⟩
theorem fq_X8_19 : FLw RX8 19 8 2 := ⟨_, _, _, ck_X8, by decide, fw_X8_19, rfl⟩
set_option maxRecDepth 100000 in
theorem fw_X8_23 : Cond.fieldLink RX8 23 (TX8 3).1 (TX8 3).2.1 (TX8 3).2.2.1 ∈ TB := TBm (i := 260) rfl rfl
theorem fl_X8_23 : FLk RX8 23 8 3 := ⟨_, _, _, ck_X8, by decide, fw_X8_23⟩
theorem fq_X8_23 : FLw RX8 23 8 3 := ⟨_, _, _, ck_X8, by decide, fw_X8_23, rfl⟩
set_option maxRecDepth 100000 in
theorem fw_X8_26 : Cond.fieldLink RX8 26 (TX8 4).1 (TX8 4).2.1 (TX8 4).2.2.1 ∈ TB := TBm (i := 261) rfl rfl
theorem fl_X8_26 : FLk RX8 26 8 4 := ⟨_, _, _, ck_X8, by decide, fw_X8_26⟩
theorem ff_X8_26 : FLf RX8 26 8 4 := ⟨_, _, _, ck_X8, by decide, fw_X8_26, rfl, rfl⟩
set_option maxRecDepth 100000 in
theorem fw_X8_29 : Cond.fieldLink RX8 29 (TX8 5).1 (TX8 5).2.1 (TX8 5).2.2.1 ∈ TB := TBm (i := 262) rfl rfl
theorem fl_X8_29 : FLk RX8 29 8 5 := ⟨_, _, _, ck_X8, by decide, fw_X8_29⟩
theorem ff_X8_29 : FLf RX8 29 8 5 := ⟨_, _, _, ck_X8, by decide, fw_X8_29, rfl, rfl⟩
set_option maxRecDepth 100000 in
theorem fw_X8_32 : Cond.fieldLink RX8 32 (TX8 6).1 (TX8 6).2.1 (TX8 6).2.2.1 ∈ TB := TBm (i := 263) rfl rfl
theorem fl_X8_32 : FLk RX8 32 8 6 := ⟨_, _, _, ck_X8, by decide, fw_X8_32⟩
theorem ff_X8_32 : FLf RX8 32 8 6 := ⟨_, _, _, ck_X8, by decide, fw_X8_32, rfl, rfl⟩
set_option maxRecDepth 100000 in
theorem fw_X0_7 : Cond.fieldLink RX0 7 (TX0 0).1 (TX0 0).2.1 (TX0 0).2.2.1 ∈ TB := TBm (i := 291) rfl rfl
theorem fl_X0_7 : FLk RX0 7 0 0 := ⟨_, _, _, ck_X0, by decide, fw_X0_7⟩
theorem fq_X0_7 : FLw RX0 7 0 0 := ⟨_, _, _, ck_X0, by decide, fw_X0_7, rfl⟩
set_option maxRecDepth 100000 in
theorem fw_X0_13 : Cond.fieldLink RX0 13 (TX0 1).1 (TX0 1).2.1 (TX0 1).2.2.1 ∈ TB := TBm (i := 292) rfl rfl
theorem fl_X0_13 : FLk RX0 13 0 1 := ⟨_, _, _, ck_X0, by decide, fw_X0_13⟩
theorem fq_X0_13 : FLw RX0 13 0 1 := ⟨_, _, _, ck_X0, by decide, fw_X0_13, rfl⟩
set_option maxRecDepth 100000 in
theorem fw_X0_16 : Cond.fieldLink RX0 16 (TX0 2).1 (TX0 2).2.1 (TX0 2).2.2.1 ∈ TB := TBm (i := 293) rfl rfl
theorem fl_X0_16 : FLk RX0 16 0 2 := ⟨_, _, _, ck_X0, by decide, fw_X0_16⟩
theorem fq_X0_16 : FLw RX0 16 0 2 := ⟨_, _, _, ck_X0, by decide, fw_X0_16, rfl⟩
set_option maxRecDepth 100000 in
theorem fw_X6_9 : Cond.fieldLink RX6 9 (TX6 0).1 (TX6 0).2.1 (TX6 0).2.2.1 ∈ TB := TBm (i := 301) rfl rfl
theorem fl_X6_9 : FLk RX6 9 6 0 := ⟨_, _, _, ck_X6, by decide, fw_X6_9⟩
theorem ff_X6_9 : FLf RX6 9 6 0 := ⟨_, _, _, ck_X6, by decide, fw_X6_9, rfl, rfl⟩
set_option maxRecDepth 100000 in
theorem fw_X10_190 : Cond.fieldLink RX10 190 (TX6 0).1 (TX6 0).2.1 (TX6 0).2.2.1 ∈ TB := TBm (i := 302) rfl rfl
theorem fl_X10_190 : FLk RX10 190 6 0 := ⟨_, _, _, ck_X6, by decide, fw_X10_190⟩
set_option maxRecDepth 100000 in
theorem fw_X6_15 : Cond.fieldLink RX6 15 (TX6 1).1 (TX6 1).2.1 (TX6 1).2.2.1 ∈ TB := TBm (i := 303) rfl rfl
theorem fl_X6_15 : FLk RX6 15 6 1 := ⟨_, _, _, ck_X6, by decide, fw_X6_15⟩
theorem ff_X6_15 : FLf RX6 15 6 1 := ⟨_, _, _, ck_X6, by decide, fw_X6_15, rfl, rfl⟩
set_option maxRecDepth 100000 in
theorem fw_X6_18 : Cond.fieldLink RX6 18 (TX6 2).1 (TX6 2).2.1 (TX6 2).2.2.1 ∈ TB := TBm (i := 304) rfl rfl
theorem fl_X6_18 : FLk RX6 18 6 2 := ⟨_, _, _, ck_X6, by decide, fw_X6_18⟩
theorem ff_X6_18 : FLf RX6 18 6 2 := ⟨_, _, _, ck_X6, by decide, fw_X6_18, rfl, rfl⟩
set_option maxRecDepth 100000 in
theorem fw_X6_21 : Cond.fieldLink RX6 21 (TX6 3).1 (TX6 3).2.1 (TX6 3).2.2.1 ∈ TB := TBm (i := 305) rfl rfl
theorem fl_X6_21 : FLk RX6 21 6 3 := ⟨_, _, _, ck_X6, by decide, fw_X6_21⟩
theorem ff_X6_21 : FLf RX6 21 6 3 := ⟨_, _, _, ck_X6, by decide, fw_X6_21, rfl, rfl⟩
set_option maxRecDepth 100000 in
theorem fw_X6_25 : Cond.fieldLink RX6 25 (TX6 4).1 (TX6 4).2.1 (TX6 4).2.2.1 ∈ TB := TBm (i := 306) rfl rfl
theorem fl_X6_25 : FLk RX6 25 6 4 := ⟨_, _, _, ck_X6, by decide, fw_X6_25⟩
theorem fq_X6_25 : FLw RX6 25 6 4 := ⟨_, _, _, ck_X6, by decide, fw_X6_25, rfl⟩
set_option maxRecDepth 100000 in
theorem fw_X6_29 : Cond.fieldLink RX6 29 (TX6 5).1 (TX6 5).2.1 (TX6 5).2.2.1 ∈ TB := TBm (i := 307) rfl rfl
theorem fl_X6_29 : FLk RX6 29 6 5 := ⟨_, _, _, ck_X6, by decide, fw_X6_29⟩
theorem ff_X6_29 : FLf RX6 29 6 5 := ⟨_, _, _, ck_X6, by decide, fw_X6_29, rfl, rfl⟩
set_option maxRecDepth 100000 in
theorem fw_X6_32 : Cond.fieldLink RX6 32 (TX6 6).1 (TX6 6).2.1 (TX6 6).2.2.1 ∈ TB := TBm (i := 308) rfl rfl
theorem fl_X6_32 : FLk RX6 32 6 6 := ⟨_, _, _, ck_X6, by decide, fw_X6_32⟩
theorem ff_X6_32 : FLf RX6 32 6 6 := ⟨_, _, _, ck_X6, by decide, fw_X6_32, rfl, rfl⟩
set_option maxRecDepth 100000 in
theorem fw_X6_35 : Cond.fieldLink RX6 35 (TX6 7).1 (TX6 7).2.1 (TX6 7).2.2.1 ∈ TB := TBm (i := 309) rfl rfl
theorem fl_X6_35 : FLk RX6 35 6 7 := ⟨_, _, _, ck_X6, by decide, fw_X6_35⟩
theorem fq_X6_35 : FLw RX6 35 6 7 := ⟨_, _, _, ck_X6, by decide, fw_X6_35, rfl⟩
set_option maxRecDepth 100000 in
theorem fw_X6_42 : Cond.fieldLink RX6 42 (TX6 8).1 (TX6 8).2.1 (TX6 8).2.2.1 ∈ TB := TBm (i := 310) rfl rfl
theorem fl_X6_42 : FLk RX6 42 6 8 := ⟨_, _, _, ck_X6, by decide, fw_X6_42⟩
theorem ff_X6_42 : FLf RX6 42 6 8 := ⟨_, _, _, ck_X6, by decide, fw_X6_42, rfl, rfl⟩
set_option maxRecDepth 100000 in
theorem fw_X2_9 : Cond.fieldLink RX2 9 (TX2 0).1 (TX2 0).2.1 (TX2 0).2.2.1 ∈ TB := TBm (i := 338) rfl rfl
theorem fl_X2_9 : FLk RX2 9 2 0 := ⟨_, _, _, ck_X2, by decide, fw_X2_9⟩
theorem fq_X2_9 : FLw RX2 9 2 0 := ⟨_, _, _, ck_X2, by decide, fw_X2_9, rfl⟩
set_option maxRecDepth 100000 in
theorem fw_X2_15 : Cond.fieldLink RX2 15 (TX2 1).1 (TX2 1).2.1 (TX2 1).2.2.1 ∈ TB := TBm (i := 339) rfl rfl
theorem fl_X2_15 : FLk RX2 15 2 1 := ⟨_, _, _, ck_X2, by decide, fw_X2_15⟩
theorem fq_X2_15 : FLw RX2 15 2 1 := ⟨_, _, _, ck_X2, by decide, fw_X2_15, rfl⟩
set_option maxRecDepth 100000 in
theorem fw_X2_18 : Cond.fieldLink RX2 18 (TX2 2).1 (TX2 2).2.1 (TX2 2).2.2.1 ∈ TB := TBm (i := 340) rfl rfl
theorem fl_X2_18 : FLk RX2 18 2 2 := ⟨_, _, _, ck_X2, by decide, fw_X2_18⟩
theorem ff_X2_18 : FLf RX2 18 2 2 := ⟨_, _, _, ck_X2, by decide, fw_X2_18, rfl, rfl⟩
set_option maxRecDepth 100000 in
theorem fw_X2_22 : Cond.fieldLink RX2 22 (TX2 3).1 (TX2 3).2.1 (TX2 3).2.2.1 ∈ TB := TBm (i := 341) rfl rfl
theorem fl_X2_22 : FLk RX2 22 2 3 := ⟨_, _, _, ck_X2, by decide, fw_X2_22⟩
theorem ff_X2_22 : FLf RX2 22 2 3 := ⟨_, _, _, ck_X2, by decide, fw_X2_22, rfl, rfl⟩
set_option maxRecDepth 100000 in
theorem fw_X2_25 : Cond.fieldLink RX2 25 (TX2 4).1 (TX2 4).2.1 (TX2 4).2.2.1 ∈ TB := TBm (i := 342) rfl rfl
theorem fl_X2_25 : FLk RX2 25 2 4 := ⟨_, _, _, ck_X2, by decide, fw_X2_25⟩
theorem ff_X2_25 : FLf RX2 25 2 4 := ⟨_, _, _, ck_X2, by decide, fw_X2_25, rfl, rfl⟩
set_option maxRecDepth 100000 in
theorem fw_X4_53 : Cond.fieldLink RX4 53 (TX2 4).1 (TX2 4).2.1 (TX2 4).2.2.1 ∈ TB := TBm (i := 343) rfl rfl
theorem fl_X4_53 : FLk RX4 53 2 4 := ⟨_, _, _, ck_X2, by decide, fw_X4_53⟩
set_option maxRecDepth 100000 in
theorem fw_X2_28 : Cond.fieldLink RX2 28 (TX2 5).1 (TX2 5).2.1 (TX2 5).2.2.1 ∈ TB := TBm (i := 344) rfl rfl
theorem fl_X2_28 : FLk RX2 28 2 5 := ⟨_, _, _, ck_X2, by decide, fw_X2_28⟩
theorem fq_X2_28 : FLw RX2 28 2 5 := ⟨_, _, _, ck_X2, by decide, fw_X2_28, rfl⟩
set_option maxRecDepth 100000 in
theorem fw_X4_48 : Cond.fieldLink RX4 48 (TX2 5).1 (TX2 5).2.1 (TX2 5).2.2.1 ∈ TB := TBm (i := 345) rfl rfl
theorem fl_X4_48 : FLk RX4 48 2 5 := ⟨_, _, _, ck_X2, by decide, fw_X4_48⟩
theorem fq_X4_48 : FLw RX4 48 2 5 := ⟨_, _, _, ck_X2, by decide, fw_X4_48, rfl⟩
set_option maxRecDepth 100000 in
theorem fw_X2_34 : Cond.fieldLink RX2 34 (TX2 6).1 (TX2 6).2.1 (TX2 6).2.2.1 ∈ TB := TBm (i := 346) rfl rfl
theorem fl_X2_34 : FLk RX2 34 2 6 := ⟨_, _, _, ck_X2, by decide, fw_X2_34⟩
theorem ff_X2_34 : FLf RX2 34 2 6 := ⟨_, _, _, ck_X2, by decide, fw_X2_34, rfl, rfl⟩
set_option maxRecDepth 100000 in
theorem fw_X5_12 : Cond.fieldLink RX5 12 (TX5 0).1 (TX5 0).2.1 (TX5 0).2.2.1 ∈ TB := TBm (i := 362) rfl rfl
theorem fl_X5_12 : FLk RX5 12 5 0 := ⟨_, _, _, ck_X5, by decide, fw_X5_12⟩
theorem ff_X5_12 : FLf RX5 12 5 0 := ⟨_, _, _, ck_X5, by decide, fw_X5_12, rfl, rfl⟩
set_option maxRecDepth 100000 in
theorem fw_X10_69 : Cond.fieldLink RX10 69 (TX5 0).1 (TX5 0).2.1 (TX5 0).2.2.1 ∈ TB := TBm (i := 363) rfl rfl
theorem fl_X10_69 : FLk RX10 69 5 0 := ⟨_, _, _, ck_X5, by decide, fw_X10_69⟩
set_option maxRecDepth 100000 in
theorem fw_X5_18 : Cond.fieldLink RX5 18 (TX5 1).1 (TX5 1).2.1 (TX5 1).2.2.1 ∈ TB := TBm (i := 364) rfl rfl
theorem fl_X5_18 : FLk RX5 18 5 1 := ⟨_, _, _, ck_X5, by decide, fw_X5_18⟩
theorem fq_X5_18 : FLw RX5 18 5 1 := ⟨_, _, _, ck_X5, by decide, fw_X5_18, rfl⟩
set_option maxRecDepth 100000 in
theorem fw_X10_164 : Cond.fieldLink RX10 164 (TX5 1).1 (TX5 1).2.1 (TX5 1).2.2.1 ∈ TB := TBm (i := 365) rfl rfl
theorem fl_X10_164 : FLk RX10 164 5 1 := ⟨_, _, _, ck_X5, by decide, fw_X10_164⟩
theorem fq_X10_164 : FLw RX10 164 5 1 := ⟨_, _, _, ck_X5, by decide, fw_X10_164, rfl⟩
set_option maxRecDepth 100000 in
theorem fw_X5_22 : Cond.fieldLink RX5 22 (TX5 2).1 (TX5 2).2.1 (TX5 2).2.2.1 ∈ TB := TBm (i := 366) rfl rfl
theorem fl_X5_22 : FLk RX5 22 5 2 := ⟨_, _, _, ck_X5, by decide, fw_X5_22⟩
theorem fq_X5_22 : FLw RX5 22 5 2 := ⟨_, _, _, ck_X5, by decide, fw_X5_22, rfl⟩
set_option maxRecDepth 100000 in
theorem fw_X10_169 : Cond.fieldLink RX10 169 (TX5 2).1 (TX5 2).2.1 (TX5 2).2.2.1 ∈ TB := TBm (i := 367) rfl rfl
theorem fl_X10_169 : FLk RX10 169 5 2 := ⟨_, _, _, ck_X5, by decide, fw_X10_169⟩
theorem fq_X10_169 : FLw RX10 169 5 2 := ⟨_, _, _, ck_X5, by decide, fw_X10_169, rfl⟩
set_option maxRecDepth 100000 in
theorem fw_X5_28 : Cond.fieldLink RX5 28 (TX5 3).1 (TX5 3).2.1 (TX5 3).2.2.1 ∈ TB := TBm (i := 368) rfl rfl
theorem fl_X5_28 : FLk RX5 28 5 3 := ⟨_, _, _, ck_X5, by decide, fw_X5_28⟩
theorem ff_X5_28 : FLf RX5 28 5 3 := ⟨_, _, _, ck_X5, by decide, fw_X5_28, rfl, rfl⟩
set_option maxRecDepth 100000 in
theorem fw_X5_35 : Cond.fieldLink RX5 35 (TX5 4).1 (TX5 4).2.1 (TX5 4).2.2.1 ∈ TB := TBm (i := 369) rfl rfl
theorem fl_X5_35 : FLk RX5 35 5 4 := ⟨_, _, _, ck_X5, by decide, fw_X5_35⟩
theorem ff_X5_35 : FLf RX5 35 5 4 := ⟨_, _, _, ck_X5, by decide, fw_X5_35, rfl, rfl⟩
set_option maxRecDepth 100000 in
theorem fw_X5_42 : Cond.fieldLink RX5 42 (TX5 5).1 (TX5 5).2.1 (TX5 5).2.2.1 ∈ TB := TBm (i := 370) rfl rfl
theorem fl_X5_42 : FLk RX5 42 5 5 := ⟨_, _, _, ck_X5, by decide, fw_X5_42⟩
theorem ff_X5_42 : FLf RX5 42 5 5 := ⟨_, _, _, ck_X5, by decide, fw_X5_42, rfl, rfl⟩
set_option maxRecDepth 100000 in
theorem fw_X9_9 : Cond.fieldLink RX9 9 (TX9 0).1 (TX9 0).2.1 (TX9 0).2.2.1 ∈ TB := TBm (i := 392) rfl rfl
theorem fl_X9_9 : FLk RX9 9 9 0 := ⟨_, _, _, ck_X9, by decide, fw_X9_9⟩
theorem fq_X9_9 : FLw RX9 9 9 0 := ⟨_, _, _, ck_X9, by decide, fw_X9_9, rfl⟩
set_option maxRecDepth 100000 in
theorem fw_X10_51 : Cond.fieldLink RX10 51 (TX9 0).1 (TX9 0).2.1 (TX9 0).2.2.1 ∈ TB := TBm (i := 393) rfl rfl
theorem fl_X10_51 : FLk RX10 51 9 0 := ⟨_, _, _, ck_X9, by decide, fw_X10_51⟩
theorem fq_X10_51 : FLw RX10 51 9 0 := ⟨_, _, _, ck_X9, by decide, fw_X10_51, rfl⟩
set_option maxRecDepth 100000 in
theorem fw_X9_18 : Cond.fieldLink RX9 18 (TX9 1).1 (TX9 1).2.1 (TX9 1).2.2.1 ∈ TB := TBm (i := 394) rfl rfl
theorem fl_X9_18 : FLk RX9 18 9 1 := ⟨_, _, _, ck_X9, by decide, fw_X9_18⟩
theorem ff_X9_18 : FLf RX9 18 9 1 := ⟨_, _, _, ck_X9, by decide, fw_X9_18, rfl, rfl⟩
set_option maxRecDepth 100000 in
theorem fw_X10_73 : Cond.fieldLink RX10 73 (TX9 1).1 (TX9 1).2.1 (TX9 1).2.2.1 ∈ TB := TBm (i := 395) rfl rfl
theorem fl_X10_73 : FLk RX10 73 9 1 := ⟨_, _, _, ck_X9, by decide, fw_X10_73⟩
set_option maxRecDepth 100000 in
theorem fw_X9_22 : Cond.fieldLink RX9 22 (TX9 2).1 (TX9 2).2.1 (TX9 2).2.2.1 ∈ TB := TBm (i := 396) rfl rfl
theorem fl_X9_22 : FLk RX9 22 9 2 := ⟨_, _, _, ck_X9, by decide, fw_X9_22⟩
theorem ff_X9_22 : FLf RX9 22 9 2 := ⟨_, _, _, ck_X9, by decide, fw_X9_22, rfl, rfl⟩
set_option maxRecDepth 100000 in
theorem fw_X9_26 : Cond.fieldLink RX9 26 (TX9 3).1 (TX9 3).2.1 (TX9 3).2.2.1 ∈ TB := TBm (i := 397) rfl rfl
theorem fl_X9_26 : FLk RX9 26 9 3 := ⟨_, _, _, ck_X9, by decide, fw_X9_26⟩
theorem fq_X9_26 : FLw RX9 26 9 3 := ⟨_, _, _, ck_X9, by decide, fw_X9_26, rfl⟩
set_option maxRecDepth 100000 in
theorem fw_X9_29 : Cond.fieldLink RX9 29 (TX9 4).1 (TX9 4).2.1 (TX9 4).2.2.1 ∈ TB := TBm (i := 398) rfl rfl
theorem fl_X9_29 : FLk RX9 29 9 4 := ⟨_, _, _, ck_X9, by decide, fw_X9_29⟩
theorem fq_X9_29 : FLw RX9 29 9 4 := ⟨_, _, _, ck_X9, by decide, fw_X9_29, rfl⟩
set_option maxRecDepth 100000 in
theorem fw_X9_32 : Cond.fieldLink RX9 32 (TX9 5).1 (TX9 5).2.1 (TX9 5).2.2.1 ∈ TB := TBm (i := 399) rfl rfl
theorem fl_X9_32 : FLk RX9 32 9 5 := ⟨_, _, _, ck_X9, by decide, fw_X9_32⟩
theorem fq_X9_32 : FLw RX9 32 9 5 := ⟨_, _, _, ck_X9, by decide, fw_X9_32, rfl⟩
set_option maxRecDepth 100000 in
theorem fw_X9_35 : Cond.fieldLink RX9 35 (TX9 6).1 (TX9 6).2.1 (TX9 6).2.2.1 ∈ TB := TBm (i := 400) rfl rfl
theorem fl_X9_35 : FLk RX9 35 9 6 := ⟨_, _, _, ck_X9, by decide, fw_X9_35⟩
theorem fq_X9_35 : FLw RX9 35 9 6 := ⟨_, _, _, ck_X9, by decide, fw_X9_35, rfl⟩
set_option maxRecDepth 100000 in
theorem fw_X9_38 : Cond.fieldLink RX9 38 (TX9 7).1 (TX9 7).2.1 (TX9 7).2.2.1 ∈ TB := TBm (i := 401) rfl rfl
theorem fl_X9_38 : FLk RX9 38 9 7 := ⟨_, _, _, ck_X9, by decide, fw_X9_38⟩
theorem fq_X9_38 : FLw RX9 38 9 7 := ⟨_, _, _, ck_X9, by decide, fw_X9_38, rfl⟩
set_option maxRecDepth 100000 in
theorem fw_X9_41 : Cond.fieldLink RX9 41 (TX9 8).1 (TX9 8).2.1 (TX9 8).2.2.1 ∈ TB := TBm (i := 402) rfl rfl
theorem fl_X9_41 : FLk RX9 41 9 8 := ⟨_, _, _, ck_X9, by decide, fw_X9_41⟩
theorem fq_X9_41 : FLw RX9 41 9 8 := ⟨_, _, _, ck_X9, by decide, fw_X9_41, rfl⟩
set_option maxRecDepth 100000 in
theorem fw_X9_44 : Cond.fieldLink RX9 44 (TX9 9).1 (TX9 9).2.1 (TX9 9).2.2.1 ∈ TB := TBm (i := 403) rfl rfl
theorem fl_X9_44 : FLk RX9 44 9 9 := ⟨_, _, _, ck_X9, by decide, fw_X9_44⟩
theorem fq_X9_44 : FLw RX9 44 9 9 := ⟨_, _, _, ck_X9, by decide, fw_X9_44, rfl⟩
set_option maxRecDepth 100000 in
theorem fw_X7_9 : Cond.fieldLink RX7 9 (TX7 0).1 (TX7 0).2.1 (TX7 0).2.2.1 ∈ TB := TBm (i := 431) rfl rfl
theorem fl_X7_9 : FLk RX7 9 7 0 := ⟨_, _, _, ck_X7, by decide, fw_X7_9⟩
theorem fq_X7_9 : FLw RX7 9 7 0 := ⟨_, _, _, ck_X7, by decide, fw_X7_9, rfl⟩
set_option maxRecDepth 100000 in
theorem fw_X10_335 : Cond.fieldLink RX10 335 (TX7 0).1 (TX7 0).2.1 (TX7 0).2.2.1 ∈ TB := TBm (i := 432) rfl rfl
theorem fl_X10_335 : FLk RX10 335 7 0 := ⟨_, _, _, ck_X7, by decide, fw_X10_335⟩
theorem fq_X10_335 : FLw RX10 335 7 0 := ⟨_, _, _, ck_X7, by decide, fw_X10_335, rfl⟩
set_option maxRecDepth 100000 in
theorem fw_X7_15 : Cond.fieldLink RX7 15 (TX7 1).1 (TX7 1).2.1 (TX7 1).2.2.1 ∈ TB := TBm (i := 433) rfl rfl
theorem fl_X7_15 : FLk RX7 15 7 1 := ⟨_, _, _, ck_X7, by decide, fw_X7_15⟩
theorem ff_X7_15 : FLf RX7 15 7 1 := ⟨_, _, _, ck_X7, by decide, fw_X7_15, rfl, rfl⟩
set_option maxRecDepth 100000 in
theorem fw_X10_336 : Cond.fieldLink RX10 336 (TX7 1).1 (TX7 1).2.1 (TX7 1).2.2.1 ∈ TB := TBm (i := 434) rfl rfl
theorem fl_X10_336 : FLk RX10 336 7 1 := ⟨_, _, _, ck_X7, by decide, fw_X10_336⟩
set_option maxRecDepth 100000 in
theorem fw_X3_9 : Cond.fieldLink RX3 9 (TX3 0).1 (TX3 0).2.1 (TX3 0).2.2.1 ∈ TB := TBm (i := 446) rfl rfl
theorem fl_X3_9 : FLk RX3 9 3 0 := ⟨_, _, _, ck_X3, by decide, fw_X3_9⟩
theorem fq_X3_9 : FLw RX3 9 3 0 := ⟨_, _, _, ck_X3, by decide, fw_X3_9, rfl⟩
set_option maxRecDepth 100000 in
theorem fw_X10_121 : Cond.fieldLink RX10 121 (TX3 0).1 (TX3 0).2.1 (TX3 0).2.2.1 ∈ TB := TBm (i := 447) rfl rfl
theorem fl_X10_121 : FLk RX10 121 3 0 := ⟨_, _, _, ck_X3, by decide, fw_X10_121⟩
theorem fq_X10_121 : FLw RX10 121 3 0 := ⟨_, _, _, ck_X3, by decide, fw_X10_121, rfl⟩
set_option maxRecDepth 100000 in
theorem fw_X3_15 : Cond.fieldLink RX3 15 (TX3 1).1 (TX3 1).2.1 (TX3 1).2.2.1 ∈ TB := TBm (i := 448) rfl rfl
theorem fl_X3_15 : FLk RX3 15 3 1 := ⟨_, _, _, ck_X3, by decide, fw_X3_15⟩
theorem ff_X3_15 : FLf RX3 15 3 1 := ⟨_, _, _, ck_X3, by decide, fw_X3_15, rfl, rfl⟩
set_option maxRecDepth 100000 in
theorem fw_X10_263 : Cond.fieldLink RX10 263 (TX3 1).1 (TX3 1).2.1 (TX3 1).2.2.1 ∈ TB := TBm (i := 449) rfl rfl
theorem fl_X10_263 : FLk RX10 263 3 1 := ⟨_, _, _, ck_X3, by decide, fw_X10_263⟩
set_option maxRecDepth 100000 in
theorem fw_X3_19 : Cond.fieldLink RX3 19 (TX3 2).1 (TX3 2).2.1 (TX3 2).2.2.1 ∈ TB := TBm (i := 450) rfl rfl
theorem fl_X3_19 : FLk RX3 19 3 2 := ⟨_, _, _, ck_X3, by decide, fw_X3_19⟩
theorem ff_X3_19 : FLf RX3 19 3 2 := ⟨_, _, _, ck_X3, by decide, fw_X3_19, rfl, rfl⟩
set_option maxRecDepth 100000 in
theorem fw_X3_22 : Cond.fieldLink RX3 22 (TX3 3).1 (TX3 3).2.1 (TX3 3).2.2.1 ∈ TB := TBm (i := 451) rfl rfl
theorem fl_X3_22 : FLk RX3 22 3 3 := ⟨_, _, _, ck_X3, by decide, fw_X3_22⟩
theorem fq_X3_22 : FLw RX3 22 3 3 := ⟨_, _, _, ck_X3, by decide, fw_X3_22, rfl⟩
set_option maxRecDepth 100000 in
theorem fw_X4_9 : Cond.fieldLink RX4 9 (TX4 0).1 (TX4 0).2.1 (TX4 0).2.2.1 ∈ TB := TBm (i := 467) rfl rfl
theorem fl_X4_9 : FLk RX4 9 4 0 := ⟨_, _, _, ck_X4, by decide, fw_X4_9⟩
theorem fq_X4_9 : FLw RX4 9 4 0 := ⟨_, _, _, ck_X4, by decide, fw_X4_9, rfl⟩
set_option maxRecDepth 100000 in
theorem fw_X10_384 : Cond.fieldLink RX10 384 (TX4 0).1 (TX4 0).2.1 (TX4 0).2.2.1 ∈ TB := TBm (i := 468) rfl rfl
theorem fl_X10_384 : FLk RX10 384 4 0 := ⟨_, _, _, ck_X4, by decide, fw_X10_384⟩
theorem fq_X10_384 : FLw RX10 384 4 0 := ⟨_, _, _, ck_X4, by decide, fw_X10_384, rfl⟩
set_option maxRecDepth 100000 in
theorem fw_X4_15 : Cond.fieldLink RX4 15 (TX4 1).1 (TX4 1).2.1 (TX4 1).2.2.1 ∈ TB := TBm (i := 469) rfl rfl
theorem fl_X4_15 : FLk RX4 15 4 1 := ⟨_, _, _, ck_X4, by decide, fw_X4_15⟩
theorem fq_X4_15 : FLw RX4 15 4 1 := ⟨_, _, _, ck_X4, by decide, fw_X4_15, rfl⟩
set_option maxRecDepth 100000 in
theorem fw_X10_293 : Cond.fieldLink RX10 293 (TX4 1).1 (TX4 1).2.1 (TX4 1).2.2.1 ∈ TB := TBm (i := 470) rfl rfl
theorem fl_X10_293 : FLk RX10 293 4 1 := ⟨_, _, _, ck_X4, by decide, fw_X10_293⟩
theorem fq_X10_293 : FLw RX10 293 4 1 := ⟨_, _, _, ck_X4, by decide, fw_X10_293, rfl⟩
set_option maxRecDepth 100000 in
theorem fw_X4_18 : Cond.fieldLink RX4 18 (TX4 2).1 (TX4 2).2.1 (TX4 2).2.2.1 ∈ TB := TBm (i := 471) rfl rfl
theorem fl_X4_18 : FLk RX4 18 4 2 := ⟨_, _, _, ck_X4, by decide, fw_X4_18⟩
theorem ff_X4_18 : FLf RX4 18 4 2 := ⟨_, _, _, ck_X4, by decide, fw_X4_18, rfl, rfl⟩
set_option maxRecDepth 100000 in
theorem fw_X4_22 : Cond.fieldLink RX4 22 (TX4 3).1 (TX4 3).2.1 (TX4 3).2.2.1 ∈ TB := TBm (i := 472) rfl rfl
theorem fl_X4_22 : FLk RX4 22 4 3 := ⟨_, _, _, ck_X4, by decide, fw_X4_22⟩
theorem ff_X4_22 : FLf RX4 22 4 3 := ⟨_, _, _, ck_X4, by decide, fw_X4_22, rfl, rfl⟩
set_option maxRecDepth 100000 in
theorem fw_X4_25 : Cond.fieldLink RX4 25 (TX4 4).1 (TX4 4).2.1 (TX4 4).2.2.1 ∈ TB := TBm (i := 473) rfl rfl
theorem fl_X4_25 : FLk RX4 25 4 4 := ⟨_, _, _, ck_X4, by decide, fw_X4_25⟩
theorem fq_X4_25 : FLw RX4 25 4 4 := ⟨_, _, _, ck_X4, by decide, fw_X4_25, rfl⟩
set_option maxRecDepth 100000 in
theorem fw_X4_28 : Cond.fieldLink RX4 28 (TX4 5).1 (TX4 5).2.1 (TX4 5).2.2.1 ∈ TB := TBm (i := 474) rfl rfl
theorem fl_X4_28 : FLk RX4 28 4 5 := ⟨_, _, _, ck_X4, by decide, fw_X4_28⟩
theorem fq_X4_28 : FLw RX4 28 4 5 := ⟨_, _, _, ck_X4, by decide, fw_X4_28, rfl⟩
set_option maxRecDepth 100000 in
theorem fw_X4_31 : Cond.fieldLink RX4 31 (TX4 6).1 (TX4 6).2.1 (TX4 6).2.2.1 ∈ TB := TBm (i := 475) rfl rfl
theorem fl_X4_31 : FLk RX4 31 4 6 := ⟨_, _, _, ck_X4, by decide, fw_X4_31⟩
theorem fq_X4_31 : FLw RX4 31 4 6 := ⟨_, _, _, ck_X4, by decide, fw_X4_31, rfl⟩
set_option maxRecDepth 100000 in
theorem fw_X4_34 : Cond.fieldLink RX4 34 (TX4 7).1 (TX4 7).2.1 (TX4 7).2.2.1 ∈ TB := TBm (i := 476) rfl rfl
theorem fl_X4_34 : FLk RX4 34 4 7 := ⟨_, _, _, ck_X4, by decide, fw_X4_34⟩
theorem fq_X4_34 : FLw RX4 34 4 7 := ⟨_, _, _, ck_X4, by decide, fw_X4_34, rfl⟩
set_option maxRecDepth 100000 in
theorem fw_X10_10 : Cond.fieldLink RX10 10 (TX10 0).1 (TX10 0).2.1 (TX10 0).2.2.1 ∈ TB := TBm (i := 494) rfl rfl
theorem fl_X10_10 : FLk RX10 10 10 0 := ⟨_, _, _, ck_X10, by decide, fw_X10_10⟩
theorem ff_X10_10 : FLf RX10 10 10 0 := ⟨_, _, _, ck_X10, by decide, fw_X10_10, rfl, rfl⟩
set_option maxRecDepth 100000 in
theorem fw_X10_16 : Cond.fieldLink RX10 16 (TX10 1).1 (TX10 1).2.1 (TX10 1).2.2.1 ∈ TB := TBm (i := 495) rfl rfl
theorem fl_X10_16 : FLk RX10 16 10 1 := ⟨_, _, _, ck_X10, by decide, fw_X10_16⟩
theorem ff_X10_16 : FLf RX10 16 10 1 := ⟨_, _, _, ck_X10, by decide, fw_X10_16, rfl, rfl⟩
set_option maxRecDepth 100000 in
theorem fw_X10_22 : Cond.fieldLink RX10 22 (TX10 2).1 (TX10 2).2.1 (TX10 2).2.2.1 ∈ TB := TBm (i := 496) rfl rfl
theorem fl_X10_22 : FLk RX10 22 10 2 := ⟨_, _, _, ck_X10, by decide, fw_X10_22⟩
theorem ff_X10_22 : FLf RX10 22 10 2 := ⟨_, _, _, ck_X10, by decide, fw_X10_22, rfl, rfl⟩
set_option maxRecDepth 100000 in
theorem fw_X10_26 : Cond.fieldLink RX10 26 (TX10 3).1 (TX10 3).2.1 (TX10 3).2.2.1 ∈ TB := TBm (i := 497) rfl rfl
theorem fl_X10_26 : FLk RX10 26 10 3 := ⟨_, _, _, ck_X10, by decide, fw_X10_26⟩
theorem fq_X10_26 : FLw RX10 26 10 3 := ⟨_, _, _, ck_X10, by decide, fw_X10_26, rfl⟩
set_option maxRecDepth 100000 in
theorem fw_X10_33 : Cond.fieldLink RX10 33 (TX10 4).1 (TX10 4).2.1 (TX10 4).2.2.1 ∈ TB := TBm (i := 498) rfl rfl
theorem fl_X10_33 : FLk RX10 33 10 4 := ⟨_, _, _, ck_X10, by decide, fw_X10_33⟩
theorem ff_X10_33 : FLf RX10 33 10 4 := ⟨_, _, _, ck_X10, by decide, fw_X10_33, rfl, rfl⟩
set_option maxRecDepth 100000 in
theorem fw_X10_40 : Cond.fieldLink RX10 40 (TX10 5).1 (TX10 5).2.1 (TX10 5).2.2.1 ∈ TB := TBm (i := 499) rfl rfl
theorem fl_X10_40 : FLk RX10 40 10 5 := ⟨_, _, _, ck_X10, by decide, fw_X10_40⟩
theorem ff_X10_40 : FLf RX10 40 10 5 := ⟨_, _, _, ck_X10, by decide, fw_X10_40, rfl, rfl⟩
set_option maxRecDepth 100000 in
theorem fw_X10_47 : Cond.fieldLink RX10 47 (TX10 6).1 (TX10 6).2.1 (TX10 6).2.2.1 ∈ TB := TBm (i := 500) rfl rfl
theorem fl_X10_47 : FLk RX10 47 10 6 := ⟨_, _, _, ck_X10, by decide, fw_X10_47⟩
theorem ff_X10_47 : FLf RX10 47 10 6 := ⟨_, _, _, ck_X10, by decide, fw_X10_47, rfl, rfl⟩
set_option maxRecDepth 100000 in
theorem fw_X11_106 : Cond.fieldLink RX11 106 (TX11 0).1 (TX11 0).2.1 (TX11 0).2.2.1 ∈ TB := TBm (i := 1582) rfl rfl
theorem fl_X11_106 : FLk RX11 106 11 0 := ⟨_, _, _, ck_X11, by decide, fw_X11_106⟩
theorem fq_X11_106 : FLw RX11 106 11 0 := ⟨_, _, _, ck_X11, by decide, fw_X11_106, rfl⟩
set_option maxRecDepth 100000 in
theorem fw_X11_9 : Cond.fieldLink RX11 9 (TX11 1).1 (TX11 1).2.1 (TX11 1).2.2.1 ∈ TB := TBm (i := 1583) rfl rfl
theorem fl_X11_9 : FLk RX11 9 11 1 := ⟨_, _, _, ck_X11, by decide, fw_X11_9⟩
theorem ff_X11_9 : FLf RX11 9 11 1 := ⟨_, _, _, ck_X11, by decide, fw_X11_9, rfl, rfl⟩
set_option maxRecDepth 100000 in
theorem fw_X11_109 : Cond.fieldLink RX11 109 (TX11 2).1 (TX11 2).2.1 (TX11 2).2.2.1 ∈ TB := TBm (i := 1584) rfl rfl
theorem fl_X11_109 : FLk RX11 109 11 2 := ⟨_, _, _, ck_X11, by decide, fw_X11_109⟩
theorem fq_X11_109 : FLw RX11 109 11 2 := ⟨_, _, _, ck_X11, by decide, fw_X11_109, rfl⟩
set_option maxRecDepth 100000 in
theorem fw_X11_13 : Cond.fieldLink RX11 13 (TX11 3).1 (TX11 3).2.1 (TX11 3).2.2.1 ∈ TB := TBm (i := 1585) rfl rfl
theorem fl_X11_13 : FLk RX11 13 11 3 := ⟨_, _, _, ck_X11, by decide, fw_X11_13⟩
theorem ff_X11_13 : FLf RX11 13 11 3 := ⟨_, _, _, ck_X11, by decide, fw_X11_13, rfl, rfl⟩
set_option maxRecDepth 100000 in
theorem fw_X11_17 : Cond.fieldLink RX11 17 (TX11 4).1 (TX11 4).2.1 (TX11 4).2.2.1 ∈ TB := TBm (i := 1586) rfl rfl
theorem fl_X11_17 : FLk RX11 17 11 4 := ⟨_, _, _, ck_X11, by decide, fw_X11_17⟩
theorem ff_X11_17 : FLf RX11 17 11 4 := ⟨_, _, _, ck_X11, by decide, fw_X11_17, rfl, rfl⟩
set_option maxRecDepth 100000 in
theorem fw_X11_20 : Cond.fieldLink RX11 20 (TX11 5).1 (TX11 5).2.1 (TX11 5).2.2.1 ∈ TB := TBm (i := 1587) rfl rfl
theorem fl_X11_20 : FLk RX11 20 11 5 := ⟨_, _, _, ck_X11, by decide, fw_X11_20⟩
theorem ff_X11_20 : FLf RX11 20 11 5 := ⟨_, _, _, ck_X11, by decide, fw_X11_20, rfl, rfl⟩
set_option maxRecDepth 100000 in
theorem fw_X11_23 : Cond.fieldLink RX11 23 (TX11 6).1 (TX11 6).2.1 (TX11 6).2.2.1 ∈ TB := TBm (i := 1588) rfl rfl
theorem fl_X11_23 : FLk RX11 23 11 6 := ⟨_, _, _, ck_X11, by decide, fw_X11_23⟩
theorem ff_X11_23 : FLf RX11 23 11 6 := ⟨_, _, _, ck_X11, by decide, fw_X11_23, rfl, rfl⟩
set_option maxRecDepth 100000 in
theorem fw_X11_26 : Cond.fieldLink RX11 26 (TX11 7).1 (TX11 7).2.1 (TX11 7).2.2.1 ∈ TB := TBm (i := 1589) rfl rfl
theorem fl_X11_26 : FLk RX11 26 11 7 := ⟨_, _, _, ck_X11, by decide, fw_X11_26⟩
theorem ff_X11_26 : FLf RX11 26 11 7 := ⟨_, _, _, ck_X11, by decide, fw_X11_26, rfl, rfl⟩
set_option maxRecDepth 100000 in
theorem fw_X11_29 : Cond.fieldLink RX11 29 (TX11 8).1 (TX11 8).2.1 (TX11 8).2.2.1 ∈ TB := TBm (i := 1590) rfl rfl
theorem fl_X11_29 : FLk RX11 29 11 8 := ⟨_, _, _, ck_X11, by decide, fw_X11_29⟩
theorem ff_X11_29 : FLf RX11 29 11 8 := ⟨_, _, _, ck_X11, by decide, fw_X11_29, rfl, rfl⟩
set_option maxRecDepth 100000 in
theorem fw_X11_33 : Cond.fieldLink RX11 33 (TX11 9).1 (TX11 9).2.1 (TX11 9).2.2.1 ∈ TB := TBm (i := 1591) rfl rfl
theorem fl_X11_33 : FLk RX11 33 11 9 := ⟨_, _, _, ck_X11, by decide, fw_X11_33⟩
theorem ff_X11_33 : FLf RX11 33 11 9 := ⟨_, _, _, ck_X11, by decide, fw_X11_33, rfl, rfl⟩
set_option maxRecDepth 100000 in
theorem fw_X11_36 : Cond.fieldLink RX11 36 (TX11 10).1 (TX11 10).2.1 (TX11 10).2.2.1 ∈ TB := TBm (i := 1592) rfl rfl
theorem fl_X11_36 : FLk RX11 36 11 10 := ⟨_, _, _, ck_X11, by decide, fw_X11_36⟩
theorem ff_X11_36 : FLf RX11 36 11 10 := ⟨_, _, _, ck_X11, by decide, fw_X11_36, rfl, rfl⟩
set_option maxRecDepth 100000 in
theorem fw_X11_39 : Cond.fieldLink RX11 39 (TX11 11).1 (TX11 11).2.1 (TX11 11).2.2.1 ∈ TB := TBm (i := 1593) rfl rfl
theorem fl_X11_39 : FLk RX11 39 11 11 := ⟨_, _, _, ck_X11, by decide, fw_X11_39⟩
theorem ff_X11_39 : FLf RX11 39 11 11 := ⟨_, _, _, ck_X11, by decide, fw_X11_39, rfl, rfl⟩
set_option maxRecDepth 100000 in
theorem fw_X11_42 : Cond.fieldLink RX11 42 (TX11 12).1 (TX11 12).2.1 (TX11 12).2.2.1 ∈ TB := TBm (i := 1594) rfl rfl
theorem fl_X11_42 : FLk RX11 42 11 12 := ⟨_, _, _, ck_X11, by decide, fw_X11_42⟩
theorem ff_X11_42 : FLf RX11 42 11 12 := ⟨_, _, _, ck_X11, by decide, fw_X11_42, rfl, rfl⟩
set_option maxRecDepth 100000 in
theorem fw_X11_45 : Cond.fieldLink RX11 45 (TX11 13).1 (TX11 13).2.1 (TX11 13).2.2.1 ∈ TB := TBm (i := 1595) rfl rfl
theorem fl_X11_45 : FLk RX11 45 11 13 := ⟨_, _, _, ck_X11, by decide, fw_X11_45⟩
theorem ff_X11_45 : FLf RX11 45 11 13 := ⟨_, _, _, ck_X11, by decide, fw_X11_45, rfl, rfl⟩
set_option maxRecDepth 100000 in
theorem fw_X11_48 : Cond.fieldLink RX11 48 (TX11 14).1 (TX11 14).2.1 (TX11 14).2.2.1 ∈ TB := TBm (i := 1596) rfl rfl
theorem fl_X11_48 : FLk RX11 48 11 14 := ⟨_, _, _, ck_X11, by decide, fw_X11_48⟩
theorem fq_X11_48 : FLw RX11 48 11 14 := ⟨_, _, _, ck_X11, by decide, fw_X11_48, rfl⟩
set_option maxRecDepth 100000 in
theorem fw_X11_52 : Cond.fieldLink RX11 52 (TX11 15).1 (TX11 15).2.1 (TX11 15).2.2.1 ∈ TB := TBm (i := 1597) rfl rfl
theorem fl_X11_52 : FLk RX11 52 11 15 := ⟨_, _, _, ck_X11, by decide, fw_X11_52⟩
theorem fq_X11_52 : FLw RX11 52 11 15 := ⟨_, _, _, ck_X11, by decide, fw_X11_52, rfl⟩
set_option maxRecDepth 100000 in
theorem fw_X11_115 : Cond.fieldLink RX11 115 (TX11 16).1 (TX11 16).2.1 (TX11 16).2.2.1 ∈ TB := TBm (i := 1598) rfl rfl
theorem fl_X11_115 : FLk RX11 115 11 16 := ⟨_, _, _, ck_X11, by decide, fw_X11_115⟩
theorem fq_X11_115 : FLw RX11 115 11 16 := ⟨_, _, _, ck_X11, by decide, fw_X11_115, rfl⟩
set_option maxRecDepth 100000 in
theorem fw_X11_125 : Cond.fieldLink RX11 125 (TX11 17).1 (TX11 17).2.1 (TX11 17).2.2.1 ∈ TB := TBm (i := 1599) rfl rfl
theorem fl_X11_125 : FLk RX11 125 11 17 := ⟨_, _, _, ck_X11, by decide, fw_X11_125⟩
theorem fq_X11_125 : FLw RX11 125 11 17 := ⟨_, _, _, ck_X11, by decide, fw_X11_125, rfl⟩
set_option maxRecDepth 100000 in
theorem fw_X11_118 : Cond.fieldLink RX11 118 (TX11 18).1 (TX11 18).2.1 (TX11 18).2.2.1 ∈ TB := TBm (i := 1600) rfl rfl
theorem fl_X11_118 : FLk RX11 118 11 18 := ⟨_, _, _, ck_X11, by decide, fw_X11_118⟩
theorem fq_X11_118 : FLw RX11 118 11 18 := ⟨_, _, _, ck_X11, by decide, fw_X11_118, rfl⟩
set_option maxRecDepth 100000 in
theorem fw_X11_112 : Cond.fieldLink RX11 112 (TX11 19).1 (TX11 19).2.1 (TX11 19).2.2.1 ∈ TB := TBm (i := 1601) rfl rfl
theorem fl_X11_112 : FLk RX11 112 11 19 := ⟨_, _, _, ck_X11, by decide, fw_X11_112⟩
theorem fq_X11_112 : FLw RX11 112 11 19 := ⟨_, _, _, ck_X11, by decide, fw_X11_112, rfl⟩
set_option maxRecDepth 100000 in
theorem fw_X11_55 : Cond.fieldLink RX11 55 (TX11 20).1 (TX11 20).2.1 (TX11 20).2.2.1 ∈ TB := TBm (i := 1602) rfl rfl
theorem fl_X11_55 : FLk RX11 55 11 20 := ⟨_, _, _, ck_X11, by decide, fw_X11_55⟩
theorem fq_X11_55 : FLw RX11 55 11 20 := ⟨_, _, _, ck_X11, by decide, fw_X11_55, rfl⟩
set_option maxRecDepth 100000 in
theorem fw_X11_184 : Cond.fieldLink RX11 184 (TX11 21).1 (TX11 21).2.1 (TX11 21).2.2.1 ∈ TB := TBm (i := 1603) rfl rfl
theorem fl_X11_184 : FLk RX11 184 11 21 := ⟨_, _, _, ck_X11, by decide, fw_X11_184⟩
theorem fq_X11_184 : FLw RX11 184 11 21 := ⟨_, _, _, ck_X11, by decide, fw_X11_184, rfl⟩
set_option maxRecDepth 100000 in
theorem fw_X11_58 : Cond.fieldLink RX11 58 (TX11 22).1 (TX11 22).2.1 (TX11 22).2.2.1 ∈ TB := TBm (i := 1604) rfl rfl
theorem fl_X11_58 : FLk RX11 58 11 22 := ⟨_, _, _, ck_X11, by decide, fw_X11_58⟩
theorem ff_X11_58 : FLf RX11 58 11 22 := ⟨_, _, _, ck_X11, by decide, fw_X11_58, rfl, rfl⟩
set_option maxRecDepth 100000 in
theorem fw_X11_61 : Cond.fieldLink RX11 61 (TX11 23).1 (TX11 23).2.1 (TX11 23).2.2.1 ∈ TB := TBm (i := 1605) rfl rfl
theorem fl_X11_61 : FLk RX11 61 11 23 := ⟨_, _, _, ck_X11, by decide, fw_X11_61⟩
theorem ff_X11_61 : FLf RX11 61 11 23 := ⟨_, _, _, ck_X11, by decide, fw_X11_61, rfl, rfl⟩
set_option maxRecDepth 100000 in
theorem fw_X11_64 : Cond.fieldLink RX11 64 (TX11 24).1 (TX11 24).2.1 (TX11 24).2.2.1 ∈ TB := TBm (i := 1606) rfl rfl
theorem fl_X11_64 : FLk RX11 64 11 24 := ⟨_, _, _, ck_X11, by decide, fw_X11_64⟩
theorem ff_X11_64 : FLf RX11 64 11 24 := ⟨_, _, _, ck_X11, by decide, fw_X11_64, rfl, rfl⟩
set_option maxRecDepth 100000 in
theorem fw_X11_67 : Cond.fieldLink RX11 67 (TX11 25).1 (TX11 25).2.1 (TX11 25).2.2.1 ∈ TB := TBm (i := 1607) rfl rfl
theorem fl_X11_67 : FLk RX11 67 11 25 := ⟨_, _, _, ck_X11, by decide, fw_X11_67⟩
theorem ff_X11_67 : FLf RX11 67 11 25 := ⟨_, _, _, ck_X11, by decide, fw_X11_67, rfl, rfl⟩
set_option maxRecDepth 100000 in
theorem fw_X11_70 : Cond.fieldLink RX11 70 (TX11 26).1 (TX11 26).2.1 (TX11 26).2.2.1 ∈ TB := TBm (i := 1608) rfl rfl
theorem fl_X11_70 : FLk RX11 70 11 26 := ⟨_, _, _, ck_X11, by decide, fw_X11_70⟩
theorem ff_X11_70 : FLf RX11 70 11 26 := ⟨_, _, _, ck_X11, by decide, fw_X11_70, rfl, rfl⟩
set_option maxRecDepth 100000 in
theorem fw_X11_73 : Cond.fieldLink RX11 73 (TX11 27).1 (TX11 27).2.1 (TX11 27).2.2.1 ∈ TB := TBm (i := 1609) rfl rfl
theorem fl_X11_73 : FLk RX11 73 11 27 := ⟨_, _, _, ck_X11, by decide, fw_X11_73⟩
theorem ff_X11_73 : FLf RX11 73 11 27 := ⟨_, _, _, ck_X11, by decide, fw_X11_73, rfl, rfl⟩
set_option maxRecDepth 100000 in
theorem fw_X11_76 : Cond.fieldLink RX11 76 (TX11 28).1 (TX11 28).2.1 (TX11 28).2.2.1 ∈ TB := TBm (i := 1610) rfl rfl
theorem fl_X11_76 : FLk RX11 76 11 28 := ⟨_, _, _, ck_X11, by decide, fw_X11_76⟩
theorem ff_X11_76 : FLf RX11 76 11 28 := ⟨_, _, _, ck_X11, by decide, fw_X11_76, rfl, rfl⟩
set_option maxRecDepth 100000 in
theorem fw_X11_79 : Cond.fieldLink RX11 79 (TX11 29).1 (TX11 29).2.1 (TX11 29).2.2.1 ∈ TB := TBm (i := 1611) rfl rfl
theorem fl_X11_79 : FLk RX11 79 11 29 := ⟨_, _, _, ck_X11, by decide, fw_X11_79⟩
theorem ff_X11_79 : FLf RX11 79 11 29 := ⟨_, _, _, ck_X11, by decide, fw_X11_79, rfl, rfl⟩
set_option maxRecDepth 100000 in
theorem fw_X11_82 : Cond.fieldLink RX11 82 (TX11 30).1 (TX11 30).2.1 (TX11 30).2.2.1 ∈ TB := TBm (i := 1612) rfl rfl
theorem fl_X11_82 : FLk RX11 82 11 30 := ⟨_, _, _, ck_X11, by decide, fw_X11_82⟩
theorem ff_X11_82 : FLf RX11 82 11 30 := ⟨_, _, _, ck_X11, by decide, fw_X11_82, rfl, rfl⟩
set_option maxRecDepth 100000 in
theorem fw_X11_85 : Cond.fieldLink RX11 85 (TX11 31).1 (TX11 31).2.1 (TX11 31).2.2.1 ∈ TB := TBm (i := 1613) rfl rfl
theorem fl_X11_85 : FLk RX11 85 11 31 := ⟨_, _, _, ck_X11, by decide, fw_X11_85⟩
theorem ff_X11_85 : FLf RX11 85 11 31 := ⟨_, _, _, ck_X11, by decide, fw_X11_85, rfl, rfl⟩
set_option maxRecDepth 100000 in
theorem fw_X11_88 : Cond.fieldLink RX11 88 (TX11 32).1 (TX11 32).2.1 (TX11 32).2.2.1 ∈ TB := TBm (i := 1614) rfl rfl
theorem fl_X11_88 : FLk RX11 88 11 32 := ⟨_, _, _, ck_X11, by decide, fw_X11_88⟩
theorem ff_X11_88 : FLf RX11 88 11 32 := ⟨_, _, _, ck_X11, by decide, fw_X11_88, rfl, rfl⟩
set_option maxRecDepth 100000 in
theorem fw_X11_91 : Cond.fieldLink RX11 91 (TX11 33).1 (TX11 33).2.1 (TX11 33).2.2.1 ∈ TB := TBm (i := 1615) rfl rfl
theorem fl_X11_91 : FLk RX11 91 11 33 := ⟨_, _, _, ck_X11, by decide, fw_X11_91⟩
theorem ff_X11_91 : FLf RX11 91 11 33 := ⟨_, _, _, ck_X11, by decide, fw_X11_91, rfl, rfl⟩
set_option maxRecDepth 100000 in
theorem fw_X11_94 : Cond.fieldLink RX11 94 (TX11 34).1 (TX11 34).2.1 (TX11 34).2.2.1 ∈ TB := TBm (i := 1616) rfl rfl
theorem fl_X11_94 : FLk RX11 94 11 34 := ⟨_, _, _, ck_X11, by decide, fw_X11_94⟩
theorem ff_X11_94 : FLf RX11 94 11 34 := ⟨_, _, _, ck_X11, by decide, fw_X11_94, rfl, rfl⟩
set_option maxRecDepth 100000 in
theorem fw_X11_97 : Cond.fieldLink RX11 97 (TX11 35).1 (TX11 35).2.1 (TX11 35).2.2.1 ∈ TB := TBm (i := 1617) rfl rfl
theorem fl_X11_97 : FLk RX11 97 11 35 := ⟨_, _, _, ck_X11, by decide, fw_X11_97⟩
theorem ff_X11_97 : FLf RX11 97 11 35 := ⟨_, _, _, ck_X11, by decide, fw_X11_97, rfl, rfl⟩
set_option maxRecDepth 100000 in
theorem fw_X11_331 : Cond.fieldLink RX11 331 (TX11 36).1 (TX11 36).2.1 (TX11 36).2.2.1 ∈ TB := TBm (i := 1618) rfl rfl
theorem fl_X11_331 : FLk RX11 331 11 36 := ⟨_, _, _, ck_X11, by decide, fw_X11_331⟩
theorem fq_X11_331 : FLw RX11 331 11 36 := ⟨_, _, _, ck_X11, by decide, fw_X11_331, rfl⟩
set_option maxRecDepth 100000 in
theorem fw_X11_100 : Cond.fieldLink RX11 100 (TX11 37).1 (TX11 37).2.1 (TX11 37).2.2.1 ∈ TB := TBm (i := 1619) rfl rfl
theorem fl_X11_100 : FLk RX11 100 11 37 := ⟨_, _, _, ck_X11, by decide, fw_X11_100⟩
theorem ff_X11_100 : FLf RX11 100 11 37 := ⟨_, _, _, ck_X11, by decide, fw_X11_100, rfl, rfl⟩
set_option maxRecDepth 100000 in
theorem fw_X11_343 : Cond.fieldLink RX11 343 (TX11 38).1 (TX11 38).2.1 (TX11 38).2.2.1 ∈ TB := TBm (i := 1620) rfl rfl
theorem fl_X11_343 : FLk RX11 343 11 38 := ⟨_, _, _, ck_X11, by decide, fw_X11_343⟩
theorem fq_X11_343 : FLw RX11 343 11 38 := ⟨_, _, _, ck_X11, by decide, fw_X11_343, rfl⟩
set_option maxRecDepth 100000 in
theorem fw_X11_103 : Cond.fieldLink RX11 103 (TX11 39).1 (TX11 39).2.1 (TX11 39).2.2.1 ∈ TB := TBm (i := 1621) rfl rfl
theorem fl_X11_103 : FLk RX11 103 11 39 := ⟨_, _, _, ck_X11, by decide, fw_X11_103⟩
theorem ff_X11_103 : FLf RX11 103 11 39 := ⟨_, _, _, ck_X11, by decide, fw_X11_103, rfl, rfl⟩
set_option maxRecDepth 100000 in
theorem fw_X11_355 : Cond.fieldLink RX11 355 (TX11 40).1 (TX11 40).2.1 (TX11 40).2.2.1 ∈ TB := TBm (i := 1622) rfl rfl
theorem fl_X11_355 : FLk RX11 355 11 40 := ⟨_, _, _, ck_X11, by decide, fw_X11_355⟩
theorem fq_X11_355 : FLw RX11 355 11 40 := ⟨_, _, _, ck_X11, by decide, fw_X11_355, rfl⟩
set_option maxRecDepth 100000 in
theorem yw_X0_clear : YW yX0_clear cX0_clear 1 none 0 := ⟨TBm (i := 1087) rfl rfl, TBm (i := 135) rfl rfl, by decide, by decide +kernel⟩
set_option maxRecDepth 100000 in
theorem yv_X0_clear : YV yX0_clear cX0_clear 1 none 0 := ⟨yw_X0_clear, TBm (i := 1085) rfl rfl, TBm (i := 1086) rfl rfl⟩
set_option maxRecDepth 100000 in
theorem yw_X0_add : YW yX0_add cX0_add 4 none 3 := ⟨TBm (i := 1093) rfl rfl, TBm (i := 135) rfl rfl, by decide, by decide +kernel⟩
set_option maxRecDepth 100000 in
theorem yv_X0_add : YV yX0_add cX0_add 4 none 3 := ⟨yw_X0_add, TBm (i := 1091) rfl rfl, TBm (i := 1092) rfl rfl⟩
set_option maxRecDepth 100000 in
theorem yw_X0_isEmpty : YW yX0_isEmpty cX0_isEmpty 1 (some .boolean) 0 := ⟨TBm (i := 1501) rfl rfl, TBm (i := 135) rfl rfl, by decide, by decide +kernel⟩
set_option maxRecDepth 100000 in
theorem yv_X0_isEmpty : YV yX0_isEmpty cX0_isEmpty 1 (some .boolean) 0 := ⟨yw_X0_isEmpty, TBm (i := 1499) rfl rfl, TBm (i := 1500) rfl rfl⟩
set_option maxRecDepth 100000 in
theorem yw_X0_pullFrom : YW yX0_pullFrom cX0_pullFrom 7 (some .long) 2 := ⟨TBm (i := 1101) rfl rfl, TBm (i := 135) rfl rfl, by decide, by decide +kernel⟩
set_option maxRecDepth 100000 in
theorem yv_X0_pullFrom : YV yX0_pullFrom cX0_pullFrom 7 (some .long) 2 := ⟨yw_X0_pullFrom, TBm (i := 1099) rfl rfl, TBm (i := 1100) rfl rfl⟩
set_option maxRecDepth 100000 in
theorem yw_X1_cells : YW yX1_cells cX1_cells 1 (some .int) 0 := ⟨TBm (i := 554) rfl rfl, TBm (i := 132) rfl rfl, by decide, by decide +kernel⟩
set_option maxRecDepth 100000 in
theorem yv_X1_cells : YV yX1_cells cX1_cells 1 (some .int) 0 := ⟨yw_X1_cells, TBm (i := 552) rfl rfl, TBm (i := 553) rfl rfl⟩
set_option maxRecDepth 100000 in
theorem yw_X1_clear : YW yX1_clear cX1_clear 1 none 0 := ⟨TBm (i := 634) rfl rfl, TBm (i := 132) rfl rfl, by decide, by decide +kernel⟩
set_option maxRecDepth 100000 in
theorem yv_X1_clear : YV yX1_clear cX1_clear 1 none 0 := ⟨yw_X1_clear, TBm (i := 632) rfl rfl, TBm (i := 633) rfl rfl⟩
set_option maxRecDepth 100000 in
theorem yw_X1_shape : YW yX1_shape cX1_shape 6 none 2 := ⟨TBm (i := 715) rfl rfl, TBm (i := 132) rfl rfl, by decide, by decide +kernel⟩
set_option maxRecDepth 100000 in
theorem yv_X1_shape : YV yX1_shape cX1_shape 6 none 2 := ⟨yw_X1_shape, TBm (i := 713) rfl rfl, TBm (i := 714) rfl rfl⟩
set_option maxRecDepth 100000 in
theorem yw_X1_copyFrom : YW yX1_copyFrom cX1_copyFrom 3 none 1 := ⟨TBm (i := 856) rfl rfl, TBm (i := 132) rfl rfl, by decide, by decide +kernel⟩
set_option maxRecDepth 100000 in
theorem yv_X1_copyFrom : YV yX1_copyFrom cX1_copyFrom 3 none 1 := ⟨yw_X1_copyFrom, TBm (i := 854) rfl rfl, TBm (i := 855) rfl rfl⟩
set_option maxRecDepth 100000 in
theorem yw_X1_far : YW yX1_far cX1_far 5 (some .int) 2 := ⟨TBm (i := 1110) rfl rfl, TBm (i := 132) rfl rfl, by decide, by decide +kernel⟩
set_option maxRecDepth 100000 in
theorem yv_X1_far : YV yX1_far cX1_far 5 (some .int) 2 := ⟨yw_X1_far, TBm (i := 1108) rfl rfl, TBm (i := 1109) rfl rfl⟩
set_option maxRecDepth 100000 in
theorem yw_X1_beside : YW yX1_beside cX1_beside 5 (some .int) 2 := ⟨TBm (i := 970) rfl rfl, TBm (i := 132) rfl rfl, by decide, by decide +kernel⟩
set_option maxRecDepth 100000 in
theorem yv_X1_beside : YV yX1_beside cX1_beside 5 (some .int) 2 := ⟨yw_X1_beside, TBm (i := 968) rfl rfl, TBm (i := 969) rfl rfl⟩
set_option maxRecDepth 100000 in
theorem yw_X1_isLand : YW yX1_isLand cX1_isLand 2 (some .boolean) 1 := ⟨TBm (i := 558) rfl rfl, TBm (i := 132) rfl rfl, by decide, by decide +kernel⟩
set_option maxRecDepth 100000 in
theorem yv_X1_isLand : YV yX1_isLand cX1_isLand 2 (some .boolean) 1 := ⟨yw_X1_isLand, TBm (i := 556) rfl rfl, TBm (i := 557) rfl rfl⟩
set_option maxRecDepth 100000 in
theorem yw_X1_isLandOf : YW yX1_isLandOf cX1_isLandOf 3 (some .boolean) 2 := ⟨TBm (i := 951) rfl rfl, TBm (i := 132) rfl rfl, by decide, by decide +kernel⟩
set_option maxRecDepth 100000 in
theorem yv_X1_isLandOf : YV yX1_isLandOf cX1_isLandOf 3 (some .boolean) 2 := ⟨yw_X1_isLandOf, TBm (i := 949) rfl rfl, TBm (i := 950) rfl rfl⟩
set_option maxRecDepth 100000 in
theorem yw_X1_livingIn : YW yX1_livingIn cX1_livingIn 3 (some .int) 2 := ⟨TBm (i := 569) rfl rfl, TBm (i := 132) rfl rfl, by decide, by decide +kernel⟩
set_option maxRecDepth 100000 in
theorem yv_X1_livingIn : YV yX1_livingIn cX1_livingIn 3 (some .int) 2 := ⟨yw_X1_livingIn, TBm (i := 567) rfl rfl, TBm (i := 568) rfl rfl⟩
set_option maxRecDepth 100000 in
theorem yw_X1_settle : YW yX1_settle cX1_settle 4 none 3 := ⟨TBm (i := 764) rfl rfl, TBm (i := 132) rfl rfl, by decide, by decide +kernel⟩
set_option maxRecDepth 100000 in
theorem yv_X1_settle : YV yX1_settle cX1_settle 4 none 3 := ⟨yw_X1_settle, TBm (i := 762) rfl rfl, TBm (i := 763) rfl rfl⟩
set_option maxRecDepth 100000 in
theorem yw_X1_cellsOf : YW yX1_cellsOf cX1_cellsOf 4 (some .int) 1 := ⟨TBm (i := 943) rfl rfl, TBm (i := 132) rfl rfl, by decide, by decide +kernel⟩
set_option maxRecDepth 100000 in
theorem yv_X1_cellsOf : YV yX1_cellsOf cX1_cellsOf 4 (some .int) 1 := ⟨yw_X1_cellsOf, TBm (i := 941) rfl rfl, TBm (i := 942) rfl rfl⟩
set_option maxRecDepth 100000 in
theorem yw_X1_landOf : YW yX1_landOf cX1_landOf 4 (some .int) 1 := ⟨TBm (i := 947) rfl rfl, TBm (i := 132) rfl rfl, by decide, by decide +kernel⟩
set_option maxRecDepth 100000 in
theorem yv_X1_landOf : YV yX1_landOf cX1_landOf 4 (some .int) 1 := ⟨yw_X1_landOf, TBm (i := 945) rfl rfl, TBm (i := 946) rfl rfl⟩
set_option maxRecDepth 100000 in
theorem yw_X1_shoreOf : YW yX1_shoreOf cX1_shoreOf 6 (some .int) 1 := ⟨TBm (i := 974) rfl rfl, TBm (i := 132) rfl rfl, by decide, by decide +kernel⟩
set_option maxRecDepth 100000 in
theorem yv_X1_shoreOf : YV yX1_shoreOf cX1_shoreOf 6 (some .int) 1 := ⟨yw_X1_shoreOf, TBm (i := 972) rfl rfl, TBm (i := 973) rfl rfl⟩
set_option maxRecDepth 100000 in
theorem yw_X1_borderOf : YW yX1_borderOf cX1_borderOf 6 (some .int) 1 := ⟨TBm (i := 979) rfl rfl, TBm (i := 132) rfl rfl, by decide, by decide +kernel⟩
set_option maxRecDepth 100000 in
theorem yv_X1_borderOf : YV yX1_borderOf cX1_borderOf 6 (some .int) 1 := ⟨yw_X1_borderOf, TBm (i := 977) rfl rfl, TBm (i := 978) rfl rfl⟩
set_option maxRecDepth 100000 in
theorem yw_X1_startsRun : YW yX1_startsRun cX1_startsRun 5 (some .boolean) 3 := ⟨TBm (i := 991) rfl rfl, TBm (i := 132) rfl rfl, by decide, by decide +kernel⟩
set_option maxRecDepth 100000 in
theorem yv_X1_startsRun : YV yX1_startsRun cX1_startsRun 5 (some .boolean) 3 := ⟨yw_X1_startsRun, TBm (i := 990) rfl rfl, TBm (i := 28) rfl rfl⟩
set_option maxRecDepth 100000 in
theorem yw_X1_runsOf : YW yX1_runsOf cX1_runsOf 5 (some .int) 2 := ⟨TBm (i := 987) rfl rfl, TBm (i := 132) rfl rfl, by decide, by decide +kernel⟩
set_option maxRecDepth 100000 in
theorem yv_X1_runsOf : YV yX1_runsOf cX1_runsOf 5 (some .int) 2 := ⟨yw_X1_runsOf, TBm (i := 985) rfl rfl, TBm (i := 986) rfl rfl⟩
set_option maxRecDepth 100000 in
theorem yw_X1_allRunsOf : YW yX1_allRunsOf cX1_allRunsOf 4 (some .int) 1 := ⟨TBm (i := 983) rfl rfl, TBm (i := 132) rfl rfl, by decide, by decide +kernel⟩
set_option maxRecDepth 100000 in
theorem yv_X1_allRunsOf : YV yX1_allRunsOf cX1_allRunsOf 4 (some .int) 1 := ⟨yw_X1_allRunsOf, TBm (i := 981) rfl rfl, TBm (i := 982) rfl rfl⟩
set_option maxRecDepth 100000 in
theorem yw_X1_runEdge : YW yX1_runEdge cX1_runEdge 7 (some .int) 4 := ⟨TBm (i := 1303) rfl rfl, TBm (i := 132) rfl rfl, by decide, by decide +kernel⟩
set_option maxRecDepth 100000 in
theorem yv_X1_runEdge : YV yX1_runEdge cX1_runEdge 7 (some .int) 4 := ⟨yw_X1_runEdge, TBm (i := 1301) rfl rfl, TBm (i := 1302) rfl rfl⟩
set_option maxRecDepth 100000 in
theorem yw_X1_runEnd : YW yX1_runEnd cX1_runEnd 5 (some .int) 3 := ⟨TBm (i := 1307) rfl rfl, TBm (i := 132) rfl rfl, by decide, by decide +kernel⟩
set_option maxRecDepth 100000 in
theorem yv_X1_runEnd : YV yX1_runEnd cX1_runEnd 5 (some .int) 3 := ⟨yw_X1_runEnd, TBm (i := 1306) rfl rfl, TBm (i := 44) rfl rfl⟩
set_option maxRecDepth 100000 in
theorem yw_X1_seaCells : YW yX1_seaCells cX1_seaCells 3 (some .int) 0 := ⟨TBm (i := 601) rfl rfl, TBm (i := 132) rfl rfl, by decide, by decide +kernel⟩
set_option maxRecDepth 100000 in
theorem yv_X1_seaCells : YV yX1_seaCells cX1_seaCells 3 (some .int) 0 := ⟨yw_X1_seaCells, TBm (i := 599) rfl rfl, TBm (i := 600) rfl rfl⟩
set_option maxRecDepth 100000 in
theorem yw_X1_landCells : YW yX1_landCells cX1_landCells 3 (some .int) 0 := ⟨TBm (i := 606) rfl rfl, TBm (i := 132) rfl rfl, by decide, by decide +kernel⟩
set_option maxRecDepth 100000 in
theorem yv_X1_landCells : YV yX1_landCells cX1_landCells 3 (some .int) 0 := ⟨yw_X1_landCells, TBm (i := 604) rfl rfl, TBm (i := 605) rfl rfl⟩
set_option maxRecDepth 100000 in
theorem yw_X1_freeCells : YW yX1_freeCells cX1_freeCells 1 (some .int) 0 := ⟨TBm (i := 611) rfl rfl, TBm (i := 132) rfl rfl, by decide, by decide +kernel⟩
set_option maxRecDepth 100000 in
theorem yv_X1_freeCells : YV yX1_freeCells cX1_freeCells 1 (some .int) 0 := ⟨yw_X1_freeCells, TBm (i := 609) rfl rfl, TBm (i := 610) rfl rfl⟩
set_option maxRecDepth 100000 in
theorem yw_X1_everybody : YW yX1_everybody cX1_everybody 4 (some .int) 0 := ⟨TBm (i := 617) rfl rfl, TBm (i := 132) rfl rfl, by decide, by decide +kernel⟩
set_option maxRecDepth 100000 in
theorem yv_X1_everybody : YV yX1_everybody cX1_everybody 4 (some .int) 0 := ⟨yw_X1_everybody, TBm (i := 615) rfl rfl, TBm (i := 616) rfl rfl⟩
set_option maxRecDepth 100000 in
theorem yw_X1_shift : YW yX1_shift cX1_shift 11 (some .int) 5 := ⟨TBm (i := 1264) rfl rfl, TBm (i := 132) rfl rfl, by decide, by decide +kernel⟩
set_option maxRecDepth 100000 in
theorem yv_X1_shift : YV yX1_shift cX1_shift 11 (some .int) 5 := ⟨yw_X1_shift, TBm (i := 1262) rfl rfl, TBm (i := 1263) rfl rfl⟩
set_option maxRecDepth 100000 in
theorem yw_X1_join : YW yX1_join cX1_join 4 none 2 := ⟨TBm (i := 1529) rfl rfl, TBm (i := 132) rfl rfl, by decide, by decide +kernel⟩
set_option maxRecDepth 100000 in
theorem yv_X1_join : YV yX1_join cX1_join 4 none 2 := ⟨yw_X1_join, TBm (i := 1527) rfl rfl, TBm (i := 1528) rfl rfl⟩
set_option maxRecDepth 100000 in
theorem yw_X2_forget : YW yX2_forget cX2_forget 1 none 0 := ⟨TBm (i := 877) rfl rfl, TBm (i := 136) rfl rfl, by decide, by decide +kernel⟩
set_option maxRecDepth 100000 in
theorem yv_X2_forget : YV yX2_forget cX2_forget 1 none 0 := ⟨yw_X2_forget, TBm (i := 875) rfl rfl, TBm (i := 876) rfl rfl⟩
set_option maxRecDepth 100000 in
theorem yw_X2_isOf : YW yX2_isOf cX2_isOf 2 (some .boolean) 1 := ⟨TBm (i := 1199) rfl rfl, TBm (i := 136) rfl rfl, by decide, by decide +kernel⟩
set_option maxRecDepth 100000 in
theorem yv_X2_isOf : YV yX2_isOf cX2_isOf 2 (some .boolean) 1 := ⟨yw_X2_isOf, TBm (i := 1197) rfl rfl, TBm (i := 1198) rfl rfl⟩
set_option maxRecDepth 100000 in
theorem yw_X2_gather : YW yX2_gather cX2_gather 7 none 4 := ⟨TBm (i := 1203) rfl rfl, TBm (i := 136) rfl rfl, by decide, by decide +kernel⟩
set_option maxRecDepth 100000 in
theorem yv_X2_gather : YV yX2_gather cX2_gather 7 none 4 := ⟨yw_X2_gather, TBm (i := 1201) rfl rfl, TBm (i := 1202) rfl rfl⟩
set_option maxRecDepth 100000 in
theorem yw_X2_stand : YW yX2_stand cX2_stand 11 none 5 := ⟨TBm (i := 1209) rfl rfl, TBm (i := 136) rfl rfl, by decide, by decide +kernel⟩
set_option maxRecDepth 100000 in
theorem yv_X2_stand : YV yX2_stand cX2_stand 11 none 5 := ⟨yw_X2_stand, TBm (i := 1208) rfl rfl, TBm (i := 39) rfl rfl⟩
set_option maxRecDepth 100000 in
theorem yw_X2_addUp : YW yX2_addUp cX2_addUp 4 none 0 := ⟨TBm (i := 1215) rfl rfl, TBm (i := 136) rfl rfl, by decide, by decide +kernel⟩
set_option maxRecDepth 100000 in
theorem yv_X2_addUp : YV yX2_addUp cX2_addUp 4 none 0 := ⟨yw_X2_addUp, TBm (i := 1214) rfl rfl, TBm (i := 40) rfl rfl⟩
set_option maxRecDepth 100000 in
theorem yw_X2_weightOf : YW yX2_weightOf cX2_weightOf 3 (some .int) 2 := ⟨TBm (i := 1219) rfl rfl, TBm (i := 136) rfl rfl, by decide, by decide +kernel⟩
set_option maxRecDepth 100000 in
theorem yv_X2_weightOf : YV yX2_weightOf cX2_weightOf 3 (some .int) 2 := ⟨yw_X2_weightOf, TBm (i := 1217) rfl rfl, TBm (i := 1218) rfl rfl⟩
set_option maxRecDepth 100000 in
theorem yw_X2_moreThan : YW yX2_moreThan cX2_moreThan 6 (some .int) 2 := ⟨TBm (i := 1287) rfl rfl, TBm (i := 136) rfl rfl, by decide, by decide +kernel⟩
set_option maxRecDepth 100000 in
theorem yv_X2_moreThan : YV yX2_moreThan cX2_moreThan 6 (some .int) 2 := ⟨yw_X2_moreThan, TBm (i := 1285) rfl rfl, TBm (i := 1286) rfl rfl⟩
set_option maxRecDepth 100000 in
theorem yw_X2_leastGap : YW yX2_leastGap cX2_leastGap 6 (some .int) 1 := ⟨TBm (i := 1230) rfl rfl, TBm (i := 136) rfl rfl, by decide, by decide +kernel⟩
set_option maxRecDepth 100000 in
theorem yv_X2_leastGap : YV yX2_leastGap cX2_leastGap 6 (some .int) 1 := ⟨yw_X2_leastGap, TBm (i := 1228) rfl rfl, TBm (i := 1229) rfl rfl⟩
set_option maxRecDepth 100000 in
theorem yw_X2_gauge : YW yX2_gauge cX2_gauge 5 (some .int) 4 := ⟨TBm (i := 1336) rfl rfl, TBm (i := 136) rfl rfl, by decide, by decide +kernel⟩
set_option maxRecDepth 100000 in
theorem yv_X2_gauge : YV yX2_gauge cX2_gauge 5 (some .int) 4 := ⟨yw_X2_gauge, TBm (i := 1334) rfl rfl, TBm (i := 1335) rfl rfl⟩
set_option maxRecDepth 100000 in
theorem yw_X2_sumWithin : YW yX2_sumWithin cX2_sumWithin 6 (some .int) 3 := ⟨TBm (i := 1340) rfl rfl, TBm (i := 136) rfl rfl, by decide, by decide +kernel⟩
set_option maxRecDepth 100000 in
theorem yv_X2_sumWithin : YV yX2_sumWithin cX2_sumWithin 6 (some .int) 3 := ⟨yw_X2_sumWithin, TBm (i := 1339) rfl rfl, TBm (i := 47) rfl rfl⟩
set_option maxRecDepth 100000 in
theorem yw_X2_farToSea : YW yX2_farToSea cX2_farToSea 6 (some .int) 2 := ⟨TBm (i := 1348) rfl rfl, TBm (i := 136) rfl rfl, by decide, by decide +kernel⟩
set_option maxRecDepth 100000 in
theorem yv_X2_farToSea : YV yX2_farToSea cX2_farToSea 6 (some .int) 2 := ⟨yw_X2_farToSea, TBm (i := 1347) rfl rfl, TBm (i := 48) rfl rfl⟩
set_option maxRecDepth 100000 in
theorem yw_X2_spotsInLine : YW yX2_spotsInLine cX2_spotsInLine 7 (some .int) 2 := ⟨TBm (i := 1352) rfl rfl, TBm (i := 136) rfl rfl, by decide, by decide +kernel⟩
set_option maxRecDepth 100000 in
theorem yv_X2_spotsInLine : YV yX2_spotsInLine cX2_spotsInLine 7 (some .int) 2 := ⟨yw_X2_spotsInLine, TBm (i := 1351) rfl rfl, TBm (i := 49) rfl rfl⟩
set_option maxRecDepth 100000 in
theorem yw_X2_topCell : YW yX2_topCell cX2_topCell 8 (some .int) 3 := ⟨TBm (i := 1363) rfl rfl, TBm (i := 136) rfl rfl, by decide, by decide +kernel⟩
set_option maxRecDepth 100000 in
theorem yv_X2_topCell : YV yX2_topCell cX2_topCell 8 (some .int) 3 := ⟨yw_X2_topCell, TBm (i := 1361) rfl rfl, TBm (i := 1362) rfl rfl⟩
set_option maxRecDepth 100000 in
theorem yw_X2_nextSpot : YW yX2_nextSpot cX2_nextSpot 7 (some .int) 2 := ⟨TBm (i := 1344) rfl rfl, TBm (i := 136) rfl rfl, by decide, by decide +kernel⟩
set_option maxRecDepth 100000 in
theorem yv_X2_nextSpot : YV yX2_nextSpot cX2_nextSpot 7 (some .int) 2 := ⟨yw_X2_nextSpot, TBm (i := 1342) rfl rfl, TBm (i := 1343) rfl rfl⟩
set_option maxRecDepth 100000 in
theorem yw_X2_clientsOf : YW yX2_clientsOf cX2_clientsOf 5 (some .int) 2 := ⟨TBm (i := 1384) rfl rfl, TBm (i := 136) rfl rfl, by decide, by decide +kernel⟩
set_option maxRecDepth 100000 in
theorem yv_X2_clientsOf : YV yX2_clientsOf cX2_clientsOf 5 (some .int) 2 := ⟨yw_X2_clientsOf, TBm (i := 1382) rfl rfl, TBm (i := 1383) rfl rfl⟩
set_option maxRecDepth 100000 in
theorem yw_X2_hasNoneNearer : YW yX2_hasNoneNearer cX2_hasNoneNearer 7 (some .boolean) 3 := ⟨TBm (i := 1388) rfl rfl, TBm (i := 136) rfl rfl, by decide, by decide +kernel⟩
set_option maxRecDepth 100000 in
theorem yv_X2_hasNoneNearer : YV yX2_hasNoneNearer cX2_hasNoneNearer 7 (some .boolean) 3 := ⟨yw_X2_hasNoneNearer, TBm (i := 1387) rfl rfl, TBm (i := 50) rfl rfl⟩
set_option maxRecDepth 100000 in
theorem yw_X2_centralCell : YW yX2_centralCell cX2_centralCell 5 (some .int) 2 := ⟨TBm (i := 1495) rfl rfl, TBm (i := 136) rfl rfl, by decide, by decide +kernel⟩
set_option maxRecDepth 100000 in
theorem yv_X2_centralCell : YV yX2_centralCell cX2_centralCell 5 (some .int) 2 := ⟨yw_X2_centralCell, TBm (i := 1493) rfl rfl, TBm (i := 1494) rfl rfl⟩
set_option maxRecDepth 100000 in
theorem yw_X2_sumOfRow : YW yX2_sumOfRow cX2_sumOfRow 5 (some .int) 2 := ⟨TBm (i := 1518) rfl rfl, TBm (i := 136) rfl rfl, by decide, by decide +kernel⟩
set_option maxRecDepth 100000 in
theorem yv_X2_sumOfRow : YV yX2_sumOfRow cX2_sumOfRow 5 (some .int) 2 := ⟨yw_X2_sumOfRow, TBm (i := 1516) rfl rfl, TBm (i := 1517) rfl rfl⟩
set_option maxRecDepth 100000 in
theorem yw_X2_sumOfColumn : YW yX2_sumOfColumn cX2_sumOfColumn 5 (some .int) 2 := ⟨TBm (i := 1514) rfl rfl, TBm (i := 136) rfl rfl, by decide, by decide +kernel⟩
set_option maxRecDepth 100000 in
theorem yv_X2_sumOfColumn : YV yX2_sumOfColumn cX2_sumOfColumn 5 (some .int) 2 := ⟨yw_X2_sumOfColumn, TBm (i := 1512) rfl rfl, TBm (i := 1513) rfl rfl⟩
set_option maxRecDepth 100000 in
theorem yw_X3_find : YW yX3_find cX3_find 4 none 2 := ⟨TBm (i := 955) rfl rfl, TBm (i := 139) rfl rfl, by decide, by decide +kernel⟩
set_option maxRecDepth 100000 in
theorem yv_X3_find : YV yX3_find cX3_find 4 none 2 := ⟨yw_X3_find, TBm (i := 953) rfl rfl, TBm (i := 954) rfl rfl⟩
set_option maxRecDepth 100000 in
theorem yw_X3_fill : YW yX3_fill cX3_fill 8 none 3 := ⟨TBm (i := 962) rfl rfl, TBm (i := 139) rfl rfl, by decide, by decide +kernel⟩
set_option maxRecDepth 100000 in
theorem yv_X3_fill : YV yX3_fill cX3_fill 8 none 3 := ⟨yw_X3_fill, TBm (i := 961) rfl rfl, TBm (i := 26) rfl rfl⟩
set_option maxRecDepth 100000 in
theorem yw_X3_reach : YW yX3_reach cX3_reach 2 none 1 := ⟨TBm (i := 966) rfl rfl, TBm (i := 139) rfl rfl, by decide, by decide +kernel⟩
set_option maxRecDepth 100000 in
theorem yv_X3_reach : YV yX3_reach cX3_reach 2 none 1 := ⟨yw_X3_reach, TBm (i := 965) rfl rfl, TBm (i := 27) rfl rfl⟩
set_option maxRecDepth 100000 in
theorem yw_X4_forget : YW yX4_forget cX4_forget 1 none 0 := ⟨TBm (i := 881) rfl rfl, TBm (i := 140) rfl rfl, by decide, by decide +kernel⟩
set_option maxRecDepth 100000 in
theorem yv_X4_forget : YV yX4_forget cX4_forget 1 none 0 := ⟨yw_X4_forget, TBm (i := 879) rfl rfl, TBm (i := 880) rfl rfl⟩
set_option maxRecDepth 100000 in
theorem yw_X4_isOf : YW yX4_isOf cX4_isOf 4 (some .boolean) 3 := ⟨TBm (i := 1403) rfl rfl, TBm (i := 140) rfl rfl, by decide, by decide +kernel⟩
set_option maxRecDepth 100000 in
theorem yv_X4_isOf : YV yX4_isOf cX4_isOf 4 (some .boolean) 3 := ⟨yw_X4_isOf, TBm (i := 1401) rfl rfl, TBm (i := 1402) rfl rfl⟩
set_option maxRecDepth 100000 in
theorem yw_X4_keepAs : YW yX4_keepAs cX4_keepAs 4 none 3 := ⟨TBm (i := 1444) rfl rfl, TBm (i := 140) rfl rfl, by decide, by decide +kernel⟩
set_option maxRecDepth 100000 in
theorem yv_X4_keepAs : YV yX4_keepAs cX4_keepAs 4 none 3 := ⟨yw_X4_keepAs, TBm (i := 1442) rfl rfl, TBm (i := 1443) rfl rfl⟩
set_option maxRecDepth 100000 in
theorem yw_X4_stopAt : YW yX4_stopAt cX4_stopAt 2 (some .int) 1 := ⟨TBm (i := 1452) rfl rfl, TBm (i := 140) rfl rfl, by decide, by decide +kernel⟩
set_option maxRecDepth 100000 in
theorem yv_X4_stopAt : YV yX4_stopAt cX4_stopAt 2 (some .int) 1 := ⟨yw_X4_stopAt, TBm (i := 1450) rfl rfl, TBm (i := 1451) rfl rfl⟩
set_option maxRecDepth 100000 in
theorem yw_X4_follow : YW yX4_follow cX4_follow 5 none 4 := ⟨TBm (i := 1407) rfl rfl, TBm (i := 140) rfl rfl, by decide, by decide +kernel⟩
set_option maxRecDepth 100000 in
theorem yv_X4_follow : YV yX4_follow cX4_follow 5 none 4 := ⟨yw_X4_follow, TBm (i := 1405) rfl rfl, TBm (i := 1406) rfl rfl⟩
set_option maxRecDepth 100000 in
theorem yw_X4_push : YW yX4_push cX4_push 2 none 1 := ⟨TBm (i := 1420) rfl rfl, TBm (i := 140) rfl rfl, by decide, by decide +kernel⟩
set_option maxRecDepth 100000 in
theorem yv_X4_push : YV yX4_push cX4_push 2 none 1 := ⟨yw_X4_push, TBm (i := 1419) rfl rfl, TBm (i := 54) rfl rfl⟩
set_option maxRecDepth 100000 in
theorem yw_X4_keep : YW yX4_keep cX4_keep 5 none 3 := ⟨TBm (i := 1411) rfl rfl, TBm (i := 140) rfl rfl, by decide, by decide +kernel⟩
set_option maxRecDepth 100000 in
theorem yv_X4_keep : YV yX4_keep cX4_keep 5 none 3 := ⟨yw_X4_keep, TBm (i := 1410) rfl rfl, TBm (i := 52) rfl rfl⟩
set_option maxRecDepth 100000 in
theorem yw_X4_isApart : YW yX4_isApart cX4_isApart 5 (some .boolean) 3 := ⟨TBm (i := 1415) rfl rfl, TBm (i := 140) rfl rfl, by decide, by decide +kernel⟩
set_option maxRecDepth 100000 in
theorem yv_X4_isApart : YV yX4_isApart cX4_isApart 5 (some .boolean) 3 := ⟨yw_X4_isApart, TBm (i := 1414) rfl rfl, TBm (i := 53) rfl rfl⟩
set_option maxRecDepth 100000 in
theorem yw_X4_walk : YW yX4_walk cX4_walk 6 none 2 := ⟨TBm (i := 1424) rfl rfl, TBm (i := 140) rfl rfl, by decide, by decide +kernel⟩
set_option maxRecDepth 100000 in
theorem yv_X4_walk : YV yX4_walk cX4_walk 6 none 2 := ⟨yw_X4_walk, TBm (i := 1423) rfl rfl, TBm (i := 55) rfl rfl⟩
set_option maxRecDepth 100000 in
theorem yw_X4_nextAfter : YW yX4_nextAfter cX4_nextAfter 9 (some .int) 2 := ⟨TBm (i := 1429) rfl rfl, TBm (i := 140) rfl rfl, by decide, by decide +kernel⟩
set_option maxRecDepth 100000 in
theorem yv_X4_nextAfter : YV yX4_nextAfter cX4_nextAfter 9 (some .int) 2 := ⟨yw_X4_nextAfter, TBm (i := 1428) rfl rfl, TBm (i := 56) rfl rfl⟩
set_option maxRecDepth 100000 in
theorem yw_X4_wrap : YW yX4_wrap cX4_wrap 5 none 2 := ⟨TBm (i := 1433) rfl rfl, TBm (i := 140) rfl rfl, by decide, by decide +kernel⟩
set_option maxRecDepth 100000 in
theorem yv_X4_wrap : YV yX4_wrap cX4_wrap 5 none 2 := ⟨yw_X4_wrap, TBm (i := 1432) rfl rfl, TBm (i := 57) rfl rfl⟩
set_option maxRecDepth 100000 in
theorem yw_X4_turnTo : YW yX4_turnTo cX4_turnTo 4 none 3 := ⟨TBm (i := 1437) rfl rfl, TBm (i := 140) rfl rfl, by decide, by decide +kernel⟩
set_option maxRecDepth 100000 in
theorem yv_X4_turnTo : YV yX4_turnTo cX4_turnTo 4 none 3 := ⟨yw_X4_turnTo, TBm (i := 1436) rfl rfl, TBm (i := 58) rfl rfl⟩
set_option maxRecDepth 100000 in
theorem yw_X4_turn : YW yX4_turn cX4_turn 8 (some .int) 4 := ⟨TBm (i := 1440) rfl rfl, TBm (i := 140) rfl rfl, by decide, by decide +kernel⟩
set_option maxRecDepth 100000 in
theorem ys_X4_turn : YS yX4_turn cX4_turn 8 (some .int) 4 := ⟨yw_X4_turn, TBm (i := 1439) rfl rfl⟩
set_option maxRecDepth 100000 in
theorem yw_X4_doubleArea : YW yX4_doubleArea cX4_doubleArea 6 (some .int) 1 := ⟨TBm (i := 1484) rfl rfl, TBm (i := 140) rfl rfl, by decide, by decide +kernel⟩
set_option maxRecDepth 100000 in
theorem yv_X4_doubleArea : YV yX4_doubleArea cX4_doubleArea 6 (some .int) 1 := ⟨yw_X4_doubleArea, TBm (i := 1482) rfl rfl, TBm (i := 1483) rfl rfl⟩
set_option maxRecDepth 100000 in
theorem yw_X5_tallied : YW yX5_tallied cX5_tallied 1 (some (.object "DotSpreader$Tally")) 0 := ⟨TBm (i := 539) rfl rfl, TBm (i := 131) rfl rfl, by decide, by decide +kernel⟩
set_option maxRecDepth 100000 in
theorem yv_X5_tallied : YV yX5_tallied cX5_tallied 1 (some (.object "DotSpreader$Tally")) 0 := ⟨yw_X5_tallied, TBm (i := 537) rfl rfl, TBm (i := 538) rfl rfl⟩
set_option maxRecDepth 100000 in
theorem yw_X5_ranked : YW yX5_ranked cX5_ranked 1 (some (.object "DotSpreader$Ranks")) 0 := ⟨TBm (i := 1070) rfl rfl, TBm (i := 131) rfl rfl, by decide, by decide +kernel⟩
set_option maxRecDepth 100000 in
theorem yv_X5_ranked : YV yX5_ranked cX5_ranked 1 (some (.object "DotSpreader$Ranks")) 0 := ⟨yw_X5_ranked, TBm (i := 1068) rfl rfl, TBm (i := 1069) rfl rfl⟩
set_option maxRecDepth 100000 in
theorem yw_X5_crowded : YW yX5_crowded cX5_crowded 2 (some (.object "DotSpreader$Crowd")) 1 := ⟨TBm (i := 1195) rfl rfl, TBm (i := 131) rfl rfl, by decide, by decide +kernel⟩
set_option maxRecDepth 100000 in
theorem yv_X5_crowded : YV yX5_crowded cX5_crowded 2 (some (.object "DotSpreader$Crowd")) 1 := ⟨yw_X5_crowded, TBm (i := 1193) rfl rfl, TBm (i := 1194) rfl rfl⟩
set_option maxRecDepth 100000 in
theorem yw_X5_numbersChanged : YW yX5_numbersChanged cX5_numbersChanged 1 none 0 := ⟨TBm (i := 873) rfl rfl, TBm (i := 131) rfl rfl, by decide, by decide +kernel⟩
set_option maxRecDepth 100000 in
theorem yv_X5_numbersChanged : YV yX5_numbersChanged cX5_numbersChanged 1 none 0 := ⟨yw_X5_numbersChanged, TBm (i := 871) rfl rfl, TBm (i := 872) rfl rfl⟩
set_option maxRecDepth 100000 in
theorem yw_X5_landChanged : YW yX5_landChanged cX5_landChanged 2 none 1 := ⟨TBm (i := 1042) rfl rfl, TBm (i := 131) rfl rfl, by decide, by decide +kernel⟩
set_option maxRecDepth 100000 in
theorem yv_X5_landChanged : YV yX5_landChanged cX5_landChanged 2 none 1 := ⟨yw_X5_landChanged, TBm (i := 1040) rfl rfl, TBm (i := 1041) rfl rfl⟩
set_option maxRecDepth 100000 in
theorem yw_X5_mapChanged : YW yX5_mapChanged cX5_mapChanged 1 none 0 := ⟨TBm (i := 861) rfl rfl, TBm (i := 131) rfl rfl, by decide, by decide +kernel⟩
set_option maxRecDepth 100000 in
theorem yv_X5_mapChanged : YV yX5_mapChanged cX5_mapChanged 1 none 0 := ⟨yw_X5_mapChanged, TBm (i := 859) rfl rfl, TBm (i := 860) rfl rfl⟩
set_option maxRecDepth 100000 in
theorem yw_X5_copyFrom : YW yX5_copyFrom cX5_copyFrom 2 none 1 := ⟨TBm (i := 1277) rfl rfl, TBm (i := 131) rfl rfl, by decide, by decide +kernel⟩
set_option maxRecDepth 100000 in
theorem yv_X5_copyFrom : YV yX5_copyFrom cX5_copyFrom 2 none 1 := ⟨yw_X5_copyFrom, TBm (i := 1275) rfl rfl, TBm (i := 1276) rfl rfl⟩
set_option maxRecDepth 100000 in
theorem yw_X6_cellAt : YW yX6_cellAt cX6_cellAt 4 (some .int) 2 := ⟨TBm (i := 1122) rfl rfl, TBm (i := 134) rfl rfl, by decide, by decide +kernel⟩
set_option maxRecDepth 100000 in
theorem yv_X6_cellAt : YV yX6_cellAt cX6_cellAt 4 (some .int) 2 := ⟨yw_X6_cellAt, TBm (i := 1120) rfl rfl, TBm (i := 1121) rfl rfl⟩
set_option maxRecDepth 100000 in
theorem yw_X6_forget : YW yX6_forget cX6_forget 2 none 1 := ⟨TBm (i := 869) rfl rfl, TBm (i := 134) rfl rfl, by decide, by decide +kernel⟩
set_option maxRecDepth 100000 in
theorem yv_X6_forget : YV yX6_forget cX6_forget 2 none 1 := ⟨yw_X6_forget, TBm (i := 867) rfl rfl, TBm (i := 868) rfl rfl⟩
set_option maxRecDepth 100000 in
theorem yw_X6_forgetAll : YW yX6_forgetAll cX6_forgetAll 2 none 0 := ⟨TBm (i := 865) rfl rfl, TBm (i := 134) rfl rfl, by decide, by decide +kernel⟩
set_option maxRecDepth 100000 in
theorem yv_X6_forgetAll : YV yX6_forgetAll cX6_forgetAll 2 none 0 := ⟨yw_X6_forgetAll, TBm (i := 863) rfl rfl, TBm (i := 864) rfl rfl⟩
set_option maxRecDepth 100000 in
theorem yw_X6_copyFrom : YW yX6_copyFrom cX6_copyFrom 3 none 1 := ⟨TBm (i := 1282) rfl rfl, TBm (i := 134) rfl rfl, by decide, by decide +kernel⟩
set_option maxRecDepth 100000 in
theorem yv_X6_copyFrom : YV yX6_copyFrom cX6_copyFrom 3 none 1 := ⟨yw_X6_copyFrom, TBm (i := 1280) rfl rfl, TBm (i := 1281) rfl rfl⟩
set_option maxRecDepth 100000 in
theorem yw_X6_renew : YW yX6_renew cX6_renew 4 none 2 := ⟨TBm (i := 1075) rfl rfl, TBm (i := 134) rfl rfl, by decide, by decide +kernel⟩
set_option maxRecDepth 100000 in
theorem yv_X6_renew : YV yX6_renew cX6_renew 4 none 2 := ⟨yw_X6_renew, TBm (i := 1073) rfl rfl, TBm (i := 1074) rfl rfl⟩
set_option maxRecDepth 100000 in
theorem yw_X6_rank : YW yX6_rank cX6_rank 5 none 2 := ⟨TBm (i := 1079) rfl rfl, TBm (i := 134) rfl rfl, by decide, by decide +kernel⟩
set_option maxRecDepth 100000 in
theorem yv_X6_rank : YV yX6_rank cX6_rank 5 none 2 := ⟨yw_X6_rank, TBm (i := 1078) rfl rfl, TBm (i := 32) rfl rfl⟩
set_option maxRecDepth 100000 in
theorem yw_X6_gather : YW yX6_gather cX6_gather 4 none 2 := ⟨TBm (i := 1083) rfl rfl, TBm (i := 134) rfl rfl, by decide, by decide +kernel⟩
set_option maxRecDepth 100000 in
theorem yv_X6_gather : YV yX6_gather cX6_gather 4 none 2 := ⟨yw_X6_gather, TBm (i := 1082) rfl rfl, TBm (i := 33) rfl rfl⟩
set_option maxRecDepth 100000 in
theorem yw_X6_firstOf : YW yX6_firstOf cX6_firstOf 8 (some .int) 1 := ⟨TBm (i := 1097) rfl rfl, TBm (i := 134) rfl rfl, by decide, by decide +kernel⟩
set_option maxRecDepth 100000 in
theorem yv_X6_firstOf : YV yX6_firstOf cX6_firstOf 8 (some .int) 1 := ⟨yw_X6_firstOf, TBm (i := 1096) rfl rfl, TBm (i := 34) rfl rfl⟩
set_option maxRecDepth 100000 in
theorem yw_X6_nextAfter : YW yX6_nextAfter cX6_nextAfter 9 (some .int) 2 := ⟨TBm (i := 1106) rfl rfl, TBm (i := 134) rfl rfl, by decide, by decide +kernel⟩
set_option maxRecDepth 100000 in
theorem yv_X6_nextAfter : YV yX6_nextAfter cX6_nextAfter 9 (some .int) 2 := ⟨yw_X6_nextAfter, TBm (i := 1105) rfl rfl, TBm (i := 35) rfl rfl⟩
set_option maxRecDepth 100000 in
theorem yw_X6_sort : YW yX6_sort cX6_sort 5 none 2 := ⟨TBm (i := 1117) rfl rfl, TBm (i := 134) rfl rfl, by decide, by decide +kernel⟩
set_option maxRecDepth 100000 in
theorem yv_X6_sort : YV yX6_sort cX6_sort 5 none 2 := ⟨yw_X6_sort, TBm (i := 1116) rfl rfl, TBm (i := 36) rfl rfl⟩
set_option maxRecDepth 100000 in
theorem yw_X7_writeZone : YW yX7_writeZone cX7_writeZone 5 none 2 := ⟨TBm (i := 1544) rfl rfl, TBm (i := 138) rfl rfl, by decide, by decide +kernel⟩
set_option maxRecDepth 100000 in
theorem yv_X7_writeZone : YV yX7_writeZone cX7_writeZone 5 none 2 := ⟨yw_X7_writeZone, TBm (i := 1542) rfl rfl, TBm (i := 1543) rfl rfl⟩
set_option maxRecDepth 100000 in
theorem yw_X7_putHead : YW yX7_putHead cX7_putHead 5 none 3 := ⟨TBm (i := 1549) rfl rfl, TBm (i := 138) rfl rfl, by decide, by decide +kernel⟩
set_option maxRecDepth 100000 in
theorem yv_X7_putHead : YV yX7_putHead cX7_putHead 5 none 3 := ⟨yw_X7_putHead, TBm (i := 1548) rfl rfl, TBm (i := 60) rfl rfl⟩
set_option maxRecDepth 100000 in
theorem yw_X7_putRuns : YW yX7_putRuns cX7_putRuns 6 none 4 := ⟨TBm (i := 1570) rfl rfl, TBm (i := 138) rfl rfl, by decide, by decide +kernel⟩
set_option maxRecDepth 100000 in
theorem yv_X7_putRuns : YV yX7_putRuns cX7_putRuns 6 none 4 := ⟨yw_X7_putRuns, TBm (i := 1569) rfl rfl, TBm (i := 64) rfl rfl⟩
set_option maxRecDepth 100000 in
theorem yw_X7_putNumber : YW yX7_putNumber cX7_putNumber 2 none 1 := ⟨TBm (i := 1565) rfl rfl, TBm (i := 138) rfl rfl, by decide, by decide +kernel⟩
set_option maxRecDepth 100000 in
theorem yv_X7_putNumber : YV yX7_putNumber cX7_putNumber 2 none 1 := ⟨yw_X7_putNumber, TBm (i := 1564) rfl rfl, TBm (i := 63) rfl rfl⟩
set_option maxRecDepth 100000 in
theorem yw_X7_putText : YW yX7_putText cX7_putText 3 none 1 := ⟨TBm (i := 1554) rfl rfl, TBm (i := 138) rfl rfl, by decide, by decide +kernel⟩
set_option maxRecDepth 100000 in
theorem yv_X7_putText : YV yX7_putText cX7_putText 3 none 1 := ⟨yw_X7_putText, TBm (i := 1553) rfl rfl, TBm (i := 61) rfl rfl⟩
set_option maxRecDepth 100000 in
theorem yw_X7_put : YW yX7_put cX7_put 2 none 1 := ⟨TBm (i := 1560) rfl rfl, TBm (i := 138) rfl rfl, by decide, by decide +kernel⟩
set_option maxRecDepth 100000 in
theorem yv_X7_put : YV yX7_put cX7_put 2 none 1 := ⟨yw_X7_put, TBm (i := 1559) rfl rfl, TBm (i := 62) rfl rfl⟩
set_option maxRecDepth 100000 in
theorem yw_X8_reckon : YW yX8_reckon cX8_reckon 6 none 3 := ⟨TBm (i := 543) rfl rfl, TBm (i := 133) rfl rfl, by decide, by decide +kernel⟩
set_option maxRecDepth 100000 in
theorem yv_X8_reckon : YV yX8_reckon cX8_reckon 6 none 3 := ⟨yw_X8_reckon, TBm (i := 541) rfl rfl, TBm (i := 542) rfl rfl⟩
set_option maxRecDepth 100000 in
theorem yw_X8_countLand : YW yX8_countLand cX8_countLand 3 none 1 := ⟨TBm (i := 547) rfl rfl, TBm (i := 133) rfl rfl, by decide, by decide +kernel⟩
set_option maxRecDepth 100000 in
theorem yv_X8_countLand : YV yX8_countLand cX8_countLand 3 none 1 := ⟨yw_X8_countLand, TBm (i := 546) rfl rfl, TBm (i := 0) rfl rfl⟩
set_option maxRecDepth 100000 in
theorem yw_X8_share : YW yX8_share cX8_share 8 none 4 := ⟨TBm (i := 562) rfl rfl, TBm (i := 133) rfl rfl, by decide, by decide +kernel⟩
set_option maxRecDepth 100000 in
theorem yv_X8_share : YV yX8_share cX8_share 8 none 4 := ⟨yw_X8_share, TBm (i := 561) rfl rfl, TBm (i := 1) rfl rfl⟩
set_option maxRecDepth 100000 in
theorem yw_X8_placeOf : YW yX8_placeOf cX8_placeOf 3 (some .int) 3 := ⟨TBm (i := 565) rfl rfl, TBm (i := 133) rfl rfl, by decide, by decide +kernel⟩
set_option maxRecDepth 100000 in
theorem ys_X8_placeOf : YS yX8_placeOf cX8_placeOf 3 (some .int) 3 := ⟨yw_X8_placeOf, TBm (i := 564) rfl rfl⟩
set_option maxRecDepth 100000 in
theorem yw_X8_dotsOf : YW yX8_dotsOf cX8_dotsOf 4 (some .int) 3 := ⟨TBm (i := 573) rfl rfl, TBm (i := 133) rfl rfl, by decide, by decide +kernel⟩
set_option maxRecDepth 100000 in
theorem yv_X8_dotsOf : YV yX8_dotsOf cX8_dotsOf 4 (some .int) 3 := ⟨yw_X8_dotsOf, TBm (i := 571) rfl rfl, TBm (i := 572) rfl rfl⟩
set_option maxRecDepth 100000 in
theorem yw_X8_broughtTo : YW yX8_broughtTo cX8_broughtTo 4 (some .int) 3 := ⟨TBm (i := 1153) rfl rfl, TBm (i := 133) rfl rfl, by decide, by decide +kernel⟩
set_option maxRecDepth 100000 in
theorem yv_X8_broughtTo : YV yX8_broughtTo cX8_broughtTo 4 (some .int) 3 := ⟨yw_X8_broughtTo, TBm (i := 1151) rfl rfl, TBm (i := 1152) rfl rfl⟩
set_option maxRecDepth 100000 in
theorem yw_X8_restOf : YW yX8_restOf cX8_restOf 3 (some .int) 2 := ⟨TBm (i := 1164) rfl rfl, TBm (i := 133) rfl rfl, by decide, by decide +kernel⟩
set_option maxRecDepth 100000 in
theorem yv_X8_restOf : YV yX8_restOf cX8_restOf 3 (some .int) 2 := ⟨yw_X8_restOf, TBm (i := 1162) rfl rfl, TBm (i := 1163) rfl rfl⟩
set_option maxRecDepth 100000 in
theorem yw_X8_sumOfGroup : YW yX8_sumOfGroup cX8_sumOfGroup 5 (some .int) 2 := ⟨TBm (i := 589) rfl rfl, TBm (i := 133) rfl rfl, by decide, by decide +kernel⟩
set_option maxRecDepth 100000 in
theorem yv_X8_sumOfGroup : YV yX8_sumOfGroup cX8_sumOfGroup 5 (some .int) 2 := ⟨yw_X8_sumOfGroup, TBm (i := 587) rfl rfl, TBm (i := 588) rfl rfl⟩
set_option maxRecDepth 100000 in
theorem yw_X8_sumOfLevel : YW yX8_sumOfLevel cX8_sumOfLevel 4 (some .int) 1 := ⟨TBm (i := 585) rfl rfl, TBm (i := 133) rfl rfl, by decide, by decide +kernel⟩
set_option maxRecDepth 100000 in
theorem yv_X8_sumOfLevel : YV yX8_sumOfLevel cX8_sumOfLevel 4 (some .int) 1 := ⟨yw_X8_sumOfLevel, TBm (i := 583) rfl rfl, TBm (i := 584) rfl rfl⟩
set_option maxRecDepth 100000 in
theorem yw_X8_sumOfZone : YW yX8_sumOfZone cX8_sumOfZone 5 (some .int) 2 := ⟨TBm (i := 1533) rfl rfl, TBm (i := 133) rfl rfl, by decide, by decide +kernel⟩
set_option maxRecDepth 100000 in
theorem yv_X8_sumOfZone : YV yX8_sumOfZone cX8_sumOfZone 5 (some .int) 2 := ⟨yw_X8_sumOfZone, TBm (i := 1531) rfl rfl, TBm (i := 1532) rfl rfl⟩
set_option maxRecDepth 100000 in
theorem yw_X8_sumWithUnit : YW yX8_sumWithUnit cX8_sumWithUnit 7 (some .int) 2 := ⟨TBm (i := 577) rfl rfl, TBm (i := 133) rfl rfl, by decide, by decide +kernel⟩
set_option maxRecDepth 100000 in
theorem yv_X8_sumWithUnit : YV yX8_sumWithUnit cX8_sumWithUnit 7 (some .int) 2 := ⟨yw_X8_sumWithUnit, TBm (i := 575) rfl rfl, TBm (i := 576) rfl rfl⟩
set_option maxRecDepth 100000 in
theorem yw_X9_takeBytes : YW yX9_takeBytes cX9_takeBytes 3 none 1 := ⟨TBm (i := 523) rfl rfl, TBm (i := 137) rfl rfl, by decide, by decide +kernel⟩
set_option maxRecDepth 100000 in
theorem yv_X9_takeBytes : YV yX9_takeBytes cX9_takeBytes 3 none 1 := ⟨yw_X9_takeBytes, TBm (i := 521) rfl rfl, TBm (i := 522) rfl rfl⟩
set_option maxRecDepth 100000 in
theorem yw_X9_useUp : YW yX9_useUp cX9_useUp 3 (some .int) 0 := ⟨TBm (i := 630) rfl rfl, TBm (i := 137) rfl rfl, by decide, by decide +kernel⟩
set_option maxRecDepth 100000 in
theorem yv_X9_useUp : YV yX9_useUp cX9_useUp 3 (some .int) 0 := ⟨yw_X9_useUp, TBm (i := 628) rfl rfl, TBm (i := 629) rfl rfl⟩
set_option maxRecDepth 100000 in
theorem yw_X9_readSize : YW yX9_readSize cX9_readSize 2 (some .boolean) 0 := ⟨TBm (i := 638) rfl rfl, TBm (i := 137) rfl rfl, by decide, by decide +kernel⟩
set_option maxRecDepth 100000 in
theorem yv_X9_readSize : YV yX9_readSize cX9_readSize 2 (some .boolean) 0 := ⟨yw_X9_readSize, TBm (i := 637) rfl rfl, TBm (i := 2) rfl rfl⟩
set_option maxRecDepth 100000 in
theorem yw_X9_readLine : YW yX9_readLine cX9_readLine 1 (some .boolean) 0 := ⟨TBm (i := 727) rfl rfl, TBm (i := 137) rfl rfl, by decide, by decide +kernel⟩
set_option maxRecDepth 100000 in
theorem yv_X9_readLine : YV yX9_readLine cX9_readLine 1 (some .boolean) 0 := ⟨yw_X9_readLine, TBm (i := 726) rfl rfl, TBm (i := 11) rfl rfl⟩
set_option maxRecDepth 100000 in
theorem yw_X9_readGroups : YW yX9_readGroups cX9_readGroups 1 (some .boolean) 0 := ⟨TBm (i := 732) rfl rfl, TBm (i := 137) rfl rfl, by decide, by decide +kernel⟩
set_option maxRecDepth 100000 in
theorem yv_X9_readGroups : YV yX9_readGroups cX9_readGroups 1 (some .boolean) 0 := ⟨yw_X9_readGroups, TBm (i := 731) rfl rfl, TBm (i := 12) rfl rfl⟩
set_option maxRecDepth 100000 in
theorem yw_X9_readZone : YW yX9_readZone cX9_readZone 2 (some .boolean) 0 := ⟨TBm (i := 737) rfl rfl, TBm (i := 137) rfl rfl, by decide, by decide +kernel⟩
set_option maxRecDepth 100000 in
theorem yv_X9_readZone : YV yX9_readZone cX9_readZone 2 (some .boolean) 0 := ⟨yw_X9_readZone, TBm (i := 736) rfl rfl, TBm (i := 13) rfl rfl⟩
set_option maxRecDepth 100000 in
theorem yw_X9_readPeople : YW yX9_readPeople cX9_readPeople 3 (some .boolean) 1 := ⟨TBm (i := 759) rfl rfl, TBm (i := 137) rfl rfl, by decide, by decide +kernel⟩
set_option maxRecDepth 100000 in
theorem yv_X9_readPeople : YV yX9_readPeople cX9_readPeople 3 (some .boolean) 1 := ⟨yw_X9_readPeople, TBm (i := 758) rfl rfl, TBm (i := 17) rfl rfl⟩
set_option maxRecDepth 100000 in
theorem yw_X9_readToldName : YW yX9_readToldName cX9_readToldName 1 (some .boolean) 0 := ⟨TBm (i := 769) rfl rfl, TBm (i := 137) rfl rfl, by decide, by decide +kernel⟩
set_option maxRecDepth 100000 in
theorem yv_X9_readToldName : YV yX9_readToldName cX9_readToldName 1 (some .boolean) 0 := ⟨yw_X9_readToldName, TBm (i := 768) rfl rfl, TBm (i := 18) rfl rfl⟩
set_option maxRecDepth 100000 in
theorem yw_X9_readRuns : YW yX9_readRuns cX9_readRuns 4 (some .boolean) 1 := ⟨TBm (i := 773) rfl rfl, TBm (i := 137) rfl rfl, by decide, by decide +kernel⟩
set_option maxRecDepth 100000 in
theorem yv_X9_readRuns : YV yX9_readRuns cX9_readRuns 4 (some .boolean) 1 := ⟨yw_X9_readRuns, TBm (i := 772) rfl rfl, TBm (i := 19) rfl rfl⟩
set_option maxRecDepth 100000 in
theorem yw_X9_readRun : YW yX9_readRun cX9_readRun 8 (some .boolean) 2 := ⟨TBm (i := 777) rfl rfl, TBm (i := 137) rfl rfl, by decide, by decide +kernel⟩
set_option maxRecDepth 100000 in
theorem yv_X9_readRun : YV yX9_readRun cX9_readRun 8 (some .boolean) 2 := ⟨yw_X9_readRun, TBm (i := 776) rfl rfl, TBm (i := 20) rfl rfl⟩
set_option maxRecDepth 100000 in
theorem yw_X9_isOfAnother : YW yX9_isOfAnother cX9_isOfAnother 3 (some .boolean) 2 := ⟨TBm (i := 781) rfl rfl, TBm (i := 137) rfl rfl, by decide, by decide +kernel⟩
set_option maxRecDepth 100000 in
theorem yv_X9_isOfAnother : YV yX9_isOfAnother cX9_isOfAnother 3 (some .boolean) 2 := ⟨yw_X9_isOfAnother, TBm (i := 780) rfl rfl, TBm (i := 21) rfl rfl⟩
set_option maxRecDepth 100000 in
theorem yw_X9_mark : YW yX9_mark cX9_mark 5 none 3 := ⟨TBm (i := 785) rfl rfl, TBm (i := 137) rfl rfl, by decide, by decide +kernel⟩
set_option maxRecDepth 100000 in
theorem yv_X9_mark : YV yX9_mark cX9_mark 5 none 3 := ⟨yw_X9_mark, TBm (i := 784) rfl rfl, TBm (i := 22) rfl rfl⟩
set_option maxRecDepth 100000 in
theorem yw_X9_isReserved : YW yX9_isReserved cX9_isReserved 1 (some .boolean) 0 := ⟨TBm (i := 741) rfl rfl, TBm (i := 137) rfl rfl, by decide, by decide +kernel⟩
set_option maxRecDepth 100000 in
theorem yv_X9_isReserved : YV yX9_isReserved cX9_isReserved 1 (some .boolean) 0 := ⟨yw_X9_isReserved, TBm (i := 740) rfl rfl, TBm (i := 14) rfl rfl⟩
set_option maxRecDepth 100000 in
theorem yw_X9_zoneNamed : YW yX9_zoneNamed cX9_zoneNamed 2 (some .int) 0 := ⟨TBm (i := 748) rfl rfl, TBm (i := 137) rfl rfl, by decide, by decide +kernel⟩
set_option maxRecDepth 100000 in
theorem yv_X9_zoneNamed : YV yX9_zoneNamed cX9_zoneNamed 2 (some .int) 0 := ⟨yw_X9_zoneNamed, TBm (i := 747) rfl rfl, TBm (i := 15) rfl rfl⟩
set_option maxRecDepth 100000 in
theorem yw_X9_wordIsNameOf : YW yX9_wordIsNameOf cX9_wordIsNameOf 3 (some .boolean) 1 := ⟨TBm (i := 752) rfl rfl, TBm (i := 137) rfl rfl, by decide, by decide +kernel⟩
set_option maxRecDepth 100000 in
theorem yv_X9_wordIsNameOf : YV yX9_wordIsNameOf cX9_wordIsNameOf 3 (some .boolean) 1 := ⟨yw_X9_wordIsNameOf, TBm (i := 751) rfl rfl, TBm (i := 16) rfl rfl⟩
set_option maxRecDepth 100000 in
theorem yw_X9_wordIs : YW yX9_wordIs cX9_wordIs 3 (some .boolean) 1 := ⟨TBm (i := 659) rfl rfl, TBm (i := 137) rfl rfl, by decide, by decide +kernel⟩
set_option maxRecDepth 100000 in
theorem yv_X9_wordIs : YV yX9_wordIs cX9_wordIs 3 (some .boolean) 1 := ⟨yw_X9_wordIs, TBm (i := 658) rfl rfl, TBm (i := 7) rfl rfl⟩
set_option maxRecDepth 100000 in
theorem yw_X9_readKeyword : YW yX9_readKeyword cX9_readKeyword 2 (some .boolean) 1 := ⟨TBm (i := 643) rfl rfl, TBm (i := 137) rfl rfl, by decide, by decide +kernel⟩
set_option maxRecDepth 100000 in
theorem yv_X9_readKeyword : YV yX9_readKeyword cX9_readKeyword 2 (some .boolean) 1 := ⟨yw_X9_readKeyword, TBm (i := 642) rfl rfl, TBm (i := 3) rfl rfl⟩
set_option maxRecDepth 100000 in
theorem yw_X9_readWord : YW yX9_readWord cX9_readWord 1 (some .boolean) 0 := ⟨TBm (i := 647) rfl rfl, TBm (i := 137) rfl rfl, by decide, by decide +kernel⟩
set_option maxRecDepth 100000 in
theorem yv_X9_readWord : YV yX9_readWord cX9_readWord 1 (some .boolean) 0 := ⟨yw_X9_readWord, TBm (i := 646) rfl rfl, TBm (i := 4) rfl rfl⟩
set_option maxRecDepth 100000 in
theorem yw_X9_readNumber : YW yX9_readNumber cX9_readNumber 5 (some .boolean) 2 := ⟨TBm (i := 711) rfl rfl, TBm (i := 137) rfl rfl, by decide, by decide +kernel⟩
set_option maxRecDepth 100000 in
theorem yv_X9_readNumber : YV yX9_readNumber cX9_readNumber 5 (some .boolean) 2 := ⟨yw_X9_readNumber, TBm (i := 710) rfl rfl, TBm (i := 8) rfl rfl⟩
set_option maxRecDepth 100000 in
theorem yw_X9_readSign : YW yX9_readSign cX9_readSign 2 (some .boolean) 1 := ⟨TBm (i := 719) rfl rfl, TBm (i := 137) rfl rfl, by decide, by decide +kernel⟩
set_option maxRecDepth 100000 in
theorem yv_X9_readSign : YV yX9_readSign cX9_readSign 2 (some .boolean) 1 := ⟨yw_X9_readSign, TBm (i := 718) rfl rfl, TBm (i := 9) rfl rfl⟩
set_option maxRecDepth 100000 in
theorem yw_X9_nextIs : YW yX9_nextIs cX9_nextIs 2 (some .boolean) 1 := ⟨TBm (i := 723) rfl rfl, TBm (i := 137) rfl rfl, by decide, by decide +kernel⟩
set_option maxRecDepth 100000 in
theorem yv_X9_nextIs : YV yX9_nextIs cX9_nextIs 2 (some .boolean) 1 := ⟨yw_X9_nextIs, TBm (i := 722) rfl rfl, TBm (i := 10) rfl rfl⟩
set_option maxRecDepth 100000 in
theorem yw_X9_skipBlanks : YW yX9_skipBlanks cX9_skipBlanks 1 none 0 := ⟨TBm (i := 651) rfl rfl, TBm (i := 137) rfl rfl, by decide, by decide +kernel⟩
set_option maxRecDepth 100000 in
theorem yv_X9_skipBlanks : YV yX9_skipBlanks cX9_skipBlanks 1 none 0 := ⟨yw_X9_skipBlanks, TBm (i := 650) rfl rfl, TBm (i := 5) rfl rfl⟩
set_option maxRecDepth 100000 in
theorem yw_X9_failAt : YW yX9_failAt cX9_failAt 2 (some .boolean) 1 := ⟨TBm (i := 655) rfl rfl, TBm (i := 137) rfl rfl, by decide, by decide +kernel⟩
set_option maxRecDepth 100000 in
theorem yv_X9_failAt : YV yX9_failAt cX9_failAt 2 (some .boolean) 1 := ⟨yw_X9_failAt, TBm (i := 654) rfl rfl, TBm (i := 6) rfl rfl⟩
set_option maxRecDepth 100000 in
theorem yw_X10_feed : YW yX10_feed cX10_feed 6 (some .int) 5 := ⟨TBm (i := 519) rfl rfl, TBm (i := 130) rfl rfl, by decide, by decide +kernel⟩
set_option maxRecDepth 100000 in
theorem yv_X10_feed : YV yX10_feed cX10_feed 6 (some .int) 5 := ⟨yw_X10_feed, TBm (i := 517) rfl rfl, TBm (i := 518) rfl rfl⟩
set_option maxRecDepth 100000 in
theorem yw_X10_end : YW yX10_end cX10_end 2 (some .boolean) 1 := ⟨TBm (i := 527) rfl rfl, TBm (i := 130) rfl rfl, by decide, by decide +kernel⟩
set_option maxRecDepth 100000 in
theorem yv_X10_end : YV yX10_end cX10_end 2 (some .boolean) 1 := ⟨yw_X10_end, TBm (i := 525) rfl rfl, TBm (i := 526) rfl rfl⟩
set_option maxRecDepth 100000 in
theorem yw_X10_read : YW yX10_read cX10_read 1 (some .int) 0 := ⟨TBm (i := 626) rfl rfl, TBm (i := 130) rfl rfl, by decide, by decide +kernel⟩
set_option maxRecDepth 100000 in
theorem yv_X10_read : YV yX10_read cX10_read 1 (some .int) 0 := ⟨yw_X10_read, TBm (i := 624) rfl rfl, TBm (i := 625) rfl rfl⟩
set_option maxRecDepth 100000 in
theorem yw_X10_fault : YW yX10_fault cX10_fault 1 (some .int) 0 := ⟨TBm (i := 531) rfl rfl, TBm (i := 130) rfl rfl, by decide, by decide +kernel⟩
set_option maxRecDepth 100000 in
theorem yv_X10_fault : YV yX10_fault cX10_fault 1 (some .int) 0 := ⟨yw_X10_fault, TBm (i := 529) rfl rfl, TBm (i := 530) rfl rfl⟩
set_option maxRecDepth 100000 in
theorem yw_X10_cell : YW yX10_cell cX10_cell 3 (some .int) 2 := ⟨TBm (i := 890) rfl rfl, TBm (i := 130) rfl rfl, by decide, by decide +kernel⟩
set_option maxRecDepth 100000 in
theorem yv_X10_cell : YV yX10_cell cX10_cell 3 (some .int) 2 := ⟨yw_X10_cell, TBm (i := 888) rfl rfl, TBm (i := 889) rfl rfl⟩
set_option maxRecDepth 100000 in
theorem yw_X10_zone : YW yX10_zone cX10_zone 3 (some .int) 2 := ⟨TBm (i := 934) rfl rfl, TBm (i := 130) rfl rfl, by decide, by decide +kernel⟩
set_option maxRecDepth 100000 in
theorem yv_X10_zone : YV yX10_zone cX10_zone 3 (some .int) 2 := ⟨yw_X10_zone, TBm (i := 932) rfl rfl, TBm (i := 933) rfl rfl⟩
set_option maxRecDepth 100000 in
theorem yw_X10_name : YW yX10_name cX10_name 3 (some .int) 2 := ⟨TBm (i := 999) rfl rfl, TBm (i := 130) rfl rfl, by decide, by decide +kernel⟩
set_option maxRecDepth 100000 in
theorem yv_X10_name : YV yX10_name cX10_name 3 (some .int) 2 := ⟨yw_X10_name, TBm (i := 997) rfl rfl, TBm (i := 998) rfl rfl⟩
set_option maxRecDepth 100000 in
theorem yw_X10_people : YW yX10_people cX10_people 5 (some .int) 3 := ⟨TBm (i := 1006) rfl rfl, TBm (i := 130) rfl rfl, by decide, by decide +kernel⟩
set_option maxRecDepth 100000 in
theorem yv_X10_people : YV yX10_people cX10_people 5 (some .int) 3 := ⟨yw_X10_people, TBm (i := 1004) rfl rfl, TBm (i := 1005) rfl rfl⟩
set_option maxRecDepth 100000 in
theorem yw_X10_lives : YW yX10_lives cX10_lives 3 (some .int) 2 := ⟨TBm (i := 1027) rfl rfl, TBm (i := 130) rfl rfl, by decide, by decide +kernel⟩
set_option maxRecDepth 100000 in
theorem yv_X10_lives : YV yX10_lives cX10_lives 3 (some .int) 2 := ⟨yw_X10_lives, TBm (i := 1025) rfl rfl, TBm (i := 1026) rfl rfl⟩
set_option maxRecDepth 100000 in
theorem yw_X10_flood : YW yX10_flood cX10_flood 3 (some .boolean) 2 := ⟨TBm (i := 1034) rfl rfl, TBm (i := 130) rfl rfl, by decide, by decide +kernel⟩
set_option maxRecDepth 100000 in
theorem yv_X10_flood : YV yX10_flood cX10_flood 3 (some .boolean) 2 := ⟨yw_X10_flood, TBm (i := 1032) rfl rfl, TBm (i := 1033) rfl rfl⟩
set_option maxRecDepth 100000 in
theorem yw_X10_unit : YW yX10_unit cX10_unit 3 (some .int) 1 := ⟨TBm (i := 1050) rfl rfl, TBm (i := 130) rfl rfl, by decide, by decide +kernel⟩
set_option maxRecDepth 100000 in
theorem yv_X10_unit : YV yX10_unit cX10_unit 3 (some .int) 1 := ⟨yw_X10_unit, TBm (i := 1048) rfl rfl, TBm (i := 1049) rfl rfl⟩
set_option maxRecDepth 100000 in
theorem yw_X10_factor : YW yX10_factor cX10_factor 3 (some .int) 1 := ⟨TBm (i := 1058) rfl rfl, TBm (i := 130) rfl rfl, by decide, by decide +kernel⟩
set_option maxRecDepth 100000 in
theorem yv_X10_factor : YV yX10_factor cX10_factor 3 (some .int) 1 := ⟨yw_X10_factor, TBm (i := 1056) rfl rfl, TBm (i := 1057) rfl rfl⟩
set_option maxRecDepth 100000 in
theorem yw_X10_order : YW yX10_order cX10_order 3 (some .int) 2 := ⟨TBm (i := 1066) rfl rfl, TBm (i := 130) rfl rfl, by decide, by decide +kernel⟩
set_option maxRecDepth 100000 in
theorem yv_X10_order : YV yX10_order cX10_order 3 (some .int) 2 := ⟨yw_X10_order, TBm (i := 1064) rfl rfl, TBm (i := 1065) rfl rfl⟩
set_option maxRecDepth 100000 in
theorem yw_X10_stands : YW yX10_stands cX10_stands 2 (some .int) 1 := ⟨TBm (i := 1129) rfl rfl, TBm (i := 130) rfl rfl, by decide, by decide +kernel⟩
set_option maxRecDepth 100000 in
theorem yv_X10_stands : YV yX10_stands cX10_stands 2 (some .int) 1 := ⟨yw_X10_stands, TBm (i := 1127) rfl rfl, TBm (i := 1128) rfl rfl⟩
set_option maxRecDepth 100000 in
theorem yw_X10_dots : YW yX10_dots cX10_dots 4 (some .int) 3 := ⟨TBm (i := 1136) rfl rfl, TBm (i := 130) rfl rfl, by decide, by decide +kernel⟩
set_option maxRecDepth 100000 in
theorem yv_X10_dots : YV yX10_dots cX10_dots 4 (some .int) 3 := ⟨yw_X10_dots, TBm (i := 1134) rfl rfl, TBm (i := 1135) rfl rfl⟩
set_option maxRecDepth 100000 in
theorem yw_X10_carried : YW yX10_carried cX10_carried 4 (some .int) 3 := ⟨TBm (i := 1149) rfl rfl, TBm (i := 130) rfl rfl, by decide, by decide +kernel⟩
set_option maxRecDepth 100000 in
theorem yv_X10_carried : YV yX10_carried cX10_carried 4 (some .int) 3 := ⟨yw_X10_carried, TBm (i := 1147) rfl rfl, TBm (i := 1148) rfl rfl⟩
set_option maxRecDepth 100000 in
theorem yw_X10_left : YW yX10_left cX10_left 3 (some .int) 2 := ⟨TBm (i := 1160) rfl rfl, TBm (i := 130) rfl rfl, by decide, by decide +kernel⟩
set_option maxRecDepth 100000 in
theorem yv_X10_left : YV yX10_left cX10_left 3 (some .int) 2 := ⟨yw_X10_left, TBm (i := 1158) rfl rfl, TBm (i := 1159) rfl rfl⟩
set_option maxRecDepth 100000 in
theorem yw_X10_all : YW yX10_all cX10_all 3 (some .int) 2 := ⟨TBm (i := 1171) rfl rfl, TBm (i := 130) rfl rfl, by decide, by decide +kernel⟩
set_option maxRecDepth 100000 in
theorem yv_X10_all : YV yX10_all cX10_all 3 (some .int) 2 := ⟨yw_X10_all, TBm (i := 1169) rfl rfl, TBm (i := 1170) rfl rfl⟩
set_option maxRecDepth 100000 in
theorem yw_X10_dot : YW yX10_dot cX10_dot 6 (some .int) 4 := ⟨TBm (i := 1183) rfl rfl, TBm (i := 130) rfl rfl, by decide, by decide +kernel⟩
set_option maxRecDepth 100000 in
theorem yv_X10_dot : YV yX10_dot cX10_dot 6 (some .int) 4 := ⟨yw_X10_dot, TBm (i := 1181) rfl rfl, TBm (i := 1182) rfl rfl⟩
set_option maxRecDepth 100000 in
theorem yw_X10_crowd : YW yX10_crowd cX10_crowd 4 (some .int) 3 := ⟨TBm (i := 1191) rfl rfl, TBm (i := 130) rfl rfl, by decide, by decide +kernel⟩
set_option maxRecDepth 100000 in
theorem yv_X10_crowd : YV yX10_crowd cX10_crowd 4 (some .int) 3 := ⟨yw_X10_crowd, TBm (i := 1189) rfl rfl, TBm (i := 1190) rfl rfl⟩
set_option maxRecDepth 100000 in
theorem yw_X10_apart : YW yX10_apart cX10_apart 2 (some .int) 1 := ⟨TBm (i := 1226) rfl rfl, TBm (i := 130) rfl rfl, by decide, by decide +kernel⟩
set_option maxRecDepth 100000 in
theorem yv_X10_apart : YV yX10_apart cX10_apart 2 (some .int) 1 := ⟨yw_X10_apart, TBm (i := 1224) rfl rfl, TBm (i := 1225) rfl rfl⟩
set_option maxRecDepth 100000 in
theorem yw_X10_off : YW yX10_off cX10_off 3 (some .int) 2 := ⟨TBm (i := 1238) rfl rfl, TBm (i := 130) rfl rfl, by decide, by decide +kernel⟩
set_option maxRecDepth 100000 in
theorem yv_X10_off : YV yX10_off cX10_off 3 (some .int) 2 := ⟨yw_X10_off, TBm (i := 1236) rfl rfl, TBm (i := 1237) rfl rfl⟩
set_option maxRecDepth 100000 in
theorem yw_X10_move : YW yX10_move cX10_move 7 (some .int) 5 := ⟨TBm (i := 1245) rfl rfl, TBm (i := 130) rfl rfl, by decide, by decide +kernel⟩
set_option maxRecDepth 100000 in
theorem yv_X10_move : YV yX10_move cX10_move 7 (some .int) 5 := ⟨yw_X10_move, TBm (i := 1243) rfl rfl, TBm (i := 1244) rfl rfl⟩
set_option maxRecDepth 100000 in
theorem yw_X10_tries : YW yX10_tries cX10_tries 7 (some .int) 6 := ⟨TBm (i := 1273) rfl rfl, TBm (i := 130) rfl rfl, by decide, by decide +kernel⟩
set_option maxRecDepth 100000 in
theorem yv_X10_tries : YV yX10_tries cX10_tries 7 (some .int) 6 := ⟨yw_X10_tries, TBm (i := 1271) rfl rfl, TBm (i := 1272) rfl rfl⟩
set_option maxRecDepth 100000 in
theorem yw_X10_run : YW yX10_run cX10_run 5 (some .int) 4 := ⟨TBm (i := 1298) rfl rfl, TBm (i := 130) rfl rfl, by decide, by decide +kernel⟩
set_option maxRecDepth 100000 in
theorem yv_X10_run : YV yX10_run cX10_run 5 (some .int) 4 := ⟨yw_X10_run, TBm (i := 1296) rfl rfl, TBm (i := 1297) rfl rfl⟩
set_option maxRecDepth 100000 in
theorem yw_X10_part : YW yX10_part cX10_part 2 (some .int) 1 := ⟨TBm (i := 1314) rfl rfl, TBm (i := 130) rfl rfl, by decide, by decide +kernel⟩
set_option maxRecDepth 100000 in
theorem yv_X10_part : YV yX10_part cX10_part 2 (some .int) 1 := ⟨yw_X10_part, TBm (i := 1312) rfl rfl, TBm (i := 1313) rfl rfl⟩
set_option maxRecDepth 100000 in
theorem yw_X10_measure : YW yX10_measure cX10_measure 5 (some .int) 4 := ⟨TBm (i := 1322) rfl rfl, TBm (i := 130) rfl rfl, by decide, by decide +kernel⟩
set_option maxRecDepth 100000 in
theorem yv_X10_measure : YV yX10_measure cX10_measure 5 (some .int) 4 := ⟨yw_X10_measure, TBm (i := 1320) rfl rfl, TBm (i := 1321) rfl rfl⟩
set_option maxRecDepth 100000 in
theorem yw_X10_best : YW yX10_best cX10_best 4 (some .int) 3 := ⟨TBm (i := 1359) rfl rfl, TBm (i := 130) rfl rfl, by decide, by decide +kernel⟩
set_option maxRecDepth 100000 in
theorem yv_X10_best : YV yX10_best cX10_best 4 (some .int) 3 := ⟨yw_X10_best, TBm (i := 1357) rfl rfl, TBm (i := 1358) rfl rfl⟩
set_option maxRecDepth 100000 in
theorem yw_X10_nearest : YW yX10_nearest cX10_nearest 3 (some .int) 2 := ⟨TBm (i := 1372) rfl rfl, TBm (i := 130) rfl rfl, by decide, by decide +kernel⟩
set_option maxRecDepth 100000 in
theorem yv_X10_nearest : YV yX10_nearest cX10_nearest 3 (some .int) 2 := ⟨yw_X10_nearest, TBm (i := 1370) rfl rfl, TBm (i := 1371) rfl rfl⟩
set_option maxRecDepth 100000 in
theorem yw_X10_served : YW yX10_served cX10_served 3 (some .int) 2 := ⟨TBm (i := 1380) rfl rfl, TBm (i := 130) rfl rfl, by decide, by decide +kernel⟩
set_option maxRecDepth 100000 in
theorem yv_X10_served : YV yX10_served cX10_served 3 (some .int) 2 := ⟨yw_X10_served, TBm (i := 1378) rfl rfl, TBm (i := 1379) rfl rfl⟩
set_option maxRecDepth 100000 in
theorem yw_X10_thinned : YW yX10_thinned cX10_thinned 4 (some .int) 3 := ⟨TBm (i := 1395) rfl rfl, TBm (i := 130) rfl rfl, by decide, by decide +kernel⟩
set_option maxRecDepth 100000 in
theorem yv_X10_thinned : YV yX10_thinned cX10_thinned 4 (some .int) 3 := ⟨yw_X10_thinned, TBm (i := 1393) rfl rfl, TBm (i := 1394) rfl rfl⟩
set_option maxRecDepth 100000 in
theorem yw_X10_tour : YW yX10_tour cX10_tour 3 (some .int) 2 := ⟨TBm (i := 1459) rfl rfl, TBm (i := 130) rfl rfl, by decide, by decide +kernel⟩
set_option maxRecDepth 100000 in
theorem yv_X10_tour : YV yX10_tour cX10_tour 3 (some .int) 2 := ⟨yw_X10_tour, TBm (i := 1457) rfl rfl, TBm (i := 1458) rfl rfl⟩
set_option maxRecDepth 100000 in
theorem yw_X10_way : YW yX10_way cX10_way 2 (some .int) 1 := ⟨TBm (i := 1466) rfl rfl, TBm (i := 130) rfl rfl, by decide, by decide +kernel⟩
set_option maxRecDepth 100000 in
theorem yv_X10_way : YV yX10_way cX10_way 2 (some .int) 1 := ⟨yw_X10_way, TBm (i := 1464) rfl rfl, TBm (i := 1465) rfl rfl⟩
set_option maxRecDepth 100000 in
theorem yw_X10_hull : YW yX10_hull cX10_hull 3 (some .int) 2 := ⟨TBm (i := 1473) rfl rfl, TBm (i := 130) rfl rfl, by decide, by decide +kernel⟩
set_option maxRecDepth 100000 in
theorem yv_X10_hull : YV yX10_hull cX10_hull 3 (some .int) 2 := ⟨yw_X10_hull, TBm (i := 1471) rfl rfl, TBm (i := 1472) rfl rfl⟩
set_option maxRecDepth 100000 in
theorem yw_X10_area : YW yX10_area cX10_area 2 (some .int) 1 := ⟨TBm (i := 1480) rfl rfl, TBm (i := 130) rfl rfl, by decide, by decide +kernel⟩
set_option maxRecDepth 100000 in
theorem yv_X10_area : YV yX10_area cX10_area 2 (some .int) 1 := ⟨yw_X10_area, TBm (i := 1478) rfl rfl, TBm (i := 1479) rfl rfl⟩
set_option maxRecDepth 100000 in
theorem yw_X10_middle : YW yX10_middle cX10_middle 3 (some .int) 2 := ⟨TBm (i := 1491) rfl rfl, TBm (i := 130) rfl rfl, by decide, by decide +kernel⟩
set_option maxRecDepth 100000 in
theorem yv_X10_middle : YV yX10_middle cX10_middle 3 (some .int) 2 := ⟨yw_X10_middle, TBm (i := 1489) rfl rfl, TBm (i := 1490) rfl rfl⟩
set_option maxRecDepth 100000 in
theorem yw_X10_line : YW yX10_line cX10_line 4 (some .int) 3 := ⟨TBm (i := 1509) rfl rfl, TBm (i := 130) rfl rfl, by decide, by decide +kernel⟩
set_option maxRecDepth 100000 in
theorem yv_X10_line : YV yX10_line cX10_line 4 (some .int) 3 := ⟨yw_X10_line, TBm (i := 1507) rfl rfl, TBm (i := 1508) rfl rfl⟩
set_option maxRecDepth 100000 in
theorem yw_X10_joined : YW yX10_joined cX10_joined 4 (some .int) 3 := ⟨TBm (i := 1525) rfl rfl, TBm (i := 130) rfl rfl, by decide, by decide +kernel⟩
set_option maxRecDepth 100000 in
theorem yv_X10_joined : YV yX10_joined cX10_joined 4 (some .int) 3 := ⟨yw_X10_joined, TBm (i := 1523) rfl rfl, TBm (i := 1524) rfl rfl⟩
set_option maxRecDepth 100000 in
theorem yw_X10_fits : YW yX10_fits cX10_fits 7 (some .int) 1 := ⟨TBm (i := 535) rfl rfl, TBm (i := 130) rfl rfl, by decide, by decide +kernel⟩
set_option maxRecDepth 100000 in
theorem yv_X10_fits : YV yX10_fits cX10_fits 7 (some .int) 1 := ⟨yw_X10_fits, TBm (i := 533) rfl rfl, TBm (i := 534) rfl rfl⟩
set_option maxRecDepth 100000 in
theorem yw_X10_scale : YW yX10_scale cX10_scale 3 (some .int) 1 := ⟨TBm (i := 581) rfl rfl, TBm (i := 130) rfl rfl, by decide, by decide +kernel⟩
set_option maxRecDepth 100000 in
theorem yv_X10_scale : YV yX10_scale cX10_scale 3 (some .int) 1 := ⟨yw_X10_scale, TBm (i := 579) rfl rfl, TBm (i := 580) rfl rfl⟩
set_option maxRecDepth 100000 in
theorem yw_X10_write : YW yX10_write cX10_write 2 (some .int) 1 := ⟨TBm (i := 1540) rfl rfl, TBm (i := 130) rfl rfl, by decide, by decide +kernel⟩
set_option maxRecDepth 100000 in
theorem yv_X10_write : YV yX10_write cX10_write 2 (some .int) 1 := ⟨yw_X10_write, TBm (i := 1538) rfl rfl, TBm (i := 1539) rfl rfl⟩
set_option maxRecDepth 100000 in
theorem yw_X10_octet : YW yX10_octet cX10_octet 2 (some .int) 1 := ⟨TBm (i := 593) rfl rfl, TBm (i := 130) rfl rfl, by decide, by decide +kernel⟩
set_option maxRecDepth 100000 in
theorem yv_X10_octet : YV yX10_octet cX10_octet 2 (some .int) 1 := ⟨yw_X10_octet, TBm (i := 591) rfl rfl, TBm (i := 592) rfl rfl⟩
set_option maxRecDepth 100000 in
theorem yw_X10_count : YW yX10_count cX10_count 2 (some .int) 1 := ⟨TBm (i := 597) rfl rfl, TBm (i := 130) rfl rfl, by decide, by decide +kernel⟩
set_option maxRecDepth 100000 in
theorem yv_X10_count : YV yX10_count cX10_count 2 (some .int) 1 := ⟨yw_X10_count, TBm (i := 595) rfl rfl, TBm (i := 596) rfl rfl⟩
set_option maxRecDepth 100000 in
theorem yw_X10_needCell : YW yX10_needCell cX10_needCell 2 none 1 := ⟨TBm (i := 894) rfl rfl, TBm (i := 130) rfl rfl, by decide, by decide +kernel⟩
set_option maxRecDepth 100000 in
theorem yv_X10_needCell : YV yX10_needCell cX10_needCell 2 none 1 := ⟨yw_X10_needCell, TBm (i := 893) rfl rfl, TBm (i := 24) rfl rfl⟩
set_option maxRecDepth 100000 in
theorem yw_X10_needZone : YW yX10_needZone cX10_needZone 2 none 1 := ⟨TBm (i := 938) rfl rfl, TBm (i := 130) rfl rfl, by decide, by decide +kernel⟩
set_option maxRecDepth 100000 in
theorem yv_X10_needZone : YV yX10_needZone cX10_needZone 2 none 1 := ⟨yw_X10_needZone, TBm (i := 937) rfl rfl, TBm (i := 25) rfl rfl⟩
set_option maxRecDepth 100000 in
theorem yw_X10_needGroup : YW yX10_needGroup cX10_needGroup 2 none 1 := ⟨TBm (i := 1010) rfl rfl, TBm (i := 130) rfl rfl, by decide, by decide +kernel⟩
set_option maxRecDepth 100000 in
theorem yv_X10_needGroup : YV yX10_needGroup cX10_needGroup 2 none 1 := ⟨yw_X10_needGroup, TBm (i := 1009) rfl rfl, TBm (i := 29) rfl rfl⟩
set_option maxRecDepth 100000 in
theorem yw_X10_needGroupOrNone : YW yX10_needGroupOrNone cX10_needGroupOrNone 2 none 1 := ⟨TBm (i := 1175) rfl rfl, TBm (i := 130) rfl rfl, by decide, by decide +kernel⟩
set_option maxRecDepth 100000 in
theorem yv_X10_needGroupOrNone : YV yX10_needGroupOrNone cX10_needGroupOrNone 2 none 1 := ⟨yw_X10_needGroupOrNone, TBm (i := 1174) rfl rfl, TBm (i := 38) rfl rfl⟩
set_option maxRecDepth 100000 in
theorem yw_X10_needLevel : YW yX10_needLevel cX10_needLevel 2 none 1 := ⟨TBm (i := 1140) rfl rfl, TBm (i := 130) rfl rfl, by decide, by decide +kernel⟩
set_option maxRecDepth 100000 in
theorem yv_X10_needLevel : YV yX10_needLevel cX10_needLevel 2 none 1 := ⟨yw_X10_needLevel, TBm (i := 1139) rfl rfl, TBm (i := 37) rfl rfl⟩
set_option maxRecDepth 100000 in
theorem yw_X10_needRow : YW yX10_needRow cX10_needRow 2 none 1 := ⟨TBm (i := 1249) rfl rfl, TBm (i := 130) rfl rfl, by decide, by decide +kernel⟩
set_option maxRecDepth 100000 in
theorem yv_X10_needRow : YV yX10_needRow cX10_needRow 2 none 1 := ⟨yw_X10_needRow, TBm (i := 1248) rfl rfl, TBm (i := 41) rfl rfl⟩
set_option maxRecDepth 100000 in
theorem yw_X10_needTwo : YW yX10_needTwo cX10_needTwo 3 none 2 := ⟨TBm (i := 1258) rfl rfl, TBm (i := 130) rfl rfl, by decide, by decide +kernel⟩
set_option maxRecDepth 100000 in
theorem yv_X10_needTwo : YV yX10_needTwo cX10_needTwo 3 none 2 := ⟨yw_X10_needTwo, TBm (i := 1257) rfl rfl, TBm (i := 43) rfl rfl⟩
set_option maxRecDepth 100000 in
theorem yw_X10_needEdge : YW yX10_needEdge cX10_needEdge 5 none 4 := ⟨TBm (i := 1254) rfl rfl, TBm (i := 130) rfl rfl, by decide, by decide +kernel⟩
set_option maxRecDepth 100000 in
theorem yv_X10_needEdge : YV yX10_needEdge cX10_needEdge 5 none 4 := ⟨yw_X10_needEdge, TBm (i := 1253) rfl rfl, TBm (i := 42) rfl rfl⟩
set_option maxRecDepth 100000 in
theorem yw_X10_needMeasure : YW yX10_needMeasure cX10_needMeasure 2 none 1 := ⟨TBm (i := 1326) rfl rfl, TBm (i := 130) rfl rfl, by decide, by decide +kernel⟩
set_option maxRecDepth 100000 in
theorem yv_X10_needMeasure : YV yX10_needMeasure cX10_needMeasure 2 none 1 := ⟨yw_X10_needMeasure, TBm (i := 1325) rfl rfl, TBm (i := 45) rfl rfl⟩
set_option maxRecDepth 100000 in
theorem yw_X10_needFar : YW yX10_needFar cX10_needFar 2 none 1 := ⟨TBm (i := 1331) rfl rfl, TBm (i := 130) rfl rfl, by decide, by decide +kernel⟩
set_option maxRecDepth 100000 in
theorem yv_X10_needFar : YV yX10_needFar cX10_needFar 2 none 1 := ⟨yw_X10_needFar, TBm (i := 1330) rfl rfl, TBm (i := 46) rfl rfl⟩
set_option maxRecDepth 100000 in
theorem yw_X10_numbersChanged : YW yX10_numbersChanged cX10_numbersChanged 1 none 0 := ⟨TBm (i := 1019) rfl rfl, TBm (i := 130) rfl rfl, by decide, by decide +kernel⟩
set_option maxRecDepth 100000 in
theorem yv_X10_numbersChanged : YV yX10_numbersChanged cX10_numbersChanged 1 none 0 := ⟨yw_X10_numbersChanged, TBm (i := 1018) rfl rfl, TBm (i := 30) rfl rfl⟩
set_option maxRecDepth 100000 in
theorem yw_X10_landChanged : YW yX10_landChanged cX10_landChanged 2 none 1 := ⟨TBm (i := 1038) rfl rfl, TBm (i := 130) rfl rfl, by decide, by decide +kernel⟩
set_option maxRecDepth 100000 in
theorem yv_X10_landChanged : YV yX10_landChanged cX10_landChanged 2 none 1 := ⟨yw_X10_landChanged, TBm (i := 1037) rfl rfl, TBm (i := 31) rfl rfl⟩
set_option maxRecDepth 100000 in
theorem yw_X10_bringPath : YW yX10_bringPath cX10_bringPath 4 none 3 := ⟨TBm (i := 1399) rfl rfl, TBm (i := 130) rfl rfl, by decide, by decide +kernel⟩
set_option maxRecDepth 100000 in
theorem yv_X10_bringPath : YV yX10_bringPath cX10_bringPath 4 none 3 := ⟨yw_X10_bringPath, TBm (i := 1398) rfl rfl, TBm (i := 51) rfl rfl⟩
set_option maxRecDepth 100000 in
theorem yw_X10_countOrStop : YW yX10_countOrStop cX10_countOrStop 2 (some .int) 1 := ⟨TBm (i := 1448) rfl rfl, TBm (i := 130) rfl rfl, by decide, by decide +kernel⟩
set_option maxRecDepth 100000 in
theorem yv_X10_countOrStop : YV yX10_countOrStop cX10_countOrStop 2 (some .int) 1 := ⟨yw_X10_countOrStop, TBm (i := 1447) rfl rfl, TBm (i := 59) rfl rfl⟩
set_option maxRecDepth 100000 in
theorem yw_X11_thrown : YW yX11_thrown cX11_thrown 1 (some .int) 0 := ⟨TBm (i := 1709) rfl rfl, TBm (i := 141) rfl rfl, by decide, by decide +kernel⟩
set_option maxRecDepth 100000 in
theorem yv_X11_thrown : YV yX11_thrown cX11_thrown 1 (some .int) 0 := ⟨yw_X11_thrown, TBm (i := 1707) rfl rfl, TBm (i := 1708) rfl rfl⟩
set_option maxRecDepth 100000 in
theorem yw_X11_throwsIf : YW yX11_throwsIf cX11_throwsIf 3 (some .boolean) 2 := ⟨TBm (i := 1813) rfl rfl, TBm (i := 141) rfl rfl, by decide, by decide +kernel⟩
set_option maxRecDepth 100000 in
theorem yv_X11_throwsIf : YV yX11_throwsIf cX11_throwsIf 3 (some .boolean) 2 := ⟨yw_X11_throwsIf, TBm (i := 1812) rfl rfl, TBm (i := 84) rfl rfl⟩
set_option maxRecDepth 100000 in
theorem yw_X11_in : YW yX11_in cX11_in 3 (some .boolean) 3 := ⟨TBm (i := 1763) rfl rfl, TBm (i := 141) rfl rfl, by decide, by decide +kernel⟩
set_option maxRecDepth 100000 in
theorem ys_X11_in : YS yX11_in cX11_in 3 (some .boolean) 3 := ⟨yw_X11_in, TBm (i := 1762) rfl rfl⟩
set_option maxRecDepth 100000 in
theorem yw_X11_feed : YW yX11_feed cX11_feed 7 (some .int) 5 := ⟨TBm (i := 1713) rfl rfl, TBm (i := 141) rfl rfl, by decide, by decide +kernel⟩
set_option maxRecDepth 100000 in
theorem yv_X11_feed : YV yX11_feed cX11_feed 7 (some .int) 5 := ⟨yw_X11_feed, TBm (i := 1711) rfl rfl, TBm (i := 1712) rfl rfl⟩
set_option maxRecDepth 100000 in
theorem yw_X11_end : YW yX11_end cX11_end 2 (some .boolean) 1 := ⟨TBm (i := 1717) rfl rfl, TBm (i := 141) rfl rfl, by decide, by decide +kernel⟩
set_option maxRecDepth 100000 in
theorem yv_X11_end : YV yX11_end cX11_end 2 (some .boolean) 1 := ⟨yw_X11_end, TBm (i := 1715) rfl rfl, TBm (i := 1716) rfl rfl⟩
set_option maxRecDepth 100000 in
theorem yw_X11_hasFailed : YW yX11_hasFailed cX11_hasFailed 1 (some .boolean) 0 := ⟨TBm (i := 1734) rfl rfl, TBm (i := 141) rfl rfl, by decide, by decide +kernel⟩
set_option maxRecDepth 100000 in
theorem yv_X11_hasFailed : YV yX11_hasFailed cX11_hasFailed 1 (some .boolean) 0 := ⟨yw_X11_hasFailed, TBm (i := 1733) rfl rfl, TBm (i := 67) rfl rfl⟩
set_option maxRecDepth 100000 in
theorem yw_X11_isAt : YW yX11_isAt cX11_isAt 3 (some .boolean) 2 := ⟨TBm (i := 1750) rfl rfl, TBm (i := 141) rfl rfl, by decide, by decide +kernel⟩
set_option maxRecDepth 100000 in
theorem yv_X11_isAt : YV yX11_isAt cX11_isAt 3 (some .boolean) 2 := ⟨yw_X11_isAt, TBm (i := 1749) rfl rfl, TBm (i := 71) rfl rfl⟩
set_option maxRecDepth 100000 in
theorem yw_X11_blanks : YW yX11_blanks cX11_blanks 1 none 0 := ⟨TBm (i := 1746) rfl rfl, TBm (i := 141) rfl rfl, by decide, by decide +kernel⟩
set_option maxRecDepth 100000 in
theorem yv_X11_blanks : YV yX11_blanks cX11_blanks 1 none 0 := ⟨yw_X11_blanks, TBm (i := 1745) rfl rfl, TBm (i := 70) rfl rfl⟩
set_option maxRecDepth 100000 in
theorem yw_X11_failsAt : YW yX11_failsAt cX11_failsAt 2 none 1 := ⟨TBm (i := 1756) rfl rfl, TBm (i := 141) rfl rfl, by decide, by decide +kernel⟩
set_option maxRecDepth 100000 in
theorem yv_X11_failsAt : YV yX11_failsAt cX11_failsAt 2 none 1 := ⟨yw_X11_failsAt, TBm (i := 1755) rfl rfl, TBm (i := 72) rfl rfl⟩
set_option maxRecDepth 100000 in
theorem yw_X11_takes : YW yX11_takes cX11_takes 2 (some .boolean) 1 := ⟨TBm (i := 1771) rfl rfl, TBm (i := 141) rfl rfl, by decide, by decide +kernel⟩
set_option maxRecDepth 100000 in
theorem yv_X11_takes : YV yX11_takes cX11_takes 2 (some .boolean) 1 := ⟨yw_X11_takes, TBm (i := 1770) rfl rfl, TBm (i := 75) rfl rfl⟩
set_option maxRecDepth 100000 in
theorem yw_X11_asks : YW yX11_asks cX11_asks 2 none 1 := ⟨TBm (i := 1767) rfl rfl, TBm (i := 141) rfl rfl, by decide, by decide +kernel⟩
set_option maxRecDepth 100000 in
theorem yv_X11_asks : YV yX11_asks cX11_asks 2 none 1 := ⟨yw_X11_asks, TBm (i := 1766) rfl rfl, TBm (i := 74) rfl rfl⟩
set_option maxRecDepth 100000 in
theorem yw_X11_wordMany : YW yX11_wordMany cX11_wordMany 2 (some .int) 0 := ⟨TBm (i := 1742) rfl rfl, TBm (i := 141) rfl rfl, by decide, by decide +kernel⟩
set_option maxRecDepth 100000 in
theorem yv_X11_wordMany : YV yX11_wordMany cX11_wordMany 2 (some .int) 0 := ⟨yw_X11_wordMany, TBm (i := 1741) rfl rfl, TBm (i := 69) rfl rfl⟩
set_option maxRecDepth 100000 in
theorem yw_X11_isWord : YW yX11_isWord cX11_isWord 4 (some .boolean) 1 := ⟨TBm (i := 1738) rfl rfl, TBm (i := 141) rfl rfl, by decide, by decide +kernel⟩
set_option maxRecDepth 100000 in
theorem yv_X11_isWord : YV yX11_isWord cX11_isWord 4 (some .boolean) 1 := ⟨yw_X11_isWord, TBm (i := 1737) rfl rfl, TBm (i := 68) rfl rfl⟩
set_option maxRecDepth 100000 in
theorem yw_X11_asksWord : YW yX11_asksWord cX11_asksWord 2 none 1 := ⟨TBm (i := 1730) rfl rfl, TBm (i := 141) rfl rfl, by decide, by decide +kernel⟩
set_option maxRecDepth 100000 in
theorem yv_X11_asksWord : YV yX11_asksWord cX11_asksWord 2 none 1 := ⟨yw_X11_asksWord, TBm (i := 1729) rfl rfl, TBm (i := 66) rfl rfl⟩
set_option maxRecDepth 100000 in
theorem yw_X11_isName : YW yX11_isName cX11_isName 2 (some .boolean) 0 := ⟨TBm (i := 1789) rfl rfl, TBm (i := 141) rfl rfl, by decide, by decide +kernel⟩
set_option maxRecDepth 100000 in
theorem yv_X11_isName : YV yX11_isName cX11_isName 2 (some .boolean) 0 := ⟨yw_X11_isName, TBm (i := 1788) rfl rfl, TBm (i := 79) rfl rfl⟩
set_option maxRecDepth 100000 in
theorem yw_X11_told : YW yX11_told cX11_told 5 (some .int) 0 := ⟨TBm (i := 1796) rfl rfl, TBm (i := 141) rfl rfl, by decide, by decide +kernel⟩
set_option maxRecDepth 100000 in
theorem yv_X11_told : YV yX11_told cX11_told 5 (some .int) 0 := ⟨yw_X11_told, TBm (i := 1795) rfl rfl, TBm (i := 80) rfl rfl⟩
set_option maxRecDepth 100000 in
theorem yw_X11_number : YW yX11_number cX11_number 5 (some .int) 2 := ⟨TBm (i := 1760) rfl rfl, TBm (i := 141) rfl rfl, by decide, by decide +kernel⟩
set_option maxRecDepth 100000 in
theorem yv_X11_number : YV yX11_number cX11_number 5 (some .int) 2 := ⟨yw_X11_number, TBm (i := 1759) rfl rfl, TBm (i := 73) rfl rfl⟩
set_option maxRecDepth 100000 in
theorem yw_X11_sizeLine : YW yX11_sizeLine cX11_sizeLine 1 none 0 := ⟨TBm (i := 1725) rfl rfl, TBm (i := 141) rfl rfl, by decide, by decide +kernel⟩
set_option maxRecDepth 100000 in
theorem yv_X11_sizeLine : YV yX11_sizeLine cX11_sizeLine 1 none 0 := ⟨yw_X11_sizeLine, TBm (i := 1724) rfl rfl, TBm (i := 65) rfl rfl⟩
set_option maxRecDepth 100000 in
theorem yw_X11_groupsLine : YW yX11_groupsLine cX11_groupsLine 1 none 0 := ⟨TBm (i := 1780) rfl rfl, TBm (i := 141) rfl rfl, by decide, by decide +kernel⟩
set_option maxRecDepth 100000 in
theorem yv_X11_groupsLine : YV yX11_groupsLine cX11_groupsLine 1 none 0 := ⟨yw_X11_groupsLine, TBm (i := 1779) rfl rfl, TBm (i := 77) rfl rfl⟩
set_option maxRecDepth 100000 in
theorem yw_X11_zoneLine : YW yX11_zoneLine cX11_zoneLine 4 none 0 := ⟨TBm (i := 1785) rfl rfl, TBm (i := 141) rfl rfl, by decide, by decide +kernel⟩
set_option maxRecDepth 100000 in
theorem yv_X11_zoneLine : YV yX11_zoneLine cX11_zoneLine 4 none 0 := ⟨yw_X11_zoneLine, TBm (i := 1784) rfl rfl, TBm (i := 78) rfl rfl⟩
set_option maxRecDepth 100000 in
theorem yw_X11_isOther : YW yX11_isOther cX11_isOther 3 (some .boolean) 2 := ⟨TBm (i := 1809) rfl rfl, TBm (i := 141) rfl rfl, by decide, by decide +kernel⟩
set_option maxRecDepth 100000 in
theorem yv_X11_isOther : YV yX11_isOther cX11_isOther 3 (some .boolean) 2 := ⟨yw_X11_isOther, TBm (i := 1808) rfl rfl, TBm (i := 83) rfl rfl⟩
set_option maxRecDepth 100000 in
theorem yw_X11_runs : YW yX11_runs cX11_runs 7 none 1 := ⟨TBm (i := 1805) rfl rfl, TBm (i := 141) rfl rfl, by decide, by decide +kernel⟩
set_option maxRecDepth 100000 in
theorem yv_X11_runs : YV yX11_runs cX11_runs 7 none 1 := ⟨yw_X11_runs, TBm (i := 1804) rfl rfl, TBm (i := 82) rfl rfl⟩
set_option maxRecDepth 100000 in
theorem yw_X11_rowLine : YW yX11_rowLine cX11_rowLine 2 none 0 := ⟨TBm (i := 1801) rfl rfl, TBm (i := 141) rfl rfl, by decide, by decide +kernel⟩
set_option maxRecDepth 100000 in
theorem yv_X11_rowLine : YV yX11_rowLine cX11_rowLine 2 none 0 := ⟨yw_X11_rowLine, TBm (i := 1800) rfl rfl, TBm (i := 81) rfl rfl⟩
set_option maxRecDepth 100000 in
theorem yw_X11_line : YW yX11_line cX11_line 1 none 0 := ⟨TBm (i := 1775) rfl rfl, TBm (i := 141) rfl rfl, by decide, by decide +kernel⟩
set_option maxRecDepth 100000 in
theorem yv_X11_line : YV yX11_line cX11_line 1 none 0 := ⟨yw_X11_line, TBm (i := 1774) rfl rfl, TBm (i := 76) rfl rfl⟩
set_option maxRecDepth 100000 in
theorem yw_X11_read : YW yX11_read cX11_read 2 (some .int) 0 := ⟨TBm (i := 1721) rfl rfl, TBm (i := 141) rfl rfl, by decide, by decide +kernel⟩
set_option maxRecDepth 100000 in
theorem yv_X11_read : YV yX11_read cX11_read 2 (some .int) 0 := ⟨yw_X11_read, TBm (i := 1719) rfl rfl, TBm (i := 1720) rfl rfl⟩
set_option maxRecDepth 100000 in
theorem yw_X11_fault : YW yX11_fault cX11_fault 1 (some .int) 0 := ⟨TBm (i := 1842) rfl rfl, TBm (i := 141) rfl rfl, by decide, by decide +kernel⟩
set_option maxRecDepth 100000 in
theorem yv_X11_fault : YV yX11_fault cX11_fault 1 (some .int) 0 := ⟨yw_X11_fault, TBm (i := 1840) rfl rfl, TBm (i := 1841) rfl rfl⟩
set_option maxRecDepth 100000 in
theorem yw_X11_cells : YW yX11_cells cX11_cells 1 (some .int) 0 := ⟨TBm (i := 1829) rfl rfl, TBm (i := 141) rfl rfl, by decide, by decide +kernel⟩
set_option maxRecDepth 100000 in
theorem yv_X11_cells : YV yX11_cells cX11_cells 1 (some .int) 0 := ⟨yw_X11_cells, TBm (i := 1828) rfl rfl, TBm (i := 88) rfl rfl⟩
set_option maxRecDepth 100000 in
theorem yw_X11_zones : YW yX11_zones cX11_zones 1 (some .int) 0 := ⟨TBm (i := 1821) rfl rfl, TBm (i := 141) rfl rfl, by decide, by decide +kernel⟩
set_option maxRecDepth 100000 in
theorem yv_X11_zones : YV yX11_zones cX11_zones 1 (some .int) 0 := ⟨yw_X11_zones, TBm (i := 1820) rfl rfl, TBm (i := 86) rfl rfl⟩
set_option maxRecDepth 100000 in
theorem yw_X11_isLandOf : YW yX11_isLandOf cX11_isLandOf 3 (some .boolean) 2 := ⟨TBm (i := 1833) rfl rfl, TBm (i := 141) rfl rfl, by decide, by decide +kernel⟩
set_option maxRecDepth 100000 in
theorem yv_X11_isLandOf : YV yX11_isLandOf cX11_isLandOf 3 (some .boolean) 2 := ⟨yw_X11_isLandOf, TBm (i := 1832) rfl rfl, TBm (i := 89) rfl rfl⟩
set_option maxRecDepth 100000 in
theorem yw_X11_isLand : YW yX11_isLand cX11_isLand 2 (some .boolean) 1 := ⟨TBm (i := 1878) rfl rfl, TBm (i := 141) rfl rfl, by decide, by decide +kernel⟩
set_option maxRecDepth 100000 in
theorem yv_X11_isLand : YV yX11_isLand cX11_isLand 2 (some .boolean) 1 := ⟨yw_X11_isLand, TBm (i := 1877) rfl rfl, TBm (i := 97) rfl rfl⟩
set_option maxRecDepth 100000 in
theorem yw_X11_far : YW yX11_far cX11_far 5 (some .int) 2 := ⟨TBm (i := 1837) rfl rfl, TBm (i := 141) rfl rfl, by decide, by decide +kernel⟩
set_option maxRecDepth 100000 in
theorem yv_X11_far : YV yX11_far cX11_far 5 (some .int) 2 := ⟨yw_X11_far, TBm (i := 1836) rfl rfl, TBm (i := 90) rfl rfl⟩
set_option maxRecDepth 100000 in
theorem yw_X11_land : YW yX11_land cX11_land 2 (some .int) 1 := ⟨TBm (i := 1862) rfl rfl, TBm (i := 141) rfl rfl, by decide, by decide +kernel⟩
set_option maxRecDepth 100000 in
theorem yv_X11_land : YV yX11_land cX11_land 2 (some .int) 1 := ⟨yw_X11_land, TBm (i := 1861) rfl rfl, TBm (i := 93) rfl rfl⟩
set_option maxRecDepth 100000 in
theorem yw_X11_laysOrders : YW yX11_laysOrders cX11_laysOrders 7 none 0 := ⟨TBm (i := 1817) rfl rfl, TBm (i := 141) rfl rfl, by decide, by decide +kernel⟩
set_option maxRecDepth 100000 in
theorem yv_X11_laysOrders : YV yX11_laysOrders cX11_laysOrders 7 none 0 := ⟨yw_X11_laysOrders, TBm (i := 1816) rfl rfl, TBm (i := 85) rfl rfl⟩
set_option maxRecDepth 100000 in
theorem yw_X11_middleOf : YW yX11_middleOf cX11_middleOf 7 (some .int) 1 := ⟨TBm (i := 1825) rfl rfl, TBm (i := 141) rfl rfl, by decide, by decide +kernel⟩
set_option maxRecDepth 100000 in
theorem yv_X11_middleOf : YV yX11_middleOf cX11_middleOf 7 (some .int) 1 := ⟨yw_X11_middleOf, TBm (i := 1824) rfl rfl, TBm (i := 87) rfl rfl⟩
set_option maxRecDepth 100000 in
theorem yw_X11_dotsAt : YW yX11_dotsAt cX11_dotsAt 3 (some .int) 3 := ⟨TBm (i := 1937) rfl rfl, TBm (i := 141) rfl rfl, by decide, by decide +kernel⟩
set_option maxRecDepth 100000 in
theorem ys_X11_dotsAt : YS yX11_dotsAt cX11_dotsAt 3 (some .int) 3 := ⟨yw_X11_dotsAt, TBm (i := 1936) rfl rfl⟩
set_option maxRecDepth 100000 in
theorem yw_X11_laysDots : YW yX11_laysDots cX11_laysDots 9 none 1 := ⟨TBm (i := 1934) rfl rfl, TBm (i := 141) rfl rfl, by decide, by decide +kernel⟩
set_option maxRecDepth 100000 in
theorem yv_X11_laysDots : YV yX11_laysDots cX11_laysDots 9 none 1 := ⟨yw_X11_laysDots, TBm (i := 1933) rfl rfl, TBm (i := 102) rfl rfl⟩
set_option maxRecDepth 100000 in
theorem yw_X11_allDots : YW yX11_allDots cX11_allDots 6 (some .int) 2 := ⟨TBm (i := 1953) rfl rfl, TBm (i := 141) rfl rfl, by decide, by decide +kernel⟩
set_option maxRecDepth 100000 in
theorem yv_X11_allDots : YV yX11_allDots cX11_allDots 6 (some .int) 2 := ⟨yw_X11_allDots, TBm (i := 1952) rfl rfl, TBm (i := 103) rfl rfl⟩
set_option maxRecDepth 100000 in
theorem yw_X11_cellOf : YW yX11_cellOf cX11_cellOf 4 (some .int) 3 := ⟨TBm (i := 1961) rfl rfl, TBm (i := 141) rfl rfl, by decide, by decide +kernel⟩
set_option maxRecDepth 100000 in
theorem yv_X11_cellOf : YV yX11_cellOf cX11_cellOf 4 (some .int) 3 := ⟨yw_X11_cellOf, TBm (i := 1960) rfl rfl, TBm (i := 104) rfl rfl⟩
set_option maxRecDepth 100000 in
theorem yw_X11_laysCrowds : YW yX11_laysCrowds cX11_laysCrowds 5 none 1 := ⟨TBm (i := 1969) rfl rfl, TBm (i := 141) rfl rfl, by decide, by decide +kernel⟩
set_option maxRecDepth 100000 in
theorem yv_X11_laysCrowds : YV yX11_laysCrowds cX11_laysCrowds 5 none 1 := ⟨yw_X11_laysCrowds, TBm (i := 1968) rfl rfl, TBm (i := 105) rfl rfl⟩
set_option maxRecDepth 100000 in
theorem yw_X11_crowdOf : YW yX11_crowdOf cX11_crowdOf 5 (some .int) 2 := ⟨TBm (i := 1973) rfl rfl, TBm (i := 141) rfl rfl, by decide, by decide +kernel⟩
set_option maxRecDepth 100000 in
theorem yv_X11_crowdOf : YV yX11_crowdOf cX11_crowdOf 5 (some .int) 2 := ⟨yw_X11_crowdOf, TBm (i := 1972) rfl rfl, TBm (i := 106) rfl rfl⟩
set_option maxRecDepth 100000 in
theorem yw_X11_hasDots : YW yX11_hasDots cX11_hasDots 2 (some .boolean) 1 := ⟨TBm (i := 1981) rfl rfl, TBm (i := 141) rfl rfl, by decide, by decide +kernel⟩
set_option maxRecDepth 100000 in
theorem yv_X11_hasDots : YV yX11_hasDots cX11_hasDots 2 (some .boolean) 1 := ⟨yw_X11_hasDots, TBm (i := 1980) rfl rfl, TBm (i := 107) rfl rfl⟩
set_option maxRecDepth 100000 in
theorem yw_X11_noCell : YW yX11_noCell cX11_noCell 2 (some .boolean) 1 := ⟨TBm (i := 1850) rfl rfl, TBm (i := 141) rfl rfl, by decide, by decide +kernel⟩
set_option maxRecDepth 100000 in
theorem yv_X11_noCell : YV yX11_noCell cX11_noCell 2 (some .boolean) 1 := ⟨yw_X11_noCell, TBm (i := 1849) rfl rfl, TBm (i := 91) rfl rfl⟩
set_option maxRecDepth 100000 in
theorem yw_X11_noZone : YW yX11_noZone cX11_noZone 2 (some .boolean) 1 := ⟨TBm (i := 1858) rfl rfl, TBm (i := 141) rfl rfl, by decide, by decide +kernel⟩
set_option maxRecDepth 100000 in
theorem yv_X11_noZone : YV yX11_noZone cX11_noZone 2 (some .boolean) 1 := ⟨yw_X11_noZone, TBm (i := 1857) rfl rfl, TBm (i := 92) rfl rfl⟩
set_option maxRecDepth 100000 in
theorem yw_X11_noGroup : YW yX11_noGroup cX11_noGroup 2 (some .boolean) 1 := ⟨TBm (i := 1898) rfl rfl, TBm (i := 141) rfl rfl, by decide, by decide +kernel⟩
set_option maxRecDepth 100000 in
theorem yv_X11_noGroup : YV yX11_noGroup cX11_noGroup 2 (some .boolean) 1 := ⟨yw_X11_noGroup, TBm (i := 1897) rfl rfl, TBm (i := 100) rfl rfl⟩
set_option maxRecDepth 100000 in
theorem yw_X11_noLevel : YW yX11_noLevel cX11_noLevel 2 (some .boolean) 1 := ⟨TBm (i := 1930) rfl rfl, TBm (i := 141) rfl rfl, by decide, by decide +kernel⟩
set_option maxRecDepth 100000 in
theorem yv_X11_noLevel : YV yX11_noLevel cX11_noLevel 2 (some .boolean) 1 := ⟨yw_X11_noLevel, TBm (i := 1929) rfl rfl, TBm (i := 101) rfl rfl⟩
set_option maxRecDepth 100000 in
theorem yw_X11_noRow : YW yX11_noRow cX11_noRow 2 (some .boolean) 1 := ⟨TBm (i := 1997) rfl rfl, TBm (i := 141) rfl rfl, by decide, by decide +kernel⟩
set_option maxRecDepth 100000 in
theorem yv_X11_noRow : YV yX11_noRow cX11_noRow 2 (some .boolean) 1 := ⟨yw_X11_noRow, TBm (i := 1996) rfl rfl, TBm (i := 109) rfl rfl⟩
set_option maxRecDepth 100000 in
theorem yw_X11_cell : YW yX11_cell cX11_cell 3 (some .int) 2 := ⟨TBm (i := 1846) rfl rfl, TBm (i := 141) rfl rfl, by decide, by decide +kernel⟩
set_option maxRecDepth 100000 in
theorem yv_X11_cell : YV yX11_cell cX11_cell 3 (some .int) 2 := ⟨yw_X11_cell, TBm (i := 1844) rfl rfl, TBm (i := 1845) rfl rfl⟩
set_option maxRecDepth 100000 in
theorem yw_X11_beside : YW yX11_beside cX11_beside 5 (some .int) 2 := ⟨TBm (i := 1870) rfl rfl, TBm (i := 141) rfl rfl, by decide, by decide +kernel⟩
set_option maxRecDepth 100000 in
theorem yv_X11_beside : YV yX11_beside cX11_beside 5 (some .int) 2 := ⟨yw_X11_beside, TBm (i := 1869) rfl rfl, TBm (i := 95) rfl rfl⟩
set_option maxRecDepth 100000 in
theorem yw_X11_sides : YW yX11_sides cX11_sides 7 (some .int) 2 := ⟨TBm (i := 1874) rfl rfl, TBm (i := 141) rfl rfl, by decide, by decide +kernel⟩
set_option maxRecDepth 100000 in
theorem yv_X11_sides : YV yX11_sides cX11_sides 7 (some .int) 2 := ⟨yw_X11_sides, TBm (i := 1873) rfl rfl, TBm (i := 96) rfl rfl⟩
set_option maxRecDepth 100000 in
theorem yw_X11_laysParts : YW yX11_laysParts cX11_laysParts 8 (some .int) 1 := ⟨TBm (i := 1866) rfl rfl, TBm (i := 141) rfl rfl, by decide, by decide +kernel⟩
set_option maxRecDepth 100000 in
theorem yv_X11_laysParts : YV yX11_laysParts cX11_laysParts 8 (some .int) 1 := ⟨yw_X11_laysParts, TBm (i := 1865) rfl rfl, TBm (i := 94) rfl rfl⟩
set_option maxRecDepth 100000 in
theorem yw_X11_isRunBegin : YW yX11_isRunBegin cX11_isRunBegin 3 (some .boolean) 2 := ⟨TBm (i := 1886) rfl rfl, TBm (i := 141) rfl rfl, by decide, by decide +kernel⟩
set_option maxRecDepth 100000 in
theorem yv_X11_isRunBegin : YV yX11_isRunBegin cX11_isRunBegin 3 (some .boolean) 2 := ⟨yw_X11_isRunBegin, TBm (i := 1885) rfl rfl, TBm (i := 99) rfl rfl⟩
set_option maxRecDepth 100000 in
theorem yw_X11_runsIn : YW yX11_runsIn cX11_runsIn 5 (some .int) 2 := ⟨TBm (i := 1882) rfl rfl, TBm (i := 141) rfl rfl, by decide, by decide +kernel⟩
set_option maxRecDepth 100000 in
theorem yv_X11_runsIn : YV yX11_runsIn cX11_runsIn 5 (some .int) 2 := ⟨yw_X11_runsIn, TBm (i := 1881) rfl rfl, TBm (i := 98) rfl rfl⟩
set_option maxRecDepth 100000 in
theorem yw_X11_zone : YW yX11_zone cX11_zone 5 (some .int) 2 := ⟨TBm (i := 1854) rfl rfl, TBm (i := 141) rfl rfl, by decide, by decide +kernel⟩
set_option maxRecDepth 100000 in
theorem yv_X11_zone : YV yX11_zone cX11_zone 5 (some .int) 2 := ⟨yw_X11_zone, TBm (i := 1852) rfl rfl, TBm (i := 1853) rfl rfl⟩
set_option maxRecDepth 100000 in
theorem yw_X11_name : YW yX11_name cX11_name 3 (some .int) 2 := ⟨TBm (i := 1890) rfl rfl, TBm (i := 141) rfl rfl, by decide, by decide +kernel⟩
set_option maxRecDepth 100000 in
theorem yv_X11_name : YV yX11_name cX11_name 3 (some .int) 2 := ⟨yw_X11_name, TBm (i := 1888) rfl rfl, TBm (i := 1889) rfl rfl⟩
set_option maxRecDepth 100000 in
theorem yw_X11_people : YW yX11_people cX11_people 5 (some .int) 3 := ⟨TBm (i := 1894) rfl rfl, TBm (i := 141) rfl rfl, by decide, by decide +kernel⟩
set_option maxRecDepth 100000 in
theorem yv_X11_people : YV yX11_people cX11_people 5 (some .int) 3 := ⟨yw_X11_people, TBm (i := 1892) rfl rfl, TBm (i := 1893) rfl rfl⟩
set_option maxRecDepth 100000 in
theorem yw_X11_lives : YW yX11_lives cX11_lives 3 (some .int) 2 := ⟨TBm (i := 1902) rfl rfl, TBm (i := 141) rfl rfl, by decide, by decide +kernel⟩
set_option maxRecDepth 100000 in
theorem yv_X11_lives : YV yX11_lives cX11_lives 3 (some .int) 2 := ⟨yw_X11_lives, TBm (i := 1900) rfl rfl, TBm (i := 1901) rfl rfl⟩
set_option maxRecDepth 100000 in
theorem yw_X11_flood : YW yX11_flood cX11_flood 4 (some .boolean) 2 := ⟨TBm (i := 1906) rfl rfl, TBm (i := 141) rfl rfl, by decide, by decide +kernel⟩
set_option maxRecDepth 100000 in
theorem yv_X11_flood : YV yX11_flood cX11_flood 4 (some .boolean) 2 := ⟨yw_X11_flood, TBm (i := 1904) rfl rfl, TBm (i := 1905) rfl rfl⟩
set_option maxRecDepth 100000 in
theorem yw_X11_unit : YW yX11_unit cX11_unit 3 (some .int) 1 := ⟨TBm (i := 1910) rfl rfl, TBm (i := 141) rfl rfl, by decide, by decide +kernel⟩
set_option maxRecDepth 100000 in
theorem yv_X11_unit : YV yX11_unit cX11_unit 3 (some .int) 1 := ⟨yw_X11_unit, TBm (i := 1908) rfl rfl, TBm (i := 1909) rfl rfl⟩
set_option maxRecDepth 100000 in
theorem yw_X11_factor : YW yX11_factor cX11_factor 3 (some .int) 1 := ⟨TBm (i := 1914) rfl rfl, TBm (i := 141) rfl rfl, by decide, by decide +kernel⟩
set_option maxRecDepth 100000 in
theorem yv_X11_factor : YV yX11_factor cX11_factor 3 (some .int) 1 := ⟨yw_X11_factor, TBm (i := 1912) rfl rfl, TBm (i := 1913) rfl rfl⟩
set_option maxRecDepth 100000 in
theorem yw_X11_order : YW yX11_order cX11_order 3 (some .int) 2 := ⟨TBm (i := 1918) rfl rfl, TBm (i := 141) rfl rfl, by decide, by decide +kernel⟩
set_option maxRecDepth 100000 in
theorem yv_X11_order : YV yX11_order cX11_order 3 (some .int) 2 := ⟨yw_X11_order, TBm (i := 1916) rfl rfl, TBm (i := 1917) rfl rfl⟩
set_option maxRecDepth 100000 in
theorem yw_X11_stands : YW yX11_stands cX11_stands 2 (some .int) 1 := ⟨TBm (i := 1922) rfl rfl, TBm (i := 141) rfl rfl, by decide, by decide +kernel⟩
set_option maxRecDepth 100000 in
theorem yv_X11_stands : YV yX11_stands cX11_stands 2 (some .int) 1 := ⟨yw_X11_stands, TBm (i := 1920) rfl rfl, TBm (i := 1921) rfl rfl⟩
set_option maxRecDepth 100000 in
theorem yw_X11_dots : YW yX11_dots cX11_dots 4 (some .int) 3 := ⟨TBm (i := 1926) rfl rfl, TBm (i := 141) rfl rfl, by decide, by decide +kernel⟩
set_option maxRecDepth 100000 in
theorem yv_X11_dots : YV yX11_dots cX11_dots 4 (some .int) 3 := ⟨yw_X11_dots, TBm (i := 1924) rfl rfl, TBm (i := 1925) rfl rfl⟩
set_option maxRecDepth 100000 in
theorem yw_X11_carried : YW yX11_carried cX11_carried 4 (some .int) 3 := ⟨TBm (i := 1941) rfl rfl, TBm (i := 141) rfl rfl, by decide, by decide +kernel⟩
set_option maxRecDepth 100000 in
theorem yv_X11_carried : YV yX11_carried cX11_carried 4 (some .int) 3 := ⟨yw_X11_carried, TBm (i := 1939) rfl rfl, TBm (i := 1940) rfl rfl⟩
set_option maxRecDepth 100000 in
theorem yw_X11_left : YW yX11_left cX11_left 3 (some .int) 2 := ⟨TBm (i := 1945) rfl rfl, TBm (i := 141) rfl rfl, by decide, by decide +kernel⟩
set_option maxRecDepth 100000 in
theorem yv_X11_left : YV yX11_left cX11_left 3 (some .int) 2 := ⟨yw_X11_left, TBm (i := 1943) rfl rfl, TBm (i := 1944) rfl rfl⟩
set_option maxRecDepth 100000 in
theorem yw_X11_all : YW yX11_all cX11_all 3 (some .int) 2 := ⟨TBm (i := 1949) rfl rfl, TBm (i := 141) rfl rfl, by decide, by decide +kernel⟩
set_option maxRecDepth 100000 in
theorem yv_X11_all : YV yX11_all cX11_all 3 (some .int) 2 := ⟨yw_X11_all, TBm (i := 1947) rfl rfl, TBm (i := 1948) rfl rfl⟩
set_option maxRecDepth 100000 in
theorem yw_X11_dot : YW yX11_dot cX11_dot 5 (some .int) 4 := ⟨TBm (i := 1957) rfl rfl, TBm (i := 141) rfl rfl, by decide, by decide +kernel⟩
set_option maxRecDepth 100000 in
theorem yv_X11_dot : YV yX11_dot cX11_dot 5 (some .int) 4 := ⟨yw_X11_dot, TBm (i := 1955) rfl rfl, TBm (i := 1956) rfl rfl⟩
set_option maxRecDepth 100000 in
theorem yw_X11_crowd : YW yX11_crowd cX11_crowd 4 (some .int) 3 := ⟨TBm (i := 1965) rfl rfl, TBm (i := 141) rfl rfl, by decide, by decide +kernel⟩
set_option maxRecDepth 100000 in
theorem yv_X11_crowd : YV yX11_crowd cX11_crowd 4 (some .int) 3 := ⟨yw_X11_crowd, TBm (i := 1963) rfl rfl, TBm (i := 1964) rfl rfl⟩
set_option maxRecDepth 100000 in
theorem yw_X11_apart : YW yX11_apart cX11_apart 5 (some .int) 1 := ⟨TBm (i := 1977) rfl rfl, TBm (i := 141) rfl rfl, by decide, by decide +kernel⟩
set_option maxRecDepth 100000 in
theorem yv_X11_apart : YV yX11_apart cX11_apart 5 (some .int) 1 := ⟨yw_X11_apart, TBm (i := 1975) rfl rfl, TBm (i := 1976) rfl rfl⟩
set_option maxRecDepth 100000 in
theorem yw_X11_off : YW yX11_off cX11_off 3 (some .int) 2 := ⟨TBm (i := 1985) rfl rfl, TBm (i := 141) rfl rfl, by decide, by decide +kernel⟩
set_option maxRecDepth 100000 in
theorem yv_X11_off : YV yX11_off cX11_off 3 (some .int) 2 := ⟨yw_X11_off, TBm (i := 1983) rfl rfl, TBm (i := 1984) rfl rfl⟩
set_option maxRecDepth 100000 in
theorem yw_X11_noEdge : YW yX11_noEdge cX11_noEdge 6 (some .boolean) 5 := ⟨TBm (i := 1993) rfl rfl, TBm (i := 141) rfl rfl, by decide, by decide +kernel⟩
set_option maxRecDepth 100000 in
theorem yv_X11_noEdge : YV yX11_noEdge cX11_noEdge 6 (some .boolean) 5 := ⟨yw_X11_noEdge, TBm (i := 1992) rfl rfl, TBm (i := 108) rfl rfl⟩
set_option maxRecDepth 100000 in
theorem yw_X11_moves : YW yX11_moves cX11_moves 12 (some .int) 5 := ⟨TBm (i := 2005) rfl rfl, TBm (i := 141) rfl rfl, by decide, by decide +kernel⟩
set_option maxRecDepth 100000 in
theorem yv_X11_moves : YV yX11_moves cX11_moves 12 (some .int) 5 := ⟨yw_X11_moves, TBm (i := 2004) rfl rfl, TBm (i := 111) rfl rfl⟩
set_option maxRecDepth 100000 in
theorem yw_X11_noRun : YW yX11_noRun cX11_noRun 5 (some .boolean) 4 := ⟨TBm (i := 2001) rfl rfl, TBm (i := 141) rfl rfl, by decide, by decide +kernel⟩
set_option maxRecDepth 100000 in
theorem yv_X11_noRun : YV yX11_noRun cX11_noRun 5 (some .boolean) 4 := ⟨yw_X11_noRun, TBm (i := 2000) rfl rfl, TBm (i := 110) rfl rfl⟩
set_option maxRecDepth 100000 in
theorem yw_X11_move : YW yX11_move cX11_move 6 (some .int) 5 := ⟨TBm (i := 1989) rfl rfl, TBm (i := 141) rfl rfl, by decide, by decide +kernel⟩
set_option maxRecDepth 100000 in
theorem yv_X11_move : YV yX11_move cX11_move 6 (some .int) 5 := ⟨yw_X11_move, TBm (i := 1987) rfl rfl, TBm (i := 1988) rfl rfl⟩
set_option maxRecDepth 100000 in
theorem yw_X11_tries : YW yX11_tries cX11_tries 10 (some .int) 6 := ⟨TBm (i := 2009) rfl rfl, TBm (i := 141) rfl rfl, by decide, by decide +kernel⟩
set_option maxRecDepth 100000 in
theorem yv_X11_tries : YV yX11_tries cX11_tries 10 (some .int) 6 := ⟨yw_X11_tries, TBm (i := 2007) rfl rfl, TBm (i := 2008) rfl rfl⟩
set_option maxRecDepth 100000 in
theorem yw_X11_runEnd : YW yX11_runEnd cX11_runEnd 4 (some .int) 2 := ⟨TBm (i := 2025) rfl rfl, TBm (i := 141) rfl rfl, by decide, by decide +kernel⟩
set_option maxRecDepth 100000 in
theorem yv_X11_runEnd : YV yX11_runEnd cX11_runEnd 4 (some .int) 2 := ⟨yw_X11_runEnd, TBm (i := 2024) rfl rfl, TBm (i := 114) rfl rfl⟩
set_option maxRecDepth 100000 in
theorem yw_X11_run : YW yX11_run cX11_run 8 (some .int) 4 := ⟨TBm (i := 2021) rfl rfl, TBm (i := 141) rfl rfl, by decide, by decide +kernel⟩
set_option maxRecDepth 100000 in
theorem yv_X11_run : YV yX11_run cX11_run 8 (some .int) 4 := ⟨yw_X11_run, TBm (i := 2019) rfl rfl, TBm (i := 2020) rfl rfl⟩
set_option maxRecDepth 100000 in
theorem yw_X11_part : YW yX11_part cX11_part 3 (some .int) 1 := ⟨TBm (i := 2029) rfl rfl, TBm (i := 141) rfl rfl, by decide, by decide +kernel⟩
set_option maxRecDepth 100000 in
theorem yv_X11_part : YV yX11_part cX11_part 3 (some .int) 1 := ⟨yw_X11_part, TBm (i := 2027) rfl rfl, TBm (i := 2028) rfl rfl⟩
set_option maxRecDepth 100000 in
theorem yw_X11_leastFar : YW yX11_leastFar cX11_leastFar 6 (some .int) 2 := ⟨TBm (i := 2045) rfl rfl, TBm (i := 141) rfl rfl, by decide, by decide +kernel⟩
set_option maxRecDepth 100000 in
theorem yv_X11_leastFar : YV yX11_leastFar cX11_leastFar 6 (some .int) 2 := ⟨yw_X11_leastFar, TBm (i := 2044) rfl rfl, TBm (i := 117) rfl rfl⟩
set_option maxRecDepth 100000 in
theorem yw_X11_measureOf : YW yX11_measureOf cX11_measureOf 6 (some .int) 3 := ⟨TBm (i := 2041) rfl rfl, TBm (i := 141) rfl rfl, by decide, by decide +kernel⟩
set_option maxRecDepth 100000 in
theorem yv_X11_measureOf : YV yX11_measureOf cX11_measureOf 6 (some .int) 3 := ⟨yw_X11_measureOf, TBm (i := 2040) rfl rfl, TBm (i := 116) rfl rfl⟩
set_option maxRecDepth 100000 in
theorem yw_X11_noMeasure : YW yX11_noMeasure cX11_noMeasure 3 (some .boolean) 2 := ⟨TBm (i := 2037) rfl rfl, TBm (i := 141) rfl rfl, by decide, by decide +kernel⟩
set_option maxRecDepth 100000 in
theorem yv_X11_noMeasure : YV yX11_noMeasure cX11_noMeasure 3 (some .boolean) 2 := ⟨yw_X11_noMeasure, TBm (i := 2036) rfl rfl, TBm (i := 115) rfl rfl⟩
set_option maxRecDepth 100000 in
theorem yw_X11_measure : YW yX11_measure cX11_measure 5 (some .int) 4 := ⟨TBm (i := 2033) rfl rfl, TBm (i := 141) rfl rfl, by decide, by decide +kernel⟩
set_option maxRecDepth 100000 in
theorem yv_X11_measure : YV yX11_measure cX11_measure 5 (some .int) 4 := ⟨yw_X11_measure, TBm (i := 2031) rfl rfl, TBm (i := 2032) rfl rfl⟩
set_option maxRecDepth 100000 in
theorem yw_X11_best : YW yX11_best cX11_best 8 (some .int) 3 := ⟨TBm (i := 2049) rfl rfl, TBm (i := 141) rfl rfl, by decide, by decide +kernel⟩
set_option maxRecDepth 100000 in
theorem yv_X11_best : YV yX11_best cX11_best 8 (some .int) 3 := ⟨yw_X11_best, TBm (i := 2047) rfl rfl, TBm (i := 2048) rfl rfl⟩
set_option maxRecDepth 100000 in
theorem yw_X11_nearestTo : YW yX11_nearestTo cX11_nearestTo 4 (some .int) 1 := ⟨TBm (i := 2057) rfl rfl, TBm (i := 141) rfl rfl, by decide, by decide +kernel⟩
set_option maxRecDepth 100000 in
theorem yv_X11_nearestTo : YV yX11_nearestTo cX11_nearestTo 4 (some .int) 1 := ⟨yw_X11_nearestTo, TBm (i := 2056) rfl rfl, TBm (i := 118) rfl rfl⟩
set_option maxRecDepth 100000 in
theorem yw_X11_nearest : YW yX11_nearest cX11_nearest 3 (some .int) 2 := ⟨TBm (i := 2053) rfl rfl, TBm (i := 141) rfl rfl, by decide, by decide +kernel⟩
set_option maxRecDepth 100000 in
theorem yv_X11_nearest : YV yX11_nearest cX11_nearest 3 (some .int) 2 := ⟨yw_X11_nearest, TBm (i := 2051) rfl rfl, TBm (i := 2052) rfl rfl⟩
set_option maxRecDepth 100000 in
theorem yw_X11_served : YW yX11_served cX11_served 5 (some .int) 2 := ⟨TBm (i := 2061) rfl rfl, TBm (i := 141) rfl rfl, by decide, by decide +kernel⟩
set_option maxRecDepth 100000 in
theorem yv_X11_served : YV yX11_served cX11_served 5 (some .int) 2 := ⟨yw_X11_served, TBm (i := 2059) rfl rfl, TBm (i := 2060) rfl rfl⟩
set_option maxRecDepth 100000 in
theorem yw_X11_fits : YW yX11_fits cX11_fits 3 (some .int) 1 := ⟨TBm (i := 2065) rfl rfl, TBm (i := 141) rfl rfl, by decide, by decide +kernel⟩
set_option maxRecDepth 100000 in
theorem yv_X11_fits : YV yX11_fits cX11_fits 3 (some .int) 1 := ⟨yw_X11_fits, TBm (i := 2063) rfl rfl, TBm (i := 2064) rfl rfl⟩
set_option maxRecDepth 100000 in
theorem yw_X11_scale : YW yX11_scale cX11_scale 3 (some .int) 1 := ⟨TBm (i := 2069) rfl rfl, TBm (i := 141) rfl rfl, by decide, by decide +kernel⟩
set_option maxRecDepth 100000 in
theorem yv_X11_scale : YV yX11_scale cX11_scale 3 (some .int) 1 := ⟨yw_X11_scale, TBm (i := 2067) rfl rfl, TBm (i := 2068) rfl rfl⟩
set_option maxRecDepth 100000 in
theorem yw_X11_picks : YW yX11_picks cX11_picks 2 none 1 := ⟨TBm (i := 2081) rfl rfl, TBm (i := 141) rfl rfl, by decide, by decide +kernel⟩
set_option maxRecDepth 100000 in
theorem yv_X11_picks : YV yX11_picks cX11_picks 2 none 1 := ⟨yw_X11_picks, TBm (i := 2080) rfl rfl, TBm (i := 120) rfl rfl⟩
set_option maxRecDepth 100000 in
theorem yw_X11_pickedAt : YW yX11_pickedAt cX11_pickedAt 2 (some .int) 1 := ⟨TBm (i := 2085) rfl rfl, TBm (i := 141) rfl rfl, by decide, by decide +kernel⟩
set_option maxRecDepth 100000 in
theorem yv_X11_pickedAt : YV yX11_pickedAt cX11_pickedAt 2 (some .int) 1 := ⟨yw_X11_pickedAt, TBm (i := 2084) rfl rfl, TBm (i := 121) rfl rfl⟩
set_option maxRecDepth 100000 in
theorem yw_X11_isAway : YW yX11_isAway cX11_isAway 4 (some .boolean) 2 := ⟨TBm (i := 2077) rfl rfl, TBm (i := 141) rfl rfl, by decide, by decide +kernel⟩
set_option maxRecDepth 100000 in
theorem yv_X11_isAway : YV yX11_isAway cX11_isAway 4 (some .boolean) 2 := ⟨yw_X11_isAway, TBm (i := 2076) rfl rfl, TBm (i := 119) rfl rfl⟩
set_option maxRecDepth 100000 in
theorem yw_X11_thinned : YW yX11_thinned cX11_thinned 5 (some .int) 3 := ⟨TBm (i := 2073) rfl rfl, TBm (i := 141) rfl rfl, by decide, by decide +kernel⟩
set_option maxRecDepth 100000 in
theorem yv_X11_thinned : YV yX11_thinned cX11_thinned 5 (some .int) 3 := ⟨yw_X11_thinned, TBm (i := 2071) rfl rfl, TBm (i := 2072) rfl rfl⟩
set_option maxRecDepth 100000 in
theorem yw_X11_tours : YW yX11_tours cX11_tours 5 none 1 := ⟨TBm (i := 2093) rfl rfl, TBm (i := 141) rfl rfl, by decide, by decide +kernel⟩
set_option maxRecDepth 100000 in
theorem yv_X11_tours : YV yX11_tours cX11_tours 5 none 1 := ⟨yw_X11_tours, TBm (i := 2092) rfl rfl, TBm (i := 122) rfl rfl⟩
set_option maxRecDepth 100000 in
theorem yw_X11_tour : YW yX11_tour cX11_tour 3 (some .int) 2 := ⟨TBm (i := 2089) rfl rfl, TBm (i := 141) rfl rfl, by decide, by decide +kernel⟩
set_option maxRecDepth 100000 in
theorem yv_X11_tour : YV yX11_tour cX11_tour 3 (some .int) 2 := ⟨yw_X11_tour, TBm (i := 2087) rfl rfl, TBm (i := 2088) rfl rfl⟩
set_option maxRecDepth 100000 in
theorem yw_X11_way : YW yX11_way cX11_way 2 (some .int) 1 := ⟨TBm (i := 2097) rfl rfl, TBm (i := 141) rfl rfl, by decide, by decide +kernel⟩
set_option maxRecDepth 100000 in
theorem yv_X11_way : YV yX11_way cX11_way 2 (some .int) 1 := ⟨yw_X11_way, TBm (i := 2095) rfl rfl, TBm (i := 2096) rfl rfl⟩
set_option maxRecDepth 100000 in
theorem yw_X11_hand : YW yX11_hand cX11_hand 5 (some .int) 3 := ⟨TBm (i := 2109) rfl rfl, TBm (i := 141) rfl rfl, by decide, by decide +kernel⟩
set_option maxRecDepth 100000 in
theorem yv_X11_hand : YV yX11_hand cX11_hand 5 (some .int) 3 := ⟨yw_X11_hand, TBm (i := 2108) rfl rfl, TBm (i := 124) rfl rfl⟩
set_option maxRecDepth 100000 in
theorem yw_X11_hulls : YW yX11_hulls cX11_hulls 7 none 1 := ⟨TBm (i := 2105) rfl rfl, TBm (i := 141) rfl rfl, by decide, by decide +kernel⟩
set_option maxRecDepth 100000 in
theorem yv_X11_hulls : YV yX11_hulls cX11_hulls 7 none 1 := ⟨yw_X11_hulls, TBm (i := 2104) rfl rfl, TBm (i := 123) rfl rfl⟩
set_option maxRecDepth 100000 in
theorem yw_X11_hull : YW yX11_hull cX11_hull 3 (some .int) 2 := ⟨TBm (i := 2101) rfl rfl, TBm (i := 141) rfl rfl, by decide, by decide +kernel⟩
set_option maxRecDepth 100000 in
theorem yv_X11_hull : YV yX11_hull cX11_hull 3 (some .int) 2 := ⟨yw_X11_hull, TBm (i := 2099) rfl rfl, TBm (i := 2100) rfl rfl⟩
set_option maxRecDepth 100000 in
theorem yw_X11_area : YW yX11_area cX11_area 4 (some .int) 1 := ⟨TBm (i := 2113) rfl rfl, TBm (i := 141) rfl rfl, by decide, by decide +kernel⟩
set_option maxRecDepth 100000 in
theorem yv_X11_area : YV yX11_area cX11_area 4 (some .int) 1 := ⟨yw_X11_area, TBm (i := 2111) rfl rfl, TBm (i := 2112) rfl rfl⟩
set_option maxRecDepth 100000 in
theorem yw_X11_middle : YW yX11_middle cX11_middle 10 (some .int) 2 := ⟨TBm (i := 2117) rfl rfl, TBm (i := 141) rfl rfl, by decide, by decide +kernel⟩
set_option maxRecDepth 100000 in
theorem yv_X11_middle : YV yX11_middle cX11_middle 10 (some .int) 2 := ⟨yw_X11_middle, TBm (i := 2115) rfl rfl, TBm (i := 2116) rfl rfl⟩
set_option maxRecDepth 100000 in
theorem yw_X11_line_ : YW yX11_line_ cX11_line_ 6 (some .int) 3 := ⟨TBm (i := 2121) rfl rfl, TBm (i := 141) rfl rfl, by decide, by decide +kernel⟩
set_option maxRecDepth 100000 in
theorem yv_X11_line_ : YV yX11_line_ cX11_line_ 6 (some .int) 3 := ⟨yw_X11_line_, TBm (i := 2119) rfl rfl, TBm (i := 2120) rfl rfl⟩
set_option maxRecDepth 100000 in
theorem yw_X11_keepsAll : YW yX11_keepsAll cX11_keepsAll 2 none 0 := ⟨TBm (i := 2013) rfl rfl, TBm (i := 141) rfl rfl, by decide, by decide +kernel⟩
set_option maxRecDepth 100000 in
theorem yv_X11_keepsAll : YV yX11_keepsAll cX11_keepsAll 2 none 0 := ⟨yw_X11_keepsAll, TBm (i := 2012) rfl rfl, TBm (i := 112) rfl rfl⟩
set_option maxRecDepth 100000 in
theorem yw_X11_bringsBack : YW yX11_bringsBack cX11_bringsBack 2 none 0 := ⟨TBm (i := 2017) rfl rfl, TBm (i := 141) rfl rfl, by decide, by decide +kernel⟩
set_option maxRecDepth 100000 in
theorem yv_X11_bringsBack : YV yX11_bringsBack cX11_bringsBack 2 none 0 := ⟨yw_X11_bringsBack, TBm (i := 2016) rfl rfl, TBm (i := 113) rfl rfl⟩
set_option maxRecDepth 100000 in
theorem yw_X11_joined : YW yX11_joined cX11_joined 6 (some .int) 3 := ⟨TBm (i := 2125) rfl rfl, TBm (i := 141) rfl rfl, by decide, by decide +kernel⟩
set_option maxRecDepth 100000 in
theorem yv_X11_joined : YV yX11_joined cX11_joined 6 (some .int) 3 := ⟨yw_X11_joined, TBm (i := 2123) rfl rfl, TBm (i := 2124) rfl rfl⟩
set_option maxRecDepth 100000 in
theorem yw_X11_says : YW yX11_says cX11_says 2 none 1 := ⟨TBm (i := 2138) rfl rfl, TBm (i := 141) rfl rfl, by decide, by decide +kernel⟩
set_option maxRecDepth 100000 in
theorem yv_X11_says : YV yX11_says cX11_says 2 none 1 := ⟨yw_X11_says, TBm (i := 2137) rfl rfl, TBm (i := 126) rfl rfl⟩
set_option maxRecDepth 100000 in
theorem yw_X11_saysWord : YW yX11_saysWord cX11_saysWord 3 none 1 := ⟨TBm (i := 2134) rfl rfl, TBm (i := 141) rfl rfl, by decide, by decide +kernel⟩
set_option maxRecDepth 100000 in
theorem yv_X11_saysWord : YV yX11_saysWord cX11_saysWord 3 none 1 := ⟨yw_X11_saysWord, TBm (i := 2133) rfl rfl, TBm (i := 125) rfl rfl⟩
set_option maxRecDepth 100000 in
theorem yw_X11_saysNumber : YW yX11_saysNumber cX11_saysNumber 2 none 1 := ⟨TBm (i := 2142) rfl rfl, TBm (i := 141) rfl rfl, by decide, by decide +kernel⟩
set_option maxRecDepth 100000 in
theorem yv_X11_saysNumber : YV yX11_saysNumber cX11_saysNumber 2 none 1 := ⟨yw_X11_saysNumber, TBm (i := 2141) rfl rfl, TBm (i := 127) rfl rfl⟩
set_option maxRecDepth 100000 in
theorem yw_X11_write : YW yX11_write cX11_write 6 (some .int) 1 := ⟨TBm (i := 2129) rfl rfl, TBm (i := 141) rfl rfl, by decide, by decide +kernel⟩
set_option maxRecDepth 100000 in
theorem yv_X11_write : YV yX11_write cX11_write 6 (some .int) 1 := ⟨yw_X11_write, TBm (i := 2127) rfl rfl, TBm (i := 2128) rfl rfl⟩
set_option maxRecDepth 100000 in
theorem yw_X11_octet : YW yX11_octet cX11_octet 2 (some .int) 1 := ⟨TBm (i := 2148) rfl rfl, TBm (i := 141) rfl rfl, by decide, by decide +kernel⟩
set_option maxRecDepth 100000 in
theorem yv_X11_octet : YV yX11_octet cX11_octet 2 (some .int) 1 := ⟨yw_X11_octet, TBm (i := 2146) rfl rfl, TBm (i := 2147) rfl rfl⟩
set_option maxRecDepth 100000 in
theorem yw_X11_cellsOf : YW yX11_cellsOf cX11_cellsOf 4 (some .int) 1 := ⟨TBm (i := 2156) rfl rfl, TBm (i := 141) rfl rfl, by decide, by decide +kernel⟩
set_option maxRecDepth 100000 in
theorem yv_X11_cellsOf : YV yX11_cellsOf cX11_cellsOf 4 (some .int) 1 := ⟨yw_X11_cellsOf, TBm (i := 2155) rfl rfl, TBm (i := 128) rfl rfl⟩
set_option maxRecDepth 100000 in
theorem yw_X11_count : YW yX11_count cX11_count 5 (some .int) 1 := ⟨TBm (i := 2152) rfl rfl, TBm (i := 141) rfl rfl, by decide, by decide +kernel⟩
set_option maxRecDepth 100000 in
theorem yv_X11_count : YV yX11_count cX11_count 5 (some .int) 1 := ⟨yw_X11_count, TBm (i := 2150) rfl rfl, TBm (i := 2151) rfl rfl⟩
set_option maxRecDepth 100000 in
theorem yw_J9_max_7cf53 : YW yJ9_max_7cf53 cJ9_max_7cf53 2 (some .int) 2 := ⟨TBm (i := 1291) rfl rfl, TBm (i := 154) rfl rfl, by decide, by decide +kernel⟩
set_option maxRecDepth 100000 in
theorem ys_J9_max_7cf53 : YS yJ9_max_7cf53 cJ9_max_7cf53 2 (some .int) 2 := ⟨yw_J9_max_7cf53, TBm (i := 1290) rfl rfl⟩
set_option maxRecDepth 100000 in
theorem yw_J9_min_7cf53 : YW yJ9_min_7cf53 cJ9_min_7cf53 2 (some .int) 2 := ⟨TBm (i := 1113) rfl rfl, TBm (i := 154) rfl rfl, by decide, by decide +kernel⟩
set_option maxRecDepth 100000 in
theorem ys_J9_min_7cf53 : YS yJ9_min_7cf53 cJ9_min_7cf53 2 (some .int) 2 := ⟨yw_J9_min_7cf53, TBm (i := 1112) rfl rfl⟩
set_option maxRecDepth 100000 in
theorem yw_J0_length_8abf5 : YW yJ0_length_8abf5 cJ0_length_8abf5 1 (some .int) 0 := ⟨TBm (i := 663) rfl rfl, TBm (i := 142) rfl rfl, by decide, by decide +kernel⟩
set_option maxRecDepth 100000 in
theorem yv_J0_length_8abf5 : YV yJ0_length_8abf5 cJ0_length_8abf5 1 (some .int) 0 := ⟨yw_J0_length_8abf5, TBm (i := 661) rfl rfl, TBm (i := 662) rfl rfl⟩
set_option maxRecDepth 100000 in
theorem yw_J0_charAt_5068e : YW yJ0_charAt_5068e cJ0_charAt_5068e 2 (some .char) 1 := ⟨TBm (i := 673) rfl rfl, TBm (i := 142) rfl rfl, by decide, by decide +kernel⟩
set_option maxRecDepth 100000 in
theorem yv_J0_charAt_5068e : YV yJ0_charAt_5068e cJ0_charAt_5068e 2 (some .char) 1 := ⟨yw_J0_charAt_5068e, TBm (i := 671) rfl rfl, TBm (i := 672) rfl rfl⟩
set_option maxRecDepth 100000 in
theorem yw_J0_coder_7d493 : YW yJ0_coder_7d493 cJ0_coder_7d493 1 (some .byte) 0 := ⟨TBm (i := 667) rfl rfl, TBm (i := 142) rfl rfl, by decide, by decide +kernel⟩
set_option maxRecDepth 100000 in
theorem yv_J0_coder_7d493 : YV yJ0_coder_7d493 cJ0_coder_7d493 1 (some .byte) 0 := ⟨yw_J0_coder_7d493, TBm (i := 665) rfl rfl, TBm (i := 666) rfl rfl⟩
set_option maxRecDepth 100000 in
theorem yw_J0_isLatin1_aae02 : YW yJ0_isLatin1_aae02 cJ0_isLatin1_aae02 1 (some .boolean) 0 := ⟨TBm (i := 677) rfl rfl, TBm (i := 142) rfl rfl, by decide, by decide +kernel⟩
set_option maxRecDepth 100000 in
theorem yv_J0_isLatin1_aae02 : YV yJ0_isLatin1_aae02 cJ0_isLatin1_aae02 1 (some .boolean) 0 := ⟨yw_J0_isLatin1_aae02, TBm (i := 675) rfl rfl, TBm (i := 676) rfl rfl⟩
set_option maxRecDepth 100000 in
theorem yw_J0_checkIndex_df160 : YW yJ0_checkIndex_df160 cJ0_checkIndex_df160 2 none 2 := ⟨TBm (i := 683) rfl rfl, TBm (i := 142) rfl rfl, by decide, by decide +kernel⟩
set_option maxRecDepth 100000 in
theorem ys_J0_checkIndex_df160 : YS yJ0_checkIndex_df160 cJ0_checkIndex_df160 2 none 2 := ⟨yw_J0_checkIndex_df160, TBm (i := 682) rfl rfl⟩
set_option maxRecDepth 100000 in
theorem yw_J1_charAt_3b067 : YW yJ1_charAt_3b067 cJ1_charAt_3b067 2 (some .char) 2 := ⟨TBm (i := 680) rfl rfl, TBm (i := 143) rfl rfl, by decide, by decide +kernel⟩
set_option maxRecDepth 100000 in
theorem ys_J1_charAt_3b067 : YS yJ1_charAt_3b067 cJ1_charAt_3b067 2 (some .char) 2 := ⟨yw_J1_charAt_3b067, TBm (i := 679) rfl rfl⟩
set_option maxRecDepth 100000 in
theorem yw_J7_fill_53178 : YW yJ7_fill_53178 cJ7_fill_53178 4 none 2 := ⟨TBm (i := 550) rfl rfl, TBm (i := 153) rfl rfl, by decide, by decide +kernel⟩
set_option maxRecDepth 100000 in
theorem ys_J7_fill_53178 : YS yJ7_fill_53178 cJ7_fill_53178 4 none 2 := ⟨yw_J7_fill_53178, TBm (i := 549) rfl rfl⟩
set_option maxRecDepth 100000 in
theorem yw_J3_checkIndex_8e157 : YW yJ3_checkIndex_8e157 cJ3_checkIndex_8e157 3 (some .int) 3 := ⟨TBm (i := 688) rfl rfl, TBm (i := 144) rfl rfl, by decide, by decide +kernel⟩
set_option maxRecDepth 100000 in
theorem ys_J3_checkIndex_8e157 : YS yJ3_checkIndex_8e157 cJ3_checkIndex_8e157 3 (some .int) 3 := ⟨yw_J3_checkIndex_8e157, TBm (i := 687) rfl rfl⟩
set_option maxRecDepth 100000 in
theorem ml_L_133 : Cond.methodLink RL 133 yX10_init ∈ TB := TBm (i := 157) rfl rfl
set_option maxRecDepth 100000 in
theorem ml_L_137 : Cond.methodLink RL 137 yX10_feed ∈ TB := TBm (i := 516) rfl rfl
set_option maxRecDepth 100000 in
theorem ml_X10_54 : Cond.methodLink RX10 54 yX9_takeBytes ∈ TB := TBm (i := 520) rfl rfl
set_option maxRecDepth 100000 in
theorem ml_L_141 : Cond.methodLink RL 141 yX10_end ∈ TB := TBm (i := 524) rfl rfl
set_option maxRecDepth 100000 in
theorem ml_L_155 : Cond.methodLink RL 155 yX10_fault ∈ TB := TBm (i := 528) rfl rfl
set_option maxRecDepth 100000 in
theorem ml_L_270 : Cond.methodLink RL 270 yX10_fits ∈ TB := TBm (i := 532) rfl rfl
set_option maxRecDepth 100000 in
theorem ml_X10_172 : Cond.methodLink RX10 172 yX5_tallied ∈ TB := TBm (i := 536) rfl rfl
set_option maxRecDepth 100000 in
theorem ml_X5_50 : Cond.methodLink RX5 50 yX8_reckon ∈ TB := TBm (i := 540) rfl rfl
set_option maxRecDepth 100000 in
theorem ml_X8_39 : Cond.methodLink RX8 39 yX8_countLand ∈ TB := TBm (i := 544) rfl rfl
set_option maxRecDepth 100000 in
theorem ml_X8_47 : Cond.methodLink RX8 47 yJ7_fill_53178 ∈ TB := TBm (i := 548) rfl rfl
set_option maxRecDepth 100000 in
theorem ml_X8_53 : Cond.methodLink RX8 53 yX1_cells ∈ TB := TBm (i := 551) rfl rfl
set_option maxRecDepth 100000 in
theorem ml_X8_57 : Cond.methodLink RX8 57 yX1_isLand ∈ TB := TBm (i := 555) rfl rfl
set_option maxRecDepth 100000 in
theorem ml_X8_43 : Cond.methodLink RX8 43 yX8_share ∈ TB := TBm (i := 559) rfl rfl
set_option maxRecDepth 100000 in
theorem ml_X8_64 : Cond.methodLink RX8 64 yX8_placeOf ∈ TB := TBm (i := 563) rfl rfl
set_option maxRecDepth 100000 in
theorem ml_X8_68 : Cond.methodLink RX8 68 yX1_livingIn ∈ TB := TBm (i := 566) rfl rfl
set_option maxRecDepth 100000 in
theorem ml_X8_72 : Cond.methodLink RX8 72 yX8_dotsOf ∈ TB := TBm (i := 570) rfl rfl
set_option maxRecDepth 100000 in
theorem ml_X10_329 : Cond.methodLink RX10 329 yX8_sumWithUnit ∈ TB := TBm (i := 574) rfl rfl
set_option maxRecDepth 100000 in
theorem ml_L_274 : Cond.methodLink RL 274 yX10_scale ∈ TB := TBm (i := 578) rfl rfl
set_option maxRecDepth 100000 in
theorem ml_X10_209 : Cond.methodLink RX10 209 yX8_sumOfLevel ∈ TB := TBm (i := 582) rfl rfl
set_option maxRecDepth 100000 in
theorem ml_X8_75 : Cond.methodLink RX8 75 yX8_sumOfGroup ∈ TB := TBm (i := 586) rfl rfl
set_option maxRecDepth 100000 in
theorem ml_L_281 : Cond.methodLink RL 281 yX10_octet ∈ TB := TBm (i := 590) rfl rfl
set_option maxRecDepth 100000 in
theorem ml_L_285 : Cond.methodLink RL 285 yX10_count ∈ TB := TBm (i := 594) rfl rfl
set_option maxRecDepth 100000 in
theorem ml_X10_339 : Cond.methodLink RX10 339 yX1_seaCells ∈ TB := TBm (i := 598) rfl rfl
set_option maxRecDepth 100000 in
theorem ml_X1_55 : Cond.methodLink RX1 55 yX1_cells ∈ TB := TBm (i := 602) rfl rfl
set_option maxRecDepth 100000 in
theorem ml_X10_342 : Cond.methodLink RX10 342 yX1_landCells ∈ TB := TBm (i := 603) rfl rfl
set_option maxRecDepth 100000 in
theorem ml_X1_67 : Cond.methodLink RX1 67 yX1_isLand ∈ TB := TBm (i := 607) rfl rfl
set_option maxRecDepth 100000 in
theorem ml_X10_345 : Cond.methodLink RX10 345 yX1_freeCells ∈ TB := TBm (i := 608) rfl rfl
set_option maxRecDepth 100000 in
theorem ml_X1_82 : Cond.methodLink RX1 82 yX1_seaCells ∈ TB := TBm (i := 612) rfl rfl
set_option maxRecDepth 100000 in
theorem ml_X1_85 : Cond.methodLink RX1 85 yX1_landCells ∈ TB := TBm (i := 613) rfl rfl
set_option maxRecDepth 100000 in
theorem ml_X10_348 : Cond.methodLink RX10 348 yX1_everybody ∈ TB := TBm (i := 614) rfl rfl
set_option maxRecDepth 100000 in
theorem ml_X1_88 : Cond.methodLink RX1 88 yX1_livingIn ∈ TB := TBm (i := 618) rfl rfl
set_option maxRecDepth 100000 in
theorem ml_L_146 : Cond.methodLink RL 146 yL_read ∈ TB := TBm (i := 619) rfl rfl
set_option maxRecDepth 100000 in
theorem ml_L_7 : Cond.methodLink RL 7 yX10_read ∈ TB := TBm (i := 623) rfl rfl
set_option maxRecDepth 100000 in
theorem ml_X10_58 : Cond.methodLink RX10 58 yX9_useUp ∈ TB := TBm (i := 627) rfl rfl
set_option maxRecDepth 100000 in
theorem ml_X9_48 : Cond.methodLink RX9 48 yX1_clear ∈ TB := TBm (i := 631) rfl rfl
set_option maxRecDepth 100000 in
theorem ml_X9_51 : Cond.methodLink RX9 51 yX9_readSize ∈ TB := TBm (i := 635) rfl rfl
set_option maxRecDepth 100000 in
theorem ml_X9_63 : Cond.methodLink RX9 63 yX9_readKeyword ∈ TB := TBm (i := 640) rfl rfl
set_option maxRecDepth 100000 in
theorem ml_X9_79 : Cond.methodLink RX9 79 yX9_readWord ∈ TB := TBm (i := 644) rfl rfl
set_option maxRecDepth 100000 in
theorem ml_X9_55 : Cond.methodLink RX9 55 yX9_skipBlanks ∈ TB := TBm (i := 648) rfl rfl
set_option maxRecDepth 100000 in
theorem ml_X9_110 : Cond.methodLink RX9 110 yX9_failAt ∈ TB := TBm (i := 652) rfl rfl
set_option maxRecDepth 100000 in
theorem ml_X9_84 : Cond.methodLink RX9 84 yX9_wordIs ∈ TB := TBm (i := 656) rfl rfl
set_option maxRecDepth 100000 in
theorem ml_X9_171 : Cond.methodLink RX9 171 yJ0_length_8abf5 ∈ TB := TBm (i := 660) rfl rfl
set_option maxRecDepth 100000 in
theorem ml_J0_335 : Cond.methodLink RJ0 335 yJ0_coder_7d493 ∈ TB := TBm (i := 664) rfl rfl
set_option maxRecDepth 100000 in
theorem ml_X9_175 : Cond.methodLink RX9 175 yJ0_charAt_5068e ∈ TB := TBm (i := 670) rfl rfl
set_option maxRecDepth 100000 in
theorem ml_J0_492 : Cond.methodLink RJ0 492 yJ0_isLatin1_aae02 ∈ TB := TBm (i := 674) rfl rfl
set_option maxRecDepth 100000 in
theorem ml_J0_495 : Cond.methodLink RJ0 495 yJ1_charAt_3b067 ∈ TB := TBm (i := 678) rfl rfl
set_option maxRecDepth 100000 in
theorem ml_J1_9 : Cond.methodLink RJ1 9 yJ0_checkIndex_df160 ∈ TB := TBm (i := 681) rfl rfl
set_option maxRecDepth 100000 in
theorem ml_J0_1059 : Cond.methodLink RJ0 1059 yJ3_checkIndex_8e157 ∈ TB := TBm (i := 686) rfl rfl
set_option maxRecDepth 100000 in
theorem ml_J0_498 : Cond.methodLink RJ0 498 yJ2_charAt_3b067 ∈ TB := TBm (i := 689) rfl rfl
set_option maxRecDepth 100000 in
theorem ml_X9_67 : Cond.methodLink RX9 67 yX9_readNumber ∈ TB := TBm (i := 708) rfl rfl
set_option maxRecDepth 100000 in
theorem ml_X9_71 : Cond.methodLink RX9 71 yX1_shape ∈ TB := TBm (i := 712) rfl rfl
set_option maxRecDepth 100000 in
theorem ml_X9_75 : Cond.methodLink RX9 75 yX9_readSign ∈ TB := TBm (i := 716) rfl rfl
set_option maxRecDepth 100000 in
theorem ml_X9_150 : Cond.methodLink RX9 150 yX9_nextIs ∈ TB := TBm (i := 720) rfl rfl
set_option maxRecDepth 100000 in
theorem ml_X9_58 : Cond.methodLink RX9 58 yX9_readLine ∈ TB := TBm (i := 724) rfl rfl
set_option maxRecDepth 100000 in
theorem ml_X9_87 : Cond.methodLink RX9 87 yX9_readGroups ∈ TB := TBm (i := 729) rfl rfl
set_option maxRecDepth 100000 in
theorem ml_X9_92 : Cond.methodLink RX9 92 yX9_readZone ∈ TB := TBm (i := 734) rfl rfl
set_option maxRecDepth 100000 in
theorem ml_X9_118 : Cond.methodLink RX9 118 yX9_isReserved ∈ TB := TBm (i := 738) rfl rfl
set_option maxRecDepth 100000 in
theorem ml_X9_100 : Cond.methodLink RX9 100 yX9_zoneNamed ∈ TB := TBm (i := 745) rfl rfl
set_option maxRecDepth 100000 in
theorem ml_X9_168 : Cond.methodLink RX9 168 yX9_wordIsNameOf ∈ TB := TBm (i := 749) rfl rfl
set_option maxRecDepth 100000 in
theorem ml_X9_136 : Cond.methodLink RX9 136 yX9_readPeople ∈ TB := TBm (i := 756) rfl rfl
set_option maxRecDepth 100000 in
theorem ml_X9_140 : Cond.methodLink RX9 140 yX1_settle ∈ TB := TBm (i := 761) rfl rfl
set_option maxRecDepth 100000 in
theorem ml_X9_97 : Cond.methodLink RX9 97 yX9_readToldName ∈ TB := TBm (i := 766) rfl rfl
set_option maxRecDepth 100000 in
theorem ml_X9_104 : Cond.methodLink RX9 104 yX9_readRuns ∈ TB := TBm (i := 770) rfl rfl
set_option maxRecDepth 100000 in
theorem ml_X9_147 : Cond.methodLink RX9 147 yX9_readRun ∈ TB := TBm (i := 774) rfl rfl
set_option maxRecDepth 100000 in
theorem ml_X9_156 : Cond.methodLink RX9 156 yX9_isOfAnother ∈ TB := TBm (i := 778) rfl rfl
set_option maxRecDepth 100000 in
theorem ml_X9_159 : Cond.methodLink RX9 159 yX9_mark ∈ TB := TBm (i := 782) rfl rfl
set_option maxRecDepth 100000 in
theorem ml_X10_76 : Cond.methodLink RX10 76 yX1_copyFrom ∈ TB := TBm (i := 853) rfl rfl
set_option maxRecDepth 100000 in
theorem ml_X10_82 : Cond.methodLink RX10 82 yX5_mapChanged ∈ TB := TBm (i := 858) rfl rfl
set_option maxRecDepth 100000 in
theorem ml_X5_83 : Cond.methodLink RX5 83 yX6_forgetAll ∈ TB := TBm (i := 862) rfl rfl
set_option maxRecDepth 100000 in
theorem ml_X6_46 : Cond.methodLink RX6 46 yX6_forget ∈ TB := TBm (i := 866) rfl rfl
set_option maxRecDepth 100000 in
theorem ml_X5_80 : Cond.methodLink RX5 80 yX5_numbersChanged ∈ TB := TBm (i := 870) rfl rfl
set_option maxRecDepth 100000 in
theorem ml_X5_74 : Cond.methodLink RX5 74 yX2_forget ∈ TB := TBm (i := 874) rfl rfl
set_option maxRecDepth 100000 in
theorem ml_X10_85 : Cond.methodLink RX10 85 yX4_forget ∈ TB := TBm (i := 878) rfl rfl
set_option maxRecDepth 100000 in
theorem ml_L_159 : Cond.methodLink RL 159 yL_cell ∈ TB := TBm (i := 882) rfl rfl
set_option maxRecDepth 100000 in
theorem ml_L_15 : Cond.methodLink RL 15 yX10_cell ∈ TB := TBm (i := 887) rfl rfl
set_option maxRecDepth 100000 in
theorem ml_X10_91 : Cond.methodLink RX10 91 yX10_needCell ∈ TB := TBm (i := 891) rfl rfl
set_option maxRecDepth 100000 in
theorem ml_X10_351 : Cond.methodLink RX10 351 yX1_cells ∈ TB := TBm (i := 895) rfl rfl
set_option maxRecDepth 100000 in
theorem ml_L_163 : Cond.methodLink RL 163 yL_zone ∈ TB := TBm (i := 928) rfl rfl
set_option maxRecDepth 100000 in
theorem ml_L_23 : Cond.methodLink RL 23 yX10_zone ∈ TB := TBm (i := 931) rfl rfl
set_option maxRecDepth 100000 in
theorem ml_X10_107 : Cond.methodLink RX10 107 yX10_needZone ∈ TB := TBm (i := 935) rfl rfl
set_option maxRecDepth 100000 in
theorem ml_X10_110 : Cond.methodLink RX10 110 yX1_cellsOf ∈ TB := TBm (i := 940) rfl rfl
set_option maxRecDepth 100000 in
theorem ml_X10_114 : Cond.methodLink RX10 114 yX1_landOf ∈ TB := TBm (i := 944) rfl rfl
set_option maxRecDepth 100000 in
theorem ml_X1_59 : Cond.methodLink RX1 59 yX1_isLandOf ∈ TB := TBm (i := 948) rfl rfl
set_option maxRecDepth 100000 in
theorem ml_X10_117 : Cond.methodLink RX10 117 yX3_find ∈ TB := TBm (i := 952) rfl rfl
set_option maxRecDepth 100000 in
theorem ml_X3_25 : Cond.methodLink RX3 25 yJ7_fill_53178 ∈ TB := TBm (i := 956) rfl rfl
set_option maxRecDepth 100000 in
theorem ml_X3_31 : Cond.methodLink RX3 31 yX1_cells ∈ TB := TBm (i := 957) rfl rfl
set_option maxRecDepth 100000 in
theorem ml_X3_37 : Cond.methodLink RX3 37 yX1_isLandOf ∈ TB := TBm (i := 958) rfl rfl
set_option maxRecDepth 100000 in
theorem ml_X3_41 : Cond.methodLink RX3 41 yX3_fill ∈ TB := TBm (i := 959) rfl rfl
set_option maxRecDepth 100000 in
theorem ml_X3_44 : Cond.methodLink RX3 44 yX3_reach ∈ TB := TBm (i := 963) rfl rfl
set_option maxRecDepth 100000 in
theorem ml_X3_48 : Cond.methodLink RX3 48 yX1_beside ∈ TB := TBm (i := 967) rfl rfl
set_option maxRecDepth 100000 in
theorem ml_X10_124 : Cond.methodLink RX10 124 yX1_shoreOf ∈ TB := TBm (i := 971) rfl rfl
set_option maxRecDepth 100000 in
theorem ml_X1_63 : Cond.methodLink RX1 63 yX1_beside ∈ TB := TBm (i := 975) rfl rfl
set_option maxRecDepth 100000 in
theorem ml_X10_127 : Cond.methodLink RX10 127 yX1_borderOf ∈ TB := TBm (i := 976) rfl rfl
set_option maxRecDepth 100000 in
theorem ml_X10_130 : Cond.methodLink RX10 130 yX1_allRunsOf ∈ TB := TBm (i := 980) rfl rfl
set_option maxRecDepth 100000 in
theorem ml_X1_75 : Cond.methodLink RX1 75 yX1_runsOf ∈ TB := TBm (i := 984) rfl rfl
set_option maxRecDepth 100000 in
theorem ml_X1_71 : Cond.methodLink RX1 71 yX1_startsRun ∈ TB := TBm (i := 988) rfl rfl
set_option maxRecDepth 100000 in
theorem ml_L_166 : Cond.methodLink RL 166 yL_name ∈ TB := TBm (i := 993) rfl rfl
set_option maxRecDepth 100000 in
theorem ml_L_26 : Cond.methodLink RL 26 yX10_name ∈ TB := TBm (i := 996) rfl rfl
set_option maxRecDepth 100000 in
theorem ml_L_169 : Cond.methodLink RL 169 yL_people ∈ TB := TBm (i := 1000) rfl rfl
set_option maxRecDepth 100000 in
theorem ml_L_29 : Cond.methodLink RL 29 yX10_people ∈ TB := TBm (i := 1003) rfl rfl
set_option maxRecDepth 100000 in
theorem ml_X10_142 : Cond.methodLink RX10 142 yX10_needGroup ∈ TB := TBm (i := 1007) rfl rfl
set_option maxRecDepth 100000 in
theorem ml_X10_148 : Cond.methodLink RX10 148 yX1_livingIn ∈ TB := TBm (i := 1014) rfl rfl
set_option maxRecDepth 100000 in
theorem ml_X10_152 : Cond.methodLink RX10 152 yX1_settle ∈ TB := TBm (i := 1015) rfl rfl
set_option maxRecDepth 100000 in
theorem ml_X10_156 : Cond.methodLink RX10 156 yX10_numbersChanged ∈ TB := TBm (i := 1016) rfl rfl
set_option maxRecDepth 100000 in
theorem ml_X10_372 : Cond.methodLink RX10 372 yX5_numbersChanged ∈ TB := TBm (i := 1020) rfl rfl
set_option maxRecDepth 100000 in
theorem ml_L_173 : Cond.methodLink RL 173 yL_lives ∈ TB := TBm (i := 1021) rfl rfl
set_option maxRecDepth 100000 in
theorem ml_L_33 : Cond.methodLink RL 33 yX10_lives ∈ TB := TBm (i := 1024) rfl rfl
set_option maxRecDepth 100000 in
theorem ml_L_176 : Cond.methodLink RL 176 yL_flood ∈ TB := TBm (i := 1028) rfl rfl
set_option maxRecDepth 100000 in
theorem ml_L_36 : Cond.methodLink RL 36 yX10_flood ∈ TB := TBm (i := 1031) rfl rfl
set_option maxRecDepth 100000 in
theorem ml_X10_159 : Cond.methodLink RX10 159 yX10_landChanged ∈ TB := TBm (i := 1035) rfl rfl
set_option maxRecDepth 100000 in
theorem ml_X10_247 : Cond.methodLink RX10 247 yX5_landChanged ∈ TB := TBm (i := 1039) rfl rfl
set_option maxRecDepth 100000 in
theorem ml_X5_77 : Cond.methodLink RX5 77 yX6_forget ∈ TB := TBm (i := 1043) rfl rfl
set_option maxRecDepth 100000 in
theorem ml_L_180 : Cond.methodLink RL 180 yL_unit ∈ TB := TBm (i := 1044) rfl rfl
set_option maxRecDepth 100000 in
theorem ml_L_40 : Cond.methodLink RL 40 yX10_unit ∈ TB := TBm (i := 1047) rfl rfl
set_option maxRecDepth 100000 in
theorem ml_L_184 : Cond.methodLink RL 184 yL_factor ∈ TB := TBm (i := 1052) rfl rfl
set_option maxRecDepth 100000 in
theorem ml_L_44 : Cond.methodLink RL 44 yX10_factor ∈ TB := TBm (i := 1055) rfl rfl
set_option maxRecDepth 100000 in
theorem ml_L_187 : Cond.methodLink RL 187 yL_order ∈ TB := TBm (i := 1060) rfl rfl
set_option maxRecDepth 100000 in
theorem ml_L_47 : Cond.methodLink RL 47 yX10_order ∈ TB := TBm (i := 1063) rfl rfl
set_option maxRecDepth 100000 in
theorem ml_X10_181 : Cond.methodLink RX10 181 yX5_ranked ∈ TB := TBm (i := 1067) rfl rfl
set_option maxRecDepth 100000 in
theorem ml_X5_54 : Cond.methodLink RX5 54 yX5_tallied ∈ TB := TBm (i := 1071) rfl rfl
set_option maxRecDepth 100000 in
theorem ml_X5_62 : Cond.methodLink RX5 62 yX6_renew ∈ TB := TBm (i := 1072) rfl rfl
set_option maxRecDepth 100000 in
theorem ml_X6_61 : Cond.methodLink RX6 61 yX6_rank ∈ TB := TBm (i := 1076) rfl rfl
set_option maxRecDepth 100000 in
theorem ml_X6_69 : Cond.methodLink RX6 69 yX6_gather ∈ TB := TBm (i := 1080) rfl rfl
set_option maxRecDepth 100000 in
theorem ml_X6_80 : Cond.methodLink RX6 80 yX0_clear ∈ TB := TBm (i := 1084) rfl rfl
set_option maxRecDepth 100000 in
theorem ml_X6_83 : Cond.methodLink RX6 83 yX1_cells ∈ TB := TBm (i := 1088) rfl rfl
set_option maxRecDepth 100000 in
theorem ml_X6_87 : Cond.methodLink RX6 87 yX1_isLandOf ∈ TB := TBm (i := 1089) rfl rfl
set_option maxRecDepth 100000 in
theorem ml_X6_91 : Cond.methodLink RX6 91 yX0_add ∈ TB := TBm (i := 1090) rfl rfl
set_option maxRecDepth 100000 in
theorem ml_X6_72 : Cond.methodLink RX6 72 yX6_firstOf ∈ TB := TBm (i := 1094) rfl rfl
set_option maxRecDepth 100000 in
theorem ml_X6_95 : Cond.methodLink RX6 95 yX0_pullFrom ∈ TB := TBm (i := 1098) rfl rfl
set_option maxRecDepth 100000 in
theorem ml_X6_76 : Cond.methodLink RX6 76 yX6_nextAfter ∈ TB := TBm (i := 1103) rfl rfl
set_option maxRecDepth 100000 in
theorem ml_X6_99 : Cond.methodLink RX6 99 yX1_far ∈ TB := TBm (i := 1107) rfl rfl
set_option maxRecDepth 100000 in
theorem ml_X6_103 : Cond.methodLink RX6 103 yJ9_min_7cf53 ∈ TB := TBm (i := 1111) rfl rfl
set_option maxRecDepth 100000 in
theorem ml_X6_65 : Cond.methodLink RX6 65 yX6_sort ∈ TB := TBm (i := 1114) rfl rfl
set_option maxRecDepth 100000 in
theorem ml_X6_108 : Cond.methodLink RX6 108 yX1_isLand ∈ TB := TBm (i := 1118) rfl rfl
set_option maxRecDepth 100000 in
theorem ml_X10_185 : Cond.methodLink RX10 185 yX6_cellAt ∈ TB := TBm (i := 1119) rfl rfl
set_option maxRecDepth 100000 in
theorem ml_L_190 : Cond.methodLink RL 190 yL_stands ∈ TB := TBm (i := 1123) rfl rfl
set_option maxRecDepth 100000 in
theorem ml_L_50 : Cond.methodLink RL 50 yX10_stands ∈ TB := TBm (i := 1126) rfl rfl
set_option maxRecDepth 100000 in
theorem ml_L_193 : Cond.methodLink RL 193 yL_dots ∈ TB := TBm (i := 1130) rfl rfl
set_option maxRecDepth 100000 in
theorem ml_L_53 : Cond.methodLink RL 53 yX10_dots ∈ TB := TBm (i := 1133) rfl rfl
set_option maxRecDepth 100000 in
theorem ml_X10_193 : Cond.methodLink RX10 193 yX10_needLevel ∈ TB := TBm (i := 1137) rfl rfl
set_option maxRecDepth 100000 in
theorem ml_X10_196 : Cond.methodLink RX10 196 yX8_dotsOf ∈ TB := TBm (i := 1142) rfl rfl
set_option maxRecDepth 100000 in
theorem ml_L_196 : Cond.methodLink RL 196 yL_carried ∈ TB := TBm (i := 1143) rfl rfl
set_option maxRecDepth 100000 in
theorem ml_L_56 : Cond.methodLink RL 56 yX10_carried ∈ TB := TBm (i := 1146) rfl rfl
set_option maxRecDepth 100000 in
theorem ml_X10_200 : Cond.methodLink RX10 200 yX8_broughtTo ∈ TB := TBm (i := 1150) rfl rfl
set_option maxRecDepth 100000 in
theorem ml_L_199 : Cond.methodLink RL 199 yL_left ∈ TB := TBm (i := 1154) rfl rfl
set_option maxRecDepth 100000 in
theorem ml_L_59 : Cond.methodLink RL 59 yX10_left ∈ TB := TBm (i := 1157) rfl rfl
set_option maxRecDepth 100000 in
theorem ml_X10_203 : Cond.methodLink RX10 203 yX8_restOf ∈ TB := TBm (i := 1161) rfl rfl
set_option maxRecDepth 100000 in
theorem ml_L_202 : Cond.methodLink RL 202 yL_all ∈ TB := TBm (i := 1165) rfl rfl
set_option maxRecDepth 100000 in
theorem ml_L_62 : Cond.methodLink RL 62 yX10_all ∈ TB := TBm (i := 1168) rfl rfl
set_option maxRecDepth 100000 in
theorem ml_X10_206 : Cond.methodLink RX10 206 yX10_needGroupOrNone ∈ TB := TBm (i := 1172) rfl rfl
set_option maxRecDepth 100000 in
theorem ml_X10_212 : Cond.methodLink RX10 212 yX8_sumOfGroup ∈ TB := TBm (i := 1176) rfl rfl
set_option maxRecDepth 100000 in
theorem ml_L_205 : Cond.methodLink RL 205 yL_dot ∈ TB := TBm (i := 1177) rfl rfl
set_option maxRecDepth 100000 in
theorem ml_L_65 : Cond.methodLink RL 65 yX10_dot ∈ TB := TBm (i := 1180) rfl rfl
set_option maxRecDepth 100000 in
theorem ml_L_209 : Cond.methodLink RL 209 yL_crowd ∈ TB := TBm (i := 1185) rfl rfl
set_option maxRecDepth 100000 in
theorem ml_L_69 : Cond.methodLink RL 69 yX10_crowd ∈ TB := TBm (i := 1188) rfl rfl
set_option maxRecDepth 100000 in
theorem ml_X10_220 : Cond.methodLink RX10 220 yX5_crowded ∈ TB := TBm (i := 1192) rfl rfl
set_option maxRecDepth 100000 in
theorem ml_X5_66 : Cond.methodLink RX5 66 yX2_isOf ∈ TB := TBm (i := 1196) rfl rfl
set_option maxRecDepth 100000 in
theorem ml_X5_70 : Cond.methodLink RX5 70 yX2_gather ∈ TB := TBm (i := 1200) rfl rfl
set_option maxRecDepth 100000 in
theorem ml_X2_38 : Cond.methodLink RX2 38 yX1_cells ∈ TB := TBm (i := 1204) rfl rfl
set_option maxRecDepth 100000 in
theorem ml_X2_43 : Cond.methodLink RX2 43 yJ7_fill_53178 ∈ TB := TBm (i := 1205) rfl rfl
set_option maxRecDepth 100000 in
theorem ml_X2_55 : Cond.methodLink RX2 55 yX2_stand ∈ TB := TBm (i := 1206) rfl rfl
set_option maxRecDepth 100000 in
theorem ml_X2_67 : Cond.methodLink RX2 67 yX8_dotsOf ∈ TB := TBm (i := 1210) rfl rfl
set_option maxRecDepth 100000 in
theorem ml_X2_71 : Cond.methodLink RX2 71 yX6_cellAt ∈ TB := TBm (i := 1211) rfl rfl
set_option maxRecDepth 100000 in
theorem ml_X2_59 : Cond.methodLink RX2 59 yX2_addUp ∈ TB := TBm (i := 1212) rfl rfl
set_option maxRecDepth 100000 in
theorem ml_X10_224 : Cond.methodLink RX10 224 yX2_weightOf ∈ TB := TBm (i := 1216) rfl rfl
set_option maxRecDepth 100000 in
theorem ml_L_212 : Cond.methodLink RL 212 yL_apart ∈ TB := TBm (i := 1220) rfl rfl
set_option maxRecDepth 100000 in
theorem ml_L_72 : Cond.methodLink RL 72 yX10_apart ∈ TB := TBm (i := 1223) rfl rfl
set_option maxRecDepth 100000 in
theorem ml_X10_229 : Cond.methodLink RX10 229 yX2_leastGap ∈ TB := TBm (i := 1227) rfl rfl
set_option maxRecDepth 100000 in
theorem ml_X2_85 : Cond.methodLink RX2 85 yX1_far ∈ TB := TBm (i := 1231) rfl rfl
set_option maxRecDepth 100000 in
theorem ml_L_215 : Cond.methodLink RL 215 yL_off ∈ TB := TBm (i := 1232) rfl rfl
set_option maxRecDepth 100000 in
theorem ml_L_75 : Cond.methodLink RL 75 yX10_off ∈ TB := TBm (i := 1235) rfl rfl
set_option maxRecDepth 100000 in
theorem ml_L_218 : Cond.methodLink RL 218 yL_move ∈ TB := TBm (i := 1239) rfl rfl
set_option maxRecDepth 100000 in
theorem ml_L_78 : Cond.methodLink RL 78 yX10_move ∈ TB := TBm (i := 1242) rfl rfl
set_option maxRecDepth 100000 in
theorem ml_X10_233 : Cond.methodLink RX10 233 yX10_needRow ∈ TB := TBm (i := 1246) rfl rfl
set_option maxRecDepth 100000 in
theorem ml_X10_236 : Cond.methodLink RX10 236 yX10_needEdge ∈ TB := TBm (i := 1251) rfl rfl
set_option maxRecDepth 100000 in
theorem ml_X10_319 : Cond.methodLink RX10 319 yX10_needTwo ∈ TB := TBm (i := 1255) rfl rfl
set_option maxRecDepth 100000 in
theorem ml_X10_240 : Cond.methodLink RX10 240 yX1_shift ∈ TB := TBm (i := 1261) rfl rfl
set_option maxRecDepth 100000 in
theorem ml_X1_91 : Cond.methodLink RX1 91 yX1_landOf ∈ TB := TBm (i := 1265) rfl rfl
set_option maxRecDepth 100000 in
theorem ml_X1_95 : Cond.methodLink RX1 95 yX1_settle ∈ TB := TBm (i := 1266) rfl rfl
set_option maxRecDepth 100000 in
theorem ml_L_222 : Cond.methodLink RL 222 yL_tries ∈ TB := TBm (i := 1267) rfl rfl
set_option maxRecDepth 100000 in
theorem ml_L_82 : Cond.methodLink RL 82 yX10_tries ∈ TB := TBm (i := 1270) rfl rfl
set_option maxRecDepth 100000 in
theorem ml_X10_244 : Cond.methodLink RX10 244 yX5_copyFrom ∈ TB := TBm (i := 1274) rfl rfl
set_option maxRecDepth 100000 in
theorem ml_X5_86 : Cond.methodLink RX5 86 yX1_copyFrom ∈ TB := TBm (i := 1278) rfl rfl
set_option maxRecDepth 100000 in
theorem ml_X5_90 : Cond.methodLink RX5 90 yX6_copyFrom ∈ TB := TBm (i := 1279) rfl rfl
set_option maxRecDepth 100000 in
theorem ml_X10_248 : Cond.methodLink RX10 248 yX2_moreThan ∈ TB := TBm (i := 1284) rfl rfl
set_option maxRecDepth 100000 in
theorem ml_X2_77 : Cond.methodLink RX2 77 yX2_weightOf ∈ TB := TBm (i := 1288) rfl rfl
set_option maxRecDepth 100000 in
theorem ml_X2_80 : Cond.methodLink RX2 80 yJ9_max_7cf53 ∈ TB := TBm (i := 1289) rfl rfl
set_option maxRecDepth 100000 in
theorem ml_L_226 : Cond.methodLink RL 226 yL_run ∈ TB := TBm (i := 1292) rfl rfl
set_option maxRecDepth 100000 in
theorem ml_L_86 : Cond.methodLink RL 86 yX10_run ∈ TB := TBm (i := 1295) rfl rfl
set_option maxRecDepth 100000 in
theorem ml_X10_252 : Cond.methodLink RX10 252 yX1_runsOf ∈ TB := TBm (i := 1299) rfl rfl
set_option maxRecDepth 100000 in
theorem ml_X10_255 : Cond.methodLink RX10 255 yX1_runEdge ∈ TB := TBm (i := 1300) rfl rfl
set_option maxRecDepth 100000 in
theorem ml_X1_78 : Cond.methodLink RX1 78 yX1_runEnd ∈ TB := TBm (i := 1304) rfl rfl
set_option maxRecDepth 100000 in
theorem ml_L_230 : Cond.methodLink RL 230 yL_part ∈ TB := TBm (i := 1308) rfl rfl
set_option maxRecDepth 100000 in
theorem ml_L_90 : Cond.methodLink RL 90 yX10_part ∈ TB := TBm (i := 1311) rfl rfl
set_option maxRecDepth 100000 in
theorem ml_X10_259 : Cond.methodLink RX10 259 yX1_isLand ∈ TB := TBm (i := 1315) rfl rfl
set_option maxRecDepth 100000 in
theorem ml_L_233 : Cond.methodLink RL 233 yL_measure ∈ TB := TBm (i := 1316) rfl rfl
set_option maxRecDepth 100000 in
theorem ml_L_93 : Cond.methodLink RL 93 yX10_measure ∈ TB := TBm (i := 1319) rfl rfl
set_option maxRecDepth 100000 in
theorem ml_X10_266 : Cond.methodLink RX10 266 yX10_needMeasure ∈ TB := TBm (i := 1323) rfl rfl
set_option maxRecDepth 100000 in
theorem ml_X10_269 : Cond.methodLink RX10 269 yX10_needFar ∈ TB := TBm (i := 1328) rfl rfl
set_option maxRecDepth 100000 in
theorem ml_X10_272 : Cond.methodLink RX10 272 yX2_gauge ∈ TB := TBm (i := 1333) rfl rfl
set_option maxRecDepth 100000 in
theorem ml_X2_88 : Cond.methodLink RX2 88 yX2_sumWithin ∈ TB := TBm (i := 1337) rfl rfl
set_option maxRecDepth 100000 in
theorem ml_X2_92 : Cond.methodLink RX2 92 yX2_nextSpot ∈ TB := TBm (i := 1341) rfl rfl
set_option maxRecDepth 100000 in
theorem ml_X2_96 : Cond.methodLink RX2 96 yX2_farToSea ∈ TB := TBm (i := 1345) rfl rfl
set_option maxRecDepth 100000 in
theorem ml_X2_99 : Cond.methodLink RX2 99 yX2_spotsInLine ∈ TB := TBm (i := 1349) rfl rfl
set_option maxRecDepth 100000 in
theorem ml_L_236 : Cond.methodLink RL 236 yL_best ∈ TB := TBm (i := 1353) rfl rfl
set_option maxRecDepth 100000 in
theorem ml_L_96 : Cond.methodLink RL 96 yX10_best ∈ TB := TBm (i := 1356) rfl rfl
set_option maxRecDepth 100000 in
theorem ml_X10_276 : Cond.methodLink RX10 276 yX2_topCell ∈ TB := TBm (i := 1360) rfl rfl
set_option maxRecDepth 100000 in
theorem ml_X2_112 : Cond.methodLink RX2 112 yX1_isLand ∈ TB := TBm (i := 1364) rfl rfl
set_option maxRecDepth 100000 in
theorem ml_X2_116 : Cond.methodLink RX2 116 yX2_gauge ∈ TB := TBm (i := 1365) rfl rfl
set_option maxRecDepth 100000 in
theorem ml_L_239 : Cond.methodLink RL 239 yL_nearest ∈ TB := TBm (i := 1366) rfl rfl
set_option maxRecDepth 100000 in
theorem ml_L_99 : Cond.methodLink RL 99 yX10_nearest ∈ TB := TBm (i := 1369) rfl rfl
set_option maxRecDepth 100000 in
theorem ml_X10_280 : Cond.methodLink RX10 280 yX2_nextSpot ∈ TB := TBm (i := 1373) rfl rfl
set_option maxRecDepth 100000 in
theorem ml_L_242 : Cond.methodLink RL 242 yL_served ∈ TB := TBm (i := 1374) rfl rfl
set_option maxRecDepth 100000 in
theorem ml_L_102 : Cond.methodLink RL 102 yX10_served ∈ TB := TBm (i := 1377) rfl rfl
set_option maxRecDepth 100000 in
theorem ml_X10_284 : Cond.methodLink RX10 284 yX2_clientsOf ∈ TB := TBm (i := 1381) rfl rfl
set_option maxRecDepth 100000 in
theorem ml_X2_120 : Cond.methodLink RX2 120 yX2_hasNoneNearer ∈ TB := TBm (i := 1385) rfl rfl
set_option maxRecDepth 100000 in
theorem ml_L_245 : Cond.methodLink RL 245 yL_thinned ∈ TB := TBm (i := 1389) rfl rfl
set_option maxRecDepth 100000 in
theorem ml_L_105 : Cond.methodLink RL 105 yX10_thinned ∈ TB := TBm (i := 1392) rfl rfl
set_option maxRecDepth 100000 in
theorem ml_X10_287 : Cond.methodLink RX10 287 yX10_bringPath ∈ TB := TBm (i := 1396) rfl rfl
set_option maxRecDepth 100000 in
theorem ml_X10_373 : Cond.methodLink RX10 373 yX4_isOf ∈ TB := TBm (i := 1400) rfl rfl
set_option maxRecDepth 100000 in
theorem ml_X10_377 : Cond.methodLink RX10 377 yX4_follow ∈ TB := TBm (i := 1404) rfl rfl
set_option maxRecDepth 100000 in
theorem ml_X4_37 : Cond.methodLink RX4 37 yX4_keep ∈ TB := TBm (i := 1408) rfl rfl
set_option maxRecDepth 100000 in
theorem ml_X4_56 : Cond.methodLink RX4 56 yX4_isApart ∈ TB := TBm (i := 1412) rfl rfl
set_option maxRecDepth 100000 in
theorem ml_X4_64 : Cond.methodLink RX4 64 yX1_far ∈ TB := TBm (i := 1416) rfl rfl
set_option maxRecDepth 100000 in
theorem ml_X4_60 : Cond.methodLink RX4 60 yX4_push ∈ TB := TBm (i := 1417) rfl rfl
set_option maxRecDepth 100000 in
theorem ml_X4_41 : Cond.methodLink RX4 41 yX4_walk ∈ TB := TBm (i := 1421) rfl rfl
set_option maxRecDepth 100000 in
theorem ml_X4_76 : Cond.methodLink RX4 76 yX4_nextAfter ∈ TB := TBm (i := 1426) rfl rfl
set_option maxRecDepth 100000 in
theorem ml_X4_45 : Cond.methodLink RX4 45 yX4_wrap ∈ TB := TBm (i := 1430) rfl rfl
set_option maxRecDepth 100000 in
theorem ml_X4_80 : Cond.methodLink RX4 80 yX4_turnTo ∈ TB := TBm (i := 1434) rfl rfl
set_option maxRecDepth 100000 in
theorem ml_X4_84 : Cond.methodLink RX4 84 yX4_turn ∈ TB := TBm (i := 1438) rfl rfl
set_option maxRecDepth 100000 in
theorem ml_X10_381 : Cond.methodLink RX10 381 yX4_keepAs ∈ TB := TBm (i := 1441) rfl rfl
set_option maxRecDepth 100000 in
theorem ml_X10_290 : Cond.methodLink RX10 290 yX10_countOrStop ∈ TB := TBm (i := 1445) rfl rfl
set_option maxRecDepth 100000 in
theorem ml_X10_387 : Cond.methodLink RX10 387 yX4_stopAt ∈ TB := TBm (i := 1449) rfl rfl
set_option maxRecDepth 100000 in
theorem ml_L_248 : Cond.methodLink RL 248 yL_tour ∈ TB := TBm (i := 1453) rfl rfl
set_option maxRecDepth 100000 in
theorem ml_L_108 : Cond.methodLink RL 108 yX10_tour ∈ TB := TBm (i := 1456) rfl rfl
set_option maxRecDepth 100000 in
theorem ml_L_251 : Cond.methodLink RL 251 yL_way ∈ TB := TBm (i := 1460) rfl rfl
set_option maxRecDepth 100000 in
theorem ml_L_111 : Cond.methodLink RL 111 yX10_way ∈ TB := TBm (i := 1463) rfl rfl
set_option maxRecDepth 100000 in
theorem ml_L_254 : Cond.methodLink RL 254 yL_hull ∈ TB := TBm (i := 1467) rfl rfl
set_option maxRecDepth 100000 in
theorem ml_L_114 : Cond.methodLink RL 114 yX10_hull ∈ TB := TBm (i := 1470) rfl rfl
set_option maxRecDepth 100000 in
theorem ml_L_257 : Cond.methodLink RL 257 yL_area ∈ TB := TBm (i := 1474) rfl rfl
set_option maxRecDepth 100000 in
theorem ml_L_117 : Cond.methodLink RL 117 yX10_area ∈ TB := TBm (i := 1477) rfl rfl
set_option maxRecDepth 100000 in
theorem ml_X10_296 : Cond.methodLink RX10 296 yX4_doubleArea ∈ TB := TBm (i := 1481) rfl rfl
set_option maxRecDepth 100000 in
theorem ml_L_260 : Cond.methodLink RL 260 yL_middle ∈ TB := TBm (i := 1485) rfl rfl
set_option maxRecDepth 100000 in
theorem ml_L_120 : Cond.methodLink RL 120 yX10_middle ∈ TB := TBm (i := 1488) rfl rfl
set_option maxRecDepth 100000 in
theorem ml_X10_299 : Cond.methodLink RX10 299 yX2_centralCell ∈ TB := TBm (i := 1492) rfl rfl
set_option maxRecDepth 100000 in
theorem ml_X2_124 : Cond.methodLink RX2 124 yX0_clear ∈ TB := TBm (i := 1496) rfl rfl
set_option maxRecDepth 100000 in
theorem ml_X2_127 : Cond.methodLink RX2 127 yX0_add ∈ TB := TBm (i := 1497) rfl rfl
set_option maxRecDepth 100000 in
theorem ml_X2_131 : Cond.methodLink RX2 131 yX0_isEmpty ∈ TB := TBm (i := 1498) rfl rfl
set_option maxRecDepth 100000 in
theorem ml_X2_135 : Cond.methodLink RX2 135 yX0_pullFrom ∈ TB := TBm (i := 1502) rfl rfl
set_option maxRecDepth 100000 in
theorem ml_L_263 : Cond.methodLink RL 263 yL_line ∈ TB := TBm (i := 1503) rfl rfl
set_option maxRecDepth 100000 in
theorem ml_L_123 : Cond.methodLink RL 123 yX10_line ∈ TB := TBm (i := 1506) rfl rfl
set_option maxRecDepth 100000 in
theorem ml_X10_313 : Cond.methodLink RX10 313 yX2_sumOfColumn ∈ TB := TBm (i := 1511) rfl rfl
set_option maxRecDepth 100000 in
theorem ml_X10_316 : Cond.methodLink RX10 316 yX2_sumOfRow ∈ TB := TBm (i := 1515) rfl rfl
set_option maxRecDepth 100000 in
theorem ml_L_267 : Cond.methodLink RL 267 yL_joined ∈ TB := TBm (i := 1519) rfl rfl
set_option maxRecDepth 100000 in
theorem ml_L_127 : Cond.methodLink RL 127 yX10_joined ∈ TB := TBm (i := 1522) rfl rfl
set_option maxRecDepth 100000 in
theorem ml_X10_323 : Cond.methodLink RX10 323 yX1_join ∈ TB := TBm (i := 1526) rfl rfl
set_option maxRecDepth 100000 in
theorem ml_X10_326 : Cond.methodLink RX10 326 yX8_sumOfZone ∈ TB := TBm (i := 1530) rfl rfl
set_option maxRecDepth 100000 in
theorem ml_L_278 : Cond.methodLink RL 278 yL_write ∈ TB := TBm (i := 1534) rfl rfl
set_option maxRecDepth 100000 in
theorem ml_L_130 : Cond.methodLink RL 130 yX10_write ∈ TB := TBm (i := 1537) rfl rfl
set_option maxRecDepth 100000 in
theorem ml_X10_332 : Cond.methodLink RX10 332 yX7_writeZone ∈ TB := TBm (i := 1541) rfl rfl
set_option maxRecDepth 100000 in
theorem ml_X7_24 : Cond.methodLink RX7 24 yX1_runsOf ∈ TB := TBm (i := 1545) rfl rfl
set_option maxRecDepth 100000 in
theorem ml_X7_28 : Cond.methodLink RX7 28 yX7_putHead ∈ TB := TBm (i := 1546) rfl rfl
set_option maxRecDepth 100000 in
theorem ml_X7_38 : Cond.methodLink RX7 38 yX7_putText ∈ TB := TBm (i := 1551) rfl rfl
set_option maxRecDepth 100000 in
theorem ml_X7_72 : Cond.methodLink RX7 72 yJ0_length_8abf5 ∈ TB := TBm (i := 1555) rfl rfl
set_option maxRecDepth 100000 in
theorem ml_X7_77 : Cond.methodLink RX7 77 yJ0_charAt_5068e ∈ TB := TBm (i := 1556) rfl rfl
set_option maxRecDepth 100000 in
theorem ml_X7_49 : Cond.methodLink RX7 49 yX7_put ∈ TB := TBm (i := 1557) rfl rfl
set_option maxRecDepth 100000 in
theorem ml_X7_55 : Cond.methodLink RX7 55 yX7_putNumber ∈ TB := TBm (i := 1562) rfl rfl
set_option maxRecDepth 100000 in
theorem ml_X7_32 : Cond.methodLink RX7 32 yX7_putRuns ∈ TB := TBm (i := 1567) rfl rfl
set_option maxRecDepth 100000 in
theorem ml_X7_64 : Cond.methodLink RX7 64 yX1_runEdge ∈ TB := TBm (i := 1573) rfl rfl
set_option maxRecDepth 100000 in
theorem ml_L_136 : Cond.methodLink RL 136 yX11_init ∈ TB := TBm (i := 1578) rfl rfl
set_option maxRecDepth 100000 in
theorem ml_L_152 : Cond.methodLink RL 152 yX11_thrown ∈ TB := TBm (i := 1706) rfl rfl
set_option maxRecDepth 100000 in
theorem ml_L_140 : Cond.methodLink RL 140 yX11_feed ∈ TB := TBm (i := 1710) rfl rfl
set_option maxRecDepth 100000 in
theorem ml_L_145 : Cond.methodLink RL 145 yX11_end ∈ TB := TBm (i := 1714) rfl rfl
set_option maxRecDepth 100000 in
theorem ml_L_151 : Cond.methodLink RL 151 yX11_read ∈ TB := TBm (i := 1718) rfl rfl
set_option maxRecDepth 100000 in
theorem ml_X11_210 : Cond.methodLink RX11 210 yX11_sizeLine ∈ TB := TBm (i := 1722) rfl rfl
set_option maxRecDepth 100000 in
theorem ml_X11_173 : Cond.methodLink RX11 173 yX11_asksWord ∈ TB := TBm (i := 1727) rfl rfl
set_option maxRecDepth 100000 in
theorem ml_X11_131 : Cond.methodLink RX11 131 yX11_hasFailed ∈ TB := TBm (i := 1731) rfl rfl
set_option maxRecDepth 100000 in
theorem ml_X11_156 : Cond.methodLink RX11 156 yX11_isWord ∈ TB := TBm (i := 1735) rfl rfl
set_option maxRecDepth 100000 in
theorem ml_X11_143 : Cond.methodLink RX11 143 yX11_wordMany ∈ TB := TBm (i := 1739) rfl rfl
set_option maxRecDepth 100000 in
theorem ml_X11_128 : Cond.methodLink RX11 128 yX11_blanks ∈ TB := TBm (i := 1743) rfl rfl
set_option maxRecDepth 100000 in
theorem ml_X11_121 : Cond.methodLink RX11 121 yX11_isAt ∈ TB := TBm (i := 1747) rfl rfl
set_option maxRecDepth 100000 in
theorem ml_X11_147 : Cond.methodLink RX11 147 yJ0_length_8abf5 ∈ TB := TBm (i := 1751) rfl rfl
set_option maxRecDepth 100000 in
theorem ml_X11_152 : Cond.methodLink RX11 152 yJ0_charAt_5068e ∈ TB := TBm (i := 1752) rfl rfl
set_option maxRecDepth 100000 in
theorem ml_X11_139 : Cond.methodLink RX11 139 yX11_failsAt ∈ TB := TBm (i := 1753) rfl rfl
set_option maxRecDepth 100000 in
theorem ml_X11_177 : Cond.methodLink RX11 177 yX11_number ∈ TB := TBm (i := 1757) rfl rfl
set_option maxRecDepth 100000 in
theorem ml_X11_169 : Cond.methodLink RX11 169 yX11_in ∈ TB := TBm (i := 1761) rfl rfl
set_option maxRecDepth 100000 in
theorem ml_X11_181 : Cond.methodLink RX11 181 yX11_asks ∈ TB := TBm (i := 1764) rfl rfl
set_option maxRecDepth 100000 in
theorem ml_X11_135 : Cond.methodLink RX11 135 yX11_takes ∈ TB := TBm (i := 1768) rfl rfl
set_option maxRecDepth 100000 in
theorem ml_X11_213 : Cond.methodLink RX11 213 yX11_line ∈ TB := TBm (i := 1772) rfl rfl
set_option maxRecDepth 100000 in
theorem ml_X11_201 : Cond.methodLink RX11 201 yX11_groupsLine ∈ TB := TBm (i := 1777) rfl rfl
set_option maxRecDepth 100000 in
theorem ml_X11_204 : Cond.methodLink RX11 204 yX11_zoneLine ∈ TB := TBm (i := 1782) rfl rfl
set_option maxRecDepth 100000 in
theorem ml_X11_188 : Cond.methodLink RX11 188 yX11_isName ∈ TB := TBm (i := 1786) rfl rfl
set_option maxRecDepth 100000 in
theorem ml_X11_191 : Cond.methodLink RX11 191 yX11_told ∈ TB := TBm (i := 1793) rfl rfl
set_option maxRecDepth 100000 in
theorem ml_X11_207 : Cond.methodLink RX11 207 yX11_rowLine ∈ TB := TBm (i := 1798) rfl rfl
set_option maxRecDepth 100000 in
theorem ml_X11_198 : Cond.methodLink RX11 198 yX11_runs ∈ TB := TBm (i := 1802) rfl rfl
set_option maxRecDepth 100000 in
theorem ml_X11_195 : Cond.methodLink RX11 195 yX11_isOther ∈ TB := TBm (i := 1806) rfl rfl
set_option maxRecDepth 100000 in
theorem ml_X11_215 : Cond.methodLink RX11 215 yX11_throwsIf ∈ TB := TBm (i := 1810) rfl rfl
set_option maxRecDepth 100000 in
theorem ml_X11_219 : Cond.methodLink RX11 219 yX11_laysOrders ∈ TB := TBm (i := 1814) rfl rfl
set_option maxRecDepth 100000 in
theorem ml_X11_222 : Cond.methodLink RX11 222 yX11_zones ∈ TB := TBm (i := 1818) rfl rfl
set_option maxRecDepth 100000 in
theorem ml_X11_225 : Cond.methodLink RX11 225 yX11_middleOf ∈ TB := TBm (i := 1822) rfl rfl
set_option maxRecDepth 100000 in
theorem ml_X11_229 : Cond.methodLink RX11 229 yX11_cells ∈ TB := TBm (i := 1826) rfl rfl
set_option maxRecDepth 100000 in
theorem ml_X11_233 : Cond.methodLink RX11 233 yX11_isLandOf ∈ TB := TBm (i := 1830) rfl rfl
set_option maxRecDepth 100000 in
theorem ml_X11_236 : Cond.methodLink RX11 236 yX11_far ∈ TB := TBm (i := 1834) rfl rfl
set_option maxRecDepth 100000 in
theorem ml_L_158 : Cond.methodLink RL 158 yX11_fault ∈ TB := TBm (i := 1839) rfl rfl
set_option maxRecDepth 100000 in
theorem ml_L_162 : Cond.methodLink RL 162 yX11_cell ∈ TB := TBm (i := 1843) rfl rfl
set_option maxRecDepth 100000 in
theorem ml_X11_255 : Cond.methodLink RX11 255 yX11_noCell ∈ TB := TBm (i := 1847) rfl rfl
set_option maxRecDepth 100000 in
theorem ml_L_165 : Cond.methodLink RL 165 yX11_zone ∈ TB := TBm (i := 1851) rfl rfl
set_option maxRecDepth 100000 in
theorem ml_X11_267 : Cond.methodLink RX11 267 yX11_noZone ∈ TB := TBm (i := 1855) rfl rfl
set_option maxRecDepth 100000 in
theorem ml_X11_243 : Cond.methodLink RX11 243 yX11_land ∈ TB := TBm (i := 1859) rfl rfl
set_option maxRecDepth 100000 in
theorem ml_X11_270 : Cond.methodLink RX11 270 yX11_laysParts ∈ TB := TBm (i := 1863) rfl rfl
set_option maxRecDepth 100000 in
theorem ml_X11_258 : Cond.methodLink RX11 258 yX11_beside ∈ TB := TBm (i := 1867) rfl rfl
set_option maxRecDepth 100000 in
theorem ml_X11_273 : Cond.methodLink RX11 273 yX11_sides ∈ TB := TBm (i := 1871) rfl rfl
set_option maxRecDepth 100000 in
theorem ml_X11_261 : Cond.methodLink RX11 261 yX11_isLand ∈ TB := TBm (i := 1875) rfl rfl
set_option maxRecDepth 100000 in
theorem ml_X11_277 : Cond.methodLink RX11 277 yX11_runsIn ∈ TB := TBm (i := 1879) rfl rfl
set_option maxRecDepth 100000 in
theorem ml_X11_264 : Cond.methodLink RX11 264 yX11_isRunBegin ∈ TB := TBm (i := 1883) rfl rfl
set_option maxRecDepth 100000 in
theorem ml_L_168 : Cond.methodLink RL 168 yX11_name ∈ TB := TBm (i := 1887) rfl rfl
set_option maxRecDepth 100000 in
theorem ml_L_172 : Cond.methodLink RL 172 yX11_people ∈ TB := TBm (i := 1891) rfl rfl
set_option maxRecDepth 100000 in
theorem ml_X11_280 : Cond.methodLink RX11 280 yX11_noGroup ∈ TB := TBm (i := 1895) rfl rfl
set_option maxRecDepth 100000 in
theorem ml_L_175 : Cond.methodLink RL 175 yX11_lives ∈ TB := TBm (i := 1899) rfl rfl
set_option maxRecDepth 100000 in
theorem ml_L_179 : Cond.methodLink RL 179 yX11_flood ∈ TB := TBm (i := 1903) rfl rfl
set_option maxRecDepth 100000 in
theorem ml_L_183 : Cond.methodLink RL 183 yX11_unit ∈ TB := TBm (i := 1907) rfl rfl
set_option maxRecDepth 100000 in
theorem ml_L_186 : Cond.methodLink RL 186 yX11_factor ∈ TB := TBm (i := 1911) rfl rfl
set_option maxRecDepth 100000 in
theorem ml_L_189 : Cond.methodLink RL 189 yX11_order ∈ TB := TBm (i := 1915) rfl rfl
set_option maxRecDepth 100000 in
theorem ml_L_192 : Cond.methodLink RL 192 yX11_stands ∈ TB := TBm (i := 1919) rfl rfl
set_option maxRecDepth 100000 in
theorem ml_L_195 : Cond.methodLink RL 195 yX11_dots ∈ TB := TBm (i := 1923) rfl rfl
set_option maxRecDepth 100000 in
theorem ml_X11_283 : Cond.methodLink RX11 283 yX11_noLevel ∈ TB := TBm (i := 1927) rfl rfl
set_option maxRecDepth 100000 in
theorem ml_X11_246 : Cond.methodLink RX11 246 yX11_laysDots ∈ TB := TBm (i := 1931) rfl rfl
set_option maxRecDepth 100000 in
theorem ml_X11_239 : Cond.methodLink RX11 239 yX11_dotsAt ∈ TB := TBm (i := 1935) rfl rfl
set_option maxRecDepth 100000 in
theorem ml_L_198 : Cond.methodLink RL 198 yX11_carried ∈ TB := TBm (i := 1938) rfl rfl
set_option maxRecDepth 100000 in
theorem ml_L_201 : Cond.methodLink RL 201 yX11_left ∈ TB := TBm (i := 1942) rfl rfl
set_option maxRecDepth 100000 in
theorem ml_L_204 : Cond.methodLink RL 204 yX11_all ∈ TB := TBm (i := 1946) rfl rfl
set_option maxRecDepth 100000 in
theorem ml_X11_286 : Cond.methodLink RX11 286 yX11_allDots ∈ TB := TBm (i := 1950) rfl rfl
set_option maxRecDepth 100000 in
theorem ml_L_208 : Cond.methodLink RL 208 yX11_dot ∈ TB := TBm (i := 1954) rfl rfl
set_option maxRecDepth 100000 in
theorem ml_X11_249 : Cond.methodLink RX11 249 yX11_cellOf ∈ TB := TBm (i := 1958) rfl rfl
set_option maxRecDepth 100000 in
theorem ml_L_211 : Cond.methodLink RL 211 yX11_crowd ∈ TB := TBm (i := 1962) rfl rfl
set_option maxRecDepth 100000 in
theorem ml_X11_289 : Cond.methodLink RX11 289 yX11_laysCrowds ∈ TB := TBm (i := 1966) rfl rfl
set_option maxRecDepth 100000 in
theorem ml_X11_252 : Cond.methodLink RX11 252 yX11_crowdOf ∈ TB := TBm (i := 1970) rfl rfl
set_option maxRecDepth 100000 in
theorem ml_L_214 : Cond.methodLink RL 214 yX11_apart ∈ TB := TBm (i := 1974) rfl rfl
set_option maxRecDepth 100000 in
theorem ml_X11_292 : Cond.methodLink RX11 292 yX11_hasDots ∈ TB := TBm (i := 1978) rfl rfl
set_option maxRecDepth 100000 in
theorem ml_L_217 : Cond.methodLink RL 217 yX11_off ∈ TB := TBm (i := 1982) rfl rfl
set_option maxRecDepth 100000 in
theorem ml_L_221 : Cond.methodLink RL 221 yX11_move ∈ TB := TBm (i := 1986) rfl rfl
set_option maxRecDepth 100000 in
theorem ml_X11_298 : Cond.methodLink RX11 298 yX11_noEdge ∈ TB := TBm (i := 1990) rfl rfl
set_option maxRecDepth 100000 in
theorem ml_X11_295 : Cond.methodLink RX11 295 yX11_noRow ∈ TB := TBm (i := 1994) rfl rfl
set_option maxRecDepth 100000 in
theorem ml_X11_302 : Cond.methodLink RX11 302 yX11_noRun ∈ TB := TBm (i := 1998) rfl rfl
set_option maxRecDepth 100000 in
theorem ml_X11_306 : Cond.methodLink RX11 306 yX11_moves ∈ TB := TBm (i := 2002) rfl rfl
set_option maxRecDepth 100000 in
theorem ml_L_225 : Cond.methodLink RL 225 yX11_tries ∈ TB := TBm (i := 2006) rfl rfl
set_option maxRecDepth 100000 in
theorem ml_X11_310 : Cond.methodLink RX11 310 yX11_keepsAll ∈ TB := TBm (i := 2010) rfl rfl
set_option maxRecDepth 100000 in
theorem ml_X11_313 : Cond.methodLink RX11 313 yX11_bringsBack ∈ TB := TBm (i := 2014) rfl rfl
set_option maxRecDepth 100000 in
theorem ml_L_229 : Cond.methodLink RL 229 yX11_run ∈ TB := TBm (i := 2018) rfl rfl
set_option maxRecDepth 100000 in
theorem ml_X11_316 : Cond.methodLink RX11 316 yX11_runEnd ∈ TB := TBm (i := 2022) rfl rfl
set_option maxRecDepth 100000 in
theorem ml_L_232 : Cond.methodLink RL 232 yX11_part ∈ TB := TBm (i := 2026) rfl rfl
set_option maxRecDepth 100000 in
theorem ml_L_235 : Cond.methodLink RL 235 yX11_measure ∈ TB := TBm (i := 2030) rfl rfl
set_option maxRecDepth 100000 in
theorem ml_X11_322 : Cond.methodLink RX11 322 yX11_noMeasure ∈ TB := TBm (i := 2034) rfl rfl
set_option maxRecDepth 100000 in
theorem ml_X11_325 : Cond.methodLink RX11 325 yX11_measureOf ∈ TB := TBm (i := 2038) rfl rfl
set_option maxRecDepth 100000 in
theorem ml_X11_319 : Cond.methodLink RX11 319 yX11_leastFar ∈ TB := TBm (i := 2042) rfl rfl
set_option maxRecDepth 100000 in
theorem ml_L_238 : Cond.methodLink RL 238 yX11_best ∈ TB := TBm (i := 2046) rfl rfl
set_option maxRecDepth 100000 in
theorem ml_L_241 : Cond.methodLink RL 241 yX11_nearest ∈ TB := TBm (i := 2050) rfl rfl
set_option maxRecDepth 100000 in
theorem ml_X11_328 : Cond.methodLink RX11 328 yX11_nearestTo ∈ TB := TBm (i := 2054) rfl rfl
set_option maxRecDepth 100000 in
theorem ml_L_244 : Cond.methodLink RL 244 yX11_served ∈ TB := TBm (i := 2058) rfl rfl
set_option maxRecDepth 100000 in
theorem ml_L_273 : Cond.methodLink RL 273 yX11_fits ∈ TB := TBm (i := 2062) rfl rfl
set_option maxRecDepth 100000 in
theorem ml_L_277 : Cond.methodLink RL 277 yX11_scale ∈ TB := TBm (i := 2066) rfl rfl
set_option maxRecDepth 100000 in
theorem ml_L_247 : Cond.methodLink RL 247 yX11_thinned ∈ TB := TBm (i := 2070) rfl rfl
set_option maxRecDepth 100000 in
theorem ml_X11_334 : Cond.methodLink RX11 334 yX11_isAway ∈ TB := TBm (i := 2074) rfl rfl
set_option maxRecDepth 100000 in
theorem ml_X11_337 : Cond.methodLink RX11 337 yX11_picks ∈ TB := TBm (i := 2078) rfl rfl
set_option maxRecDepth 100000 in
theorem ml_X11_340 : Cond.methodLink RX11 340 yX11_pickedAt ∈ TB := TBm (i := 2082) rfl rfl
set_option maxRecDepth 100000 in
theorem ml_L_250 : Cond.methodLink RL 250 yX11_tour ∈ TB := TBm (i := 2086) rfl rfl
set_option maxRecDepth 100000 in
theorem ml_X11_346 : Cond.methodLink RX11 346 yX11_tours ∈ TB := TBm (i := 2090) rfl rfl
set_option maxRecDepth 100000 in
theorem ml_L_253 : Cond.methodLink RL 253 yX11_way ∈ TB := TBm (i := 2094) rfl rfl
set_option maxRecDepth 100000 in
theorem ml_L_256 : Cond.methodLink RL 256 yX11_hull ∈ TB := TBm (i := 2098) rfl rfl
set_option maxRecDepth 100000 in
theorem ml_X11_352 : Cond.methodLink RX11 352 yX11_hulls ∈ TB := TBm (i := 2102) rfl rfl
set_option maxRecDepth 100000 in
theorem ml_X11_349 : Cond.methodLink RX11 349 yX11_hand ∈ TB := TBm (i := 2106) rfl rfl
set_option maxRecDepth 100000 in
theorem ml_L_259 : Cond.methodLink RL 259 yX11_area ∈ TB := TBm (i := 2110) rfl rfl
set_option maxRecDepth 100000 in
theorem ml_L_262 : Cond.methodLink RL 262 yX11_middle ∈ TB := TBm (i := 2114) rfl rfl
set_option maxRecDepth 100000 in
theorem ml_L_266 : Cond.methodLink RL 266 yX11_line_ ∈ TB := TBm (i := 2118) rfl rfl
set_option maxRecDepth 100000 in
theorem ml_L_269 : Cond.methodLink RL 269 yX11_joined ∈ TB := TBm (i := 2122) rfl rfl
set_option maxRecDepth 100000 in
theorem ml_L_280 : Cond.methodLink RL 280 yX11_write ∈ TB := TBm (i := 2126) rfl rfl
set_option maxRecDepth 100000 in
theorem ml_X11_366 : Cond.methodLink RX11 366 yX11_saysWord ∈ TB := TBm (i := 2131) rfl rfl
set_option maxRecDepth 100000 in
theorem ml_X11_358 : Cond.methodLink RX11 358 yX11_says ∈ TB := TBm (i := 2135) rfl rfl
set_option maxRecDepth 100000 in
theorem ml_X11_361 : Cond.methodLink RX11 361 yX11_saysNumber ∈ TB := TBm (i := 2139) rfl rfl
set_option maxRecDepth 100000 in
theorem ml_L_284 : Cond.methodLink RL 284 yX11_octet ∈ TB := TBm (i := 2145) rfl rfl
set_option maxRecDepth 100000 in
theorem ml_L_288 : Cond.methodLink RL 288 yX11_count ∈ TB := TBm (i := 2149) rfl rfl
set_option maxRecDepth 100000 in
theorem ml_X11_373 : Cond.methodLink RX11 373 yX11_cellsOf ∈ TB := TBm (i := 2153) rfl rfl
