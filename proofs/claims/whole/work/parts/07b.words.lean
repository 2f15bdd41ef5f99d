set_option maxRecDepth 100000 in
theorem acw : Cond.native arraycopyName ∈ TB ∧ Cond.static arraycopyName ∈ TB ∧ Cond.initialized "java/lang/System" ∈ TB := ⟨TBm (i := 755) rfl rfl, TBm (i := 754) rfl rfl, TBm (i := 146) rfl rfl⟩
set_option maxRecDepth 100000 in
theorem ml_X9_124 : Cond.methodLink RX9 124 arraycopyName ∈ TB := TBm (i := 753) rfl rfl
set_option maxRecDepth 100000 in
theorem cw_X9_139 : Cond.constant RX9 139 (Int32.ofInt 99999) ∈ TB := by
  have h : Cond.constant RX9 139 (99999 : Int32) ∈ TB := TBm (i := 760) rfl rfl
  rw [show (Int32.ofInt 99999) = (99999 : Int32) by decide]
  exact h
set_option maxRecDepth 100000 in
theorem cw_X1_54 : Cond.constant RX1 54 (Int32.ofInt 99999) ∈ TB := by
  have h : Cond.constant RX1 54 (99999 : Int32) ∈ TB := TBm (i := 765) rfl rfl
  rw [show (Int32.ofInt 99999) = (99999 : Int32) by decide]
  exact h
set_option maxRecDepth 100000 in
theorem ml_X1_48 : Cond.methodLink RX1 48 arraycopyName ∈ TB := TBm (i := 857) rfl rfl
set_option maxRecDepth 100000 in
theorem cw_X10_145 : Cond.constant RX10 145 (Int32.ofInt 99999) ∈ TB := by
  have h : Cond.constant RX10 145 (99999 : Int32) ∈ TB := TBm (i := 1012) rfl rfl
  rw [show (Int32.ofInt 99999) = (99999 : Int32) by decide]
  exact h
set_option maxRecDepth 100000 in
theorem cl_X0_28 : Cond.constantLong RX0 28 (Int64.ofInt 2) ∈ TB := by
  have h : Cond.constantLong RX0 28 (2 : Int64) ∈ TB := TBm (i := 1102) rfl rfl
  rw [show (Int64.ofInt 2) = (2 : Int64) by decide]
  exact h
set_option maxRecDepth 100000 in
theorem ml_X6_50 : Cond.methodLink RX6 50 arraycopyName ∈ TB := TBm (i := 1283) rfl rfl
set_option maxRecDepth 100000 in
theorem ml_X4_70 : Cond.methodLink RX4 70 arraycopyName ∈ TB := TBm (i := 1425) rfl rfl
set_option maxRecDepth 100000 in
theorem cw_X11_194 : Cond.constant RX11 194 (Int32.ofInt 99999) ∈ TB := by
  have h : Cond.constant RX11 194 (99999 : Int32) ∈ TB := TBm (i := 1797) rfl rfl
  rw [show (Int32.ofInt 99999) = (99999 : Int32) by decide]
  exact h
set_option maxRecDepth 100000 in
theorem cw_X11_232 : Cond.constant RX11 232 (Int32.ofInt 268435456) ∈ TB := by
  have h : Cond.constant RX11 232 (268435456 : Int32) ∈ TB := TBm (i := 1838) rfl rfl
  rw [show (Int32.ofInt 268435456) = (268435456 : Int32) by decide]
  exact h
