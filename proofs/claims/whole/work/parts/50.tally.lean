/-! ===== dots: numbers ===== -/
section Cry
variable {a ld : Nat → Int} {s : Int}
theorem cry_nn (hs : 0 < s) {z : Nat} (ha : ∀ k, k < z → 0 ≤ a k) : 0 ≤ cry a ld s z := by
  induction z with
  | zero => exact Int.le_refl 0
  | succ z ih =>
    have h1 := ih (fun k hk => ha k (by omega))
    have h2 := ha z (by omega)
    rw [cry]
    split
    · omega
    · exact Int.emod_nonneg _ (by omega)
theorem dts_nn (hs : 0 < s) {z : Nat} (ha : ∀ k, k < z + 1 → 0 ≤ a k) : 0 ≤ dts a ld s z := by
  have h1 := cry_nn (ld := ld) hs (fun k (hk : k < z) => ha k (by omega))
  have h2 := ha z (by omega)
  rw [dts]
  split
  · omega
  · exact Int.ediv_nonneg (by omega) (by omega)
theorem cry_bal (z : Nat) : sumTo (dts a ld s) z * s + cry a ld s z = sumTo a z := by
  induction z with
  | zero => simp [sumTo, cry]
  | succ z ih =>
    rw [sumTo, sumTo, Int.add_mul, ← ih, cry, dts]
    split
    · omega
    · have := Int.emod_add_mul_ediv (cry a ld s z + a z) s
      rw [Int.mul_comm s] at this
      omega
theorem dts_sum (hs : 0 < s) {z : Nat} (ha : ∀ k, k < z → 0 ≤ a k) : 0 ≤ sumTo (dts a ld s) z ∧ sumTo (dts a ld s) z ≤ sumTo a z ∧ cry a ld s z ≤ sumTo a z := by
  have h1 := cry_bal (a := a) (ld := ld) (s := s) z
  have h2 := cry_nn (ld := ld) hs ha
  have h3 : 0 ≤ sumTo (dts a ld s) z := by
    clear h1 h2
    induction z with
    | zero => exact Int.le_refl 0
    | succ z ih =>
      have h1 := ih (fun k hk => ha k (by omega))
      have h2 := dts_nn (ld := ld) (z := z) hs ha
      rw [sumTo]
      omega
  have h4 : sumTo (dts a ld s) z * 1 ≤ sumTo (dts a ld s) z * s := Int.mul_le_mul_of_nonneg_left (by omega) h3
  omega
end Cry
theorem sumTo_mono {f : Nat → Int} {m n : Nat} (h : m ≤ n) (hf : ∀ k, k < n → 0 ≤ f k) : sumTo f m ≤ sumTo f n := by
  induction n with
  | zero => have : m = 0 := by omega
            subst this; exact Int.le_refl _
  | succ n ih =>
    by_cases q : m = n + 1
    · subst q; exact Int.le_refl _
    · have := ih (by omega) (fun k hk => hf k (by omega))
      have := hf n (by omega)
      rw [sumTo]
      omega
theorem szM_pos {M : MS} (O : MOK M) {u : Int} (hu : 0 < u) (l : Nat) : 0 < szM M u l := by
  have := O.ufx
  cases l with
  | zero => exact hu
  | succ l => show 0 < mF M; omega
theorem dotM_in (M : MS) (u : Int) (g l : Nat) : dotM M u g l = dts (inM M u g l) (ldM M) (szM M u l) := by
  cases l <;> rfl
/-- what comes to a zone is small -/
theorem inM_b {M : MS} (O : MOK M) {u : Int} (hu : 0 < u) {g : Nat} (hg : g < 3) (l : Nat) : (∀ z, z < 8 → 0 ≤ inM M u g l z) ∧ ∀ z, z ≤ 8 → 0 ≤ sumTo (inM M u g l) z ∧ sumTo (inM M u g l) z ≤ 799992 := by
  induction l with
  | zero =>
    refine ⟨fun z hz => (O.p (k := 3 * z + g) (by omega)).1, fun z hz => ?_⟩
    have := sumTo_bounds (f := inM M u g 0) (n := z) (a := 0) (b := 99999) (fun k hk => O.p (k := 3 * k + g) (by omega))
    omega
  | succ l ih =>
    have e : inM M u g (l + 1) = dts (inM M u g l) (ldM M) (szM M u l) := dotM_in M u g l
    rw [e]
    refine ⟨fun z hz => dts_nn (szM_pos O hu l) (fun k hk => ih.1 k (by omega)), fun z hz => ?_⟩
    have h1 := dts_sum (ld := ldM M) (z := z) (szM_pos O hu l) (fun k hk => ih.1 k (by omega))
    have h2 := ih.2 z hz
    omega
theorem carM_b {M : MS} (O : MOK M) {g : Nat} (hg : g < 3) (l : Nat) {z : Nat} (hz : z ≤ 8) : 0 ≤ carM M g l z ∧ carM M g l z ≤ 799992 := by
  have hu : 0 < mU M := by have := O.ufx; omega
  obtain ⟨i1, i2⟩ := inM_b O hu hg l
  have h1 := cry_nn (ld := ldM M) (z := z) (szM_pos O hu l) (fun k hk => i1 k (by omega))
  have h2 := dts_sum (ld := ldM M) (z := z) (szM_pos O hu l) (fun k hk => i1 k (by omega))
  have h3 := i2 z hz
  unfold carM
  omega
theorem dotM_b {M : MS} (O : MOK M) {u : Int} (hu : 0 < u) {g : Nat} (hg : g < 3) (l : Nat) {z : Nat} (hz : z < 8) : 0 ≤ dotM M u g l z ∧ dotM M u g l z ≤ 799992 := by
  obtain ⟨i1, i2⟩ := inM_b O hu hg (l + 1)
  have h1 := i1 z hz
  have h2 := i2 (z + 1) (by omega)
  have h3 := i2 z (by omega)
  rw [sumTo] at h2
  have e : inM M u g (l + 1) z = dotM M u g l z := rfl
  omega
theorem ldM_b {M : MS} (O : MOK M) (z : Nat) : 0 ≤ ldM M z ∧ ldM M z ≤ 384 := sum01 (f := fun c => mO M c = (z : Int) ∧ mS M c = 0) (nCb O)
