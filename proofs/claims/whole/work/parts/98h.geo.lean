/-! ===== turns ===== -/
def crs (ux uy vx vy : Int) : Int := ux * vy - uy * vx
def psv (ux uy : Int) : Prop := 0 < uy ∨ (uy = 0 ∧ 0 < ux)
theorem crs_id (ux uy vx vy tx ty : Int) : vy * crs ux uy tx ty = uy * crs vx vy tx ty + ty * crs ux uy vx vy := by
  unfold crs
  grind
theorem pos_of_mul {a b : Int} (ha : 0 < a) (h : 0 < a * b) : 0 < b := by
  rcases Int.lt_or_le 0 b with h1 | h1
  · exact h1
  · have := Int.mul_nonneg (Int.le_of_lt ha) (show 0 ≤ -b by omega)
    rw [Int.mul_neg] at this
    omega
theorem nn_of_mul {a b : Int} (ha : 0 < a) (h : 0 ≤ a * b) : 0 ≤ b := by
  rcases Int.lt_or_le b 0 with h1 | h1
  · have := Int.mul_pos ha (show 0 < -b by omega)
    rw [Int.mul_neg] at this
    omega
  · exact h1
section Crs
variable {ux uy vx vy tx ty : Int}
theorem psv_nn (h : psv ux uy) : 0 ≤ uy := by rcases h with h | h <;> omega
theorem crs_2 (hu : psv ux uy) (hv : psv vx vy) (ht : psv tx ty) (h1 : 0 < crs ux uy vx vy) (h2 : 0 ≤ crs vx vy tx ty) : 0 < crs ux uy tx ty := by
  have un := psv_nn hu
  have hvy : 0 < vy := by
    rcases hv with h | ⟨h, hx⟩
    · exact h
    · have := Int.mul_nonneg un (Int.le_of_lt hx)
      unfold crs at h1
      rw [h, Int.mul_zero] at h1
      omega
  have hty : 0 < ty := by
    rcases ht with h | ⟨h, hx⟩
    · exact h
    · have := Int.mul_pos hvy hx
      unfold crs at h2
      rw [h, Int.mul_zero] at h2
      omega
  refine pos_of_mul hvy ?_
  rw [crs_id ux uy vx vy tx ty]
  have a1 := Int.mul_nonneg un h2
  have a2 := Int.mul_pos hty h1
  omega
theorem crs_3 (hu : psv ux uy) (hv : psv vx vy) (ht : psv tx ty) (h1 : 0 ≤ crs ux uy vx vy) (h2 : 0 < crs vx vy tx ty) : 0 < crs ux uy tx ty := by
  have un := psv_nn hu
  have vn := psv_nn hv
  have hty : 0 < ty := by
    rcases ht with h | ⟨h, hx⟩
    · exact h
    · have := Int.mul_nonneg vn (Int.le_of_lt hx)
      unfold crs at h2
      rw [h, Int.mul_zero] at h2
      omega
  have flat : uy = 0 → 0 < ux → 0 < crs ux uy tx ty := fun h0 hx => by
    unfold crs
    rw [h0, Int.zero_mul]
    have := Int.mul_pos hx hty
    omega
  rcases hv with hvy | ⟨hvy, hvx⟩
  · rcases hu with huy | ⟨huy, hux⟩
    · refine pos_of_mul hvy ?_
      rw [crs_id ux uy vx vy tx ty]
      have a1 := Int.mul_pos huy h2
      have a2 := Int.mul_nonneg (Int.le_of_lt hty) h1
      omega
    · exact flat huy hux
  · have u0 : uy = 0 := by
      unfold crs at h1
      rw [hvy, Int.mul_zero] at h1
      rcases Int.lt_or_le 0 uy with h | h
      · have := Int.mul_pos h hvx
        omega
      · omega
    rcases hu with huy | ⟨huy, hux⟩
    · omega
    · exact flat huy hux
theorem crs_4 (hu : psv ux uy) (hv : psv vx vy) (ht : psv tx ty) (h1 : 0 ≤ crs ux uy vx vy) (h2 : 0 ≤ crs vx vy tx ty) : 0 ≤ crs ux uy tx ty := by
  have un := psv_nn hu
  have tn' := psv_nn ht
  rcases hv with hvy | ⟨hvy, hvx⟩
  · refine nn_of_mul hvy ?_
    rw [crs_id ux uy vx vy tx ty]
    have a1 := Int.mul_nonneg un h2
    have a2 := Int.mul_nonneg tn' h1
    omega
  · have u0 : uy = 0 := by
      unfold crs at h1
      rw [hvy, Int.mul_zero] at h1
      rcases Int.lt_or_le 0 uy with h | h
      · have := Int.mul_pos h hvx
        omega
      · omega
    rcases hu with huy | ⟨huy, hux⟩
    · omega
    · unfold crs
      rw [u0, Int.zero_mul]
      have := Int.mul_nonneg (Int.le_of_lt hux) tn'
      omega
end Crs
/-- which way it turns from a to b to c; a stands ahead of b -/
def hd (X Y : Nat → Int) (a b c : Nat) : Int := (X b - X a) * (Y c - Y a) - (Y b - Y a) * (X c - X a)
def bef (X Y : Nat → Int) (a b : Nat) : Prop := psv (X b - X a) (Y b - Y a)
section Bef
variable {X Y : Nat → Int} {a b c d s t q : Nat}
theorem bef_trans (h1 : bef X Y a b) (h2 : bef X Y b c) : bef X Y a c := by
  unfold bef psv at *
  omega
theorem bef_ne (h : bef X Y a b) : a ≠ b := by
  intro e
  subst e
  unfold bef psv at h
  omega
theorem bef_asym (h1 : bef X Y a b) (h2 : bef X Y b a) : False := bef_ne (bef_trans h1 h2) rfl
theorem hd_swap : hd X Y a c b = -hd X Y a b c := by
  unfold hd
  grind
theorem hd_rot : hd X Y b c a = hd X Y a b c := by
  unfold hd
  grind
/-- an edge below an edge that turns on -/
theorem hd_1 (h1 : bef X Y a b) (h2 : bef X Y b c) (h3 : bef X Y c d) (g1 : 0 < hd X Y a b c) (g2 : 0 < hd X Y b c d) : 0 < hd X Y a b d := by
  have e1 : hd X Y a b c = crs (X b - X a) (Y b - Y a) (X c - X b) (Y c - Y b) := by unfold hd crs; grind
  have e2 : hd X Y b c d = crs (X c - X b) (Y c - Y b) (X d - X c) (Y d - Y c) := by unfold hd crs; grind
  have e3 : hd X Y a b d = crs (X b - X a) (Y b - Y a) (X c - X b) (Y c - Y b) + crs (X b - X a) (Y b - Y a) (X d - X c) (Y d - Y c) := by unfold hd crs; grind
  rw [e1] at g1
  rw [e2] at g2
  have := crs_2 h1 h2 h3 g1 (Int.le_of_lt g2)
  omega
theorem hd_2 (h1 : bef X Y s t) (h2 : bef X Y t c) (h3 : bef X Y c q) (g1 : 0 ≤ hd X Y t q c) (g2 : hd X Y s t q ≤ 0) : 0 ≤ hd X Y s q c := by
  have e1 : hd X Y t q c = crs (X q - X c) (Y q - Y c) (X c - X t) (Y c - Y t) := by unfold hd crs; grind
  have e2 : hd X Y s t q = crs (X t - X s) (Y t - Y s) (X c - X t) (Y c - Y t) + crs (X t - X s) (Y t - Y s) (X q - X c) (Y q - Y c) := by unfold hd crs; grind
  have e3 : hd X Y s q c = crs (X q - X c) (Y q - Y c) (X c - X t) (Y c - Y t) - crs (X t - X s) (Y t - Y s) (X q - X c) (Y q - Y c) := by unfold hd crs; grind
  rw [e1] at g1
  rw [e2] at g2
  rw [e3]
  rcases Int.lt_or_le 0 (crs (X t - X s) (Y t - Y s) (X q - X c) (Y q - Y c)) with h | h
  · have := crs_2 h1 h3 h2 h g1
    omega
  · omega
theorem hd_3 (h1 : bef X Y s c) (h2 : bef X Y c t) (h3 : bef X Y t q) (g1 : 0 ≤ hd X Y s t c) (g2 : hd X Y s t q ≤ 0) : 0 ≤ hd X Y s q c := by
  have h4 := bef_trans h1 h2
  have e1 : hd X Y s t c = crs (X t - X s) (Y t - Y s) (X c - X s) (Y c - Y s) := rfl
  have e2 : hd X Y s t q = -crs (X q - X t) (Y q - Y t) (X t - X s) (Y t - Y s) := by unfold hd crs; grind
  have e3 : hd X Y s q c = crs (X t - X s) (Y t - Y s) (X c - X s) (Y c - Y s) + crs (X q - X t) (Y q - Y t) (X c - X s) (Y c - Y s) := by unfold hd crs; grind
  rw [e1] at g1
  have := crs_4 h3 h4 h1 (by omega) g1
  omega
theorem hd_4 (h1 : bef X Y s c) (h2 : bef X Y c t) (h3 : bef X Y t q) (g1 : 0 ≤ hd X Y s t c) (g2 : 0 < hd X Y s t q) : 0 < hd X Y t q c := by
  have h4 := bef_trans h1 h2
  have e1 : hd X Y s t c = crs (X t - X c) (Y t - Y c) (X t - X s) (Y t - Y s) := by unfold hd crs; grind
  have e2 : hd X Y s t q = crs (X t - X s) (Y t - Y s) (X q - X t) (Y q - Y t) := by unfold hd crs; grind
  have e3 : hd X Y t q c = crs (X t - X c) (Y t - Y c) (X q - X t) (Y q - Y t) := by unfold hd crs; grind
  rw [e1] at g1
  rw [e2] at g2
  rw [e3]
  exact crs_3 h2 h4 h3 g1 g2
theorem hd_5 (h1 : bef X Y c s) (h2 : bef X Y s t) (h3 : bef X Y t q) (g1 : 0 < hd X Y s t c) (g2 : 0 < hd X Y s t q) : 0 < hd X Y t q c := by
  have e1 : hd X Y s t c = crs (X s - X c) (Y s - Y c) (X t - X s) (Y t - Y s) := by unfold hd crs; grind
  have e2 : hd X Y s t q = crs (X t - X s) (Y t - Y s) (X q - X t) (Y q - Y t) := by unfold hd crs; grind
  have e3 : hd X Y t q c = crs (X s - X c) (Y s - Y c) (X q - X t) (Y q - Y t) + crs (X t - X s) (Y t - Y s) (X q - X t) (Y q - Y t) := by unfold hd crs; grind
  rw [e1] at g1
  rw [e2] at g2
  have := crs_2 h1 h2 h3 g1 (Int.le_of_lt g2)
  omega
/-- between on a line: nearer -/
theorem hd_far (h1 : bef X Y a c) (h2 : bef X Y c b) (g : hd X Y a b c = 0) : (X c - X a) * (X c - X a) + (Y c - Y a) * (Y c - Y a) < (X b - X a) * (X b - X a) + (Y b - Y a) * (Y b - Y a) := by
  have e1 : hd X Y a b c = (X b - X c) * (Y c - Y a) - (Y b - Y c) * (X c - X a) := by unfold hd; grind
  rw [e1] at g
  have e2 : (X b - X a) * (X b - X a) + (Y b - Y a) * (Y b - Y a) = (X c - X a) * (X c - X a) + (Y c - Y a) * (Y c - Y a) + 2 * ((X c - X a) * (X b - X c) + (Y c - Y a) * (Y b - Y c)) + ((X b - X c) * (X b - X c) + (Y b - Y c) * (Y b - Y c)) := by grind
  rw [e2]
  unfold bef psv at h1 h2
  generalize X c - X a = vx at *
  generalize Y c - Y a = vy at *
  generalize X b - X c = ux at *
  generalize Y b - Y c = uy at *
  have dot : 0 < vx * ux + vy * uy := by
    rcases h1 with h1 | ⟨h1, h1'⟩
    · rcases h2 with h2 | ⟨h2, h2'⟩
      · have a1 := Int.mul_pos h1 h2
        have a2 : 0 ≤ vx * ux := by
          -- the same side
          rcases Int.lt_or_le vx 0 with hv | hv
          · have b1 := Int.mul_pos (show 0 < -vx by omega) h2
            rw [Int.neg_mul, Int.mul_comm vx uy] at b1
            have b2 : ux ≤ 0 := by
              rcases Int.lt_or_le 0 ux with hu | hu
              · have := Int.mul_pos hu h1
                omega
              · exact hu
            have := Int.mul_nonneg (show 0 ≤ -vx by omega) (show 0 ≤ -ux by omega)
            rw [Int.neg_mul_neg] at this
            exact this
          · rcases Int.lt_or_le ux 0 with hu | hu
            · have b1 := Int.mul_pos (show 0 < -ux by omega) h1
              rw [Int.neg_mul] at b1
              have := Int.mul_nonneg (Int.le_of_lt h2) hv
              omega
            · exact Int.mul_nonneg hv hu
        omega
      · have := Int.mul_pos h2' h1
        rw [h2, Int.zero_mul] at g
        omega
    · rcases h2 with h2 | ⟨h2, h2'⟩
      · have := Int.mul_pos h2 h1'
        rw [h1, Int.mul_zero] at g
        omega
      · have := Int.mul_pos h1' h2'
        rw [h1, Int.zero_mul]
        omega
  have s1 : 0 ≤ ux * ux := by
    rcases Int.le_total 0 ux with h | h
    · exact Int.mul_nonneg h h
    · have := Int.mul_nonneg (show 0 ≤ -ux by omega) (show 0 ≤ -ux by omega)
      rwa [Int.neg_mul_neg] at this
  have s2 : 0 ≤ uy * uy := by
    rcases Int.le_total 0 uy with h | h
    · exact Int.mul_nonneg h h
    · have := Int.mul_nonneg (show 0 ≤ -uy by omega) (show 0 ≤ -uy by omega)
      rwa [Int.neg_mul_neg] at this
  omega
end Bef
