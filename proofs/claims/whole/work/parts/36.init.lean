/-! ===== the start ===== -/
theorem Dini2 (a k : Nat) : Dini.2 a k = if a = 76 ∧ k = 3 then 1 else 0 := by
  show (if a = 76 ∧ k = 3 then (1 : Int) else if a = 76 ∧ k = 2 then 0 else if a = 76 ∧ k = 1 then 0 else if a = 76 ∧ k = 0 then 0 else 0) = _
  split
  · rfl
  · split
    · rfl
    · split
      · rfl
      · split <;> rfl
def M0 : MS := ((0, 0, 0, 1), (fun _ => 0, fun _ => 0), (fun _ => 0, fun _ => 0, fun _ => 0), (100, 5, -1), (0, fun _ => 0), (0, fun _ => 0))
theorem MOK0 : MOK M0 := by
  refine ⟨Or.inl ⟨rfl, rfl⟩, ⟨by decide, by decide⟩, by decide, ⟨by decide, by decide⟩, fun c hc => absurd hc (by show ¬ c < 0 * 0; omega), fun k _ => ⟨by show (0 : Int) ≤ 0; omega, by show (0 : Int) ≤ 99999; omega⟩, fun z hz => absurd hz (by show ¬ z < 0; omega), ⟨⟨by decide, by decide⟩, ⟨by decide, by decide⟩, ⟨by decide, by decide⟩⟩, ⟨by decide, fun k hk => absurd hk (by show ¬ k < 0; omega)⟩, ⟨by decide, fun k hk => absurd hk (by show ¬ k < 0; omega)⟩⟩
theorem n0 {c : Nat} {P : Prop} (h : c < nC M0) : P := absurd h (by show ¬ c < 0 * 0; omega)
theorem z0 {c : Nat} {P : Prop} (h : c < mZ M0) : P := absurd h (by show ¬ c < 0; omega)
theorem CInv0 : CInv Dini M0 := by
  refine ⟨MOK0, ⟨⟨⟨⟨rfl, rfl⟩, ⟨by decide, by decide⟩, fun c hc => n0 hc⟩, ⟨rfl, rfl⟩, fun k _ => by rw [Dini2, if_neg (by omega)]; rfl, fun z hz => z0 hz⟩, ⟨⟨fun c _ => Or.inl (by rw [Dini2, if_neg (by omega)]), fun k _ => by rw [Dini2, if_neg (by omega)]; decide⟩, ⟨fun c _ => Or.inl (by rw [Dini2, if_neg (by omega)]), fun k _ => by rw [Dini2, if_neg (by omega)]; decide⟩⟩, ⟨rfl, rfl, rfl⟩, ⟨rfl, fun k hk => absurd hk (by show ¬ k < 0; omega)⟩, ⟨rfl, fun k hk => absurd hk (by show ¬ k < 0; omega)⟩⟩, ⟨Or.inl rfl, ⟨fun z _ => Or.inl (by rw [Dini2, if_neg (by omega)]), Or.inl rfl, fun z hz => z0 hz, fun h => absurd h (by decide +kernel)⟩, Or.inl rfl⟩, Or.inl rfl⟩
theorem RInv0 : RInv Dini M0 := by
  refine ⟨MOK0, ⟨⟨⟨by rw [Dini2, if_neg (by omega)]; rfl, by rw [Dini2, if_neg (by omega)]; rfl⟩, ⟨by decide, by decide⟩, fun c hc => n0 hc⟩, by rw [Dini2, if_neg (by omega)]; rfl, by rw [Dini2, if_pos (by omega)]; rfl⟩, fun k _ => by rw [Dini2, if_neg (by omega)]; rfl, fun z hz => z0 hz, ⟨rfl, rfl, rfl⟩, ⟨rfl, fun k hk => absurd hk (by show ¬ k < 0; omega)⟩, ⟨rfl, fun k hk => absurd hk (by show ¬ k < 0; omega)⟩, fun k _ => by rw [Dini2, if_neg (by omega)]; decide, ⟨fun z hz => ?_, fun z hz => z0 hz, fun c hc => n0 hc⟩⟩
  have : z = 0 := by have : z ≤ 0 := hz; omega
  subst this
  rw [Dini2, if_neg (by omega)]
  rfl
theorem Good0 : Good Dini := ⟨M0, CInv0, RInv0⟩
