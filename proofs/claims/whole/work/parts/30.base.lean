/-! ===== PURE: evaluating the functions ===== -/
theorem gd_t {α : Type} {c : Prop} [Decidable c] {X : Option α} (h : c) : gd c X = X := if_pos h
theorem sq_eq {α : Type} (D : DT) (f : DT → Option α) : sq D f = f D := rfl
theorem bnd_some {α β : Type} (a : α) (D : DT) (f : α → DT → Option β) : bnd (some (a, D)) f = f a D := rfl
theorem bndX_inl {β : Type} (v : Int) (D : DT) (f : Int → DT → Option ((β ⊕ Nat) × DT)) : bndX (some (.inl v, D)) f = f v D := rfl
theorem bndX_inr {β : Type} (e : Nat) (D : DT) (f : Int → DT → Option ((β ⊕ Nat) × DT)) : bndX (some (.inr e, D)) f = some (.inr e, D) := rfl
theorem bndN_inl {β : Type} (D : DT) (f : Option ((β ⊕ Nat) × DT)) : bndN (some (.inl ())) D f = f := rfl
theorem bndN_inr {β : Type} (e : Nat) (D : DT) (f : Option ((β ⊕ Nat) × DT)) : bndN (some (.inr e)) D f = some (.inr e, D) := rfl
theorem bndM_inl (f : Option (Unit ⊕ Nat)) : bndM (some (.inl ())) f = f := rfl
theorem bndM_inr (e : Nat) (f : Option (Unit ⊕ Nat)) : bndM (some (.inr e)) f = some (.inr e) := rfl
theorem bndH_inl (v : Int) (D : DT) (hd : Nat → DT → Option (Int × DT)) (f : Int → DT → Option (Int × DT)) : bndH (some (.inl v, D)) hd f = f v D := rfl
theorem bndH_inr (e : Nat) (D : DT) (hd : Nat → DT → Option (Int × DT)) (f : Int → DT → Option (Int × DT)) : bndH (some (.inr e, D)) hd f = hd e D := rfl
theorem done_some {σ α : Type} (a : α) : (done (some a) : Option (σ ⊕ α)) = some (.inr a) := rfl
theorem ob_some {α β : Type} (a : α) (f : α → Option β) : (some a).bind f = f a := rfl
theorem if_t {α : Type} {c : Prop} [Decidable c] {X Y : α} (h : c) : (if c then X else Y) = X := if_pos h
theorem if_f {α : Type} {c : Prop} [Decidable c] {X Y : α} (h : ¬ c) : (if c then X else Y) = Y := if_neg h
theorem tn (n : Nat) : Int.toNat (n : Int) = n := rfl
/-! the data -/
theorem sF1 (D : DT) (a k : Nat) (v : Int) (a' k' : Nat) : (sF D a k v).1 a' k' = if a' = a ∧ k' = k then v else D.1 a' k' := rfl
theorem sF2 (D : DT) (a k : Nat) (v : Int) : (sF D a k v).2 = D.2 := rfl
theorem sA1 (D : DT) (a k : Nat) (v : Int) : (sA D a k v).1 = D.1 := rfl
theorem sA2 (D : DT) (a k : Nat) (v : Int) (a' k' : Nat) : (sA D a k v).2 a' k' = if a' = a ∧ k' = k then v else D.2 a' k' := rfl
/-! loops -/
theorem loop_for {σ α : Type} {f : σ → Option (σ ⊕ α)} {r : α} (st : Nat → σ) (n : Nat) (hs : ∀ k, k < n → f (st k) = some (.inl (st (k + 1)))) (he : f (st n) = some (.inr r)) : loopF f (st 0) = some r := by
  have h : ∀ k, k ≤ n → loopF f (st 0) = loopF f (st k) := by
    intro k
    induction k with
    | zero => intro _; rfl
    | succ k ih => intro hk; rw [ih (by omega), loopF_inl (hs k (by omega))]
  rw [h n (Nat.le_refl _), loopF_inr he]
theorem loop_to {σ α : Type} {f : σ → Option (σ ⊕ α)} (st : Nat → σ) (n : Nat) (hs : ∀ k, k < n → f (st k) = some (.inl (st (k + 1)))) : loopF f (st 0) = loopF f (st n) := by
  have h : ∀ k, k ≤ n → loopF f (st 0) = loopF f (st k) := by
    intro k
    induction k with
    | zero => intro _; rfl
    | succ k ih => intro hk; rw [ih (by omega), loopF_inl (hs k (by omega))]
  exact h n (Nat.le_refl _)
/-- a loop whose states are told by a property -/
theorem loop_inv {σ α : Type} {f : σ → Option (σ ⊕ α)} (I : Nat → σ → Prop) (n : Nat) {s : σ} (h0 : I 0 s) (hs : ∀ k s, k < n → I k s → ∃ s', f s = some (.inl s') ∧ I (k + 1) s') : ∃ s', I n s' ∧ loopF f s = loopF f s' := by
  have h : ∀ k, k ≤ n → ∃ s', I k s' ∧ loopF f s = loopF f s' := by
    intro k
    induction k with
    | zero => intro _; exact ⟨s, h0, rfl⟩
    | succ k ih =>
      intro hk
      obtain ⟨s1, h1, e1⟩ := ih (by omega)
      obtain ⟨s2, e2, h2⟩ := hs k s1 (by omega) h1
      exact ⟨s2, h2, by rw [e1, loopF_inl e2]⟩
  exact h n (Nat.le_refl _)
/-- .. with a measure that falls -/
theorem loop_wf {σ α : Type} {f : σ → Option (σ ⊕ α)} (μ : σ → Nat) (I : σ → Prop) (Q : α → Prop) (hs : ∀ s, I s → (∃ s', f s = some (.inl s') ∧ I s' ∧ μ s' < μ s) ∨ ∃ r, f s = some (.inr r) ∧ Q r) {s : σ} (h0 : I s) : ∃ r, loopF f s = some r ∧ Q r := by
  obtain ⟨n, hn⟩ : ∃ n, n = μ s := ⟨_, rfl⟩
  induction n using Nat.strongRecOn generalizing s with
  | ind n ih =>
    rcases hs s h0 with ⟨s', e, h1, h2⟩ | ⟨r, e, h1⟩
    · obtain ⟨r, e2, hq⟩ := ih (μ s') (by omega) h1 rfl
      exact ⟨r, by rw [loopF_inl e, e2], hq⟩
    · exact ⟨r, loopF_inr e, h1⟩
/-! sums, folds -/
def sumTo (f : Nat → Int) : Nat → Int
  | 0 => 0
  | n + 1 => sumTo f n + f n
theorem sumTo_congr {f g : Nat → Int} {n : Nat} (h : ∀ k, k < n → f k = g k) : sumTo f n = sumTo g n := by
  induction n with
  | zero => rfl
  | succ n ih => rw [sumTo, sumTo, ih (fun k hk => h k (by omega)), h n (by omega)]
theorem sumTo_bounds {f : Nat → Int} {n : Nat} {a b : Int} (h : ∀ k, k < n → a ≤ f k ∧ f k ≤ b) : a * n ≤ sumTo f n ∧ sumTo f n ≤ b * n := by
  induction n with
  | zero => simp [sumTo]
  | succ n ih =>
    obtain ⟨h1, h2⟩ := ih (fun k hk => h k (by omega))
    obtain ⟨h3, h4⟩ := h n (by omega)
    have e1 : a * ((n + 1 : Nat) : Int) = a * n + a := by rw [Int.natCast_add, Int.mul_add]; simp
    have e2 : b * ((n + 1 : Nat) : Int) = b * n + b := by rw [Int.natCast_add, Int.mul_add]; simp
    rw [sumTo, e1, e2]
    omega
def b2i (c : Prop) [Decidable c] : Int := if c then 1 else 0
theorem b2i_t {c : Prop} [Decidable c] (h : c) : b2i c = 1 := if_pos h
theorem b2i_f {c : Prop} [Decidable c] (h : ¬ c) : b2i c = 0 := if_neg h
theorem b2i_01 {c : Prop} [Decidable c] : 0 ≤ b2i c ∧ b2i c ≤ 1 := by unfold b2i; split <;> omega
def foldTo {α : Type} (f : α → Nat → α) (a : α) : Nat → α
  | 0 => a
  | n + 1 => f (foldTo f a n) n
/-! what the class leaves of the reference's data and the other way round -/
def FrC (D D' : DT) : Prop := ∀ a, 73 ≤ a → D'.1 a = D.1 a ∧ D'.2 a = D.2 a
def FrR (D D' : DT) : Prop := ∀ a, (a < 73 ∨ 102 ≤ a) → D'.1 a = D.1 a ∧ D'.2 a = D.2 a
theorem FrC.rfl {D : DT} : FrC D D := fun _ _ => ⟨Eq.refl _, Eq.refl _⟩
theorem FrC.trans {D D' D'' : DT} (h : FrC D D') (h' : FrC D' D'') : FrC D D'' := fun a ha => ⟨(h' a ha).1.trans (h a ha).1, (h' a ha).2.trans (h a ha).2⟩
theorem FrR.rfl {D : DT} : FrR D D := fun _ _ => ⟨Eq.refl _, Eq.refl _⟩
theorem FrR.trans {D D' D'' : DT} (h : FrR D D') (h' : FrR D' D'') : FrR D D'' := fun a ha => ⟨(h' a ha).1.trans (h a ha).1, (h' a ha).2.trans (h a ha).2⟩
theorem FrC.f {D : DT} {a k : Nat} {v : Int} (h : a < 73) : FrC D (sF D a k v) := fun q hq => ⟨by funext k'; rw [sF1, if_neg (by omega)], Eq.refl _⟩
theorem FrC.a {D : DT} {a k : Nat} {v : Int} (h : a < 73) : FrC D (sA D a k v) := fun q hq => ⟨Eq.refl _, by funext k'; rw [sA2, if_neg (by omega)]⟩
theorem FrR.f {D : DT} {a k : Nat} {v : Int} (h : 73 ≤ a ∧ a < 102) : FrR D (sF D a k v) := fun q hq => ⟨by funext k'; rw [sF1, if_neg (by omega)], Eq.refl _⟩
theorem FrR.a {D : DT} {a k : Nat} {v : Int} (h : 73 ≤ a ∧ a < 102) : FrR D (sA D a k v) := fun q hq => ⟨Eq.refl _, by funext k'; rw [sA2, if_neg (by omega)]⟩
