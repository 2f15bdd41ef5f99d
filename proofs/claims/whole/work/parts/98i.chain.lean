/-! ===== chains ===== -/
def popR (X Y : Nat → Int) (q : Nat) : List Nat → List Nat
  | [] => []
  | [t] => [t]
  | t :: s :: r => if hd X Y s t q ≤ 0 then popR X Y q (s :: r) else t :: s :: r
def chn (X Y : Nat → Int) (l : List Nat) : List Nat := l.foldl (fun r q => q :: popR X Y q r) []
/-- every edge of the chain (the last corner first) has the others on its left, or between -/
def EG (X Y : Nat → Int) (L : List Nat) : List Nat → Prop
  | [] => True
  | [t] => ∀ c, c ∈ L → c ≠ t → bef X Y t c
  | t :: s :: r => bef X Y s t ∧ (∀ c, c ∈ L → c ≠ s → c ≠ t → 0 < hd X Y s t c ∨ (hd X Y s t c = 0 ∧ bef X Y s c ∧ bef X Y c t)) ∧ EG X Y L (s :: r)
theorem chn_snoc (X Y : Nat → Int) (l : List Nat) (q : Nat) : chn X Y (l ++ [q]) = q :: popR X Y q (chn X Y l) := by
  unfold chn
  rw [List.foldl_append]
  rfl
section Chn
variable {X Y : Nat → Int} {L : List Nat} {q : Nat}
theorem pop_ok (hq : ∀ c, c ∈ L → bef X Y c q) (tri : ∀ a, a ∈ L → ∀ b, b ∈ L → a = b ∨ bef X Y a b ∨ bef X Y b a) : ∀ (r : List Nat) (t : Nat), EG X Y L (t :: r) → (∀ c, c ∈ t :: r → c ∈ L) → (∀ c, c ∈ L → bef X Y t c → 0 ≤ hd X Y t q c) → ∃ t' r' pre, popR X Y q (t :: r) = t' :: r' ∧ t :: r = pre ++ t' :: r' ∧ EG X Y L (t' :: r') ∧ (∀ c, c ∈ L → c ≠ t' → 0 < hd X Y t' q c ∨ (hd X Y t' q c = 0 ∧ bef X Y t' c ∧ bef X Y c q)) ∧ (∀ s x, r' = s :: x → 0 < hd X Y s t' q) := by
  intro r
  induction r with
  | nil =>
    intro t E hm inv
    refine ⟨t, [], [], rfl, rfl, E, fun c hc hn => ?_, fun s x h => by simp at h⟩
    have hb : bef X Y t c := E c hc hn
    have h0 := inv c hc hb
    rcases Int.lt_or_le 0 (hd X Y t q c) with h | h
    · exact Or.inl h
    · exact Or.inr ⟨by omega, hb, hq c hc⟩
  | cons s r ih =>
    intro t E hm inv
    obtain ⟨E1, E2, E3⟩ := E
    have hs : s ∈ L := hm s (by simp)
    have ht : t ∈ L := hm t (by simp)
    have tq := hq t ht
    by_cases g : hd X Y s t q ≤ 0
    · have e : popR X Y q (t :: s :: r) = popR X Y q (s :: r) := by rw [popR, if_pos g]
      obtain ⟨t', r', pre, p1, p2, p3⟩ := ih s E3 (fun c hc => hm c (List.mem_cons_of_mem _ hc)) (fun c hc hb => by
        rcases tri c hc t ht with h | h | h
        · subst h
          rw [hd_swap]
          omega
        · -- between s and t
          have h0 : 0 ≤ hd X Y s t c := by
            rcases E2 c hc (fun hh => bef_ne hb hh.symm) (fun hh => bef_ne h hh) with x | x <;> omega
          exact hd_3 hb h tq h0 g
        · exact hd_2 E1 h (hq c hc) (inv c hc h) g)
      exact ⟨t', r', t :: pre, by rw [e]; exact p1, by rw [p2]; rfl, p3⟩
    · have e : popR X Y q (t :: s :: r) = t :: s :: r := by rw [popR, if_neg g]
      have g' : 0 < hd X Y s t q := by omega
      refine ⟨t, s :: r, [], e, rfl, ⟨E1, E2, E3⟩, fun c hc hn => ?_, fun s' x h => ?_⟩
      · rcases tri c hc t ht with h | h | h
        · exact absurd h hn
        · left
          rcases tri c hc s hs with h' | h' | h'
          · subst h'
            rw [hd_rot]
            exact g'
          · have h0 : 0 < hd X Y s t c := by
              rcases E2 c hc (fun hh => bef_ne h' hh) hn with x | x
              · exact x
              · exact absurd x.2.1 (fun hh => bef_asym h' hh)
            exact hd_5 h' E1 tq h0 g'
          · have h0 : 0 ≤ hd X Y s t c := by
              rcases E2 c hc (fun hh => bef_ne h' hh.symm) hn with x | x <;> omega
            exact hd_4 h' h tq h0 g'
        · have h0 := inv c hc h
          rcases Int.lt_or_le 0 (hd X Y t q c) with x | x
          · exact Or.inl x
          · exact Or.inr ⟨by omega, h, hq c hc⟩
      · injection h with h1 h2
        subst h1
        exact g'
theorem ext_ok (hq : ∀ c, c ∈ L → bef X Y c q) : ∀ (r : List Nat) (t : Nat), EG X Y L (t :: r) → (∀ c, c ∈ t :: r → c ∈ L) → (∀ s x, r = s :: x → 0 < hd X Y s t q) → EG X Y (L ++ [q]) (t :: r) := by
  intro r
  induction r with
  | nil =>
    intro t E hm _
    intro c hc hn
    rcases List.mem_append.mp hc with h | h
    · exact E c h hn
    · have : c = q := by simpa using h
      subst this
      exact hq t (hm t (by simp))
  | cons s r ih =>
    intro t E hm top
    obtain ⟨E1, E2, E3⟩ := E
    have g := top s r rfl
    have tq := hq t (hm t (by simp))
    refine ⟨E1, fun c hc h1 h2 => ?_, ih s E3 (fun c hc => hm c (List.mem_cons_of_mem _ hc)) (fun s' x h => ?_)⟩
    · rcases List.mem_append.mp hc with h | h
      · exact E2 c h h1 h2
      · have : c = q := by simpa using h
        subst this
        exact Or.inl g
    · subst h
      obtain ⟨G1, G2, G3⟩ := E3
      have h0 : 0 < hd X Y s' s t := by
        rcases G2 t (hm t (by simp)) (fun hh => bef_ne (bef_trans G1 E1) hh.symm) (fun hh => bef_ne E1 hh.symm) with x | x
        · exact x
        · exact absurd x.2.2 (fun hh => bef_asym E1 hh)
      exact hd_1 G1 E1 tq h0 g
/-- a chain stands -/
def CH (X Y : Nat → Int) (L R : List Nat) : Prop := EG X Y L R ∧ (∀ c, c ∈ R → c ∈ L) ∧ R.Nodup ∧ R.length ≤ L.length ∧ ∃ t r, R = t :: r ∧ t ∈ L ∧ ∀ c, c ∈ L → c ≠ t → bef X Y c t
theorem ch_one : CH X Y [q] [q] := by
  refine ⟨fun c hc hn => ?_, fun c hc => hc, by simp, Nat.le_refl _, q, [], rfl, by simp, fun c hc hn => ?_⟩
  · exact absurd (by simpa using hc) hn
  · exact absurd (by simpa using hc) hn
theorem ch_step {R : List Nat} (h : CH X Y L R) (hq : ∀ c, c ∈ L → bef X Y c q) (tri : ∀ a, a ∈ L → ∀ b, b ∈ L → a = b ∨ bef X Y a b ∨ bef X Y b a) : CH X Y (L ++ [q]) (q :: popR X Y q R) := by
  obtain ⟨h1, h2, h3, h4, t, r, h5, h6, h7⟩ := h
  subst h5
  obtain ⟨t', r', pre, p1, p2, p3, p4, p5⟩ := pop_ok hq tri r t h1 h2 (fun c hc hb => by
    exfalso
    exact bef_asym hb (h7 c hc (fun hh => bef_ne hb hh.symm)))
  have sub : ∀ c, c ∈ t' :: r' → c ∈ t :: r := fun c hc => by rw [p2]; exact List.mem_append_right _ hc
  have sub2 : ∀ c, c ∈ t' :: r' → c ∈ L := fun c hc => h2 c (sub c hc)
  have nd : (t' :: r').Nodup := by
    rw [p2] at h3
    exact (List.nodup_append.mp h3).2.1
  rw [p1]
  refine ⟨⟨hq t' (sub2 t' (by simp)), fun c hc n1 n2 => ?_, ext_ok hq r' t' p3 sub2 p5⟩, fun c hc => ?_, ?_, ?_, q, t' :: r', rfl, by simp, fun c hc hn => ?_⟩
  · rcases List.mem_append.mp hc with h | h
    · exact p4 c h n1
    · exact absurd (by simpa using h) n2
  · rcases List.mem_cons.mp hc with h | h
    · rw [h]; simp
    · exact List.mem_append_left _ (sub2 c h)
  · refine List.nodup_cons.mpr ⟨fun hh => bef_ne (hq q (sub2 q hh)) rfl, nd⟩
  · have : (t :: r).length = pre.length + (t' :: r').length := by rw [p2, List.length_append]
    rw [List.length_append]
    simp at h4 this ⊢
    omega
  · rcases List.mem_append.mp hc with h | h
    · exact hq c h
    · exact absurd (by simpa using h) hn
end Chn
theorem chain_ok {X Y : Nat → Int} : ∀ (n : Nat) (l : List Nat), l.length = n + 1 → l.Pairwise (bef X Y) → CH X Y l (chn X Y l) := by
  intro n
  induction n with
  | zero =>
    intro l hl _
    obtain ⟨a, ha⟩ := List.length_eq_one_iff.mp hl
    subst ha
    exact ch_one
  | succ n ih =>
    intro l hl hp
    rcases List.eq_nil_or_concat l with h | ⟨l2, b, h⟩
    · subst h; simp at hl
    · rw [List.concat_eq_append] at h
      subst h
      have hl2 : l2.length = n + 1 := by simpa using hl
      obtain ⟨p1, -, p3⟩ := List.pairwise_append.mp hp
      rw [chn_snoc]
      refine ch_step (ih l2 hl2 p1) (fun c hc => p3 c hc b (by simp)) (fun a ha b hb => ?_)
      obtain ⟨i, hi, e1⟩ := List.mem_iff_getElem.mp ha
      obtain ⟨j, hj, e2⟩ := List.mem_iff_getElem.mp hb
      have pw := List.pairwise_iff_getElem.mp p1
      rcases Nat.lt_trichotomy i j with h | h | h
      · right; left
        rw [← e1, ← e2]
        exact pw i j hi hj h
      · left
        subst h
        rw [← e1, ← e2]
      · right; right
        rw [← e1, ← e2]
        exact pw j i hj hi h
theorem EG_bot {X Y : Nat → Int} {L : List Nat} {f : Nat} : ∀ r, EG X Y L (r ++ [f]) → ∀ c, c ∈ L → c ≠ f → bef X Y f c := by
  intro r
  induction r with
  | nil => intro E; exact E
  | cons t r ih =>
    intro E
    cases r with
    | nil => exact ih E.2.2
    | cons s r => exact ih E.2.2
/-! one behind another -/
def Con (G : Nat → Nat → Prop) : List Nat → Prop
  | [] => True
  | [_] => True
  | a :: b :: l => G a b ∧ Con G (b :: l)
theorem Con_join {G : Nat → Nat → Prop} {x : Nat} {l2 : List Nat} (h2 : Con G (x :: l2)) : ∀ l1, Con G (l1 ++ [x]) → Con G (l1 ++ x :: l2) := by
  intro l1
  induction l1 with
  | nil => intro _; exact h2
  | cons a l ih =>
    intro h
    cases l with
    | nil => exact ⟨h.1, h2⟩
    | cons b l => exact ⟨h.1, ih h.2⟩
theorem Con_mono {G G' : Nat → Nat → Prop} (hg : ∀ a b, G a b → G' a b) : ∀ l, Con G l → Con G' l := by
  intro l
  induction l with
  | nil => intro _; trivial
  | cons a l ih =>
    intro h
    cases l with
    | nil => trivial
    | cons b l => exact ⟨hg a b h.1, ih h.2⟩
theorem Con_get {G : Nat → Nat → Prop} : ∀ l, Con G l → ∀ i (h : i + 1 < l.length), G l[i] l[i + 1] := by
  intro l
  induction l with
  | nil => intro _ i h; simp at h
  | cons a l ih =>
    intro hc i h
    cases l with
    | nil => simp at h
    | cons b l =>
      cases i with
      | zero => exact hc.1
      | succ i => exact ih hc.2 i (by simpa using h)
theorem Con_left {G : Nat → Nat → Prop} {l2 : List Nat} : ∀ l1, Con G (l1 ++ l2) → Con G l1 := by
  intro l1
  induction l1 with
  | nil => intro _; trivial
  | cons a l ih =>
    intro h
    cases l with
    | nil => trivial
    | cons b l => exact ⟨h.1, ih h.2⟩
theorem EG_con {X Y : Nat → Int} {L : List Nat} : ∀ R, EG X Y L R → Con (fun a b => ∀ c, c ∈ L → c ≠ a → c ≠ b → 0 < hd X Y a b c ∨ (hd X Y a b c = 0 ∧ bef X Y a c ∧ bef X Y c b)) R.reverse := by
  intro R
  induction R with
  | nil => intro _; trivial
  | cons t r ih =>
    intro E
    cases r with
    | nil => trivial
    | cons s r =>
      obtain ⟨E1, E2, E3⟩ := E
      have h := ih E3
      rw [List.reverse_cons, List.reverse_cons, List.append_assoc]
      rw [List.reverse_cons] at h
      exact Con_join (x := s) (l2 := [t]) ⟨E2, trivial⟩ r.reverse h
/-! the other way round -/
theorem hd_neg (X Y : Nat → Int) (a b c : Nat) : hd (fun k => -X k) (fun k => -Y k) a b c = hd X Y a b c := by
  unfold hd
  grind
theorem bef_neg {X Y : Nat → Int} {a b : Nat} : bef (fun k => -X k) (fun k => -Y k) a b ↔ bef X Y b a := by
  unfold bef psv
  show (0 < -Y b - -Y a ∨ (-Y b - -Y a = 0 ∧ 0 < -X b - -X a)) ↔ _
  omega
theorem popR_neg (X Y : Nat → Int) (q : Nat) : ∀ r, popR (fun k => -X k) (fun k => -Y k) q r = popR X Y q r := by
  intro r
  induction r with
  | nil => rfl
  | cons t r ih =>
    cases r with
    | nil => rfl
    | cons s r => rw [popR, popR, hd_neg, ih]
theorem chn_neg (X Y : Nat → Int) (l : List Nat) : chn (fun k => -X k) (fun k => -Y k) l = chn X Y l := by
  unfold chn
  congr 1
  funext r q
  rw [popR_neg]
/-- an edge of the hull -/
def GEd (X Y : Nat → Int) (S : List Nat) (a b : Nat) : Prop := ∀ c, c ∈ S → c ≠ a → c ≠ b → 0 < hd X Y a b c ∨ (hd X Y a b c = 0 ∧ (X c - X a) * (X c - X a) + (Y c - Y a) * (Y c - Y a) < (X b - X a) * (X b - X a) + (Y b - Y a) * (Y b - Y a))
