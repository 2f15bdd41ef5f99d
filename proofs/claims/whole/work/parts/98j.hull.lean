/-! ===== the hull ===== -/
theorem GEd_uniq {X Y : Nat → Int} {S : List Nat} {a b b' : Nat} (hb : b ∈ S) (hb' : b' ∈ S) (n : b ≠ a) (n' : b' ≠ a) (h : GEd X Y S a b) (h' : GEd X Y S a b') : b = b' := by
  by_cases e : b = b'
  · exact e
  · exfalso
    have h1 := h b' hb' n' (fun x => e x.symm)
    have h2 := h' b hb n e
    have sw : hd X Y a b' b = -hd X Y a b b' := hd_swap
    rw [sw] at h2
    rcases h1 with h1 | ⟨h1, h1'⟩ <;> rcases h2 with h2 | ⟨h2, h2'⟩ <;> omega
theorem ged_of {X Y : Nat → Int} {S : List Nat} {a b : Nat} (h : ∀ c, c ∈ S → c ≠ a → c ≠ b → 0 < hd X Y a b c ∨ (hd X Y a b c = 0 ∧ bef X Y a c ∧ bef X Y c b)) : GEd X Y S a b := fun c hc n1 n2 => by
  rcases h c hc n1 n2 with x | ⟨x1, x2, x3⟩
  · exact Or.inl x
  · exact Or.inr ⟨x1, hd_far x2 x3 x1⟩
theorem ged_neg {X Y : Nat → Int} {S : List Nat} {a b : Nat} (h : GEd (fun k => -X k) (fun k => -Y k) S a b) : GEd X Y S a b := fun c hc n1 n2 => by
  rcases h c hc n1 n2 with x | ⟨x1, x2⟩
  · rw [hd_neg] at x
    exact Or.inl x
  · rw [hd_neg] at x1
    have x3 : (-X c - -X a) * (-X c - -X a) + (-Y c - -Y a) * (-Y c - -Y a) < (-X b - -X a) * (-X b - -X a) + (-Y b - -Y a) * (-Y b - -Y a) := x2
    have e : ∀ u v : Int, (-u - -v) * (-u - -v) = (u - v) * (u - v) := fun u v => by
      have : -u - -v = -(u - v) := by omega
      rw [this, Int.neg_mul_neg]
    rw [e, e, e, e] at x3
    exact Or.inr ⟨x1, x3⟩
theorem EG_con2 {X Y : Nat → Int} {L : List Nat} : ∀ R, EG X Y L R → Con (fun a b => bef X Y a b ∧ GEd X Y L a b) R.reverse := by
  intro R
  induction R with
  | nil => intro _; trivial
  | cons t r ih =>
    intro E
    cases r with
    | nil => trivial
    | cons s r =>
      obtain ⟨E1, E2, E3⟩ := E
      have h := ih E3
      rw [List.reverse_cons, List.reverse_cons, List.append_assoc]
      rw [List.reverse_cons] at h
      exact Con_join (x := s) (l2 := [t]) ⟨⟨E1, ged_of E2⟩, trivial⟩ r.reverse h
theorem Con_succ {G : Nat → Nat → Prop} {x c : Nat} : ∀ l, Con G (l ++ [x]) → c ∈ l → ∃ b, b ∈ l ++ [x] ∧ G c b := by
  intro l
  induction l with
  | nil => intro _ h; simp at h
  | cons a l ih =>
    intro h hc
    cases l with
    | nil =>
      have e : c = a := by simpa using hc
      subst e
      exact ⟨x, by simp, h.1⟩
    | cons b l =>
      rcases List.mem_cons.mp hc with e | e
      · subst e
        exact ⟨b, by simp, h.1⟩
      · obtain ⟨y, y1, y2⟩ := ih h.2 e
        exact ⟨y, List.mem_cons_of_mem _ y1, y2⟩
theorem Con_last {G : Nat → Nat → Prop} {a x : Nat} : ∀ l, Con G (l ++ [a] ++ [x]) → G a x := by
  intro l
  induction l with
  | nil => intro h; exact h.1
  | cons b l ih =>
    intro h
    cases l with
    | nil => exact ih h.2
    | cons c l => exact ih h.2
theorem nodup_rev {l : List Nat} (h : l.Nodup) : l.reverse.Nodup := List.pairwise_reverse.mpr (List.Pairwise.imp (fun {a b : Nat} (q : a ≠ b) (e : b = a) => q e.symm) h)
theorem chain_ends {X Y : Nat → Int} {S : List Nat} {f g : Nat} (hf : f ∈ S) (hg : g ∈ S) (hfg : bef X Y f g) (hmin : ∀ c, c ∈ S → c ≠ f → bef X Y f c) (hmax : ∀ c, c ∈ S → c ≠ g → bef X Y c g) {R : List Nat} (h : CH X Y S R) : ∃ m, R = g :: (m ++ [f]) := by
  obtain ⟨h1, h2, h3, h4, t, r, h5, h6, h7⟩ := h
  have et : t = g := by
    by_cases e : t = g
    · exact e
    · exact (bef_asym (h7 g hg (fun x => e x.symm)) (hmax t h6 e)).elim
  rw [et] at h5
  rcases List.eq_nil_or_concat R with e | ⟨r2, b, e⟩
  · rw [e] at h5
    cases h5
  · rw [List.concat_eq_append] at e
    have eb : b = f := by
      have hb : b ∈ S := h2 b (by rw [e]; simp)
      have hm : ∀ c, c ∈ S → c ≠ b → bef X Y b c := EG_bot r2 (by rw [← e]; exact h1)
      by_cases q : b = f
      · exact q
      · exact (bef_asym (hm f hf (fun x => q x.symm)) (hmin b hb q)).elim
    rw [eb] at e
    cases r2 with
    | nil =>
      exfalso
      rw [e] at h5
      have h8 : f :: [] = g :: r := h5
      exact bef_ne hfg (List.cons.inj h8).1
    | cons a m =>
      rw [e] at h5
      have h8 : a :: (m ++ [f]) = g :: r := h5
      refine ⟨m, ?_⟩
      rw [e, (List.cons.inj h8).1]
      rfl
theorem hull_pure {X Y : Nat → Int} {S : List Nat} {f g : Nat} {mid : List Nat} (hS : S = f :: (mid ++ [g])) (hp : S.Pairwise (bef X Y)) : ∃ m m', chn X Y S = g :: (m ++ [f]) ∧ chn X Y S.reverse = f :: (m' ++ [g]) ∧ (f :: (m.reverse ++ g :: m'.reverse)).Nodup ∧ (∀ c, c ∈ f :: (m.reverse ++ g :: m'.reverse) → c ∈ S) ∧ Con (GEd X Y S) (f :: (m.reverse ++ g :: m'.reverse) ++ [f]) := by
  have hf : f ∈ S := by rw [hS]; simp
  have hg : g ∈ S := by rw [hS]; simp
  have hp1 : (f :: (mid ++ [g])).Pairwise (bef X Y) := by rw [← hS]; exact hp
  have hp3 : ((f :: mid) ++ [g]).Pairwise (bef X Y) := hp1
  have hmin : ∀ c, c ∈ S → c ≠ f → bef X Y f c := fun c hc n => by
    rw [hS] at hc
    rcases List.mem_cons.mp hc with h | h
    · exact absurd h n
    · exact (List.pairwise_cons.mp hp1).1 c h
  have hmax : ∀ c, c ∈ S → c ≠ g → bef X Y c g := fun c hc n => by
    have hc2 : c ∈ (f :: mid) ++ [g] := by rw [hS] at hc; exact hc
    rcases List.mem_append.mp hc2 with h | h
    · exact (List.pairwise_append.mp hp3).2.2 c h g (by simp)
    · exact absurd (by simpa using h) n
  have hfg : bef X Y f g := (List.pairwise_cons.mp hp1).1 g (by simp)
  have len : S.length = (mid.length + 1) + 1 := by rw [hS]; simp
  have C1 : CH X Y S (chn X Y S) := chain_ok (mid.length + 1) S len hp
  have hp2 : S.reverse.Pairwise (bef (fun k => -X k) (fun k => -Y k)) := List.pairwise_reverse.mpr (List.Pairwise.imp (fun h => bef_neg.mpr h) hp)
  have C2 : CH (fun k => -X k) (fun k => -Y k) S.reverse (chn X Y S.reverse) := by
    have := chain_ok (X := fun k => -X k) (Y := fun k => -Y k) (mid.length + 1) S.reverse (by rw [List.length_reverse]; exact len) hp2
    rw [chn_neg] at this
    exact this
  obtain ⟨m, em⟩ := chain_ends hf hg hfg hmin hmax C1
  obtain ⟨m', em'⟩ := chain_ends (f := g) (g := f) (List.mem_reverse.mpr hg) (List.mem_reverse.mpr hf) (bef_neg.mpr hfg) (fun c hc n => bef_neg.mpr (hmax c (List.mem_reverse.mp hc) n)) (fun c hc n => bef_neg.mpr (hmin c (List.mem_reverse.mp hc) n)) C2
  have k1 := EG_con2 _ C1.1
  have k2 := EG_con2 _ C2.1
  have n1 := nodup_rev C1.2.2.1
  have n2 := nodup_rev C2.2.2.1
  have s1 := C1.2.1
  have s2 := C2.2.1
  have e1 : (g :: (m ++ [f])).reverse = (f :: m.reverse) ++ [g] := by simp
  have e2 : (f :: (m' ++ [g])).reverse = (g :: m'.reverse) ++ [f] := by simp
  rw [em] at k1 n1 s1
  rw [em'] at k2 n2 s2
  rw [e1] at k1 n1
  rw [e2] at k2 n2
  have k3 : Con (fun a b => bef X Y b a ∧ GEd X Y S a b) ((g :: m'.reverse) ++ [f]) := Con_mono (fun a b h => ⟨bef_neg.mp h.1, fun c hc => ged_neg h.2 c (List.mem_reverse.mpr hc)⟩) _ k2
  have b1 : ∀ c, c ∈ (f :: m.reverse) ++ [g] → c ∈ S := fun c hc => s1 c (List.mem_reverse.mp (by rw [e1]; exact hc))
  have b2 : ∀ c, c ∈ (g :: m'.reverse) ++ [f] → c ∈ S := fun c hc => List.mem_reverse.mp (s2 c (List.mem_reverse.mp (by rw [e2]; exact hc)))
  have ej : f :: (m.reverse ++ g :: m'.reverse) = (f :: m.reverse) ++ (g :: m'.reverse) := rfl
  refine ⟨m, m', em, em', ?_, fun c hc => ?_, ?_⟩
  · rw [ej]
    refine List.nodup_append.mpr ⟨(List.nodup_append.mp n1).1, (List.nodup_append.mp n2).1, fun a ha b hb e => ?_⟩
    subst e
    obtain ⟨y, y1, y2, y3⟩ := Con_succ _ k1 ha
    obtain ⟨z, z1, z2, z3⟩ := Con_succ _ k3 hb
    have q := GEd_uniq (b1 y y1) (b2 z z1) (fun e => bef_ne y2 e.symm) (fun e => bef_ne z2 e) y3 z3
    subst q
    exact bef_asym y2 z2
  · rw [ej] at hc
    rcases List.mem_append.mp hc with h | h
    · exact b1 c (List.mem_append_left _ h)
    · exact b2 c (List.mem_append_left _ h)
  · have := Con_join (G := GEd X Y S) (x := g) (l2 := m'.reverse ++ [f]) (Con_mono (G := fun a b => bef X Y b a ∧ GEd X Y S a b) (G' := GEd X Y S) (fun _ _ h => h.2) _ k3) (f :: m.reverse) (Con_mono (G := fun a b => bef X Y a b ∧ GEd X Y S a b) (G' := GEd X Y S) (fun _ _ h => h.2) _ k1)
    have e : f :: (m.reverse ++ g :: m'.reverse) ++ [f] = (f :: m.reverse) ++ g :: (m'.reverse ++ [f]) := by simp
    rw [e]
    exact this
/-! the corners of cells -/
def clX (w c : Nat) : Int := ((c % w : Nat) : Int)
def clY (w c : Nat) : Int := ((c / w : Nat) : Int)
theorem bef_lt {w a b : Nat} (h : a < b) : bef (clX w) (clY w) a b := by
  have h1 : a / w ≤ b / w := Nat.div_le_div_right (Nat.le_of_lt h)
  have ea := Nat.div_add_mod a w
  have eb := Nat.div_add_mod b w
  unfold bef psv clX clY
  generalize a / w = a1 at *
  generalize b / w = b1 at *
  generalize a % w = a2 at *
  generalize b % w = b2 at *
  rcases Nat.lt_or_eq_of_le h1 with q | q
  · left
    omega
  · subst q
    right
    generalize w * a1 = k at *
    omega
theorem argB_dom {p : Nat → Bool} {bt : Nat → Nat → Bool} {b N : Nat} (hb : p b = true) (h : ∀ c, c < N → p c = true → c ≠ b → bt c b = false ∧ bt b c = true) : ∀ n, n ≤ N → b < n → argB p bt n = (b : Int) := by
  intro n
  induction n with
  | zero => intro _ hh; omega
  | succ n ih =>
    intro hN hn
    rw [argB_s]
    by_cases q : b = n
    · subst q
      rcases argB_cases p bt b with ⟨h1, -⟩ | ⟨c, h1, h2, h3⟩
      · rw [h1, hb]
        rfl
      · have := (h c (by omega) h2 (by omega)).2
        rw [h3, tn, hb, this]
        simp
    · rw [ih (by omega) (by omega), tn]
      by_cases q2 : p n = true
      · have h1 := (h n (by omega) q2 (fun e => q e.symm)).1
        have ne : ((b : Int) == -1) = false := by simp
        rw [q2, h1, ne]
        rfl
      · have q3 : p n = false := by simpa using q2
        rw [q3]
        rfl
theorem hnx_of {w : Nat} {p : Nat → Bool} {n a b : Nat} {S : List Nat} (hS : ∀ c, c ∈ S ↔ c < n ∧ p c = true) (hb : b ∈ S) (hab : b ≠ a) (G : GEd (clX w) (clY w) S a b) : hnx w p a n = (b : Int) := by
  unfold hnx
  have hb' := (hS b).mp hb
  refine argB_dom (N := n) (by simp [hb'.2, hab]) (fun c hc hpc hne => ?_) n (Nat.le_refl _) hb'.1
  simp only [Bool.and_eq_true, Bool.not_eq_true', beq_eq_false_iff_ne] at hpc
  have g := G c ((hS c).mpr ⟨hc, hpc.1⟩) hpc.2 hne
  have e1 : handM w a b c = hd (clX w) (clY w) a b c := rfl
  have e2' : hd (clX w) (clY w) a c b = -hd (clX w) (clY w) a b c := hd_swap
  have e2 : handM w a c b = -hd (clX w) (clY w) a b c := e2'
  have e3 : farM w c a = (clX w c - clX w a) * (clX w c - clX w a) + (clY w c - clY w a) * (clY w c - clY w a) := rfl
  have e4 : farM w b a = (clX w b - clX w a) * (clX w b - clX w a) + (clY w b - clY w a) * (clY w b - clY w a) := rfl
  rw [← e3, ← e4, ← e1] at g
  rw [← e1] at e2
  refine ⟨decide_eq_false ?_, decide_eq_true ?_⟩
  · omega
  · omega
def hnO (w : Nat) (p : Nat → Bool) (n : Nat) (l : List Nat) : Int := match l.getLast? with
  | none => argB p (fun _ _ => false) n
  | some a => if hnx w p a n = argB p (fun _ _ => false) n then -1 else hnx w p a n
theorem hullN_s (w : Nat) (p : Nat → Bool) (n k : Nat) : hullN w p n (k + 1) = if hnO w p n (hullN w p n k) = -1 then hullN w p n k else hullN w p n k ++ [(hnO w p n (hullN w p n k)).toNat] := rfl
theorem hnO_nil (w : Nat) (p : Nat → Bool) (n : Nat) : hnO w p n [] = argB p (fun _ _ => false) n := rfl
theorem hnO_snoc (w : Nat) (p : Nat → Bool) (n : Nat) (l : List Nat) (a : Nat) : hnO w p n (l ++ [a]) = if hnx w p a n = argB p (fun _ _ => false) n then -1 else hnx w p a n := by
  simp only [hnO, List.getLast?_concat]
/-- H is what the wrapping gives -/
def HOK (w : Nat) (p : Nat → Bool) (n : Nat) (H : List Nat) : Prop := (∀ k (hk : k < H.length), hnO w p n (H.take k) = (H[k] : Int)) ∧ hnO w p n H = -1
theorem hull_take {w n : Nat} {p : Nat → Bool} {H : List Nat} (h : HOK w p n H) : ∀ k, k ≤ H.length → hullN w p n k = H.take k := by
  intro k
  induction k with
  | zero => intro _; rw [List.take_zero]; rfl
  | succ k ih =>
    intro hk
    have hk' : k < H.length := by omega
    have e := h.1 k hk'
    rw [hullN_s, ih (by omega), e, if_neg (by omega), tn, List.take_succ_eq_append_getElem hk']
theorem hull_eq {w n : Nat} {p : Nat → Bool} {H : List Nat} (h : HOK w p n H) (hl : H.length ≤ n) : hullN w p n n = H := by
  have e : ∀ j, hullN w p n (H.length + j) = H := by
    intro j
    induction j with
    | zero => rw [Nat.add_zero, hull_take h _ (Nat.le_refl _), List.take_length]
    | succ j ih =>
      show hullN w p n ((H.length + j) + 1) = H
      rw [hullN_s, ih, if_pos h.2]
  have := e (n - H.length)
  rw [show H.length + (n - H.length) = n by omega] at this
  exact this
theorem hok_of {w n f : Nat} {p : Nat → Bool} {S H : List Nat} (hS : ∀ c, c ∈ S ↔ c < n ∧ p c = true) (e0 : argB p (fun _ _ => false) n = (f : Int)) (h2 : 2 ≤ H.length) (hf : H[0]'(by omega) = f) (nd : H.Nodup) (sub : ∀ c, c ∈ H → c ∈ S) (con : Con (GEd (clX w) (clY w) S) (H ++ [f])) : HOK w p n H := by
  constructor
  · intro k hk
    cases k with
    | zero => rw [List.take_zero, hnO_nil, e0, hf]
    | succ i =>
      have hi : i < H.length := by omega
      have g := Con_get H (Con_left H con) i hk
      have ne : H[i + 1] ≠ H[i] := fun e => by
        have := (List.getElem_inj nd).mp e
        omega
      have nf : H[i + 1] ≠ f := fun e => by
        rw [← hf] at e
        have := (List.getElem_inj nd).mp e
        omega
      have q := hnx_of hS (sub _ (List.getElem_mem hk)) ne g
      rw [List.take_succ_eq_append_getElem hi, hnO_snoc, q, e0, if_neg (by omega)]
  · have hfS : f ∈ S := by
      rw [← hf]
      exact sub _ (List.getElem_mem _)
    rcases List.eq_nil_or_concat H with e | ⟨l, a, e⟩
    · rw [e] at h2
      simp at h2
    · rw [List.concat_eq_append] at e
      subst e
      have g := Con_last l con
      cases l with
      | nil => simp at h2
      | cons b l =>
        have hb : b = f := hf
        have nba : b ≠ a := (List.nodup_append.mp nd).2.2 b (by simp) a (by simp)
        have ne : f ≠ a := fun q => nba (hb.trans q)
        rw [hnO_snoc, hnx_of hS hfS ne g, e0, if_pos rfl]
/-- what the two chains make -/
def wst (X Y : Nat → Int) (S : List Nat) : List Nat := (chn X Y S).reverse.dropLast ++ (chn X Y S.reverse).reverse
def wrp (X Y : Nat → Int) (S : List Nat) : List Nat := if 1 < (wst X Y S).length then (wst X Y S).dropLast else wst X Y S
theorem lst3 (S : List Nat) : S = [] ∨ (∃ a, S = [a]) ∨ ∃ f mid g, S = f :: (mid ++ [g]) := by
  cases S with
  | nil => exact Or.inl rfl
  | cons f t =>
    rcases List.eq_nil_or_concat t with e | ⟨m, g, e⟩
    · subst e
      exact Or.inr (Or.inl ⟨f, rfl⟩)
    · rw [List.concat_eq_append] at e
      subst e
      exact Or.inr (Or.inr ⟨f, m, g, rfl⟩)
theorem hull_wrp {w n : Nat} {p : Nat → Bool} {S : List Nat} (eS : S = (List.range n).filter p) : HOK w p n (wrp (clX w) (clY w) S) ∧ (wrp (clX w) (clY w) S).length ≤ n ∧ ∀ c, c ∈ wrp (clX w) (clY w) S → c < n ∧ p c = true := by
  have hS : ∀ c, c ∈ S ↔ c < n ∧ p c = true := fun c => by rw [eS]; exact fr_mem
  have e0 : argB p (fun _ _ => false) n = foldB (fun _ _ => false) S := by rw [argB_fold, eS]
  have hp : S.Pairwise (bef (clX w) (clY w)) := by
    rw [eS]
    exact List.Pairwise.imp (fun h => bef_lt h) (List.Pairwise.filter p List.pairwise_lt_range)
  clear eS
  rcases lst3 S with e | ⟨a, e⟩ | ⟨f, mid, g, e⟩
  · subst e
    have ew : wrp (clX w) (clY w) [] = [] := rfl
    rw [ew]
    refine ⟨⟨fun k hk => absurd hk (by simp), ?_⟩, Nat.zero_le _, fun c hc => absurd hc (by simp)⟩
    rw [hnO_nil, e0]
    rfl
  · subst e
    have ew : wrp (clX w) (clY w) [a] = [a] := rfl
    rw [foldB_first] at e0
    have ha := (hS a).mp (by simp)
    rw [ew]
    refine ⟨⟨fun k hk => ?_, ?_⟩, ?_, fun c hc => (hS c).mp hc⟩
    · have hk0 : k = 0 := by simpa using hk
      subst hk0
      show hnO w p n [] = (a : Int)
      rw [hnO_nil, e0]
    · have hx : hnx w p a n = -1 := by
        unfold hnx
        rcases argB_cases (fun c => p c && !(c == a)) (fun c b => decide (handM w a b c < 0 ∨ handM w a b c = 0 ∧ farM w b a < farM w c a)) n with ⟨h1, -⟩ | ⟨c, h1, h2, h3⟩
        · exact h1
        · exfalso
          simp only [Bool.and_eq_true, Bool.not_eq_true', beq_eq_false_iff_ne] at h2
          have := (hS c).mpr ⟨h1, h2.1⟩
          exact h2.2 (by simpa using this)
      have := hnO_snoc w p n [] a
      rw [hx, if_neg (by rw [e0]; omega)] at this
      exact this
    · show 1 ≤ n
      omega
  · obtain ⟨m, m', c1, c2, nd, sub, con⟩ := hull_pure e hp
    have ew : wrp (clX w) (clY w) S = f :: (m.reverse ++ g :: m'.reverse) := by
      have es : wst (clX w) (clY w) S = (f :: (m.reverse ++ g :: m'.reverse)) ++ [f] := by
        unfold wst
        rw [c1, c2]
        have e1 : (g :: (m ++ [f])).reverse = (f :: m.reverse) ++ [g] := by simp
        rw [e1, List.dropLast_concat]
        simp
      unfold wrp
      rw [es, if_pos (by simp only [List.length_append, List.length_cons, List.length_nil]; omega), List.dropLast_concat]
    have ef : argB p (fun _ _ => false) n = (f : Int) := by rw [e0, e, foldB_first]
    rw [ew]
    refine ⟨hok_of hS ef (by simp only [List.length_append, List.length_cons]; omega) rfl nd sub con, ?_, fun c hc => (hS c).mp (sub c hc)⟩
    have nl := nodup_len nd (fun c hc => ((hS c).mp (sub c hc)).1)
    have sb := sumTo_bounds (f := fun c => b2i (c ∈ f :: (m.reverse ++ g :: m'.reverse))) (n := n) (a := 0) (b := 1) (fun c _ => b2i_01)
    omega
