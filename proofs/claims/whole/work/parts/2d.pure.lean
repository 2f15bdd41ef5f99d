set_option maxRecDepth 100000 in
set_option maxHeartbeats 4000000 in
theorem law_cls {s : State} {b : Nat} (htb : ∀ w ∈ TB, w.before #[Value.ref b] s = true) : ∃ (dC : Nat → ClassId) (dI : Nat → Nat → Nat), ∀ (k : Nat) (q : vw_C), vwCl[k]? = some q → u_Kn s q.1 q.2.1 q.2.2 (dC k) (dI k) := by
  obtain ⟨c0, iS0, hKn0⟩ := u_known (C := RX0) (T := TX0) (N := 3) (n := 3) htb uw_X0 (htb _ in_X0.1)
  obtain ⟨c1, iS1, hKn1⟩ := u_known (C := RX1) (T := TX1) (N := 11) (n := 11) htb uw_X1 (htb _ in_X1.1)
  obtain ⟨c2, iS2, hKn2⟩ := u_known (C := RX2) (T := TX2) (N := 7) (n := 7) htb uw_X2 (htb _ in_X2.1)
  obtain ⟨c3, iS3, hKn3⟩ := u_known (C := RX3) (T := TX3) (N := 4) (n := 4) htb uw_X3 (htb _ in_X3.1)
  obtain ⟨c4, iS4, hKn4⟩ := u_known (C := RX4) (T := TX4) (N := 8) (n := 8) htb uw_X4 (htb _ in_X4.1)
  obtain ⟨c5, iS5, hKn5⟩ := u_known (C := RX5) (T := TX5) (N := 6) (n := 6) htb uw_X5 (htb _ in_X5.1)
  obtain ⟨c6, iS6, hKn6⟩ := u_known (C := RX6) (T := TX6) (N := 9) (n := 9) htb uw_X6 (htb _ in_X6.1)
  obtain ⟨c7, iS7, hKn7⟩ := u_known (C := RX7) (T := TX7) (N := 2) (n := 2) htb uw_X7 (htb _ in_X7.1)
  obtain ⟨c8, iS8, hKn8⟩ := u_known (C := RX8) (T := TX8) (N := 7) (n := 7) htb uw_X8 (htb _ in_X8.1)
  obtain ⟨c9, iS9, hKn9⟩ := u_known (C := RX9) (T := TX9) (N := 10) (n := 10) htb uw_X9 (htb _ in_X9.1)
  obtain ⟨c10, iS10, hKn10⟩ := u_known (C := RX10) (T := TX10) (N := 7) (n := 7) htb uw_X10 (htb _ in_X10.1)
  obtain ⟨c11, iS11, hKn11⟩ := u_known (C := RX11) (T := TX11) (N := 41) (n := 41) htb uw_X11 (htb _ in_X11.1)
  refine ⟨fun k => if k = 0 then c0 else if k = 1 then c1 else if k = 2 then c2 else if k = 3 then c3 else if k = 4 then c4 else if k = 5 then c5 else if k = 6 then c6 else if k = 7 then c7 else if k = 8 then c8 else if k = 9 then c9 else if k = 10 then c10 else c11, fun k => if k = 0 then iS0 else if k = 1 then iS1 else if k = 2 then iS2 else if k = 3 then iS3 else if k = 4 then iS4 else if k = 5 then iS5 else if k = 6 then iS6 else if k = 7 then iS7 else if k = 8 then iS8 else if k = 9 then iS9 else if k = 10 then iS10 else iS11, ?_⟩
  intro k q hq
  match k, hq with
  | 0, hq => cases hq; exact hKn0
  | 1, hq => cases hq; exact hKn1
  | 2, hq => cases hq; exact hKn2
  | 3, hq => cases hq; exact hKn3
  | 4, hq => cases hq; exact hKn4
  | 5, hq => cases hq; exact hKn5
  | 6, hq => cases hq; exact hKn6
  | 7, hq => cases hq; exact hKn7
  | 8, hq => cases hq; exact hKn8
  | 9, hq => cases hq; exact hKn9
  | 10, hq => cases hq; exact hKn10
  | 11, hq => cases hq; exact hKn11
  | k + 12, hq => simp [vwCl] at hq
theorem law_arr {s : State} {b : Nat} (htb : ∀ w ∈ TB, w.before #[Value.ref b] s = true) : ∃ aC : Nat → ClassId, ∀ (k : Nat) (q : ClassId × FieldType), ([(aC 0, .int), (aC 1, .byte), (aC 2, .boolean), (aC 3, .long)] : List (ClassId × FieldType))[k]? = some q → ArrOfT s q.1 q.2 ∧ va_RA s q.1 q.2 := by
  obtain ⟨a0, k0, p0, f0, g0, j0⟩ := Cond.arrayClass_spec (htb _ aw_0)
  obtain ⟨a1, k1, p1, f1, g1, j1⟩ := Cond.arrayClass_spec (htb _ aw_1)
  obtain ⟨a2, k2, p2, f2, g2, j2⟩ := Cond.arrayClass_spec (htb _ aw_2)
  obtain ⟨a3, k3, p3, f3, g3, j3⟩ := Cond.arrayClass_spec (htb _ aw_3)
  refine ⟨fun k => if k = 0 then a0 else if k = 1 then a1 else if k = 2 then a2 else a3, fun k q hq => ?_⟩
  match k, hq with
  | 0, hq => cases hq; exact ⟨fun n z => ⟨fun k h => (by cases h), k0, g0, p0, j0⟩, f0⟩
  | 1, hq => cases hq; exact ⟨fun n z => ⟨fun k h => (by cases h), k1, g1, p1, j1⟩, f1⟩
  | 2, hq => cases hq; exact ⟨fun n z => ⟨fun k h => (by cases h), k2, g2, p2, j2⟩, f2⟩
  | 3, hq => cases hq; exact ⟨fun n z => ⟨fun k h => (by cases h), k3, g3, p3, j3⟩, f3⟩
  | k + 4, hq => simp at hq
theorem no_tr {l : Launch} (hflags : l.flags = flags0) : l.stackTraces = false := by unfold Launch.stackTraces; rw [hflags]; decide
theorem law_gh {p : Program} {s : State} {m : MethodId} {meth : Method} {c : Code} (l : Launch) (hflags : l.flags = flags0) {b L : Nat} {xs : Nat → Int32} (C0 : lw_At p s m meth c b L xs) : ∃ g : GH, G0 l g ∧ g.1 = s ∧ g.2.2.2.2.1 = b ∧ g.2.2.2.2.2.1 = L ∧ g.2.2.2.2.2.2 = xs := by
  obtain ⟨hx, hb, hr, hml, hown, hts, hX, hbl, hlocks, hgv⟩ := C0
  have htb : ∀ w ∈ TB, w.before #[Value.ref b] s = true := fun w hw => hts w (List.mem_filter.mp hw).1
  obtain ⟨dC, dI, hKc⟩ := law_cls htb
  obtain ⟨aC, hAc⟩ := law_arr htb
  exact ⟨(s, dC, dI, aC, b, L, xs), ⟨no_tr hflags, hts, ⟨hKc, hAc⟩, hX, hgv⟩, rfl, rfl, rfl, rfl⟩
theorem law_px (hp : ∀ (xs : Nat → Int) (Ls : Nat), (∀ j, InR (xs j)) → Ls ≤ 3584 → m_L_loop xs Ls (0, Dini) = some 1) {l : Launch} {g : GH} (hG : G0 l g) (hgL : g.2.2.2.2.2.1 ≤ 3584) : Px (E_L l g) 0 (argL [.ref g.2.2.2.2.1] 7) [] ly0 D00 0 0 :=
  x_L_start hG hgL (hp _ _ (fun j => by
    have h1 := Int32.le_toInt (g.2.2.2.2.2.2 j)
    have h2 := Int32.toInt_lt (g.2.2.2.2.2.2 j)
    show -2147483648 ≤ (g.2.2.2.2.2.2 j).toInt ∧ (g.2.2.2.2.2.2 j).toInt ≤ 2147483647
    omega) hgL)
theorem rm4 {l : Launch} {g : GH} : (eD (E_L l g)).1 ≤ room_1.frames ∧ 64 * (eD (E_L l g)).1 ≤ room_1.locals ∧ (eD (E_L l g)).2.1 ≤ room_1.cells ∧ (eD (E_L l g)).2.2 ≤ room_1.slots := by
  show (1000 : Nat) ≤ 2048 ∧ 64 * 1000 ≤ 84000 ∧ (601024 : Nat) ≤ 601024 ∧ (7293034 : Nat) ≤ 7293034
  omega
theorem law_cx {p : Program} {s : State} {m : MethodId} {meth : Method} {c : Code} {l : Launch} {b L : Nat} {xs : Nat → Int32} (C0 : lw_At p s m meth c b L xs) {g : GH} (hG : G0 l g) (es : g.1 = s) : Cx (E_L l g) p room_1 s m meth c := by
  obtain ⟨hx, hb, hr, hml, hown, hts, hX, hbl, hlocks, hgv⟩ := C0
  exact ⟨⟨hx, hb, hml, hown, hr, hlocks, fun h => absurd h (by show ¬ ("law" : String) = "<init>"; decide)⟩, rm4, fun hh h => (by cases h), hG, by rw [show (eG (E_L l g)).1 = s from es]; exact State.WarmedH.refl s, by unfold Old; rw [show (eG (E_L l g)).1 = s from es]; exact ⟨Nat.le_refl _, fun _ _ => rfl⟩⟩
theorem law_of_pure (hp : ∀ (xs : Nat → Int) (Ls : Nat), (∀ j, InR (xs j)) → Ls ≤ 3584 → m_L_loop xs Ls (0, Dini) = some 1) {p : Program} {e : Env} {s : State} {m : MethodId} {below : List Frame} {meth : Method} {c : Code} (l : Launch) (hflags : l.flags = flags0) {b L : Nat} {xs : Nat → Int32} (hL : L ≤ 3584) (C0 : lw_At p s m meth c b L xs) : W p l e room_1 s m #[Value.ref b] below meth c s.heap [] 0 0 (lw_Z below #[Value.ref b] s) (entryFrame m ([Value.ref b] : List Value).toArray 7) := by
  obtain ⟨g, hG, es, eb, eL9, ex⟩ := law_gh l hflags C0
  have C := law_cx C0 hG es
  have K := law_px hp hG (by rw [eL9]; exact hL)
  have hR : Rep g ly0 D00 s.heap := ⟨fun a ci h => (by cases h), fun a ty n h => (by cases h), by rw [es]; rfl⟩
  have W0 := K p e room_1 s m #[Value.ref b] below meth c s.heap [] _ C hR va_S.rf (LR.entry (av := [Value.ref g.2.2.2.2.1]) (n := 7) (Nat.le_of_ble_eq_true rfl) (by simp [Value.category]))
  rw [lg_entry_eq, sl_cat1 (by simp [Value.category]), List.length_map]
  rw [eb] at W0
  intro T hT X
  obtain ⟨t, s1, s2⟩ := W0 T hT X
  exact ⟨t, s1, s2 ⟨by rw [eb], es.symm⟩⟩
