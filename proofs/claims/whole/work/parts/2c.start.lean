/-! ===== from the entry to the loop ===== -/
set_option maxRecDepth 100000 in
theorem lc8 : Cond.classLink RL 8 RX10 ∈ TB ∧ Cond.classLink RL 134 RX11 ∈ TB := ⟨TBm (i := 155) rfl rfl, TBm (i := 1576) rfl rfl⟩
set_option maxRecDepth 100000 in
theorem lm133 : Cond.methodLink RL 133 yX10_init ∈ TB ∧ Cond.methodLink RL 136 yX11_init ∈ TB := ⟨TBm (i := 157) rfl rfl, TBm (i := 1578) rfl rfl⟩
def ly0 : LY := (fun _ => none, fun _ _ => none, 0)
def D00 : DT := (fun _ _ => 0, fun _ _ => 0)
/-- the data behind the constructors -/
def Dini : DT := d_X11 73 74 (d_X10 0 1 D00)
def lyE : LY := sN (l_X11 73 74 (sN (l_X10 0 1 (sN ly0 (.inl 10))) (.inl 11))) (.inr (3, 1))
set_option maxRecDepth 100000 in
theorem lyE_a : ∀ a, a < 103 → lyE.1 a = LFa a := by decide +kernel
set_option maxRecDepth 100000 in
theorem lyE_r : ∀ a, a < 103 → ∀ k, k < 41 → lyE.2.1 a k = LFr a k := by decide +kernel
theorem LFa_out {a : Nat} (h : 103 ≤ a) : LFa a = none := by
  unfold LFa
  exact List.getElem?_eq_none (by show 103 ≤ a; exact h)
theorem cl_le : ∀ ci, ci < 12 → ((vwCl[ci]?).map (fun r => decide (r.2.2 ≤ 41))).getD true = true := by decide +kernel
theorem rep_LF {g : GH} {D : DT} {H : Heap} (Rp : Rep g lyE D H) : Rep g (LF 103) D H := by
  refine ⟨fun a ci h => ?_, fun a ty n h => ?_, Rp.2.2⟩
  · have h' : LFa a = some (.inl ci) := h
    have ha : a < 103 := by
      rcases Nat.lt_or_ge a 103 with q | q
      · exact q
      · rw [LFa_out q] at h'; cases h'
    rw [← lyE_a a ha] at h'
    obtain ⟨r, e1, ob⟩ := Rp.1 a ci h'
    refine ⟨r, e1, ob.to fun k hk => ?_⟩
    have hci : ci < 12 := (List.getElem?_eq_some_iff.mp e1).1
    have h41 := cl_le ci hci
    rw [e1] at h41
    have h41' : r.2.2 ≤ 41 := by simpa using h41
    rw [lyE_r a ha k (by omega)]
    rfl
  · have h' : LFa a = some (.inr (ty, n)) := h
    have ha : a < 103 := by
      rcases Nat.lt_or_ge a 103 with q | q
      · exact q
      · rw [LFa_out q] at h'; cases h'
    rw [← lyE_a a ha] at h'
    exact Rp.2.1 a ty n h'
theorem p_relay {E : ENV} {pc : Nat} {L : List (Option Value)} {st : List Value} {D : DT} {cu su : Nat} (k : Px E pc L st (LF 103) D cu su) : Px E pc L st lyE D cu su := by
  intro p e R s m args below meth c H locs ls C Rp S LL
  exact k p e R s m args below meth c H locs ls C (rep_LF Rp) S LL
theorem ci0 : CI (sN ly0 (.inl 10)) D00 0 10 1 := ⟨rfl, rfl, by decide, fun q _ k => ⟨rfl, rfl⟩⟩
set_option maxRecDepth 100000 in
set_option maxHeartbeats 4000000 in
theorem x_L_start {l : Launch} {g : GH} (hG : G0 l g) (hL : g.2.2.2.2.2.1 ≤ 3584) (h : m_L_loop (xsG g) g.2.2.2.2.2.1 (0, Dini) = some 1) : Px (E_L l g) 0 (argL [.ref g.2.2.2.2.1] 7) [] ly0 D00 0 0 := by
  refine p_new (b := 0) dL_law_0 lc8.1 in_X10.1 in_X10.2 ck_X10 nf_X10 (Nat.le_of_ble_eq_true rfl) (Nat.le_of_ble_eq_true rfl) rfl (fun k => ⟨rfl, rfl⟩) ?_
  refine p_dup dL_law_3 rfl ?_
  refine p_callI (b := 0) [vR g 0] dL_law_4 yi_X10_init lm133.1 (Nat.le_of_ble_eq_true rfl) (Nat.le_of_ble_eq_true rfl) (Nat.le_of_ble_eq_true rfl) (Nat.le_of_ble_eq_true rfl) (t_X10 hG ci0) PC.nx (fun v ly9 D9 hp => ?_)
  obtain ⟨e1, rfl, rfl⟩ := hp
  cases e1
  have hc := i_X10 ci0 _ _ ci0
  refine p_astore_n dL_law_7 (Nat.le_of_ble_eq_true rfl) rfl ?_
  refine p_new (b := 73) dL_law_8 lc8.2 in_X11.1 in_X11.2 ck_X11 nf_X11 (Nat.le_of_ble_eq_true rfl) (Nat.le_of_ble_eq_true rfl) hc.2.1 (fun k => hc.2.2.2 _ (Nat.le_refl _) k) ?_
  have hs := hc.self 11
  refine p_dup dL_law_11 rfl ?_
  refine p_callI (b := 73) [vR g 73] dL_law_12 yi_X11_init lm133.2 (Nat.le_of_ble_eq_true rfl) (Nat.le_of_ble_eq_true rfl) (Nat.le_of_ble_eq_true rfl) (Nat.le_of_ble_eq_true rfl) (t_X11 hG hs) PC.nx (fun v ly9 D9 hp => ?_)
  obtain ⟨e1, rfl, rfl⟩ := hp
  cases e1
  have hc := i_X11 hs _ _ hs
  refine p_astore_n dL_law_15 (Nat.le_of_ble_eq_true rfl) rfl ?_
  refine p_iconst dL_law_16 ?_
  refine p_newarr (b := 102) (N := 1) (ty := 3) dL_law_17 aw_3 rfl (fun _ _ h => h) rfl (by decide) (by decide) (fun _ _ h => ac3 h) (Nat.le_of_ble_eq_true rfl) (Nat.le_of_ble_eq_true rfl) hc.2.1 (fun k => hc.2.2.2 _ (Nat.le_refl _) k) ?_
  refine p_astore_n dL_law_19 (Nat.le_of_ble_eq_true rfl) rfl ?_
  refine p_iconst dL_law_20 ?_
  refine p_istore dL_law_21 (Nat.le_of_ble_eq_true rfl) rfl ?_
  refine p_relay ?_
  exact p_widen (Nat.le_of_ble_eq_true rfl) (Nat.le_of_ble_eq_true rfl) (p_weak (leL.same (leL.same (leL.same (leL.same (leL.same (leL.drop (leL.drop leL.nil))))))) (x_L_loop (s := (0, Dini)) hG hL ⟨1, h, rfl⟩ 103))
set_option maxRecDepth 100000 in
set_option maxHeartbeats 4000000 in
theorem law_of_pure (hp : ∀ (xs : Nat → Int) (Ls : Nat), (∀ j, InR (xs j)) → Ls ≤ 3584 → m_L_loop xs Ls (0, Dini) = some 1) {p : Program} {e : Env} {s : State} {m : MethodId} {below : List Frame} {meth : Method} {c : Code} (l : Launch) (hflags : l.flags = flags0) {b L : Nat} {xs : Nat → Int32} (hL : L ≤ 3584) (C0 : lw_At p s m meth c b L xs) : W p l e room_1 s m #[Value.ref b] below meth c s.heap [] 0 0 (lw_Z below #[Value.ref b] s) (entryFrame m ([Value.ref b] : List Value).toArray 7) := by
  obtain ⟨hx, hb, hr, hml, hown, hts, hX, hbl, hlocks, hgv⟩ := id C0
  have htb : ∀ w ∈ TB, w.before #[Value.ref b] s = true := fun w hw => hts w (List.mem_filter.mp hw).1
  obtain ⟨c0, iS0, hKn0⟩ := u_known (C := RX0) (T := TX0) (N := 3) (n := 3) htb uw_X0 (htb _ in_X0.1)
  obtain ⟨c1, iS1, hKn1⟩ := u_known (C := RX1) (T := TX1) (N := 11) (n := 11) htb uw_X1 (htb _ in_X1.1)
  obtain ⟨c2, iS2, hKn2⟩ := u_known (C := RX2) (T := TX2) (N := 7) (n := 7) htb uw_X2 (htb _ in_X2.1)
  obtain ⟨c3, iS3, hKn3⟩ := u_known (C := RX3) (T := TX3) (N := 4) (n := 4) htb uw_X3 (htb _ in_X3.1)
  obtain ⟨c4, iS4, hKn4⟩ := u_known (C := RX4) (T := TX4) (N := 8) (n := 8) htb uw_X4 (htb _ in_X4.1)
  obtain ⟨c5, iS5, hKn5⟩ := u_known (C := RX5) (T := TX5) (N := 6) (n := 6) htb uw_X5 (htb _ in_X5.1)
  obtain ⟨c6, iS6, hKn6⟩ := u_known (C := RX6) (T := TX6) (N := 9) (n := 9) htb uw_X6 (htb _ in_X6.1)
  obtain ⟨c7, iS7, hKn7⟩ := u_known (C := RX7) (T := TX7) (N := 2) (n := 2) htb uw_X7 (htb _ in_X7.1)
  obtain ⟨c8, iS8, hKn8⟩ := u_known (C := RX8) (T := TX8) (N := 7) (n := 7) htb uw_X8 (htb _ in_X8.1)
  obtain ⟨c9, iS9, hKn9⟩ := u_known (C := RX9) (T := TX9) (N := 10) (n := 10) htb uw_X9 (htb _ in_X9.1)
  obtain ⟨c10, iS10, hKn10⟩ := u_known (C := RX10) (T := TX10) (N := 7) (n := 7) htb uw_X10 (htb _ in_X10.1)
  obtain ⟨c11, iS11, hKn11⟩ := u_known (C := RX11) (T := TX11) (N := 41) (n := 41) htb uw_X11 (htb _ in_X11.1)
  obtain ⟨dC, dI, hKc⟩ : ∃ (dC : Nat → ClassId) (dI : Nat → Nat → Nat), ∀ (k : Nat) (q : vw_C), vwCl[k]? = some q → u_Kn s q.1 q.2.1 q.2.2 (dC k) (dI k) := by
    refine ⟨fun k => if k = 0 then c0 else if k = 1 then c1 else if k = 2 then c2 else if k = 3 then c3 else if k = 4 then c4 else if k = 5 then c5 else if k = 6 then c6 else if k = 7 then c7 else if k = 8 then c8 else if k = 9 then c9 else if k = 10 then c10 else c11, fun k => if k = 0 then iS0 else if k = 1 then iS1 else if k = 2 then iS2 else if k = 3 then iS3 else if k = 4 then iS4 else if k = 5 then iS5 else if k = 6 then iS6 else if k = 7 then iS7 else if k = 8 then iS8 else if k = 9 then iS9 else if k = 10 then iS10 else iS11, ?_⟩
    intro k q hq
    match k, hq with
    | 0, hq => cases hq; exact hKn0
    | 1, hq => cases hq; exact hKn1
    | 2, hq => cases hq; exact hKn2
    | 3, hq => cases hq; exact hKn3
    | 4, hq => cases hq; exact hKn4
    | 5, hq => cases hq; exact hKn5
    | 6, hq => cases hq; exact hKn6
    | 7, hq => cases hq; exact hKn7
    | 8, hq => cases hq; exact hKn8
    | 9, hq => cases hq; exact hKn9
    | 10, hq => cases hq; exact hKn10
    | 11, hq => cases hq; exact hKn11
    | k + 12, hq => simp [vwCl] at hq
  obtain ⟨a0, k0, p0, f0, g0, j0⟩ := Cond.arrayClass_spec (htb _ aw_0)
  obtain ⟨a1, k1, p1, f1, g1, j1⟩ := Cond.arrayClass_spec (htb _ aw_1)
  obtain ⟨a2, k2, p2, f2, g2, j2⟩ := Cond.arrayClass_spec (htb _ aw_2)
  obtain ⟨a3, k3, p3, f3, g3, j3⟩ := Cond.arrayClass_spec (htb _ aw_3)
  obtain ⟨g, hg⟩ : ∃ g : GH, g = (s, dC, dI, (fun k => if k = 0 then a0 else if k = 1 then a1 else if k = 2 then a2 else a3), b, L, xs) := ⟨_, rfl⟩
  have hG : G0 l g := by
    subst hg
    refine ⟨by unfold Launch.stackTraces; rw [hflags]; decide, hts, ⟨hKc, fun k q hq => ?_⟩, hX, hgv⟩
    match k, hq with
    | 0, hq => cases hq; exact ⟨fun n z => ⟨fun k h => (by cases h), k0, g0, p0, j0⟩, f0⟩
    | 1, hq => cases hq; exact ⟨fun n z => ⟨fun k h => (by cases h), k1, g1, p1, j1⟩, f1⟩
    | 2, hq => cases hq; exact ⟨fun n z => ⟨fun k h => (by cases h), k2, g2, p2, j2⟩, f2⟩
    | 3, hq => cases hq; exact ⟨fun n z => ⟨fun k h => (by cases h), k3, g3, p3, j3⟩, f3⟩
    | k + 4, hq => simp [tysL] at hq
  have hgL : g.2.2.2.2.2.1 ≤ 3584 := by rw [hg]; exact hL
  have K := x_L_start hG hgL (hp _ _ (fun j => by
    have := (g.2.2.2.2.2.2 j).minValue_le_toInt
    have := (g.2.2.2.2.2.2 j).toInt_le
    simp at *
    omega) hgL)
  have es : g.1 = s := by rw [hg]
  have eb : g.2.2.2.2.1 = b := by rw [hg]
  have C : Cx (E_L l g) p room_1 s m meth c := ⟨⟨hx, hb, hml, hown, hr, hlocks, fun h => absurd h (by decide)⟩, ⟨(Nat.le_of_ble_eq_true rfl), (Nat.le_of_ble_eq_true rfl), (Nat.le_of_ble_eq_true rfl), (Nat.le_of_ble_eq_true rfl)⟩, fun hh h => (by cases h), hG, by rw [show (eG (E_L l g)).1 = s from es]; exact State.WarmedH.refl s, by unfold Old; rw [show (eG (E_L l g)).1 = s from es]; exact ⟨Nat.le_refl _, fun _ _ => rfl⟩⟩
  have hR : Rep g ly0 D00 s.heap := ⟨fun a ci h => (by cases h), fun a ty n h => (by cases h), by rw [es]; rfl⟩
  have W0 := K p e room_1 s m #[Value.ref b] below meth c s.heap [] _ C hR va_S.rf (LR.entry (av := [Value.ref g.2.2.2.2.1]) (n := 7) (by decide) (by simp [Value.category]))
  rw [lg_entry_eq, sl_cat1 (by simp [Value.category])]
  rw [eb] at W0
  intro T hT X
  obtain ⟨t, s1, s2⟩ := W0 T hT X
  exact ⟨t, s1, s2 ⟨by rw [eb], es.symm⟩⟩
