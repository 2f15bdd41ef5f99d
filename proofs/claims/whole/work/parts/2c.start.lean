/-! ===== from the entry to the loop ===== -/
set_option maxRecDepth 100000 in
theorem lc8 : Cond.classLink RL 8 RX10 ∈ TB ∧ Cond.classLink RL 134 RX11 ∈ TB := ⟨TBm (i := 155) rfl rfl, TBm (i := 1576) rfl rfl⟩
set_option maxRecDepth 100000 in
theorem lm133 : Cond.methodLink RL 133 yX10_init ∈ TB ∧ Cond.methodLink RL 136 yX11_init ∈ TB := ⟨TBm (i := 157) rfl rfl, TBm (i := 1578) rfl rfl⟩
def ly0 : LY := (fun _ => none, fun _ _ => none, 0)
def D00 : DT := (fun _ _ => 0, fun _ _ => 0)
/-- the data behind the constructors -/
def Dini : DT := d_X11 73 74 (d_X10 0 1 D00)
def lyE : LY := sN (l_X11 73 74 (sN (l_X10 0 1 (sN ly0 (.inl 10))) (.inl 11))) (.inr (3, 1))
set_option maxRecDepth 100000 in
theorem lyE_a : ∀ a, a < 103 → lyE.1 a = LFa a := by decide +kernel
def nfC (ci : Nat) : Nat := ((vwCl[ci]?).map (fun r => r.2.2)).getD 0
def chkR (a : Nat) : Bool := match LFa a with
  | some (.inl ci) => decide (∀ k, k < nfC ci → lyE.2.1 a k = LFr a k)
  | _ => true
set_option maxRecDepth 100000 in
theorem lyE_r : ∀ a, a < 103 → chkR a = true := by decide +kernel
set_option maxRecDepth 100000 in
theorem lyE_n : lyE.2.2 = 103 := by decide +kernel
theorem LFa_out {a : Nat} (h : 103 ≤ a) : LFa a = none := by
  unfold LFa
  exact List.getElem?_eq_none (by show 103 ≤ a; exact h)
theorem rep_LF {g : GH} {D : DT} {H : Heap} (Rp : Rep g lyE D H) : Rep g (LF 103) D H := by
  refine ⟨fun a ci h => ?_, fun a ty n h => ?_, by have h := Rp.2.2; rw [lyE_n] at h; exact h⟩
  · have h' : LFa a = some (.inl ci) := h
    have ha : a < 103 := by
      rcases Nat.lt_or_ge a 103 with q | q
      · exact q
      · rw [LFa_out q] at h'; cases h'
    have hq := lyE_r a ha
    unfold chkR at hq
    rw [h'] at hq
    have hq' := of_decide_eq_true hq
    rw [← lyE_a a ha] at h'
    obtain ⟨r, e1, ob⟩ := Rp.1 a ci h'
    refine ⟨r, e1, ob.to fun k hk => ?_⟩
    have hn : nfC ci = r.2.2 := by unfold nfC; rw [e1]; rfl
    rw [hq' k (by rw [hn]; exact hk)]
    rfl
  · have h' : LFa a = some (.inr (ty, n)) := h
    have ha : a < 103 := by
      rcases Nat.lt_or_ge a 103 with q | q
      · exact q
      · rw [LFa_out q] at h'; cases h'
    rw [← lyE_a a ha] at h'
    exact Rp.2.1 a ty n h'
theorem p_relay {E : ENV} {pc : Nat} {L : List (Option Value)} {st : List Value} {D : DT} {cu su : Nat} (k : Px E pc L st (LF 103) D cu su) : Px E pc L st lyE D cu su := by
  intro p e R s m args below meth c H locs ls C Rp S LL
  exact k p e R s m args below meth c H locs ls C (rep_LF Rp) S LL
theorem ci0 : CI (sN ly0 (.inl 10)) D00 0 10 1 := ⟨rfl, rfl, by decide, fun q _ k => ⟨rfl, rfl⟩⟩
set_option maxRecDepth 100000 in
set_option maxHeartbeats 4000000 in
theorem x_L_start {l : Launch} {g : GH} (hG : G0 l g) (hL : g.2.2.2.2.2.1 ≤ 3584) (h : m_L_loop (xsG g) g.2.2.2.2.2.1 (0, Dini) = some 1) : Px (E_L l g) 0 (argL [.ref g.2.2.2.2.1] 7) [] ly0 D00 0 0 := by
  refine p_new (b := 0) dL_law_0 lc8.1 in_X10.1 in_X10.2 ck_X10 nf_X10 (Nat.le_of_ble_eq_true rfl) (Nat.le_of_ble_eq_true rfl) rfl (fun k => ⟨rfl, rfl⟩) ?_
  refine p_dup dL_law_3 rfl ?_
  refine p_callI (b := 0) [vR g 0] dL_law_4 yi_X10_init lm133.1 (Nat.le_of_ble_eq_true rfl) (Nat.le_of_ble_eq_true rfl) (Nat.le_of_ble_eq_true rfl) (Nat.le_of_ble_eq_true rfl) (t_X10 hG ci0) PC.nx (fun v ly9 D9 hp => ?_)
  obtain ⟨e1, rfl, rfl⟩ := hp
  cases e1
  have hc := i_X10 ci0 _ _ ci0
  refine p_astore_n dL_law_7 (Nat.le_of_ble_eq_true rfl) rfl ?_
  refine p_new (b := 73) dL_law_8 lc8.2 in_X11.1 in_X11.2 ck_X11 nf_X11 (Nat.le_of_ble_eq_true rfl) (Nat.le_of_ble_eq_true rfl) hc.2.1 (fun k => hc.2.2.2 _ (Nat.le_refl _) k) ?_
  have hs := hc.self 11
  refine p_dup dL_law_11 rfl ?_
  refine p_callI (b := 73) [vR g 73] dL_law_12 yi_X11_init lm133.2 (Nat.le_of_ble_eq_true rfl) (Nat.le_of_ble_eq_true rfl) (Nat.le_of_ble_eq_true rfl) (Nat.le_of_ble_eq_true rfl) (t_X11 hG hs) PC.nx (fun v ly9 D9 hp => ?_)
  obtain ⟨e1, rfl, rfl⟩ := hp
  cases e1
  have hc := i_X11 hs _ _ hs
  refine p_astore_n dL_law_15 (Nat.le_of_ble_eq_true rfl) rfl ?_
  refine p_iconst dL_law_16 ?_
  refine p_newarr (b := 102) (N := 1) (ty := 3) dL_law_17 aw_3 rfl (fun _ _ h => h) rfl (by decide) (by decide) (fun _ _ h => ac3 h) (Nat.le_of_ble_eq_true rfl) (Nat.le_of_ble_eq_true rfl) hc.2.1 (fun k => hc.2.2.2 _ (Nat.le_refl _) k) ?_
  refine p_astore_n dL_law_19 (Nat.le_of_ble_eq_true rfl) rfl ?_
  refine p_iconst dL_law_20 ?_
  refine p_istore dL_law_21 (Nat.le_of_ble_eq_true rfl) rfl ?_
  refine p_relay ?_
  exact p_widen (Nat.le_of_ble_eq_true rfl) (Nat.le_of_ble_eq_true rfl) (p_weak (leL.same (leL.same (leL.same (leL.same (leL.same (leL.drop (leL.drop leL.nil))))))) (x_L_loop (s := (0, Dini)) hG hL ⟨1, h, rfl⟩ 103))
