/-! CycleGroups: apply, image, exchange, cycle. -/
section
/-- a state's row changed, and nothing else -/
theorem cg_R_st {g : hl_G} {L : List Nat} {f : Nat → va_E} {T : Nat → Nat} {b : Nat → Nat} {n mm sm : Nat} {mv st : Nat → Nat → Nat} {made : Bool} (hI : cg_I g L f T b n mm sm mv st made) {j : Nat} (hj : j < sm) {x : Nat → Nat} (hx : gp_sym (ch_D n 0) x) :
    cg_R g L f T b n mm sm mv (va_up st j x) made (L, va_up f (b (20 + j)) (hl_nat g n x)) := by
  obtain ⟨zp, zd, cv, fl, hB, hC, ⟨hn0, hn, hmm, hsm, hmv, hst⟩, hmd⟩ := hI
  have tm := (hB.1 (20 + j) (by omega)).2
  refine ⟨T, fun q h => ⟨h, rfl⟩, fun q hq ht => ?_, zp, zd, cv, fl, cg_str hB j (by omega) x, ?_, ⟨hn0, hn, hmm, hsm, hmv, fun i hi => ?_⟩, hmd⟩
  · exact va_up_ne _ _ (hl_ne (T := T) (by omega))
  · refine cg_C_congr hn hC (fun q hq => ?_) hC.1 (fun e0 => e0) (fun _ _ => Iff.rfl)
    have h2 : T q ≠ 20 + j := fun e0 => cn_own_of (by omega) hq
    exact va_up_ne _ _ (hl_ne (T := T) (by rw [tm]; exact h2))
  · by_cases e0 : i = j
    · rw [e0, va_up_self]; exact hx
    · rw [va_up_ne _ _ e0]; exact hst i hi

/-- boolean apply(int state, int move) -/
theorem c_C_apply (l : Launch) (g : hl_G) (sz : Nat) (L : List Nat) (f : Nat → va_E) (T : Nat → Nat) (b : Nat → Nat) (n mm sm : Nat) (mv st : Nat → Nat → Nat) (made : Bool) (hI : cg_I g L f T b n mm sm mv st made) (q1 q2 : Int32) :
    Met l y_C_apply (hq y_C_apply b_C_apply 3 (some .boolean)) { frames := 1, cells := 0, slots := 0, locals := 30 } (hm_P g [.ref (b 0), .int q1, .int q2] sz L f) (va_Qi (fun r u => ((ip q1 sm = false ∨ ip q2 mm = false) ∧ r = nI 0 ∧ u = (L, f)) ∨ (∃ j k, j < sm ∧ k < mm ∧ q1 = nI j ∧ q2 = nI k ∧ r = nI 1 ∧ cg_R g L f T b n mm sm mv (va_up st j (mv k ∘ st j)) made u)) (hm_B g sz L) (hm_A sz L)) 0 0 (hm_A sz L) := by
  refine hm_ofW (by decide) (Nat.le_of_ble_eq_true rfl) ?_
  intro p e s m below meth c X hr hlk hnm hK hsz hh ls hl
  have hl : lv_has ls 3 [(0, .ref (b 0)), (1, .int q1), (2, .int q2)] := hl
  obtain ⟨zp, zd, cv, fl, hB, hC, hW, hmd⟩ := id hI
  obtain ⟨hn0, hn, hmm, hsm, hmv, hst⟩ := id hW
  rcases ip_cases q1 (n := sm) (by omega) with h1 | ⟨j, hj, rfl⟩
  · skip
    refine lv_aload_n X.1 X.2.1 d_C_apply_0 rfl (lv_at hl 0 rfl) ?_
    refine lv_iload_n X.1 X.2.1 d_C_apply_1 rfl (lv_at hl 1 rfl) ?_
    refine hl_calli hh (hl_runV (k := 1) X hK hh (c_C_isState l g _ L f (b 0) sm _ _ _ _ .null _ _ _ _ q1 (hB.1 0 (by omega)).1 hB.2.1 (by omega)) wc_C_isState w_298 w_1 wi_C_isState ws_C_isState (by decide +kernel) rfl rfl ⟨Nat.le_of_ble_eq_true rfl, Nat.le_of_ble_eq_true rfl⟩ (hB.1 0 (by omega)).1 hB.2.1 rfl rfl rfl rfl (Nat.le_of_ble_eq_true rfl) hl.1 d_C_apply_2 ⟨Nat.le_of_ble_eq_true rfl, Nat.le_of_ble_eq_true rfl⟩) (fun r u H locs hp hh => ?_)
    obtain ⟨hr1, rfl⟩ := hp
    rw [h1] at hr1
    subst hr1
    refine lv_if_eq (tgt := 16) X.1 X.2.1 d_C_apply_5 (by decide) (fun _ => ?_) (fun hc => absurd (by decide) hc)
    refine lv_iconst (v := nI 0) X.1 X.2.1 d_C_apply_16 (by decide) ?_
    exact hm_zret X hr hlk hh (Or.inl rfl) (Or.inl ⟨Or.inl h1, rfl, rfl⟩) (Nat.le_of_ble_eq_true rfl) (Nat.le_of_ble_eq_true rfl) d_C_apply_17
  · have h1 := ip_in (by omega : sm < 2 ^ 31) hj
    rcases ip_cases q2 (n := mm) (by omega) with h2 | ⟨k, hk, rfl⟩
    · skip
      refine lv_aload_n X.1 X.2.1 d_C_apply_0 rfl (lv_at hl 0 rfl) ?_
      refine lv_iload_n X.1 X.2.1 d_C_apply_1 rfl (lv_at hl 1 rfl) ?_
      refine hl_calli hh (hl_runV (k := 1) X hK hh (c_C_isState l g _ L f (b 0) sm _ _ _ _ .null _ _ _ _ (nI j) (hB.1 0 (by omega)).1 hB.2.1 (by omega)) wc_C_isState w_298 w_1 wi_C_isState ws_C_isState (by decide +kernel) rfl rfl ⟨Nat.le_of_ble_eq_true rfl, Nat.le_of_ble_eq_true rfl⟩ (hB.1 0 (by omega)).1 hB.2.1 rfl rfl rfl rfl (Nat.le_of_ble_eq_true rfl) hl.1 d_C_apply_2 ⟨Nat.le_of_ble_eq_true rfl, Nat.le_of_ble_eq_true rfl⟩) (fun r u H locs hp hh => ?_)
      obtain ⟨hr1, rfl⟩ := hp
      rw [h1] at hr1
      subst hr1
      refine lv_if_eq (tgt := 16) X.1 X.2.1 d_C_apply_5 (by decide) (fun hc => absurd hc (by decide)) (fun _ => ?_)
      refine lv_aload_n X.1 X.2.1 d_C_apply_8 rfl (lv_at hl 0 rfl) ?_
      refine lv_iload_n X.1 X.2.1 d_C_apply_9 rfl (lv_at hl 2 rfl) ?_
      refine hl_calli hh (hl_runV (k := 1) X hK hh (c_C_isMove l g _ L f (b 0) mm _ _ .null _ _ _ _ _ _ q2 (hB.1 0 (by omega)).1 hB.2.1 (by omega)) wc_C_isMove w_86 w_1 wi_C_isMove ws_C_isMove (by decide +kernel) rfl rfl ⟨Nat.le_of_ble_eq_true rfl, Nat.le_of_ble_eq_true rfl⟩ (hB.1 0 (by omega)).1 hB.2.1 rfl rfl rfl rfl (Nat.le_of_ble_eq_true rfl) hl.1 d_C_apply_10 ⟨Nat.le_of_ble_eq_true rfl, Nat.le_of_ble_eq_true rfl⟩) (fun r u H locs hp hh => ?_)
      obtain ⟨hr1, rfl⟩ := hp
      rw [h2] at hr1
      subst hr1
      refine lv_if_ne (tgt := 18) X.1 X.2.1 d_C_apply_13 (by decide) (fun hc => absurd (by decide) hc) (fun _ => ?_)
      refine lv_iconst (v := nI 0) X.1 X.2.1 d_C_apply_16 (by decide) ?_
      exact hm_zret X hr hlk hh (Or.inl rfl) (Or.inl ⟨Or.inr h2, rfl, rfl⟩) (Nat.le_of_ble_eq_true rfl) (Nat.le_of_ble_eq_true rfl) d_C_apply_17
    · have h2 := ip_in (by omega : mm < 2 ^ 31) hk
      have ts := (hB.1 (20 + j) (by omega)).2
      have tk := (hB.1 (10 + k) (by omega)).2
      refine lv_aload_n X.1 X.2.1 d_C_apply_0 rfl (lv_at hl 0 rfl) ?_
      refine lv_iload_n X.1 X.2.1 d_C_apply_1 rfl (lv_at hl 1 rfl) ?_
      refine hl_calli hh (hl_runV (k := 1) X hK hh (c_C_isState l g _ L f (b 0) sm _ _ _ _ .null _ _ _ _ (nI j) (hB.1 0 (by omega)).1 hB.2.1 (by omega)) wc_C_isState w_298 w_1 wi_C_isState ws_C_isState (by decide +kernel) rfl rfl ⟨Nat.le_of_ble_eq_true rfl, Nat.le_of_ble_eq_true rfl⟩ (hB.1 0 (by omega)).1 hB.2.1 rfl rfl rfl rfl (Nat.le_of_ble_eq_true rfl) hl.1 d_C_apply_2 ⟨Nat.le_of_ble_eq_true rfl, Nat.le_of_ble_eq_true rfl⟩) (fun r u H locs hp hh => ?_)
      obtain ⟨hr1, rfl⟩ := hp
      rw [h1] at hr1
      subst hr1
      refine lv_if_eq (tgt := 16) X.1 X.2.1 d_C_apply_5 (by decide) (fun hc => absurd hc (by decide)) (fun _ => ?_)
      refine lv_aload_n X.1 X.2.1 d_C_apply_8 rfl (lv_at hl 0 rfl) ?_
      refine lv_iload_n X.1 X.2.1 d_C_apply_9 rfl (lv_at hl 2 rfl) ?_
      refine hl_calli hh (hl_runV (k := 1) X hK hh (c_C_isMove l g _ L f (b 0) mm _ _ .null _ _ _ _ _ _ (nI k) (hB.1 0 (by omega)).1 hB.2.1 (by omega)) wc_C_isMove w_86 w_1 wi_C_isMove ws_C_isMove (by decide +kernel) rfl rfl ⟨Nat.le_of_ble_eq_true rfl, Nat.le_of_ble_eq_true rfl⟩ (hB.1 0 (by omega)).1 hB.2.1 rfl rfl rfl rfl (Nat.le_of_ble_eq_true rfl) hl.1 d_C_apply_10 ⟨Nat.le_of_ble_eq_true rfl, Nat.le_of_ble_eq_true rfl⟩) (fun r u H locs hp hh => ?_)
      obtain ⟨hr1, rfl⟩ := hp
      rw [h2] at hr1
      subst hr1
      refine lv_if_ne (tgt := 18) X.1 X.2.1 d_C_apply_13 (by decide) (fun _ => ?_) (fun hc => absurd hc (by decide))
      refine lv_aload_n X.1 X.2.1 d_C_apply_18 rfl (lv_at hl 0 rfl) ?_
      refine hl_get X hK hh (ref := "CycleGroups") i_C (ci := 0) rfl 3 (by decide) w_50 rfl (hB.1 0 (by omega)).1 hB.2.1 rfl d_C_apply_19 ?_
      refine lv_iload_n X.1 X.2.1 d_C_apply_22 rfl (lv_at hl 1 rfl) ?_
      refine hl_aaldG X hK hh (hB.1 2 (by omega)).1 hB.2.2.2.1 (by omega) (by omega) (if_pos (by omega)) d_C_apply_23 ?_
      refine lv_aload_n X.1 X.2.1 d_C_apply_24 rfl (lv_at hl 0 rfl) ?_
      refine hl_get X hK hh (ref := "CycleGroups") i_C (ci := 0) rfl 1 (by decide) w_48 rfl (hB.1 0 (by omega)).1 hB.2.1 rfl d_C_apply_25 ?_
      refine lv_iload_n X.1 X.2.1 d_C_apply_28 rfl (lv_at hl 2 rfl) ?_
      refine hl_aaldG X hK hh (hB.1 1 (by omega)).1 hB.2.2.1 (by omega) (by omega) (if_pos (by omega)) d_C_apply_29 ?_
      refine hl_callv hh (hl_runS (k := 2) X hK hh (c_C_follow l g _ L f (b (20 + j)) (b (10 + k)) n (st j) (mv k) (hB.1 (20 + j) (by omega)).1 (hB.2.2.2.2.2.2.2.2.2 j (by omega)) (hB.1 (10 + k) (by omega)).1 (hB.2.2.2.2.2.2.2.2.1 k (by omega)) (hl_ne (T := T) (by rw [ts, tk]; omega)) hn (fun p hp => lk_sym_lt (hst j hj) hp)) wc_C_follow w_302 w_1 wi_C_follow (by decide +kernel) rfl rfl ⟨Nat.le_of_ble_eq_true rfl, Nat.le_of_ble_eq_true rfl⟩ rfl rfl (Nat.le_of_ble_eq_true rfl) hl.1 d_C_apply_30 ⟨Nat.le_of_ble_eq_true rfl, Nat.le_of_ble_eq_true rfl⟩) (fun u H locs hp hh => ?_)
      subst hp
      refine lv_iconst (v := nI 1) X.1 X.2.1 d_C_apply_33 (by decide) ?_
      exact hm_zret X hr hlk hh (Or.inr rfl) (Or.inr ⟨j, k, hj, hk, rfl, rfl, rfl, cg_R_st hI hj ((gp_sym_sg _).2.1 _ _ (hmv k hk) (hst j hj))⟩) (Nat.le_of_ble_eq_true rfl) (Nat.le_of_ble_eq_true rfl) d_C_apply_34

/-- int image(int state, int place) -/
theorem c_C_image (l : Launch) (g : hl_G) (sz : Nat) (L : List Nat) (f : Nat → va_E) (T : Nat → Nat) (b : Nat → Nat) (n mm sm : Nat) (mv st : Nat → Nat → Nat) (made : Bool) (hI : cg_I g L f T b n mm sm mv st made) (q1 q2 : Int32) :
    Met l y_C_image (hq y_C_image b_C_image 3 (some .int)) { frames := 1, cells := 0, slots := 0, locals := 30 } (hm_P g [.ref (b 0), .int q1, .int q2] sz L f) (va_Qi (fun r u => (((ip q1 sm = false ∨ ip q2 n = false) ∧ r = -1) ∨ (∃ j k, j < sm ∧ k < n ∧ q1 = nI j ∧ q2 = nI k ∧ r = nI (st j k))) ∧ u = (L, f)) (hm_B g sz L) (hm_A sz L)) 0 0 (hm_A sz L) := by
  refine hm_ofW (by decide) (Nat.le_of_ble_eq_true rfl) ?_
  intro p e s m below meth c X hr hlk hnm hK hsz hh ls hl
  have hl : lv_has ls 3 [(0, .ref (b 0)), (1, .int q1), (2, .int q2)] := hl
  obtain ⟨zp, zd, cv, fl, hB, hC, hW, hmd⟩ := id hI
  obtain ⟨hn0, hn, hmm, hsm, hmv, hst⟩ := id hW
  rcases ip_cases q1 (n := sm) (by omega) with h1 | ⟨j, hj, rfl⟩
  · skip
    refine lv_aload_n X.1 X.2.1 d_C_image_0 rfl (lv_at hl 0 rfl) ?_
    refine lv_iload_n X.1 X.2.1 d_C_image_1 rfl (lv_at hl 1 rfl) ?_
    refine hl_calli hh (hl_runV (k := 1) X hK hh (c_C_isState l g _ L f (b 0) sm _ _ _ _ .null _ _ _ _ q1 (hB.1 0 (by omega)).1 hB.2.1 (by omega)) wc_C_isState w_298 w_1 wi_C_isState ws_C_isState (by decide +kernel) rfl rfl ⟨Nat.le_of_ble_eq_true rfl, Nat.le_of_ble_eq_true rfl⟩ (hB.1 0 (by omega)).1 hB.2.1 rfl rfl rfl rfl (Nat.le_of_ble_eq_true rfl) hl.1 d_C_image_2 ⟨Nat.le_of_ble_eq_true rfl, Nat.le_of_ble_eq_true rfl⟩) (fun r u H locs hp hh => ?_)
    obtain ⟨hr1, rfl⟩ := hp
    rw [h1] at hr1
    subst hr1
    refine lv_if_eq (tgt := 27) X.1 X.2.1 d_C_image_5 (by decide) (fun _ => ?_) (fun hc => absurd (by decide) hc)
    refine lv_iconst (v := -1) X.1 X.2.1 d_C_image_27 (by decide) ?_
    exact hm_iret X hr hlk hh ⟨Or.inl ⟨Or.inl h1, rfl⟩, rfl⟩ (Nat.le_of_ble_eq_true rfl) (Nat.le_of_ble_eq_true rfl) d_C_image_28
  · have h1 := ip_in (by omega : sm < 2 ^ 31) hj
    rcases ip_cases q2 (n := n) (by omega) with h2 | ⟨k, hk, rfl⟩
    · skip
      refine lv_aload_n X.1 X.2.1 d_C_image_0 rfl (lv_at hl 0 rfl) ?_
      refine lv_iload_n X.1 X.2.1 d_C_image_1 rfl (lv_at hl 1 rfl) ?_
      refine hl_calli hh (hl_runV (k := 1) X hK hh (c_C_isState l g _ L f (b 0) sm _ _ _ _ .null _ _ _ _ (nI j) (hB.1 0 (by omega)).1 hB.2.1 (by omega)) wc_C_isState w_298 w_1 wi_C_isState ws_C_isState (by decide +kernel) rfl rfl ⟨Nat.le_of_ble_eq_true rfl, Nat.le_of_ble_eq_true rfl⟩ (hB.1 0 (by omega)).1 hB.2.1 rfl rfl rfl rfl (Nat.le_of_ble_eq_true rfl) hl.1 d_C_image_2 ⟨Nat.le_of_ble_eq_true rfl, Nat.le_of_ble_eq_true rfl⟩) (fun r u H locs hp hh => ?_)
      obtain ⟨hr1, rfl⟩ := hp
      rw [h1] at hr1
      subst hr1
      refine lv_if_eq (tgt := 27) X.1 X.2.1 d_C_image_5 (by decide) (fun hc => absurd hc (by decide)) (fun _ => ?_)
      refine lv_aload_n X.1 X.2.1 d_C_image_8 rfl (lv_at hl 0 rfl) ?_
      refine lv_iload_n X.1 X.2.1 d_C_image_9 rfl (lv_at hl 2 rfl) ?_
      refine hl_calli hh (hl_runV (k := 1) X hK hh (c_C_isPlace l g _ L f (b 0) n .null _ _ _ _ _ _ _ _ q2 (hB.1 0 (by omega)).1 hB.2.1 (by omega)) wc_C_isPlace w_90 w_1 wi_C_isPlace ws_C_isPlace (by decide +kernel) rfl rfl ⟨Nat.le_of_ble_eq_true rfl, Nat.le_of_ble_eq_true rfl⟩ (hB.1 0 (by omega)).1 hB.2.1 rfl rfl rfl rfl (Nat.le_of_ble_eq_true rfl) hl.1 d_C_image_10 ⟨Nat.le_of_ble_eq_true rfl, Nat.le_of_ble_eq_true rfl⟩) (fun r u H locs hp hh => ?_)
      obtain ⟨hr1, rfl⟩ := hp
      rw [h2] at hr1
      subst hr1
      refine lv_if_eq (tgt := 27) X.1 X.2.1 d_C_image_13 (by decide) (fun _ => ?_) (fun hc => absurd (by decide) hc)
      refine lv_iconst (v := -1) X.1 X.2.1 d_C_image_27 (by decide) ?_
      exact hm_iret X hr hlk hh ⟨Or.inl ⟨Or.inr h2, rfl⟩, rfl⟩ (Nat.le_of_ble_eq_true rfl) (Nat.le_of_ble_eq_true rfl) d_C_image_28
    · have h2 := ip_in (by omega : n < 2 ^ 31) hk
      refine lv_aload_n X.1 X.2.1 d_C_image_0 rfl (lv_at hl 0 rfl) ?_
      refine lv_iload_n X.1 X.2.1 d_C_image_1 rfl (lv_at hl 1 rfl) ?_
      refine hl_calli hh (hl_runV (k := 1) X hK hh (c_C_isState l g _ L f (b 0) sm _ _ _ _ .null _ _ _ _ (nI j) (hB.1 0 (by omega)).1 hB.2.1 (by omega)) wc_C_isState w_298 w_1 wi_C_isState ws_C_isState (by decide +kernel) rfl rfl ⟨Nat.le_of_ble_eq_true rfl, Nat.le_of_ble_eq_true rfl⟩ (hB.1 0 (by omega)).1 hB.2.1 rfl rfl rfl rfl (Nat.le_of_ble_eq_true rfl) hl.1 d_C_image_2 ⟨Nat.le_of_ble_eq_true rfl, Nat.le_of_ble_eq_true rfl⟩) (fun r u H locs hp hh => ?_)
      obtain ⟨hr1, rfl⟩ := hp
      rw [h1] at hr1
      subst hr1
      refine lv_if_eq (tgt := 27) X.1 X.2.1 d_C_image_5 (by decide) (fun hc => absurd hc (by decide)) (fun _ => ?_)
      refine lv_aload_n X.1 X.2.1 d_C_image_8 rfl (lv_at hl 0 rfl) ?_
      refine lv_iload_n X.1 X.2.1 d_C_image_9 rfl (lv_at hl 2 rfl) ?_
      refine hl_calli hh (hl_runV (k := 1) X hK hh (c_C_isPlace l g _ L f (b 0) n .null _ _ _ _ _ _ _ _ (nI k) (hB.1 0 (by omega)).1 hB.2.1 (by omega)) wc_C_isPlace w_90 w_1 wi_C_isPlace ws_C_isPlace (by decide +kernel) rfl rfl ⟨Nat.le_of_ble_eq_true rfl, Nat.le_of_ble_eq_true rfl⟩ (hB.1 0 (by omega)).1 hB.2.1 rfl rfl rfl rfl (Nat.le_of_ble_eq_true rfl) hl.1 d_C_image_10 ⟨Nat.le_of_ble_eq_true rfl, Nat.le_of_ble_eq_true rfl⟩) (fun r u H locs hp hh => ?_)
      obtain ⟨hr1, rfl⟩ := hp
      rw [h2] at hr1
      subst hr1
      refine lv_if_eq (tgt := 27) X.1 X.2.1 d_C_image_13 (by decide) (fun hc => absurd hc (by decide)) (fun _ => ?_)
      refine lv_aload_n X.1 X.2.1 d_C_image_16 rfl (lv_at hl 0 rfl) ?_
      refine hl_get X hK hh (ref := "CycleGroups") i_C (ci := 0) rfl 3 (by decide) w_50 rfl (hB.1 0 (by omega)).1 hB.2.1 rfl d_C_image_17 ?_
      refine lv_iload_n X.1 X.2.1 d_C_image_20 rfl (lv_at hl 1 rfl) ?_
      refine hl_aaldG X hK hh (hB.1 2 (by omega)).1 hB.2.2.2.1 (by omega) (by omega) (if_pos (by omega)) d_C_image_21 ?_
      refine lv_iload_n X.1 X.2.1 d_C_image_22 rfl (lv_at hl 2 rfl) ?_
      refine hl_iald X hK hh (hB.1 (20 + j) (by omega)).1 (hB.2.2.2.2.2.2.2.2.2 j (by omega)) (by omega) (by omega) d_C_image_23 ?_
      refine lv_goto (tgt := 28) X.1 X.2.1 d_C_image_24 (by decide) ?_
      exact hm_iret X hr hlk hh ⟨Or.inr ⟨j, k, hj, hk, rfl, rfl, rfl⟩, rfl⟩ (Nat.le_of_ble_eq_true rfl) (Nat.le_of_ble_eq_true rfl) d_C_image_28

/-- two places of a row exchanged, where it puts to -/
theorem ex_eq (σ : Nat → Nat) (a c p : Nat) : gp_sw a c (σ p) = if σ p = a then c else if σ p = c then a else σ p := rfl

/-- boolean exchange(int state, int a, int b) -/
theorem c_C_exchange (l : Launch) (g : hl_G) (sz : Nat) (L : List Nat) (f : Nat → va_E) (T : Nat → Nat) (b : Nat → Nat) (n mm sm : Nat) (mv st : Nat → Nat → Nat) (made : Bool) (hI : cg_I g L f T b n mm sm mv st made) (q1 q2 q3 : Int32) :
    Met l y_C_exchange (hq y_C_exchange b_C_exchange 6 (some .boolean)) { frames := 1, cells := 0, slots := 0, locals := 30 } (hm_P g [.ref (b 0), .int q1, .int q2, .int q3] sz L f) (va_Qi (fun r u => ((ip q1 sm = false ∨ ip q2 n = false ∨ ip q3 n = false ∨ q2 = q3) ∧ r = nI 0 ∧ u = (L, f)) ∨ (∃ j a c, j < sm ∧ a < n ∧ c < n ∧ a ≠ c ∧ q1 = nI j ∧ q2 = nI a ∧ q3 = nI c ∧ r = nI 1 ∧ cg_R g L f T b n mm sm mv (va_up st j (gp_sw a c ∘ st j)) made u)) (hm_B g sz L) (hm_A sz L)) 0 0 (hm_A sz L) := by
  refine hm_ofW (by decide) (Nat.le_of_ble_eq_true rfl) ?_
  intro p e s m below meth c X hr hlk hnm hK hsz hh ls hl
  have hl : lv_has ls 6 [(0, .ref (b 0)), (1, .int q1), (2, .int q2), (3, .int q3)] := hl
  obtain ⟨zp, zd, cv, fl, hB, hC, hW, hmd⟩ := id hI
  obtain ⟨hn0, hn, hmm, hsm, hmv, hst⟩ := id hW
  rcases ip_cases q1 (n := sm) (by omega) with h1 | ⟨j, hj, rfl⟩
  · skip
    refine lv_aload_n X.1 X.2.1 d_C_exchange_0 rfl (lv_at hl 0 rfl) ?_
    refine lv_iload_n X.1 X.2.1 d_C_exchange_1 rfl (lv_at hl 1 rfl) ?_
    refine hl_calli hh (hl_runV (k := 1) X hK hh (c_C_isState l g _ L f (b 0) sm _ _ _ _ .null _ _ _ _ q1 (hB.1 0 (by omega)).1 hB.2.1 (by omega)) wc_C_isState w_298 w_1 wi_C_isState ws_C_isState (by decide +kernel) rfl rfl ⟨Nat.le_of_ble_eq_true rfl, Nat.le_of_ble_eq_true rfl⟩ (hB.1 0 (by omega)).1 hB.2.1 rfl rfl rfl rfl (Nat.le_of_ble_eq_true rfl) hl.1 d_C_exchange_2 ⟨Nat.le_of_ble_eq_true rfl, Nat.le_of_ble_eq_true rfl⟩) (fun r u H locs hp hh => ?_)
    obtain ⟨hr1, rfl⟩ := hp
    rw [h1] at hr1
    subst hr1
    refine lv_if_eq (tgt := 29) X.1 X.2.1 d_C_exchange_5 (by decide) (fun _ => ?_) (fun hc => absurd (by decide) hc)
    refine lv_iconst (v := nI 0) X.1 X.2.1 d_C_exchange_29 (by decide) ?_
    exact hm_zret X hr hlk hh (Or.inl rfl) (Or.inl ⟨Or.inl h1, rfl, rfl⟩) (Nat.le_of_ble_eq_true rfl) (Nat.le_of_ble_eq_true rfl) d_C_exchange_30
  · have h1 := ip_in (by omega : sm < 2 ^ 31) hj
    rcases ip_cases q2 (n := n) (by omega) with h2 | ⟨a, ha, rfl⟩
    · skip
      refine lv_aload_n X.1 X.2.1 d_C_exchange_0 rfl (lv_at hl 0 rfl) ?_
      refine lv_iload_n X.1 X.2.1 d_C_exchange_1 rfl (lv_at hl 1 rfl) ?_
      refine hl_calli hh (hl_runV (k := 1) X hK hh (c_C_isState l g _ L f (b 0) sm _ _ _ _ .null _ _ _ _ (nI j) (hB.1 0 (by omega)).1 hB.2.1 (by omega)) wc_C_isState w_298 w_1 wi_C_isState ws_C_isState (by decide +kernel) rfl rfl ⟨Nat.le_of_ble_eq_true rfl, Nat.le_of_ble_eq_true rfl⟩ (hB.1 0 (by omega)).1 hB.2.1 rfl rfl rfl rfl (Nat.le_of_ble_eq_true rfl) hl.1 d_C_exchange_2 ⟨Nat.le_of_ble_eq_true rfl, Nat.le_of_ble_eq_true rfl⟩) (fun r u H locs hp hh => ?_)
      obtain ⟨hr1, rfl⟩ := hp
      rw [h1] at hr1
      subst hr1
      refine lv_if_eq (tgt := 29) X.1 X.2.1 d_C_exchange_5 (by decide) (fun hc => absurd hc (by decide)) (fun _ => ?_)
      refine lv_aload_n X.1 X.2.1 d_C_exchange_8 rfl (lv_at hl 0 rfl) ?_
      refine lv_iload_n X.1 X.2.1 d_C_exchange_9 rfl (lv_at hl 2 rfl) ?_
      refine hl_calli hh (hl_runV (k := 1) X hK hh (c_C_isPlace l g _ L f (b 0) n .null _ _ _ _ _ _ _ _ q2 (hB.1 0 (by omega)).1 hB.2.1 (by omega)) wc_C_isPlace w_90 w_1 wi_C_isPlace ws_C_isPlace (by decide +kernel) rfl rfl ⟨Nat.le_of_ble_eq_true rfl, Nat.le_of_ble_eq_true rfl⟩ (hB.1 0 (by omega)).1 hB.2.1 rfl rfl rfl rfl (Nat.le_of_ble_eq_true rfl) hl.1 d_C_exchange_10 ⟨Nat.le_of_ble_eq_true rfl, Nat.le_of_ble_eq_true rfl⟩) (fun r u H locs hp hh => ?_)
      obtain ⟨hr1, rfl⟩ := hp
      rw [h2] at hr1
      subst hr1
      refine lv_if_eq (tgt := 29) X.1 X.2.1 d_C_exchange_13 (by decide) (fun _ => ?_) (fun hc => absurd (by decide) hc)
      refine lv_iconst (v := nI 0) X.1 X.2.1 d_C_exchange_29 (by decide) ?_
      exact hm_zret X hr hlk hh (Or.inl rfl) (Or.inl ⟨Or.inr (Or.inl h2), rfl, rfl⟩) (Nat.le_of_ble_eq_true rfl) (Nat.le_of_ble_eq_true rfl) d_C_exchange_30
    · have h2 := ip_in (by omega : n < 2 ^ 31) ha
      rcases ip_cases q3 (n := n) (by omega) with h3 | ⟨d, hd, rfl⟩
      · skip
        refine lv_aload_n X.1 X.2.1 d_C_exchange_0 rfl (lv_at hl 0 rfl) ?_
        refine lv_iload_n X.1 X.2.1 d_C_exchange_1 rfl (lv_at hl 1 rfl) ?_
        refine hl_calli hh (hl_runV (k := 1) X hK hh (c_C_isState l g _ L f (b 0) sm _ _ _ _ .null _ _ _ _ (nI j) (hB.1 0 (by omega)).1 hB.2.1 (by omega)) wc_C_isState w_298 w_1 wi_C_isState ws_C_isState (by decide +kernel) rfl rfl ⟨Nat.le_of_ble_eq_true rfl, Nat.le_of_ble_eq_true rfl⟩ (hB.1 0 (by omega)).1 hB.2.1 rfl rfl rfl rfl (Nat.le_of_ble_eq_true rfl) hl.1 d_C_exchange_2 ⟨Nat.le_of_ble_eq_true rfl, Nat.le_of_ble_eq_true rfl⟩) (fun r u H locs hp hh => ?_)
        obtain ⟨hr1, rfl⟩ := hp
        rw [h1] at hr1
        subst hr1
        refine lv_if_eq (tgt := 29) X.1 X.2.1 d_C_exchange_5 (by decide) (fun hc => absurd hc (by decide)) (fun _ => ?_)
        refine lv_aload_n X.1 X.2.1 d_C_exchange_8 rfl (lv_at hl 0 rfl) ?_
        refine lv_iload_n X.1 X.2.1 d_C_exchange_9 rfl (lv_at hl 2 rfl) ?_
        refine hl_calli hh (hl_runV (k := 1) X hK hh (c_C_isPlace l g _ L f (b 0) n .null _ _ _ _ _ _ _ _ (nI a) (hB.1 0 (by omega)).1 hB.2.1 (by omega)) wc_C_isPlace w_90 w_1 wi_C_isPlace ws_C_isPlace (by decide +kernel) rfl rfl ⟨Nat.le_of_ble_eq_true rfl, Nat.le_of_ble_eq_true rfl⟩ (hB.1 0 (by omega)).1 hB.2.1 rfl rfl rfl rfl (Nat.le_of_ble_eq_true rfl) hl.1 d_C_exchange_10 ⟨Nat.le_of_ble_eq_true rfl, Nat.le_of_ble_eq_true rfl⟩) (fun r u H locs hp hh => ?_)
        obtain ⟨hr1, rfl⟩ := hp
        rw [h2] at hr1
        subst hr1
        refine lv_if_eq (tgt := 29) X.1 X.2.1 d_C_exchange_13 (by decide) (fun hc => absurd hc (by decide)) (fun _ => ?_)
        refine lv_aload_n X.1 X.2.1 d_C_exchange_16 rfl (lv_at hl 0 rfl) ?_
        refine lv_iload_n X.1 X.2.1 d_C_exchange_17 rfl (lv_at hl 3 rfl) ?_
        refine hl_calli hh (hl_runV (k := 1) X hK hh (c_C_isPlace l g _ L f (b 0) n .null _ _ _ _ _ _ _ _ q3 (hB.1 0 (by omega)).1 hB.2.1 (by omega)) wc_C_isPlace w_90 w_1 wi_C_isPlace ws_C_isPlace (by decide +kernel) rfl rfl ⟨Nat.le_of_ble_eq_true rfl, Nat.le_of_ble_eq_true rfl⟩ (hB.1 0 (by omega)).1 hB.2.1 rfl rfl rfl rfl (Nat.le_of_ble_eq_true rfl) hl.1 d_C_exchange_18 ⟨Nat.le_of_ble_eq_true rfl, Nat.le_of_ble_eq_true rfl⟩) (fun r u H locs hp hh => ?_)
        obtain ⟨hr1, rfl⟩ := hp
        rw [h3] at hr1
        subst hr1
        refine lv_if_eq (tgt := 29) X.1 X.2.1 d_C_exchange_21 (by decide) (fun _ => ?_) (fun hc => absurd (by decide) hc)
        refine lv_iconst (v := nI 0) X.1 X.2.1 d_C_exchange_29 (by decide) ?_
        exact hm_zret X hr hlk hh (Or.inl rfl) (Or.inl ⟨Or.inr (Or.inr (Or.inl h3)), rfl, rfl⟩) (Nat.le_of_ble_eq_true rfl) (Nat.le_of_ble_eq_true rfl) d_C_exchange_30
      · have h3 := ip_in (by omega : n < 2 ^ 31) hd
        have ts := (hB.1 (20 + j) (by omega)).2
        have nx : b 0 ≠ b (20 + j) := hl_ne (T := T) (by rw [ts, (hB.1 0 (by omega)).2]; omega)
        refine lv_aload_n X.1 X.2.1 d_C_exchange_0 rfl (lv_at hl 0 rfl) ?_
        refine lv_iload_n X.1 X.2.1 d_C_exchange_1 rfl (lv_at hl 1 rfl) ?_
        refine hl_calli hh (hl_runV (k := 1) X hK hh (c_C_isState l g _ L f (b 0) sm _ _ _ _ .null _ _ _ _ (nI j) (hB.1 0 (by omega)).1 hB.2.1 (by omega)) wc_C_isState w_298 w_1 wi_C_isState ws_C_isState (by decide +kernel) rfl rfl ⟨Nat.le_of_ble_eq_true rfl, Nat.le_of_ble_eq_true rfl⟩ (hB.1 0 (by omega)).1 hB.2.1 rfl rfl rfl rfl (Nat.le_of_ble_eq_true rfl) hl.1 d_C_exchange_2 ⟨Nat.le_of_ble_eq_true rfl, Nat.le_of_ble_eq_true rfl⟩) (fun r u H locs hp hh => ?_)
        obtain ⟨hr1, rfl⟩ := hp
        rw [h1] at hr1
        subst hr1
        refine lv_if_eq (tgt := 29) X.1 X.2.1 d_C_exchange_5 (by decide) (fun hc => absurd hc (by decide)) (fun _ => ?_)
        refine lv_aload_n X.1 X.2.1 d_C_exchange_8 rfl (lv_at hl 0 rfl) ?_
        refine lv_iload_n X.1 X.2.1 d_C_exchange_9 rfl (lv_at hl 2 rfl) ?_
        refine hl_calli hh (hl_runV (k := 1) X hK hh (c_C_isPlace l g _ L f (b 0) n .null _ _ _ _ _ _ _ _ (nI a) (hB.1 0 (by omega)).1 hB.2.1 (by omega)) wc_C_isPlace w_90 w_1 wi_C_isPlace ws_C_isPlace (by decide +kernel) rfl rfl ⟨Nat.le_of_ble_eq_true rfl, Nat.le_of_ble_eq_true rfl⟩ (hB.1 0 (by omega)).1 hB.2.1 rfl rfl rfl rfl (Nat.le_of_ble_eq_true rfl) hl.1 d_C_exchange_10 ⟨Nat.le_of_ble_eq_true rfl, Nat.le_of_ble_eq_true rfl⟩) (fun r u H locs hp hh => ?_)
        obtain ⟨hr1, rfl⟩ := hp
        rw [h2] at hr1
        subst hr1
        refine lv_if_eq (tgt := 29) X.1 X.2.1 d_C_exchange_13 (by decide) (fun hc => absurd hc (by decide)) (fun _ => ?_)
        refine lv_aload_n X.1 X.2.1 d_C_exchange_16 rfl (lv_at hl 0 rfl) ?_
        refine lv_iload_n X.1 X.2.1 d_C_exchange_17 rfl (lv_at hl 3 rfl) ?_
        refine hl_calli hh (hl_runV (k := 1) X hK hh (c_C_isPlace l g _ L f (b 0) n .null _ _ _ _ _ _ _ _ (nI d) (hB.1 0 (by omega)).1 hB.2.1 (by omega)) wc_C_isPlace w_90 w_1 wi_C_isPlace ws_C_isPlace (by decide +kernel) rfl rfl ⟨Nat.le_of_ble_eq_true rfl, Nat.le_of_ble_eq_true rfl⟩ (hB.1 0 (by omega)).1 hB.2.1 rfl rfl rfl rfl (Nat.le_of_ble_eq_true rfl) hl.1 d_C_exchange_18 ⟨Nat.le_of_ble_eq_true rfl, Nat.le_of_ble_eq_true rfl⟩) (fun r u H locs hp hh => ?_)
        obtain ⟨hr1, rfl⟩ := hp
        rw [h3] at hr1
        subst hr1
        refine lv_if_eq (tgt := 29) X.1 X.2.1 d_C_exchange_21 (by decide) (fun hc => absurd hc (by decide)) (fun _ => ?_)
        refine lv_iload_n X.1 X.2.1 d_C_exchange_24 rfl (lv_at hl 2 rfl) ?_
        refine lv_iload_n X.1 X.2.1 d_C_exchange_25 rfl (lv_at hl 3 rfl) ?_
        refine hn_ine (tgt := 31) X (by omega) (by omega) d_C_exchange_26 (by decide) (fun hc => ?_) (fun hc => ?_)
        · have hne : a ≠ d := hc
          have loop : ∀ (t i : Nat) (y : Nat → Nat) (H : Heap) (locs : List Loc) (ls : Array Slot), n + 1 ≤ i + t → i ≤ n → (∀ p, p < i → y p = gp_sw a d (st j p)) → (∀ p, i ≤ p → y p = st j p) →
              hl_H g (hm_A sz L) s.heap L (va_up f (b (20 + j)) (hl_nat g n y)) H locs → lv_has ls 6 [(5, .int (nI i)), (4, .ref (b (20 + j))), (0, .ref (b 0)), (1, .int (nI j)), (2, .int (nI a)), (3, .int (nI d))] →
              W p l e { frames := 1, cells := 0, slots := 0, locals := 30 } s m #[.ref (b 0), .int (nI j), .int (nI a), .int (nI d)] below meth c H locs 0 0 (MQ below (va_Qi (fun r u => ((ip (nI j) sm = false ∨ ip (nI a) n = false ∨ ip (nI d) n = false ∨ nI a = nI d) ∧ r = nI 0 ∧ u = (L, f)) ∨ (∃ j_1 a_1 c, j_1 < sm ∧ a_1 < n ∧ c < n ∧ a_1 ≠ c ∧ nI j = nI j_1 ∧ nI a = nI a_1 ∧ nI d = nI c ∧ r = nI 1 ∧ cg_R g L f T b n mm sm mv (va_up st j_1 (gp_sw a_1 c ∘ st j_1)) made u)) (hm_B g sz L) (hm_A sz L)) #[.ref (b 0), .int (nI j), .int (nI a), .int (nI d)] s 0 0 (hm_A sz L)) (F0 m 42 ls []) := by
            intro t
            induction t with
            | zero => intros; omega
            | succ t ih =>
              intro i y H locs ls hk hin hy hy2 hh hl
              refine lv_iload X.1 X.2.1 d_C_exchange_42 (lv_at hl 0 rfl) ?_
              refine lv_aload_n X.1 X.2.1 d_C_exchange_44 rfl (lv_at hl 2 rfl) ?_
              refine hl_get X hK hh (ref := "CycleGroups") i_C (ci := 0) rfl 0 (by decide) w_47 rfl (hB.1 0 (by omega)).1 ((va_up_ne _ _ nx).trans hB.2.1) rfl d_C_exchange_45 ?_
              refine hn_ige (tgt := 90) X (by omega) (by omega) d_C_exchange_48 (by decide) (fun hc => ?_) (fun hc => ?_)
              · have hh := hl_norm (w := fun p => nI ((gp_sw a d ∘ st j) p)) hh (fun p hp => by rw [hy p (by omega)]; rfl)
                refine lv_iconst (v := nI 1) X.1 X.2.1 d_C_exchange_90 (by decide) ?_
                exact hm_zret X hr hlk hh (Or.inr rfl) (Or.inr ⟨j, a, d, hj, ha, hd, hne, rfl, rfl, rfl, rfl, cg_R_st hI hj ((gp_sym_sg _).2.1 _ _ (gp_sw_sym (ch_D_mem.2 ⟨Nat.zero_le _, ha⟩) (ch_D_mem.2 ⟨Nat.zero_le _, hd⟩)) (hst j hj))⟩) (Nat.le_of_ble_eq_true rfl) (Nat.le_of_ble_eq_true rfl) d_C_exchange_91
              · have hyi := hy2 i (Nat.le_refl _)
                have hsi := lk_sym_lt (hst j hj) (show i < n from hc)
                have step : ∀ v, v = gp_sw a d (st j i) → (∀ p, p < i + 1 → va_up y i v p = gp_sw a d (st j p)) ∧ (∀ p, i + 1 ≤ p → va_up y i v p = st j p) := by
                  intro v hv
                  refine ⟨fun p hp => ?_, fun p hp => ?_⟩
                  · by_cases e0 : p = i
                    · rw [e0, va_up_self, hv]
                    · rw [va_up_ne _ _ e0]; exact hy p (by omega)
                  · rw [va_up_ne _ _ (by omega)]; exact hy2 p (by omega)
                refine lv_aload X.1 X.2.1 d_C_exchange_51 (lv_at hl 1 rfl) ?_
                refine lv_iload X.1 X.2.1 d_C_exchange_53 (lv_at hl 0 rfl) ?_
                refine hl_iald X hK hh (hB.1 (20 + j) (by omega)).1 (va_up_self ..) (by omega) (by omega) d_C_exchange_55 ?_
                refine lv_iload_n X.1 X.2.1 d_C_exchange_56 rfl (lv_at hl 4 rfl) ?_
                refine hn_ine (tgt := 69) X (by omega) (by omega) d_C_exchange_57 (by decide) (fun hc => ?_) (fun hc => ?_)
                · have hc1 : ¬ y i = a := hc
                  refine lv_aload X.1 X.2.1 d_C_exchange_69 (lv_at hl 1 rfl) ?_
                  refine lv_iload X.1 X.2.1 d_C_exchange_71 (lv_at hl 0 rfl) ?_
                  refine hl_iald X hK hh (hB.1 (20 + j) (by omega)).1 (va_up_self ..) (by omega) (by omega) d_C_exchange_73 ?_
                  refine lv_iload_n X.1 X.2.1 d_C_exchange_74 rfl (lv_at hl 5 rfl) ?_
                  refine hn_ine (tgt := 84) X (by omega) (by omega) d_C_exchange_75 (by decide) (fun hc => ?_) (fun hc => ?_)
                  · have hc2 : ¬ y i = d := hc
                    refine lv_iinc (v := nI (i + 1)) (lv' := [(5, .int (nI (i + 1))), (4, .ref (b (20 + j))), (0, .ref (b 0)), (1, .int (nI j)), (2, .int (nI a)), (3, .int (nI d))]) X.1 X.2.1 d_C_exchange_84 hl (k := 0) rfl (hn_inc _) (by decide) rfl (fun ls hl => ?_)
                    refine lv_goto (tgt := 42) X.1 X.2.1 d_C_exchange_87 (by decide) ?_
                    refine ih (i + 1) y H locs ls (by omega) (by omega) (fun p hp => ?_) (fun p hp => hy2 p (by omega)) hh hl
                    by_cases e0 : p = i
                    · rw [e0, hyi, gp_sw_n (by rw [← hyi]; exact hc1) (by rw [← hyi]; exact hc2)]
                    · exact hy p (by omega)
                  · have hc2 : y i = d := hc
                    refine lv_aload X.1 X.2.1 d_C_exchange_78 (lv_at hl 1 rfl) ?_
                    refine lv_iload X.1 X.2.1 d_C_exchange_80 (lv_at hl 0 rfl) ?_
                    refine lv_iload_n X.1 X.2.1 d_C_exchange_82 rfl (lv_at hl 4 rfl) ?_
                    refine hl_iastN X hK hh (hB.1 (20 + j) (by omega)).1 (va_up_self ..) (by omega) (by omega) d_C_exchange_83 (fun H locs hh => ?_)
                    rw [hr_uu] at hh
                    refine lv_iinc (v := nI (i + 1)) (lv' := [(5, .int (nI (i + 1))), (4, .ref (b (20 + j))), (0, .ref (b 0)), (1, .int (nI j)), (2, .int (nI a)), (3, .int (nI d))]) X.1 X.2.1 d_C_exchange_84 hl (k := 0) rfl (hn_inc _) (by decide) rfl (fun ls hl => ?_)
                    refine lv_goto (tgt := 42) X.1 X.2.1 d_C_exchange_87 (by decide) ?_
                    obtain ⟨s1, s2⟩ := step a (by rw [← hyi, hc2, gp_sw_b])
                    exact ih (i + 1) (va_up y i a) H locs ls (by omega) (by omega) s1 s2 hh hl
                · have hc1 : y i = a := hc
                  refine lv_aload X.1 X.2.1 d_C_exchange_60 (lv_at hl 1 rfl) ?_
                  refine lv_iload X.1 X.2.1 d_C_exchange_62 (lv_at hl 0 rfl) ?_
                  refine lv_iload_n X.1 X.2.1 d_C_exchange_64 rfl (lv_at hl 5 rfl) ?_
                  refine hl_iastN X hK hh (hB.1 (20 + j) (by omega)).1 (va_up_self ..) (by omega) (by omega) d_C_exchange_65 (fun H locs hh => ?_)
                  rw [hr_uu] at hh
                  refine lv_goto (tgt := 84) X.1 X.2.1 d_C_exchange_66 (by decide) ?_
                  refine lv_iinc (v := nI (i + 1)) (lv' := [(5, .int (nI (i + 1))), (4, .ref (b (20 + j))), (0, .ref (b 0)), (1, .int (nI j)), (2, .int (nI a)), (3, .int (nI d))]) X.1 X.2.1 d_C_exchange_84 hl (k := 0) rfl (hn_inc _) (by decide) rfl (fun ls hl => ?_)
                  refine lv_goto (tgt := 42) X.1 X.2.1 d_C_exchange_87 (by decide) ?_
                  obtain ⟨s1, s2⟩ := step d (by rw [← hyi, hc1, gp_sw_a])
                  exact ih (i + 1) (va_up y i d) H locs ls (by omega) (by omega) s1 s2 hh hl
          refine lv_aload_n X.1 X.2.1 d_C_exchange_31 rfl (lv_at hl 0 rfl) ?_
          refine hl_get X hK hh (ref := "CycleGroups") i_C (ci := 0) rfl 3 (by decide) w_50 rfl (hB.1 0 (by omega)).1 hB.2.1 rfl d_C_exchange_32 ?_
          refine lv_iload_n X.1 X.2.1 d_C_exchange_35 rfl (lv_at hl 1 rfl) ?_
          refine hl_aaldG X hK hh (hB.1 2 (by omega)).1 hB.2.2.2.1 (by omega) (by omega) (if_pos (by omega)) d_C_exchange_36 ?_
          refine lv_astore (lv' := [(4, .ref (b (20 + j))), (0, .ref (b 0)), (1, .int (nI j)), (2, .int (nI a)), (3, .int (nI d))]) X.1 X.2.1 d_C_exchange_37 hl (by decide) rfl (fun ls hl => ?_)
          refine lv_iconst (v := nI 0) X.1 X.2.1 d_C_exchange_39 (by decide) ?_
          refine lv_istore (lv' := [(5, .int (nI 0)), (4, .ref (b (20 + j))), (0, .ref (b 0)), (1, .int (nI j)), (2, .int (nI a)), (3, .int (nI d))]) X.1 X.2.1 d_C_exchange_40 hl (by decide) rfl (fun ls hl => ?_)
          exact loop (n + 1) 0 (st j) _ _ ls (by omega) (by omega) (fun p hp => absurd hp (Nat.not_lt_zero _)) (fun _ _ => rfl) (hl_same (hB.2.2.2.2.2.2.2.2.2 j (by omega)) hh) hl
        · have hc2 : a = d := hc
          refine lv_iconst (v := nI 0) X.1 X.2.1 d_C_exchange_29 (by decide) ?_
          exact hm_zret X hr hlk hh (Or.inl rfl) (Or.inl ⟨Or.inr (Or.inr (Or.inr (by rw [hc2]))), rfl, rfl⟩) (Nat.le_of_ble_eq_true rfl) (Nat.le_of_ble_eq_true rfl) d_C_exchange_30
end

