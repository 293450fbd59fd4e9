/-! CycleGroups: move, state, apply, image, exchange, cycle. -/
section
/-- int move() -/
theorem c_C_move (l : Launch) (g : hl_G) (sz : Nat) (L : List Nat) (f : Nat → va_E) (T : Nat → Nat) (b : Nat → Nat) (n mm sm : Nat) (mv st : Nat → Nat → Nat) (made : Bool) (hI : cg_I g L f T b n mm sm mv st made) :
    Met l y_C_move (hq y_C_move b_C_move 1 (some .int)) { frames := 1, cells := 0, slots := 0, locals := 30 } (hm_P g [.ref (b 0)] sz L f) (va_Qi (fun r u => (mm < 10 ∧ r = nI mm ∧ cg_R g L f T b n (mm + 1) sm (va_up mv mm id) st made u) ∨ (mm = 10 ∧ r = -1 ∧ u = (L, f))) (hm_B g sz L) (hm_A sz L)) 0 0 (hm_A sz L) := by
  refine hm_ofW (by decide) (Nat.le_of_ble_eq_true rfl) ?_
  intro p e s m below meth c X hr hlk hnm hK hsz hh ls hl
  have hl : lv_has ls 1 [(0, .ref (b 0))] := hl
  obtain ⟨zp, zd, cv, fl, hB, hC, hW, hmd⟩ := id hI
  obtain ⟨hn0, hn, hmm, hsm, hmv, hst⟩ := id hW
  refine lv_aload_n X.1 X.2.1 d_C_move_0 rfl (lv_at hl 0 rfl) ?_
  refine hl_get X hK hh (ref := "CycleGroups") i_C (ci := 0) rfl 2 (by decide) w_49 rfl (hB.1 0 (by omega)).1 hB.2.1 rfl d_C_move_1 ?_
  refine lv_bipush (v := nI 10) X.1 X.2.1 d_C_move_4 (by decide) ?_
  refine hn_ilt (tgt := 11) X (by omega) (by omega) d_C_move_6 (by decide) (fun hc => ?_) (fun hc => ?_)
  · have hlt : mm < 10 := hc
    have tm := (hB.1 (10 + mm) (by omega)).2
    have nm0 : b 0 ≠ b (10 + mm) := hl_ne (T := T) (by rw [(hB.1 0 (by omega)).2, tm]; omega)
    refine lv_aload_n X.1 X.2.1 d_C_move_11 rfl (lv_at hl 0 rfl) ?_
    refine hl_get X hK hh (ref := "CycleGroups") i_C (ci := 0) rfl 1 (by decide) w_48 rfl (hB.1 0 (by omega)).1 hB.2.1 rfl d_C_move_12 ?_
    refine lv_aload_n X.1 X.2.1 d_C_move_15 rfl (lv_at hl 0 rfl) ?_
    refine hl_get X hK hh (ref := "CycleGroups") i_C (ci := 0) rfl 2 (by decide) w_49 rfl (hB.1 0 (by omega)).1 hB.2.1 rfl d_C_move_16 ?_
    refine hl_aaldG X hK hh (hB.1 1 (by omega)).1 hB.2.2.1 (by omega) (by omega) (if_pos hlt) d_C_move_19 ?_
    refine hl_callv hh (hl_runS (k := 1) X hK hh (c_C_leaveAll l g _ L f (b (10 + mm)) n (mv mm) (hB.1 (10 + mm) (by omega)).1 (hB.2.2.2.2.2.2.2.2.1 mm hlt) (by omega)) wc_C_leaveAll w_79 w_1 wi_C_leaveAll (by decide +kernel) rfl rfl ⟨Nat.le_of_ble_eq_true rfl, Nat.le_of_ble_eq_true rfl⟩ rfl rfl (Nat.le_of_ble_eq_true rfl) hl.1 d_C_move_20 ⟨Nat.le_of_ble_eq_true rfl, Nat.le_of_ble_eq_true rfl⟩) (fun u H locs hp hh => ?_)
    subst hp
    have hB1 := cg_mvr hB mm hlt id
    refine lv_aload_n X.1 X.2.1 d_C_move_23 rfl (lv_at hl 0 rfl) ?_
    refine lv_dup X.1 X.2.1 d_C_move_24 rfl ?_
    refine hl_get X hK hh (ref := "CycleGroups") i_C (ci := 0) rfl 2 (by decide) w_49 rfl (hB1.1 0 (by omega)).1 hB1.2.1 rfl d_C_move_25 ?_
    refine lv_iconst (v := nI 1) X.1 X.2.1 d_C_move_28 (by decide) ?_
    refine hn_add X d_C_move_29 ?_
    refine hl_put X hK hh (ref := "CycleGroups") i_C t_C t_C_ok n_C (ci := 0) rfl 2 (by decide) w_49 rfl rfl (hB1.1 0 (by omega)).1 hB1.2.1 (by first | rfl | decide) (by first | rfl | decide) (Nat.le_of_ble_eq_true rfl) d_C_move_30 (fun H locs hh => ?_)
    have hB2 := cg_obj hB1 (mm + 1) sm cv fl
    refine lv_aload_n X.1 X.2.1 d_C_move_33 rfl (lv_at hl 0 rfl) ?_
    refine hl_get X hK hh (ref := "CycleGroups") i_C (ci := 0) rfl 2 (by decide) w_49 rfl (hB2.1 0 (by omega)).1 hB2.2.1 rfl d_C_move_34 ?_
    refine lv_iconst (v := nI 1) X.1 X.2.1 d_C_move_37 (by decide) ?_
    refine hn_sub X (by omega) d_C_move_38 ?_
    have h0 := (hB.1 0 (by omega)).2
    refine hm_iret X hr hlk hh (Or.inl ⟨hlt, rfl, T, fun q h => ⟨h, rfl⟩, fun q hq ht => ?_, zp, zd, cv, fl, hB2, ?_, ⟨hn0, hn, by omega, hsm, fun i hi => ?_, hst⟩, hmd⟩) (Nat.le_of_ble_eq_true rfl) (Nat.le_of_ble_eq_true rfl) d_C_move_39
    · show va_up (va_up f (b (10 + mm)) _) (b 0) _ q = f q
      rw [va_up_ne _ _ (hl_ne (T := T) (by omega)), va_up_ne _ _ (hl_ne (T := T) (by omega))]
    · refine cg_C_congr hn hC (fun q hq => ?_) hC.1 (fun e0 => e0) (fun _ => mv_gen_id)
      have h1 : T q ≠ 0 := fun e0 => cn_own_of (by omega) hq
      have h2 : T q ≠ 10 + mm := fun e0 => cn_own_of (by omega) hq
      show va_up (va_up f (b (10 + mm)) _) (b 0) _ q = f q
      rw [va_up_ne _ _ (hl_ne (T := T) (by rw [h0]; exact h1)), va_up_ne _ _ (hl_ne (T := T) (by rw [tm]; exact h2))]
    · by_cases e0 : i = mm
      · rw [e0, va_up_self]; exact (gp_sym_sg _).1
      · rw [va_up_ne _ _ e0]; exact hmv i (by omega)
  · skip
    refine lv_iconst (v := -1) X.1 X.2.1 d_C_move_9 (by decide) ?_
    exact hm_iret X hr hlk hh (Or.inr ⟨by omega, rfl, rfl⟩) (Nat.le_of_ble_eq_true rfl) (Nat.le_of_ble_eq_true rfl) d_C_move_10

/-- int state() -/
theorem c_C_state (l : Launch) (g : hl_G) (sz : Nat) (L : List Nat) (f : Nat → va_E) (T : Nat → Nat) (b : Nat → Nat) (n mm sm : Nat) (mv st : Nat → Nat → Nat) (made : Bool) (hI : cg_I g L f T b n mm sm mv st made) :
    Met l y_C_state (hq y_C_state b_C_state 1 (some .int)) { frames := 1, cells := 0, slots := 0, locals := 30 } (hm_P g [.ref (b 0)] sz L f) (va_Qi (fun r u => (sm < 20 ∧ r = nI sm ∧ cg_R g L f T b n mm (sm + 1) mv (va_up st sm id) made u) ∨ (sm = 20 ∧ r = -1 ∧ u = (L, f))) (hm_B g sz L) (hm_A sz L)) 0 0 (hm_A sz L) := by
  refine hm_ofW (by decide) (Nat.le_of_ble_eq_true rfl) ?_
  intro p e s m below meth c X hr hlk hnm hK hsz hh ls hl
  have hl : lv_has ls 1 [(0, .ref (b 0))] := hl
  obtain ⟨zp, zd, cv, fl, hB, hC, hW, hmd⟩ := id hI
  obtain ⟨hn0, hn, hmm, hsm, hmv, hst⟩ := id hW
  refine lv_aload_n X.1 X.2.1 d_C_state_0 rfl (lv_at hl 0 rfl) ?_
  refine hl_get X hK hh (ref := "CycleGroups") i_C (ci := 0) rfl 4 (by decide) w_51 rfl (hB.1 0 (by omega)).1 hB.2.1 rfl d_C_state_1 ?_
  refine lv_bipush (v := nI 20) X.1 X.2.1 d_C_state_4 (by decide) ?_
  refine hn_ilt (tgt := 11) X (by omega) (by omega) d_C_state_6 (by decide) (fun hc => ?_) (fun hc => ?_)
  · have hlt : sm < 20 := hc
    have tm := (hB.1 (20 + sm) (by omega)).2
    refine lv_aload_n X.1 X.2.1 d_C_state_11 rfl (lv_at hl 0 rfl) ?_
    refine hl_get X hK hh (ref := "CycleGroups") i_C (ci := 0) rfl 3 (by decide) w_50 rfl (hB.1 0 (by omega)).1 hB.2.1 rfl d_C_state_12 ?_
    refine lv_aload_n X.1 X.2.1 d_C_state_15 rfl (lv_at hl 0 rfl) ?_
    refine hl_get X hK hh (ref := "CycleGroups") i_C (ci := 0) rfl 4 (by decide) w_51 rfl (hB.1 0 (by omega)).1 hB.2.1 rfl d_C_state_16 ?_
    refine hl_aaldG X hK hh (hB.1 2 (by omega)).1 hB.2.2.2.1 (by omega) (by omega) (if_pos hlt) d_C_state_19 ?_
    refine hl_callv hh (hl_runS (k := 1) X hK hh (c_C_leaveAll l g _ L f (b (20 + sm)) n (st sm) (hB.1 (20 + sm) (by omega)).1 (hB.2.2.2.2.2.2.2.2.2 sm hlt) (by omega)) wc_C_leaveAll w_79 w_1 wi_C_leaveAll (by decide +kernel) rfl rfl ⟨Nat.le_of_ble_eq_true rfl, Nat.le_of_ble_eq_true rfl⟩ rfl rfl (Nat.le_of_ble_eq_true rfl) hl.1 d_C_state_20 ⟨Nat.le_of_ble_eq_true rfl, Nat.le_of_ble_eq_true rfl⟩) (fun u H locs hp hh => ?_)
    subst hp
    have hB1 := cg_str hB sm hlt id
    refine lv_aload_n X.1 X.2.1 d_C_state_23 rfl (lv_at hl 0 rfl) ?_
    refine lv_dup X.1 X.2.1 d_C_state_24 rfl ?_
    refine hl_get X hK hh (ref := "CycleGroups") i_C (ci := 0) rfl 4 (by decide) w_51 rfl (hB1.1 0 (by omega)).1 hB1.2.1 rfl d_C_state_25 ?_
    refine lv_iconst (v := nI 1) X.1 X.2.1 d_C_state_28 (by decide) ?_
    refine hn_add X d_C_state_29 ?_
    refine hl_put X hK hh (ref := "CycleGroups") i_C t_C t_C_ok n_C (ci := 0) rfl 4 (by decide) w_51 rfl rfl (hB1.1 0 (by omega)).1 hB1.2.1 (by first | rfl | decide) (by first | rfl | decide) (Nat.le_of_ble_eq_true rfl) d_C_state_30 (fun H locs hh => ?_)
    have hB2 := cg_obj hB1 mm (sm + 1) cv fl
    refine lv_aload_n X.1 X.2.1 d_C_state_33 rfl (lv_at hl 0 rfl) ?_
    refine hl_get X hK hh (ref := "CycleGroups") i_C (ci := 0) rfl 4 (by decide) w_51 rfl (hB2.1 0 (by omega)).1 hB2.2.1 rfl d_C_state_34 ?_
    refine lv_iconst (v := nI 1) X.1 X.2.1 d_C_state_37 (by decide) ?_
    refine hn_sub X (by omega) d_C_state_38 ?_
    have h0 := (hB.1 0 (by omega)).2
    refine hm_iret X hr hlk hh (Or.inl ⟨hlt, rfl, T, fun q h => ⟨h, rfl⟩, fun q hq ht => ?_, zp, zd, cv, fl, hB2, ?_, ⟨hn0, hn, hmm, by omega, hmv, fun i hi => ?_⟩, hmd⟩) (Nat.le_of_ble_eq_true rfl) (Nat.le_of_ble_eq_true rfl) d_C_state_39
    · show va_up (va_up f (b (20 + sm)) _) (b 0) _ q = f q
      rw [va_up_ne _ _ (hl_ne (T := T) (by omega)), va_up_ne _ _ (hl_ne (T := T) (by omega))]
    · refine cg_C_congr hn hC (fun q hq => ?_) hC.1 (fun e0 => e0) (fun _ _ => Iff.rfl)
      have h1 : T q ≠ 0 := fun e0 => cn_own_of (by omega) hq
      have h2 : T q ≠ 20 + sm := fun e0 => cn_own_of (by omega) hq
      show va_up (va_up f (b (20 + sm)) _) (b 0) _ q = f q
      rw [va_up_ne _ _ (hl_ne (T := T) (by rw [h0]; exact h1)), va_up_ne _ _ (hl_ne (T := T) (by rw [tm]; exact h2))]
    · by_cases e0 : i = sm
      · rw [e0, va_up_self]; exact (gp_sym_sg _).1
      · rw [va_up_ne _ _ e0]; exact hst i (by omega)
  · skip
    refine lv_iconst (v := -1) X.1 X.2.1 d_C_state_9 (by decide) ?_
    exact hm_iret X hr hlk hh (Or.inr ⟨by omega, rfl, rfl⟩) (Nat.le_of_ble_eq_true rfl) (Nat.le_of_ble_eq_true rfl) d_C_state_10
end

