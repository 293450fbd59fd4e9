/-! The class's calls that may make the chain: what they take. -/
section
theorem c_C_spread_bad (l : Launch) (g : hl_G) (sz : Nat) (L : List Nat) (f : Nat → va_E) (T : Nat → Nat) (b : Nat → Nat) (n mm sm : Nat) (mv st : Nat → Nat → Nat) (made : Bool) (hI : cg_I g L f T b n mm sm mv st made) (q1 : Int32) (post : Int32 → List Nat × (Nat → va_E) → Prop) (h1 : ip q1 n = false) (hpo : post (-1) (L, f)) :
    Met l y_C_spread (hq y_C_spread b_C_spread 2 (some .int)) { frames := 6, cells := 0, slots := 0, locals := 230 } (hm_P g [.ref (b 0), .int q1] sz L f) (va_Qi (post) (hm_B g sz L) (hm_A sz L)) 0 0 (hm_A sz L) := by
  refine hm_ofW (by decide) (Nat.le_of_ble_eq_true rfl) ?_
  intro p e s m below meth c X hr hlk hnm hK hsz hh ls hl
  have hl : lv_has ls 2 [(0, .ref (b 0)), (1, .int q1)] := hl
  obtain ⟨zp, zd, cv, fl, hB, hC, hW, hmd⟩ := id hI
  obtain ⟨hn0, hn, hmm, hsm, hmv, hst⟩ := id hW
  refine lv_aload_n X.1 X.2.1 d_C_spread_0 rfl (lv_at hl 0 rfl) ?_
  refine lv_iload_n X.1 X.2.1 d_C_spread_1 rfl (lv_at hl 1 rfl) ?_
  refine hl_calli hh (hl_runV (k := 1) X hK hh (c_C_isPlace l g _ L f (b 0) n .null _ _ _ _ _ _ _ _ q1 (hB.1 0 (by omega)).1 hB.2.1 (by omega)) wc_C_isPlace w_90 w_1 wi_C_isPlace ws_C_isPlace (by decide +kernel) rfl rfl ⟨Nat.le_of_ble_eq_true rfl, Nat.le_of_ble_eq_true rfl⟩ (hB.1 0 (by omega)).1 hB.2.1 rfl rfl rfl rfl (Nat.le_of_ble_eq_true rfl) hl.1 d_C_spread_2 ⟨Nat.le_of_ble_eq_true rfl, Nat.le_of_ble_eq_true rfl⟩) (fun r u H locs hp hh => ?_)
  obtain ⟨hr1, rfl⟩ := hp
  rw [h1] at hr1
  subst hr1
  refine lv_if_eq (tgt := 19) X.1 X.2.1 d_C_spread_5 (by decide) (fun _ => ?_) (fun hc => absurd (by decide) hc)
  refine lv_iconst (v := -1) X.1 X.2.1 d_C_spread_19 (by decide) ?_
  exact hm_iret X hr hlk hh hpo (Nat.le_of_ble_eq_true rfl) (Nat.le_of_ble_eq_true rfl) d_C_spread_20
theorem c_C_stabiliser_bad (l : Launch) (g : hl_G) (sz : Nat) (L : List Nat) (f : Nat → va_E) (T : Nat → Nat) (b : Nat → Nat) (n mm sm : Nat) (mv st : Nat → Nat → Nat) (made : Bool) (hI : cg_I g L f T b n mm sm mv st made) (q1 q2 : Int32) (post : Int32 → List Nat × (Nat → va_E) → Prop) (h1 : ip q1 n = false) (hpo : post (-1) (L, f)) :
    Met l y_C_stabiliser (hq y_C_stabiliser b_C_stabiliser 3 (some .int)) { frames := 6, cells := 0, slots := 0, locals := 230 } (hm_P g [.ref (b 0), .int q1, .int q2] sz L f) (va_Qi (post) (hm_B g sz L) (hm_A sz L)) 0 0 (hm_A sz L) := by
  refine hm_ofW (by decide) (Nat.le_of_ble_eq_true rfl) ?_
  intro p e s m below meth c X hr hlk hnm hK hsz hh ls hl
  have hl : lv_has ls 3 [(0, .ref (b 0)), (1, .int q1), (2, .int q2)] := hl
  obtain ⟨zp, zd, cv, fl, hB, hC, hW, hmd⟩ := id hI
  obtain ⟨hn0, hn, hmm, hsm, hmv, hst⟩ := id hW
  refine lv_aload_n X.1 X.2.1 d_C_stabiliser_0 rfl (lv_at hl 0 rfl) ?_
  refine lv_iload_n X.1 X.2.1 d_C_stabiliser_1 rfl (lv_at hl 1 rfl) ?_
  refine hl_calli hh (hl_runV (k := 1) X hK hh (c_C_isPlace l g _ L f (b 0) n .null _ _ _ _ _ _ _ _ q1 (hB.1 0 (by omega)).1 hB.2.1 (by omega)) wc_C_isPlace w_90 w_1 wi_C_isPlace ws_C_isPlace (by decide +kernel) rfl rfl ⟨Nat.le_of_ble_eq_true rfl, Nat.le_of_ble_eq_true rfl⟩ (hB.1 0 (by omega)).1 hB.2.1 rfl rfl rfl rfl (Nat.le_of_ble_eq_true rfl) hl.1 d_C_stabiliser_2 ⟨Nat.le_of_ble_eq_true rfl, Nat.le_of_ble_eq_true rfl⟩) (fun r u H locs hp hh => ?_)
  obtain ⟨hr1, rfl⟩ := hp
  rw [h1] at hr1
  subst hr1
  refine lv_if_ne (tgt := 10) X.1 X.2.1 d_C_stabiliser_5 (by decide) (fun hc => absurd (by decide) hc) (fun _ => ?_)
  refine lv_iconst (v := -1) X.1 X.2.1 d_C_stabiliser_8 (by decide) ?_
  exact hm_iret X hr hlk hh hpo (Nat.le_of_ble_eq_true rfl) (Nat.le_of_ble_eq_true rfl) d_C_stabiliser_9
theorem c_C_level_bad (l : Launch) (g : hl_G) (sz : Nat) (L : List Nat) (f : Nat → va_E) (T : Nat → Nat) (b : Nat → Nat) (n mm sm : Nat) (mv st : Nat → Nat → Nat) (made : Bool) (hI : cg_I g L f T b n mm sm mv st made) (q1 : Int32) (post : Int32 → List Nat × (Nat → va_E) → Prop) (h1 : ip q1 sm = false) (hpo : post (-1) (L, f)) :
    Met l y_C_level (hq y_C_level b_C_level 2 (some .int)) { frames := 6, cells := 0, slots := 0, locals := 230 } (hm_P g [.ref (b 0), .int q1] sz L f) (va_Qi (post) (hm_B g sz L) (hm_A sz L)) 0 0 (hm_A sz L) := by
  refine hm_ofW (by decide) (Nat.le_of_ble_eq_true rfl) ?_
  intro p e s m below meth c X hr hlk hnm hK hsz hh ls hl
  have hl : lv_has ls 2 [(0, .ref (b 0)), (1, .int q1)] := hl
  obtain ⟨zp, zd, cv, fl, hB, hC, hW, hmd⟩ := id hI
  obtain ⟨hn0, hn, hmm, hsm, hmv, hst⟩ := id hW
  refine lv_aload_n X.1 X.2.1 d_C_level_0 rfl (lv_at hl 0 rfl) ?_
  refine lv_iload_n X.1 X.2.1 d_C_level_1 rfl (lv_at hl 1 rfl) ?_
  refine hl_calli hh (hl_runV (k := 1) X hK hh (c_C_isState l g _ L f (b 0) sm _ _ _ _ .null _ _ _ _ q1 (hB.1 0 (by omega)).1 hB.2.1 (by omega)) wc_C_isState w_298 w_1 wi_C_isState ws_C_isState (by decide +kernel) rfl rfl ⟨Nat.le_of_ble_eq_true rfl, Nat.le_of_ble_eq_true rfl⟩ (hB.1 0 (by omega)).1 hB.2.1 rfl rfl rfl rfl (Nat.le_of_ble_eq_true rfl) hl.1 d_C_level_2 ⟨Nat.le_of_ble_eq_true rfl, Nat.le_of_ble_eq_true rfl⟩) (fun r u H locs hp hh => ?_)
  obtain ⟨hr1, rfl⟩ := hp
  rw [h1] at hr1
  subst hr1
  refine lv_if_eq (tgt := 24) X.1 X.2.1 d_C_level_5 (by decide) (fun _ => ?_) (fun hc => absurd (by decide) hc)
  refine lv_iconst (v := -1) X.1 X.2.1 d_C_level_24 (by decide) ?_
  exact hm_iret X hr hlk hh hpo (Nat.le_of_ble_eq_true rfl) (Nat.le_of_ble_eq_true rfl) d_C_level_25
theorem c_C_member_bad (l : Launch) (g : hl_G) (sz : Nat) (L : List Nat) (f : Nat → va_E) (T : Nat → Nat) (b : Nat → Nat) (n mm sm : Nat) (mv st : Nat → Nat → Nat) (made : Bool) (hI : cg_I g L f T b n mm sm mv st made) (q1 : Int32) (post : Int32 → List Nat × (Nat → va_E) → Prop) (h1 : ip q1 sm = false) (hpo : post (-1) (L, f)) :
    Met l y_C_member (hq y_C_member b_C_member 2 (some .int)) { frames := 6, cells := 0, slots := 0, locals := 230 } (hm_P g [.ref (b 0), .int q1] sz L f) (va_Qi (post) (hm_B g sz L) (hm_A sz L)) 0 0 (hm_A sz L) := by
  refine hm_ofW (by decide) (Nat.le_of_ble_eq_true rfl) ?_
  intro p e s m below meth c X hr hlk hnm hK hsz hh ls hl
  have hl : lv_has ls 2 [(0, .ref (b 0)), (1, .int q1)] := hl
  obtain ⟨zp, zd, cv, fl, hB, hC, hW, hmd⟩ := id hI
  obtain ⟨hn0, hn, hmm, hsm, hmv, hst⟩ := id hW
  refine lv_aload_n X.1 X.2.1 d_C_member_0 rfl (lv_at hl 0 rfl) ?_
  refine lv_iload_n X.1 X.2.1 d_C_member_1 rfl (lv_at hl 1 rfl) ?_
  refine hl_calli hh (hl_runV (k := 1) X hK hh (c_C_isState l g _ L f (b 0) sm _ _ _ _ .null _ _ _ _ q1 (hB.1 0 (by omega)).1 hB.2.1 (by omega)) wc_C_isState w_298 w_1 wi_C_isState ws_C_isState (by decide +kernel) rfl rfl ⟨Nat.le_of_ble_eq_true rfl, Nat.le_of_ble_eq_true rfl⟩ (hB.1 0 (by omega)).1 hB.2.1 rfl rfl rfl rfl (Nat.le_of_ble_eq_true rfl) hl.1 d_C_member_2 ⟨Nat.le_of_ble_eq_true rfl, Nat.le_of_ble_eq_true rfl⟩) (fun r u H locs hp hh => ?_)
  obtain ⟨hr1, rfl⟩ := hp
  rw [h1] at hr1
  subst hr1
  refine lv_if_ne (tgt := 10) X.1 X.2.1 d_C_member_5 (by decide) (fun hc => absurd (by decide) hc) (fun _ => ?_)
  refine lv_iconst (v := -1) X.1 X.2.1 d_C_member_8 (by decide) ?_
  exact hm_iret X hr hlk hh hpo (Nat.le_of_ble_eq_true rfl) (Nat.le_of_ble_eq_true rfl) d_C_member_9

theorem kC_spread (l : Launch) (g : hl_G) (sz : Nat) (L : List Nat) (f : Nat → va_E) (T : Nat → Nat) (b : Nat → Nat) (n mm sm : Nat) (mv st : Nat → Nat → Nat) (made : Bool) (hI : cg_I g L f T b n mm sm mv st made) (q1 : Int32) : ∃ (mc ms : Nat) (made2 : Bool), lw_bud made mc ms made2 ∧ Met l y_C_spread (hq y_C_spread b_C_spread 2 (some .int)) { frames := 6, cells := mc, slots := ms, locals := 230 } (hm_P g [.ref (b 0), .int q1] sz L f) (va_Qi (fun r u => ls_1 n q1 (-1) (fun j r => ls_S (gp_gen (mv_T mv mm)) n (fun S => nI (S j)) r) r ∧ cg_R g L f T b n mm sm mv st made2 u) (hm_B g sz L) (hm_A sz L)) mc ms (hm_A sz L) := by
  have hn : n < 2 ^ 31 := by obtain ⟨_, _, _, _, _, _, hW, _⟩ := id hI; have := hW.2.1; omega
  cases made with
  | true =>
    refine ⟨0, 0, true, Or.inl ⟨rfl, rfl, rfl⟩, c_C_spread l g sz L f T b n mm sm mv st true hI 0 0 (fun h => absurd h (by decide)) q1 _ (fun r u h => ?_)⟩
    rcases h with ⟨h1, h2, rfl⟩ | ⟨j, S, h1, h2, h3, h4, h5⟩
    · exact ⟨Or.inl ⟨h1, h2⟩, cg_R_same hI⟩
    · exact ⟨Or.inr ⟨j, h1, h2, S, h3, h4⟩, h5⟩
  | false =>
    rcases ip_cases q1 hn with h0 | ⟨j0, hj0, e0⟩
    · exact ⟨0, 0, false, Or.inl ⟨rfl, rfl, rfl⟩, c_C_spread_bad l g sz L f T b n mm sm mv st false hI q1 _ h0 ⟨Or.inl ⟨h0, rfl⟩, cg_R_same hI⟩⟩
    · refine ⟨1601, 40003, true, Or.inr ⟨rfl, rfl, rfl, rfl⟩, c_C_spread l g sz L f T b n mm sm mv st false hI 1601 40003 (fun _ => ⟨rfl, rfl⟩) q1 _ (fun r u h => ?_)⟩
      rcases h with ⟨h1, h2, rfl⟩ | ⟨j, S, h1, h2, h3, h4, h5⟩
      · exact absurd (ip_no hn h1 hj0 e0) id
      · exact ⟨Or.inr ⟨j, h1, h2, S, h3, h4⟩, h5⟩
theorem kC_stabiliser (l : Launch) (g : hl_G) (sz : Nat) (L : List Nat) (f : Nat → va_E) (T : Nat → Nat) (b : Nat → Nat) (n mm sm : Nat) (mv st : Nat → Nat → Nat) (made : Bool) (hI : cg_I g L f T b n mm sm mv st made) (q1 q2 : Int32) : ∃ (mc ms : Nat) (made2 : Bool), lw_bud made mc ms made2 ∧ Met l y_C_stabiliser (hq y_C_stabiliser b_C_stabiliser 3 (some .int)) { frames := 6, cells := mc, slots := ms, locals := 230 } (hm_P g [.ref (b 0), .int q1, .int q2] sz L f) (va_Qi (fun r u => ls_1 n q1 (-1) (fun j r => ls_S (gp_gen (mv_T mv mm)) n (fun S => dg_at (dgt (ch_pr S 0 n / pt_size (pt_orb mv n id mm) j n)) 24 q2) r) r ∧ cg_R g L f T b n mm sm mv st made2 u) (hm_B g sz L) (hm_A sz L)) mc ms (hm_A sz L) := by
  have hn : n < 2 ^ 31 := by obtain ⟨_, _, _, _, _, _, hW, _⟩ := id hI; have := hW.2.1; omega
  cases made with
  | true =>
    refine ⟨0, 0, true, Or.inl ⟨rfl, rfl, rfl⟩, c_C_stabiliser l g sz L f T b n mm sm mv st true hI 0 0 (fun h => absurd h (by decide)) q1 q2 _ (fun r u h => ?_)⟩
    rcases h with ⟨h1, h2, rfl⟩ | ⟨j, S, h1, h2, h3, h4, h5⟩
    · exact ⟨Or.inl ⟨h1, h2⟩, cg_R_same hI⟩
    · exact ⟨Or.inr ⟨j, h1, h2, S, h3, h4⟩, h5⟩
  | false =>
    rcases ip_cases q1 hn with h0 | ⟨j0, hj0, e0⟩
    · exact ⟨0, 0, false, Or.inl ⟨rfl, rfl, rfl⟩, c_C_stabiliser_bad l g sz L f T b n mm sm mv st false hI q1 q2 _ h0 ⟨Or.inl ⟨h0, rfl⟩, cg_R_same hI⟩⟩
    · refine ⟨1601, 40003, true, Or.inr ⟨rfl, rfl, rfl, rfl⟩, c_C_stabiliser l g sz L f T b n mm sm mv st false hI 1601 40003 (fun _ => ⟨rfl, rfl⟩) q1 q2 _ (fun r u h => ?_)⟩
      rcases h with ⟨h1, h2, rfl⟩ | ⟨j, S, h1, h2, h3, h4, h5⟩
      · exact absurd (ip_no hn h1 hj0 e0) id
      · exact ⟨Or.inr ⟨j, h1, h2, S, h3, h4⟩, h5⟩
theorem kC_level (l : Launch) (g : hl_G) (sz : Nat) (L : List Nat) (f : Nat → va_E) (T : Nat → Nat) (b : Nat → Nat) (n mm sm : Nat) (mv st : Nat → Nat → Nat) (made : Bool) (hI : cg_I g L f T b n mm sm mv st made) (q1 : Int32) : ∃ (mc ms : Nat) (made2 : Bool), lw_bud made mc ms made2 ∧ Met l y_C_level (hq y_C_level b_C_level 2 (some .int)) { frames := 6, cells := mc, slots := ms, locals := 230 } (hm_P g [.ref (b 0), .int q1] sz L f) (va_Qi (fun r u => ls_1 sm q1 (-1) (fun j r => ∃ k, ch_lv (gp_gen (mv_T mv mm)) n (st j) k ∧ r = nI k) r ∧ cg_R g L f T b n mm sm mv st made2 u) (hm_B g sz L) (hm_A sz L)) mc ms (hm_A sz L) := by
  have hn : sm < 2 ^ 31 := by obtain ⟨_, _, _, _, _, _, hW, _⟩ := id hI; have := hW.2.2.2.1; omega
  cases made with
  | true =>
    refine ⟨0, 0, true, Or.inl ⟨rfl, rfl, rfl⟩, c_C_level l g sz L f T b n mm sm mv st true hI 0 0 (fun h => absurd h (by decide)) q1 _ (fun r u h => ?_)⟩
    rcases h with ⟨h1, h2, rfl⟩ | ⟨j, k, h1, h2, h3, h4, h5⟩
    · exact ⟨Or.inl ⟨h1, h2⟩, cg_R_same hI⟩
    · exact ⟨Or.inr ⟨j, h1, h2, k, h3, h4⟩, h5⟩
  | false =>
    rcases ip_cases q1 hn with h0 | ⟨j0, hj0, e0⟩
    · exact ⟨0, 0, false, Or.inl ⟨rfl, rfl, rfl⟩, c_C_level_bad l g sz L f T b n mm sm mv st false hI q1 _ h0 ⟨Or.inl ⟨h0, rfl⟩, cg_R_same hI⟩⟩
    · refine ⟨1601, 40003, true, Or.inr ⟨rfl, rfl, rfl, rfl⟩, c_C_level l g sz L f T b n mm sm mv st false hI 1601 40003 (fun _ => ⟨rfl, rfl⟩) q1 _ (fun r u h => ?_)⟩
      rcases h with ⟨h1, h2, rfl⟩ | ⟨j, k, h1, h2, h3, h4, h5⟩
      · exact absurd (ip_no hn h1 hj0 e0) id
      · exact ⟨Or.inr ⟨j, h1, h2, k, h3, h4⟩, h5⟩
theorem kC_member (l : Launch) (g : hl_G) (sz : Nat) (L : List Nat) (f : Nat → va_E) (T : Nat → Nat) (b : Nat → Nat) (n mm sm : Nat) (mv st : Nat → Nat → Nat) (made : Bool) (hI : cg_I g L f T b n mm sm mv st made) (q1 : Int32) : ∃ (mc ms : Nat) (made2 : Bool), lw_bud made mc ms made2 ∧ Met l y_C_member (hq y_C_member b_C_member 2 (some .int)) { frames := 6, cells := mc, slots := ms, locals := 230 } (hm_P g [.ref (b 0), .int q1] sz L f) (va_Qi (fun r u => ls_1 sm q1 (-1) (fun j r => ∃ k, ch_lv (gp_gen (mv_T mv mm)) n (st j) k ∧ r = (if k = n then nI 1 else nI 0)) r ∧ cg_R g L f T b n mm sm mv st made2 u) (hm_B g sz L) (hm_A sz L)) mc ms (hm_A sz L) := by
  have hn : sm < 2 ^ 31 := by obtain ⟨_, _, _, _, _, _, hW, _⟩ := id hI; have := hW.2.2.2.1; omega
  cases made with
  | true =>
    refine ⟨0, 0, true, Or.inl ⟨rfl, rfl, rfl⟩, c_C_member l g sz L f T b n mm sm mv st true hI 0 0 (fun h => absurd h (by decide)) q1 _ (fun r u h => ?_)⟩
    rcases h with ⟨h1, h2, rfl⟩ | ⟨j, k, h1, h2, h3, h4, h5⟩
    · exact ⟨Or.inl ⟨h1, h2⟩, cg_R_same hI⟩
    · exact ⟨Or.inr ⟨j, h1, h2, k, h3, h4⟩, h5⟩
  | false =>
    rcases ip_cases q1 hn with h0 | ⟨j0, hj0, e0⟩
    · exact ⟨0, 0, false, Or.inl ⟨rfl, rfl, rfl⟩, c_C_member_bad l g sz L f T b n mm sm mv st false hI q1 _ h0 ⟨Or.inl ⟨h0, rfl⟩, cg_R_same hI⟩⟩
    · refine ⟨1601, 40003, true, Or.inr ⟨rfl, rfl, rfl, rfl⟩, c_C_member l g sz L f T b n mm sm mv st false hI 1601 40003 (fun _ => ⟨rfl, rfl⟩) q1 _ (fun r u h => ?_)⟩
      rcases h with ⟨h1, h2, rfl⟩ | ⟨j, k, h1, h2, h3, h4, h5⟩
      · exact absurd (ip_no hn h1 hj0 e0) id
      · exact ⟨Or.inr ⟨j, h1, h2, k, h3, h4⟩, h5⟩
theorem kC_run (l : Launch) (g : hl_G) (sz : Nat) (L : List Nat) (f : Nat → va_E) (T : Nat → Nat) (b : Nat → Nat) (n mm sm : Nat) (mv st : Nat → Nat → Nat) (made : Bool) (hI : cg_I g L f T b n mm sm mv st made) : ∃ (mc ms : Nat) (made2 : Bool), lw_bud made mc ms made2 ∧ Met l y_C_run (hq y_C_run b_C_run 4 (some .int)) { frames := 6, cells := mc, slots := ms, locals := 230 } (hm_P g [.ref (b 0)] sz L f) (va_Qi (fun r u => ls_S (gp_gen (mv_T mv mm)) n (fun S => nI (rn S n)) r ∧ cg_R g L f T b n mm sm mv st made2 u) (hm_B g sz L) (hm_A sz L)) mc ms (hm_A sz L) := by
  cases made with
  | true => exact ⟨0, 0, true, Or.inl ⟨rfl, rfl, rfl⟩, c_C_run l g sz L f T b n mm sm mv st true hI 0 0 (fun h => absurd h (by decide)) _ (fun r u ⟨S, h1, h2, h3⟩ => ⟨⟨S, h1, h2⟩, h3⟩)⟩
  | false => exact ⟨1601, 40003, true, Or.inr ⟨rfl, rfl, rfl, rfl⟩, c_C_run l g sz L f T b n mm sm mv st false hI 1601 40003 (fun _ => ⟨rfl, rfl⟩) _ (fun r u ⟨S, h1, h2, h3⟩ => ⟨⟨S, h1, h2⟩, h3⟩)⟩
theorem kC_base (l : Launch) (g : hl_G) (sz : Nat) (L : List Nat) (f : Nat → va_E) (T : Nat → Nat) (b : Nat → Nat) (n mm sm : Nat) (mv st : Nat → Nat → Nat) (made : Bool) (hI : cg_I g L f T b n mm sm mv st made) (q1 : Int32) : ∃ (mc ms : Nat) (made2 : Bool), lw_bud made mc ms made2 ∧ Met l y_C_base (hq y_C_base b_C_base 5 (some .int)) { frames := 6, cells := mc, slots := ms, locals := 230 } (hm_P g [.ref (b 0), .int q1] sz L f) (va_Qi (fun r u => ls_S (gp_gen (mv_T mv mm)) n (fun S => ba S q1 n 0 0) r ∧ cg_R g L f T b n mm sm mv st made2 u) (hm_B g sz L) (hm_A sz L)) mc ms (hm_A sz L) := by
  cases made with
  | true => exact ⟨0, 0, true, Or.inl ⟨rfl, rfl, rfl⟩, c_C_base l g sz L f T b n mm sm mv st true hI 0 0 (fun h => absurd h (by decide)) q1 _ (fun r u ⟨S, h1, h2, h3⟩ => ⟨⟨S, h1, h2⟩, h3⟩)⟩
  | false => exact ⟨1601, 40003, true, Or.inr ⟨rfl, rfl, rfl, rfl⟩, c_C_base l g sz L f T b n mm sm mv st false hI 1601 40003 (fun _ => ⟨rfl, rfl⟩) q1 _ (fun r u ⟨S, h1, h2, h3⟩ => ⟨⟨S, h1, h2⟩, h3⟩)⟩
theorem kC_order (l : Launch) (g : hl_G) (sz : Nat) (L : List Nat) (f : Nat → va_E) (T : Nat → Nat) (b : Nat → Nat) (n mm sm : Nat) (mv st : Nat → Nat → Nat) (made : Bool) (hI : cg_I g L f T b n mm sm mv st made) (q1 : Int32) : ∃ (mc ms : Nat) (made2 : Bool), lw_bud made mc ms made2 ∧ Met l y_C_order (hq y_C_order b_C_order 2 (some .int)) { frames := 6, cells := mc, slots := ms, locals := 230 } (hm_P g [.ref (b 0), .int q1] sz L f) (va_Qi (fun r u => ls_S (gp_gen (mv_T mv mm)) n (fun S => dg_at (dgt (ch_pr S 0 n)) 24 q1) r ∧ cg_R g L f T b n mm sm mv st made2 u) (hm_B g sz L) (hm_A sz L)) mc ms (hm_A sz L) := by
  cases made with
  | true => exact ⟨0, 0, true, Or.inl ⟨rfl, rfl, rfl⟩, c_C_order l g sz L f T b n mm sm mv st true hI 0 0 (fun h => absurd h (by decide)) q1 _ (fun r u ⟨S, h1, h2, h3⟩ => ⟨⟨S, h1, h2⟩, h3⟩)⟩
  | false => exact ⟨1601, 40003, true, Or.inr ⟨rfl, rfl, rfl, rfl⟩, c_C_order l g sz L f T b n mm sm mv st false hI 1601 40003 (fun _ => ⟨rfl, rfl⟩) q1 _ (fun r u ⟨S, h1, h2, h3⟩ => ⟨⟨S, h1, h2⟩, h3⟩)⟩
end

