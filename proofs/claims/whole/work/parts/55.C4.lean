/-! CycleGroups: cycle, parity. -/
section
theorem cy_eq {σ : Nat → Nat} {a c : Nat} (hc : σ c = c) (hac : a ≠ c) : va_up (va_up σ c (σ a)) a c = σ ∘ gp_sw a c := by
  funext p
  show va_up (va_up σ c (σ a)) a c p = σ (gp_sw a c p)
  by_cases e1 : p = a
  · rw [e1, va_up_self, gp_sw_a, hc]
  · by_cases e2 : p = c
    · rw [e2, va_up_ne _ _ (Ne.symm hac), va_up_self, gp_sw_b]
    · rw [va_up_ne _ _ e1, va_up_ne _ _ e2, gp_sw_n e1 e2]

/-- a move's row changed: no chain is of use then -/
theorem cg_R_mv {g : hl_G} {L : List Nat} {f : Nat → va_E} {T : Nat → Nat} {b : Nat → Nat} {n mm sm : Nat} {mv st : Nat → Nat → Nat} {zp zd : Nat → Nat} {cv : Value} {fl : Int32} {made : Bool} (hB : cg_B g L f T b n mm sm mv st zp zd cv fl) (hC : cg_C g L f T n mm mv cv fl) (hW : cg_W n mm sm mv st) (hmd : made = true → cv ≠ .null) {j : Nat} (hj : j < mm) {x : Nat → Nat} (hx : gp_sym (ch_D n 0) x) {f1 : Nat → va_E}
    (hf1 : f1 = va_up (va_up f (b (10 + j)) (hl_nat g n x)) (b 0) (.inr (0, [.int (nI n), .ref (b 1), .int (nI mm), .ref (b 2), .int (nI sm), .ref (b 3), .ref (b 5), cv, .int (nI 1)]))) :
    cg_R g L f T b n mm sm (va_up mv j x) st made (L, f1) := by
  subst hf1
  obtain ⟨hn0, hn, hmm, hsm, hmv, hst⟩ := hW
  have tm := (hB.1 (10 + j) (by omega)).2
  have t0 := (hB.1 0 (by omega)).2
  refine ⟨T, fun q h => ⟨h, rfl⟩, fun q hq ht => ?_, zp, zd, cv, nI 1, cg_obj (cg_mvr hB j (by omega) x) mm sm cv (nI 1), ?_, ⟨hn0, hn, hmm, hsm, fun i hi => ?_, hst⟩, hmd⟩
  · show va_up (va_up f (b (10 + j)) _) (b 0) _ q = f q
    rw [va_up_ne _ _ (hl_ne (T := T) (by omega)), va_up_ne _ _ (hl_ne (T := T) (by omega))]
  · refine cg_C_congr hn hC (fun q hq => ?_) (Or.inr rfl) (fun e0 => absurd e0 (by decide)) (fun e0 => absurd e0 (by decide))
    have h1 : T q ≠ 0 := fun e0 => cn_own_of (by omega) hq
    have h2 : T q ≠ 10 + j := fun e0 => cn_own_of (by omega) hq
    show va_up (va_up f (b (10 + j)) _) (b 0) _ q = f q
    rw [va_up_ne _ _ (hl_ne (T := T) (by rw [t0]; exact h1)), va_up_ne _ _ (hl_ne (T := T) (by rw [tm]; exact h2))]
  · by_cases e0 : i = j
    · rw [e0, va_up_self]; exact hx
    · rw [va_up_ne _ _ e0]; exact hmv i hi

/-- boolean cycle(int move, int from, int to) -/
theorem c_C_cycle (l : Launch) (g : hl_G) (sz : Nat) (L : List Nat) (f : Nat → va_E) (T : Nat → Nat) (b : Nat → Nat) (n mm sm : Nat) (mv st : Nat → Nat → Nat) (made : Bool) (hI : cg_I g L f T b n mm sm mv st made) (q1 q2 q3 : Int32) :
    Met l y_C_cycle (hq y_C_cycle b_C_cycle 5 (some .boolean)) { frames := 1, cells := 0, slots := 0, locals := 30 } (hm_P g [.ref (b 0), .int q1, .int q2, .int q3] sz L f) (va_Qi (fun r u => ((ip q1 mm = false ∨ ip q2 n = false ∨ ip q3 n = false ∨ q2 = q3 ∨ (∃ j c, j < mm ∧ c < n ∧ q1 = nI j ∧ q3 = nI c ∧ mv j c ≠ c)) ∧ r = nI 0 ∧ u = (L, f)) ∨ (∃ j a c, j < mm ∧ a < n ∧ c < n ∧ a ≠ c ∧ mv j c = c ∧ q1 = nI j ∧ q2 = nI a ∧ q3 = nI c ∧ r = nI 1 ∧ cg_R g L f T b n mm sm (va_up mv j (mv j ∘ gp_sw a c)) st made u)) (hm_B g sz L) (hm_A sz L)) 0 0 (hm_A sz L) := by
  refine hm_ofW (by decide) (Nat.le_of_ble_eq_true rfl) ?_
  intro p e s m below meth c X hr hlk hnm hK hsz hh ls hl
  have hl : lv_has ls 5 [(0, .ref (b 0)), (1, .int q1), (2, .int q2), (3, .int q3)] := hl
  obtain ⟨zp, zd, cv, fl, hB, hC, hW, hmd⟩ := id hI
  obtain ⟨hn0, hn, hmm, hsm, hmv, hst⟩ := id hW
  rcases ip_cases q1 (n := mm) (by omega) with h1 | ⟨j, hj, rfl⟩
  · skip
    refine lv_aload_n X.1 X.2.1 d_C_cycle_0 rfl (lv_at hl 0 rfl) ?_
    refine lv_iload_n X.1 X.2.1 d_C_cycle_1 rfl (lv_at hl 1 rfl) ?_
    refine hl_calli hh (hl_runV (k := 1) X hK hh (c_C_isMove l g _ L f (b 0) mm _ _ .null _ _ _ _ _ _ q1 (hB.1 0 (by omega)).1 hB.2.1 (by omega)) wc_C_isMove w_86 w_1 wi_C_isMove ws_C_isMove (by decide +kernel) rfl rfl ⟨Nat.le_of_ble_eq_true rfl, Nat.le_of_ble_eq_true rfl⟩ (hB.1 0 (by omega)).1 hB.2.1 rfl rfl rfl rfl (Nat.le_of_ble_eq_true rfl) hl.1 d_C_cycle_2 ⟨Nat.le_of_ble_eq_true rfl, Nat.le_of_ble_eq_true rfl⟩) (fun r u H locs hp hh => ?_)
    obtain ⟨hr1, rfl⟩ := hp
    rw [h1] at hr1
    subst hr1
    refine lv_if_eq (tgt := 29) X.1 X.2.1 d_C_cycle_5 (by decide) (fun _ => ?_) (fun hc => absurd (by decide) hc)
    refine lv_iconst (v := nI 0) X.1 X.2.1 d_C_cycle_29 (by decide) ?_
    exact hm_zret X hr hlk hh (Or.inl rfl) (Or.inl ⟨Or.inl h1, rfl, rfl⟩) (Nat.le_of_ble_eq_true rfl) (Nat.le_of_ble_eq_true rfl) d_C_cycle_30
  · have h1 := ip_in (by omega : mm < 2 ^ 31) hj
    rcases ip_cases q2 (n := n) (by omega) with h2 | ⟨a, ha, rfl⟩
    · skip
      refine lv_aload_n X.1 X.2.1 d_C_cycle_0 rfl (lv_at hl 0 rfl) ?_
      refine lv_iload_n X.1 X.2.1 d_C_cycle_1 rfl (lv_at hl 1 rfl) ?_
      refine hl_calli hh (hl_runV (k := 1) X hK hh (c_C_isMove l g _ L f (b 0) mm _ _ .null _ _ _ _ _ _ (nI j) (hB.1 0 (by omega)).1 hB.2.1 (by omega)) wc_C_isMove w_86 w_1 wi_C_isMove ws_C_isMove (by decide +kernel) rfl rfl ⟨Nat.le_of_ble_eq_true rfl, Nat.le_of_ble_eq_true rfl⟩ (hB.1 0 (by omega)).1 hB.2.1 rfl rfl rfl rfl (Nat.le_of_ble_eq_true rfl) hl.1 d_C_cycle_2 ⟨Nat.le_of_ble_eq_true rfl, Nat.le_of_ble_eq_true rfl⟩) (fun r u H locs hp hh => ?_)
      obtain ⟨hr1, rfl⟩ := hp
      rw [h1] at hr1
      subst hr1
      refine lv_if_eq (tgt := 29) X.1 X.2.1 d_C_cycle_5 (by decide) (fun hc => absurd hc (by decide)) (fun _ => ?_)
      refine lv_aload_n X.1 X.2.1 d_C_cycle_8 rfl (lv_at hl 0 rfl) ?_
      refine lv_iload_n X.1 X.2.1 d_C_cycle_9 rfl (lv_at hl 2 rfl) ?_
      refine hl_calli hh (hl_runV (k := 1) X hK hh (c_C_isPlace l g _ L f (b 0) n .null _ _ _ _ _ _ _ _ q2 (hB.1 0 (by omega)).1 hB.2.1 (by omega)) wc_C_isPlace w_90 w_1 wi_C_isPlace ws_C_isPlace (by decide +kernel) rfl rfl ⟨Nat.le_of_ble_eq_true rfl, Nat.le_of_ble_eq_true rfl⟩ (hB.1 0 (by omega)).1 hB.2.1 rfl rfl rfl rfl (Nat.le_of_ble_eq_true rfl) hl.1 d_C_cycle_10 ⟨Nat.le_of_ble_eq_true rfl, Nat.le_of_ble_eq_true rfl⟩) (fun r u H locs hp hh => ?_)
      obtain ⟨hr1, rfl⟩ := hp
      rw [h2] at hr1
      subst hr1
      refine lv_if_eq (tgt := 29) X.1 X.2.1 d_C_cycle_13 (by decide) (fun _ => ?_) (fun hc => absurd (by decide) hc)
      refine lv_iconst (v := nI 0) X.1 X.2.1 d_C_cycle_29 (by decide) ?_
      exact hm_zret X hr hlk hh (Or.inl rfl) (Or.inl ⟨Or.inr (Or.inl h2), rfl, rfl⟩) (Nat.le_of_ble_eq_true rfl) (Nat.le_of_ble_eq_true rfl) d_C_cycle_30
    · have h2 := ip_in (by omega : n < 2 ^ 31) ha
      rcases ip_cases q3 (n := n) (by omega) with h3 | ⟨d, hd, rfl⟩
      · skip
        refine lv_aload_n X.1 X.2.1 d_C_cycle_0 rfl (lv_at hl 0 rfl) ?_
        refine lv_iload_n X.1 X.2.1 d_C_cycle_1 rfl (lv_at hl 1 rfl) ?_
        refine hl_calli hh (hl_runV (k := 1) X hK hh (c_C_isMove l g _ L f (b 0) mm _ _ .null _ _ _ _ _ _ (nI j) (hB.1 0 (by omega)).1 hB.2.1 (by omega)) wc_C_isMove w_86 w_1 wi_C_isMove ws_C_isMove (by decide +kernel) rfl rfl ⟨Nat.le_of_ble_eq_true rfl, Nat.le_of_ble_eq_true rfl⟩ (hB.1 0 (by omega)).1 hB.2.1 rfl rfl rfl rfl (Nat.le_of_ble_eq_true rfl) hl.1 d_C_cycle_2 ⟨Nat.le_of_ble_eq_true rfl, Nat.le_of_ble_eq_true rfl⟩) (fun r u H locs hp hh => ?_)
        obtain ⟨hr1, rfl⟩ := hp
        rw [h1] at hr1
        subst hr1
        refine lv_if_eq (tgt := 29) X.1 X.2.1 d_C_cycle_5 (by decide) (fun hc => absurd hc (by decide)) (fun _ => ?_)
        refine lv_aload_n X.1 X.2.1 d_C_cycle_8 rfl (lv_at hl 0 rfl) ?_
        refine lv_iload_n X.1 X.2.1 d_C_cycle_9 rfl (lv_at hl 2 rfl) ?_
        refine hl_calli hh (hl_runV (k := 1) X hK hh (c_C_isPlace l g _ L f (b 0) n .null _ _ _ _ _ _ _ _ (nI a) (hB.1 0 (by omega)).1 hB.2.1 (by omega)) wc_C_isPlace w_90 w_1 wi_C_isPlace ws_C_isPlace (by decide +kernel) rfl rfl ⟨Nat.le_of_ble_eq_true rfl, Nat.le_of_ble_eq_true rfl⟩ (hB.1 0 (by omega)).1 hB.2.1 rfl rfl rfl rfl (Nat.le_of_ble_eq_true rfl) hl.1 d_C_cycle_10 ⟨Nat.le_of_ble_eq_true rfl, Nat.le_of_ble_eq_true rfl⟩) (fun r u H locs hp hh => ?_)
        obtain ⟨hr1, rfl⟩ := hp
        rw [h2] at hr1
        subst hr1
        refine lv_if_eq (tgt := 29) X.1 X.2.1 d_C_cycle_13 (by decide) (fun hc => absurd hc (by decide)) (fun _ => ?_)
        refine lv_aload_n X.1 X.2.1 d_C_cycle_16 rfl (lv_at hl 0 rfl) ?_
        refine lv_iload_n X.1 X.2.1 d_C_cycle_17 rfl (lv_at hl 3 rfl) ?_
        refine hl_calli hh (hl_runV (k := 1) X hK hh (c_C_isPlace l g _ L f (b 0) n .null _ _ _ _ _ _ _ _ q3 (hB.1 0 (by omega)).1 hB.2.1 (by omega)) wc_C_isPlace w_90 w_1 wi_C_isPlace ws_C_isPlace (by decide +kernel) rfl rfl ⟨Nat.le_of_ble_eq_true rfl, Nat.le_of_ble_eq_true rfl⟩ (hB.1 0 (by omega)).1 hB.2.1 rfl rfl rfl rfl (Nat.le_of_ble_eq_true rfl) hl.1 d_C_cycle_18 ⟨Nat.le_of_ble_eq_true rfl, Nat.le_of_ble_eq_true rfl⟩) (fun r u H locs hp hh => ?_)
        obtain ⟨hr1, rfl⟩ := hp
        rw [h3] at hr1
        subst hr1
        refine lv_if_eq (tgt := 29) X.1 X.2.1 d_C_cycle_21 (by decide) (fun _ => ?_) (fun hc => absurd (by decide) hc)
        refine lv_iconst (v := nI 0) X.1 X.2.1 d_C_cycle_29 (by decide) ?_
        exact hm_zret X hr hlk hh (Or.inl rfl) (Or.inl ⟨Or.inr (Or.inr (Or.inl h3)), rfl, rfl⟩) (Nat.le_of_ble_eq_true rfl) (Nat.le_of_ble_eq_true rfl) d_C_cycle_30
      · have h3 := ip_in (by omega : n < 2 ^ 31) hd
        have ts := (hB.1 (10 + j) (by omega)).2
        have hlt := lk_sym_lt (hmv j hj) hd
        have hla := lk_sym_lt (hmv j hj) ha
        have nx : b 0 ≠ b (10 + j) := hl_ne (T := T) (by rw [ts, (hB.1 0 (by omega)).2]; omega)
        refine lv_aload_n X.1 X.2.1 d_C_cycle_0 rfl (lv_at hl 0 rfl) ?_
        refine lv_iload_n X.1 X.2.1 d_C_cycle_1 rfl (lv_at hl 1 rfl) ?_
        refine hl_calli hh (hl_runV (k := 1) X hK hh (c_C_isMove l g _ L f (b 0) mm _ _ .null _ _ _ _ _ _ (nI j) (hB.1 0 (by omega)).1 hB.2.1 (by omega)) wc_C_isMove w_86 w_1 wi_C_isMove ws_C_isMove (by decide +kernel) rfl rfl ⟨Nat.le_of_ble_eq_true rfl, Nat.le_of_ble_eq_true rfl⟩ (hB.1 0 (by omega)).1 hB.2.1 rfl rfl rfl rfl (Nat.le_of_ble_eq_true rfl) hl.1 d_C_cycle_2 ⟨Nat.le_of_ble_eq_true rfl, Nat.le_of_ble_eq_true rfl⟩) (fun r u H locs hp hh => ?_)
        obtain ⟨hr1, rfl⟩ := hp
        rw [h1] at hr1
        subst hr1
        refine lv_if_eq (tgt := 29) X.1 X.2.1 d_C_cycle_5 (by decide) (fun hc => absurd hc (by decide)) (fun _ => ?_)
        refine lv_aload_n X.1 X.2.1 d_C_cycle_8 rfl (lv_at hl 0 rfl) ?_
        refine lv_iload_n X.1 X.2.1 d_C_cycle_9 rfl (lv_at hl 2 rfl) ?_
        refine hl_calli hh (hl_runV (k := 1) X hK hh (c_C_isPlace l g _ L f (b 0) n .null _ _ _ _ _ _ _ _ (nI a) (hB.1 0 (by omega)).1 hB.2.1 (by omega)) wc_C_isPlace w_90 w_1 wi_C_isPlace ws_C_isPlace (by decide +kernel) rfl rfl ⟨Nat.le_of_ble_eq_true rfl, Nat.le_of_ble_eq_true rfl⟩ (hB.1 0 (by omega)).1 hB.2.1 rfl rfl rfl rfl (Nat.le_of_ble_eq_true rfl) hl.1 d_C_cycle_10 ⟨Nat.le_of_ble_eq_true rfl, Nat.le_of_ble_eq_true rfl⟩) (fun r u H locs hp hh => ?_)
        obtain ⟨hr1, rfl⟩ := hp
        rw [h2] at hr1
        subst hr1
        refine lv_if_eq (tgt := 29) X.1 X.2.1 d_C_cycle_13 (by decide) (fun hc => absurd hc (by decide)) (fun _ => ?_)
        refine lv_aload_n X.1 X.2.1 d_C_cycle_16 rfl (lv_at hl 0 rfl) ?_
        refine lv_iload_n X.1 X.2.1 d_C_cycle_17 rfl (lv_at hl 3 rfl) ?_
        refine hl_calli hh (hl_runV (k := 1) X hK hh (c_C_isPlace l g _ L f (b 0) n .null _ _ _ _ _ _ _ _ (nI d) (hB.1 0 (by omega)).1 hB.2.1 (by omega)) wc_C_isPlace w_90 w_1 wi_C_isPlace ws_C_isPlace (by decide +kernel) rfl rfl ⟨Nat.le_of_ble_eq_true rfl, Nat.le_of_ble_eq_true rfl⟩ (hB.1 0 (by omega)).1 hB.2.1 rfl rfl rfl rfl (Nat.le_of_ble_eq_true rfl) hl.1 d_C_cycle_18 ⟨Nat.le_of_ble_eq_true rfl, Nat.le_of_ble_eq_true rfl⟩) (fun r u H locs hp hh => ?_)
        obtain ⟨hr1, rfl⟩ := hp
        rw [h3] at hr1
        subst hr1
        refine lv_if_eq (tgt := 29) X.1 X.2.1 d_C_cycle_21 (by decide) (fun hc => absurd hc (by decide)) (fun _ => ?_)
        refine lv_iload_n X.1 X.2.1 d_C_cycle_24 rfl (lv_at hl 2 rfl) ?_
        refine lv_iload_n X.1 X.2.1 d_C_cycle_25 rfl (lv_at hl 3 rfl) ?_
        refine hn_ine (tgt := 31) X (by omega) (by omega) d_C_cycle_26 (by decide) (fun hc => ?_) (fun hc => ?_)
        · have hne : a ≠ d := hc
          refine lv_aload_n X.1 X.2.1 d_C_cycle_31 rfl (lv_at hl 0 rfl) ?_
          refine hl_get X hK hh (ref := "CycleGroups") i_C (ci := 0) rfl 1 (by decide) w_48 rfl (hB.1 0 (by omega)).1 hB.2.1 rfl d_C_cycle_32 ?_
          refine lv_iload_n X.1 X.2.1 d_C_cycle_35 rfl (lv_at hl 1 rfl) ?_
          refine hl_aaldG X hK hh (hB.1 1 (by omega)).1 hB.2.2.1 (by omega) (by omega) (if_pos (by omega)) d_C_cycle_36 ?_
          refine lv_astore (lv' := [(4, .ref (b (10 + j))), (0, .ref (b 0)), (1, .int (nI j)), (2, .int (nI a)), (3, .int (nI d))]) X.1 X.2.1 d_C_cycle_37 hl (by decide) rfl (fun ls hl => ?_)
          refine lv_aload X.1 X.2.1 d_C_cycle_39 (lv_at hl 0 rfl) ?_
          refine lv_iload_n X.1 X.2.1 d_C_cycle_41 rfl (lv_at hl 4 rfl) ?_
          refine hl_iald X hK hh (hB.1 (10 + j) (by omega)).1 (hB.2.2.2.2.2.2.2.2.1 j (by omega)) (by omega) (by omega) d_C_cycle_42 ?_
          refine lv_iload_n X.1 X.2.1 d_C_cycle_43 rfl (lv_at hl 4 rfl) ?_
          refine hn_ieq (tgt := 49) X (by omega) (by omega) d_C_cycle_44 (by decide) (fun hc => ?_) (fun hc => ?_)
          · have hfx : mv j d = d := hc
            refine lv_aload X.1 X.2.1 d_C_cycle_49 (lv_at hl 0 rfl) ?_
            refine lv_iload_n X.1 X.2.1 d_C_cycle_51 rfl (lv_at hl 4 rfl) ?_
            refine lv_aload X.1 X.2.1 d_C_cycle_52 (lv_at hl 0 rfl) ?_
            refine lv_iload_n X.1 X.2.1 d_C_cycle_54 rfl (lv_at hl 3 rfl) ?_
            refine hl_iald X hK hh (hB.1 (10 + j) (by omega)).1 (hB.2.2.2.2.2.2.2.2.1 j (by omega)) (by omega) (by omega) d_C_cycle_55 ?_
            refine hl_iastN X hK hh (hB.1 (10 + j) (by omega)).1 (hB.2.2.2.2.2.2.2.2.1 j (by omega)) (by omega) (by omega) d_C_cycle_56 (fun H locs hh => ?_)
            refine lv_aload X.1 X.2.1 d_C_cycle_57 (lv_at hl 0 rfl) ?_
            refine lv_iload_n X.1 X.2.1 d_C_cycle_59 rfl (lv_at hl 3 rfl) ?_
            refine lv_iload_n X.1 X.2.1 d_C_cycle_60 rfl (lv_at hl 4 rfl) ?_
            refine hl_iastN X hK hh (hB.1 (10 + j) (by omega)).1 (va_up_self ..) (by omega) (by omega) d_C_cycle_61 (fun H locs hh => ?_)
            rw [hr_uu, cy_eq hfx hne] at hh
            have hB1 := cg_mvr hB j (by omega) (mv j ∘ gp_sw a d)
            refine lv_aload_n X.1 X.2.1 d_C_cycle_62 rfl (lv_at hl 1 rfl) ?_
            refine lv_iconst (v := nI 1) X.1 X.2.1 d_C_cycle_63 (by decide) ?_
            refine hl_put X hK hh (ref := "CycleGroups") i_C t_C t_C_ok n_C (ci := 0) rfl 8 (by decide) w_55 rfl rfl (hB1.1 0 (by omega)).1 hB1.2.1 (by first | rfl | decide) (by first | rfl | decide) (Nat.le_of_ble_eq_true rfl) d_C_cycle_64 (fun H locs hh => ?_)
            refine lv_iconst (v := nI 1) X.1 X.2.1 d_C_cycle_67 (by decide) ?_
            exact hm_zret X hr hlk hh (Or.inr rfl) (Or.inr ⟨j, a, d, hj, ha, hd, hne, hfx, rfl, rfl, rfl, rfl, cg_R_mv hB hC hW hmd hj ((gp_sym_sg _).2.1 _ _ (hmv j hj) (gp_sw_sym (ch_D_mem.2 ⟨Nat.zero_le _, ha⟩) (ch_D_mem.2 ⟨Nat.zero_le _, hd⟩))) rfl⟩) (Nat.le_of_ble_eq_true rfl) (Nat.le_of_ble_eq_true rfl) d_C_cycle_68
          · have hfx : ¬ mv j d = d := hc
            refine lv_iconst (v := nI 0) X.1 X.2.1 d_C_cycle_47 (by decide) ?_
            exact hm_zret X hr hlk hh (Or.inl rfl) (Or.inl ⟨Or.inr (Or.inr (Or.inr (Or.inr ⟨j, d, hj, hd, rfl, rfl, hfx⟩))), rfl, rfl⟩) (Nat.le_of_ble_eq_true rfl) (Nat.le_of_ble_eq_true rfl) d_C_cycle_48
        · have hc2 : a = d := hc
          refine lv_iconst (v := nI 0) X.1 X.2.1 d_C_cycle_29 (by decide) ?_
          exact hm_zret X hr hlk hh (Or.inl rfl) (Or.inl ⟨Or.inr (Or.inr (Or.inr (Or.inl (by rw [hc2])))), rfl, rfl⟩) (Nat.le_of_ble_eq_true rfl) (Nat.le_of_ble_eq_true rfl) d_C_cycle_30

/-- sums -/
def su (F : Nat → Nat) : Nat → Nat
  | 0 => 0
  | k + 1 => su F k + F k
theorem su_le {F : Nat → Nat} {m : Nat} (h : ∀ i, F i ≤ m) : ∀ k, su F k ≤ k * m
  | 0 => Nat.zero_le _
  | k + 1 => by have := su_le h k; have := h k; rw [Nat.succ_mul]; show su F k + F k ≤ _; omega
theorem su_zero {F : Nat → Nat} : ∀ k, (∀ i, i < k → F i = 0) → su F k = 0
  | 0, _ => rfl
  | k + 1, h => by show su F k + F k = 0; rw [su_zero k (fun i hi => h i (by omega)), h k (by omega)]
/-- how often a row puts a place behind a later one's -/
def pa_1 (σ : Nat → Nat) (p q : Nat) : Nat := if p < q ∧ σ q < σ p then 1 else 0
def pa_n (σ : Nat → Nat) (n : Nat) : Nat := su (fun p => su (pa_1 σ p) n) n
theorem pa_1_le (σ : Nat → Nat) (p q : Nat) : pa_1 σ p q ≤ 1 := by unfold pa_1; split <;> omega

/-- int parity(int state) -/
theorem c_C_parity (l : Launch) (g : hl_G) (sz : Nat) (L : List Nat) (f : Nat → va_E) (T : Nat → Nat) (b : Nat → Nat) (n mm sm : Nat) (mv st : Nat → Nat → Nat) (made : Bool) (hI : cg_I g L f T b n mm sm mv st made) (q1 : Int32) (post : Int32 → List Nat × (Nat → va_E) → Prop) (hpo : ∀ r, (ip q1 sm = false ∧ r = -1) ∨ (∃ j, j < sm ∧ q1 = nI j ∧ r = nI (pa_n (st j) n % 2)) → post r (L, f)) :
    Met l y_C_parity (hq y_C_parity b_C_parity 6 (some .int)) { frames := 1, cells := 0, slots := 0, locals := 30 } (hm_P g [.ref (b 0), .int q1] sz L f) (va_Qi (post) (hm_B g sz L) (hm_A sz L)) 0 0 (hm_A sz L) := by
  refine hm_ofW (by decide) (Nat.le_of_ble_eq_true rfl) ?_
  intro p e s m below meth c X hr hlk hnm hK hsz hh ls hl
  have hl : lv_has ls 6 [(0, .ref (b 0)), (1, .int q1)] := hl
  obtain ⟨zp, zd, cv, fl, hB, hC, hW, hmd⟩ := id hI
  obtain ⟨hn0, hn, hmm, hsm, hmv, hst⟩ := id hW
  rcases ip_cases q1 (n := sm) (by omega) with h1 | ⟨j, hj, rfl⟩
  · skip
    refine lv_aload_n X.1 X.2.1 d_C_parity_0 rfl (lv_at hl 0 rfl) ?_
    refine lv_iload_n X.1 X.2.1 d_C_parity_1 rfl (lv_at hl 1 rfl) ?_
    refine hl_calli hh (hl_runV (k := 1) X hK hh (c_C_isState l g _ L f (b 0) sm _ _ _ _ .null _ _ _ _ q1 (hB.1 0 (by omega)).1 hB.2.1 (by omega)) wc_C_isState w_298 w_1 wi_C_isState ws_C_isState (by decide +kernel) rfl rfl ⟨Nat.le_of_ble_eq_true rfl, Nat.le_of_ble_eq_true rfl⟩ (hB.1 0 (by omega)).1 hB.2.1 rfl rfl rfl rfl (Nat.le_of_ble_eq_true rfl) hl.1 d_C_parity_2 ⟨Nat.le_of_ble_eq_true rfl, Nat.le_of_ble_eq_true rfl⟩) (fun r u H locs hp hh => ?_)
    obtain ⟨hr1, rfl⟩ := hp
    rw [h1] at hr1
    subst hr1
    refine lv_if_ne (tgt := 10) X.1 X.2.1 d_C_parity_5 (by decide) (fun hc => absurd (by decide) hc) (fun _ => ?_)
    refine lv_iconst (v := -1) X.1 X.2.1 d_C_parity_8 (by decide) ?_
    exact hm_iret X hr hlk hh (hpo _ (Or.inl ⟨h1, rfl⟩)) (Nat.le_of_ble_eq_true rfl) (Nat.le_of_ble_eq_true rfl) d_C_parity_9
  · have h1 := ip_in (by omega : sm < 2 ^ 31) hj
    have bd1 : ∀ p k, k ≤ n → su (pa_1 (st j) p) k ≤ 24 := fun p k hk => by have := su_le (pa_1_le (st j) p) k; omega
    have bd : ∀ k, k ≤ n → su (fun p => su (pa_1 (st j) p) n) k ≤ 576 := fun k hk => by have := su_le (F := fun p => su (pa_1 (st j) p) n) (m := 24) (fun p => bd1 p n (Nat.le_refl _)) k; omega
    have inner : ∀ (t i q : Nat) (H : Heap) (locs : List Loc) (ls : Array Slot), n + 1 ≤ q + t → i < q → q ≤ n → i < n →
        (∀ (H : Heap) (locs : List Loc) (ls : Array Slot), hl_H g (hm_A sz L) s.heap L f H locs → lv_has ls 6 [(4, .int (nI (i + 1))), (3, .int (nI (su (fun p => su (pa_1 (st j) p) n) (i + 1)))), (2, .ref (b (20 + j))), (0, .ref (b 0)), (1, .int (nI j))] → W p l e { frames := 1, cells := 0, slots := 0, locals := 30 } s m #[.ref (b 0), .int (nI j)] below meth c H locs 0 0 (MQ below (va_Qi (post) (hm_B g sz L) (hm_A sz L)) #[.ref (b 0), .int (nI j)] s 0 0 (hm_A sz L)) (F0 m 22 ls [])) →
        hl_H g (hm_A sz L) s.heap L f H locs → lv_has ls 6 [(5, .int (nI q)), (3, .int (nI (su (fun p => su (pa_1 (st j) p) n) i + su (pa_1 (st j) i) q))), (4, .int (nI i)), (2, .ref (b (20 + j))), (0, .ref (b 0)), (1, .int (nI j))] →
        W p l e { frames := 1, cells := 0, slots := 0, locals := 30 } s m #[.ref (b 0), .int (nI j)] below meth c H locs 0 0 (MQ below (va_Qi (post) (hm_B g sz L) (hm_A sz L)) #[.ref (b 0), .int (nI j)] s 0 0 (hm_A sz L)) (F0 m 37 ls []) := by
      intro t
      induction t with
      | zero => intros; omega
      | succ t ih =>
        intro i q H locs ls hk hiq hqn hin kk hh hl
        have b1 := bd1 i q hqn
        have b2 := bd i (by omega)
        refine lv_iload X.1 X.2.1 d_C_parity_37 (lv_at hl 0 rfl) ?_
        refine lv_aload_n X.1 X.2.1 d_C_parity_39 rfl (lv_at hl 4 rfl) ?_
        refine hl_get X hK hh (ref := "CycleGroups") i_C (ci := 0) rfl 0 (by decide) w_47 rfl (hB.1 0 (by omega)).1 hB.2.1 rfl d_C_parity_40 ?_
        refine hn_ige (tgt := 66) X (by omega) (by omega) d_C_parity_43 (by decide) (fun hc => ?_) (fun hc => ?_)
        · have hqn2 : n = q := by omega
          subst hqn2
          refine lv_iinc (v := nI (i + 1)) (lv' := [(4, .int (nI (i + 1))), (5, .int (nI n)), (3, .int (nI (su (fun p => su (pa_1 (st j) p) n) i + su (pa_1 (st j) i) n))), (2, .ref (b (20 + j))), (0, .ref (b 0)), (1, .int (nI j))]) X.1 X.2.1 d_C_parity_66 hl (k := 2) rfl (hn_inc _) (by decide) rfl (fun ls hl => ?_)
          refine lv_goto (tgt := 22) X.1 X.2.1 d_C_parity_69 (by decide) ?_
          exact kk H locs ls hh (lv_sub hl [0, 2, 3, 4, 5] rfl)
        · have hqn2 : q < n := hc
          have hsi := lk_sym_lt (hst j hj) hin
          have hsq := lk_sym_lt (hst j hj) hqn2
          refine lv_aload_n X.1 X.2.1 d_C_parity_46 rfl (lv_at hl 3 rfl) ?_
          refine lv_iload X.1 X.2.1 d_C_parity_47 (lv_at hl 2 rfl) ?_
          refine hl_iald X hK hh (hB.1 (20 + j) (by omega)).1 (hB.2.2.2.2.2.2.2.2.2 j (by omega)) (by omega) (by omega) d_C_parity_49 ?_
          refine lv_aload_n X.1 X.2.1 d_C_parity_50 rfl (lv_at hl 3 rfl) ?_
          refine lv_iload X.1 X.2.1 d_C_parity_51 (lv_at hl 0 rfl) ?_
          refine hl_iald X hK hh (hB.1 (20 + j) (by omega)).1 (hB.2.2.2.2.2.2.2.2.2 j (by omega)) (by omega) (by omega) d_C_parity_53 ?_
          refine hn_ile (tgt := 60) X (by omega) (by omega) d_C_parity_54 (by decide) (fun hc => ?_) (fun hc => ?_)
          · have hle : st j i ≤ st j q := hc
            refine lv_iinc (v := nI (q + 1)) (lv' := [(5, .int (nI (q + 1))), (3, .int (nI (su (fun p => su (pa_1 (st j) p) n) i + su (pa_1 (st j) i) q))), (4, .int (nI i)), (2, .ref (b (20 + j))), (0, .ref (b 0)), (1, .int (nI j))]) X.1 X.2.1 d_C_parity_60 hl (k := 0) rfl (hn_inc _) (by decide) rfl (fun ls hl => ?_)
            refine lv_goto (tgt := 37) X.1 X.2.1 d_C_parity_63 (by decide) ?_
            have e1 : su (pa_1 (st j) i) (q + 1) = su (pa_1 (st j) i) q := by show su (pa_1 (st j) i) q + pa_1 (st j) i q = _; unfold pa_1; rw [if_neg (by omega)]; rfl
            rw [← e1] at hl
            exact ih i (q + 1) H locs ls (by omega) (by omega) (by omega) hin kk hh hl
          · have hle : st j q < st j i := hc
            refine lv_iinc (v := nI ((su (fun p => su (pa_1 (st j) p) n) i + su (pa_1 (st j) i) q) + 1)) (lv' := [(3, .int (nI ((su (fun p => su (pa_1 (st j) p) n) i + su (pa_1 (st j) i) q) + 1))), (5, .int (nI q)), (4, .int (nI i)), (2, .ref (b (20 + j))), (0, .ref (b 0)), (1, .int (nI j))]) X.1 X.2.1 d_C_parity_57 hl (k := 1) rfl (hn_inc _) (by decide) rfl (fun ls hl => ?_)
            refine lv_iinc (v := nI (q + 1)) (lv' := [(5, .int (nI (q + 1))), (3, .int (nI ((su (fun p => su (pa_1 (st j) p) n) i + su (pa_1 (st j) i) q) + 1))), (4, .int (nI i)), (2, .ref (b (20 + j))), (0, .ref (b 0)), (1, .int (nI j))]) X.1 X.2.1 d_C_parity_60 hl (k := 1) rfl (hn_inc _) (by decide) rfl (fun ls hl => ?_)
            refine lv_goto (tgt := 37) X.1 X.2.1 d_C_parity_63 (by decide) ?_
            have e1 : su (pa_1 (st j) i) (q + 1) = su (pa_1 (st j) i) q + 1 := by show su (pa_1 (st j) i) q + pa_1 (st j) i q = _; unfold pa_1; rw [if_pos (by omega)]
            rw [Nat.add_assoc, ← e1] at hl
            exact ih i (q + 1) H locs ls (by omega) (by omega) (by omega) hin kk hh (lv_sub hl [0, 1, 2, 3, 4, 5] rfl)
    have loop : ∀ (t i : Nat) (H : Heap) (locs : List Loc) (ls : Array Slot), n + 1 ≤ i + t → i ≤ n →
        hl_H g (hm_A sz L) s.heap L f H locs → lv_has ls 6 [(4, .int (nI i)), (3, .int (nI (su (fun p => su (pa_1 (st j) p) n) i))), (2, .ref (b (20 + j))), (0, .ref (b 0)), (1, .int (nI j))] →
        W p l e { frames := 1, cells := 0, slots := 0, locals := 30 } s m #[.ref (b 0), .int (nI j)] below meth c H locs 0 0 (MQ below (va_Qi (post) (hm_B g sz L) (hm_A sz L)) #[.ref (b 0), .int (nI j)] s 0 0 (hm_A sz L)) (F0 m 22 ls []) := by
      intro t
      induction t with
      | zero => intros; omega
      | succ t ih =>
        intro i H locs ls hk hin hh hl
        have b2 := bd i (by omega)
        refine lv_iload X.1 X.2.1 d_C_parity_22 (lv_at hl 0 rfl) ?_
        refine lv_aload_n X.1 X.2.1 d_C_parity_24 rfl (lv_at hl 3 rfl) ?_
        refine hl_get X hK hh (ref := "CycleGroups") i_C (ci := 0) rfl 0 (by decide) w_47 rfl (hB.1 0 (by omega)).1 hB.2.1 rfl d_C_parity_25 ?_
        refine hn_ige (tgt := 72) X (by omega) (by omega) d_C_parity_28 (by decide) (fun hc => ?_) (fun hc => ?_)
        · have hin2 : n = i := by omega
          subst hin2
          refine lv_iload_n X.1 X.2.1 d_C_parity_72 rfl (lv_at hl 1 rfl) ?_
          refine lv_iconst (v := nI 2) X.1 X.2.1 d_C_parity_73 (by decide) ?_
          refine hn_rem X (by omega) (by omega) (by omega) d_C_parity_74 ?_
          exact hm_iret X hr hlk hh (hpo _ (Or.inr ⟨j, hj, rfl, rfl⟩)) (Nat.le_of_ble_eq_true rfl) (Nat.le_of_ble_eq_true rfl) d_C_parity_75
        · have hin2 : i < n := hc
          refine lv_iload X.1 X.2.1 d_C_parity_31 (lv_at hl 0 rfl) ?_
          refine lv_iconst (v := nI 1) X.1 X.2.1 d_C_parity_33 (by decide) ?_
          refine hn_add X d_C_parity_34 ?_
          refine lv_istore (lv' := [(5, .int (nI (i + 1))), (4, .int (nI i)), (3, .int (nI (su (fun p => su (pa_1 (st j) p) n) i))), (2, .ref (b (20 + j))), (0, .ref (b 0)), (1, .int (nI j))]) X.1 X.2.1 d_C_parity_35 hl (by decide) rfl (fun ls hl => ?_)
          have e1 : su (pa_1 (st j) i) (i + 1) = 0 := su_zero _ (fun q hq => if_neg (by omega))
          have e2 : nI (su (fun p => su (pa_1 (st j) p) n) i) = nI (su (fun p => su (pa_1 (st j) p) n) i + su (pa_1 (st j) i) (i + 1)) := by rw [e1]; rfl
          rw [e2] at hl
          exact inner (n + 1) i (i + 1) H locs ls (by omega) (by omega) (by omega) hin2 (fun H locs ls hh hl => ih (i + 1) H locs ls (by omega) (by omega) hh hl) hh (lv_sub hl [0, 2, 1, 3, 4, 5] rfl)
    refine lv_aload_n X.1 X.2.1 d_C_parity_0 rfl (lv_at hl 0 rfl) ?_
    refine lv_iload_n X.1 X.2.1 d_C_parity_1 rfl (lv_at hl 1 rfl) ?_
    refine hl_calli hh (hl_runV (k := 1) X hK hh (c_C_isState l g _ L f (b 0) sm _ _ _ _ .null _ _ _ _ (nI j) (hB.1 0 (by omega)).1 hB.2.1 (by omega)) wc_C_isState w_298 w_1 wi_C_isState ws_C_isState (by decide +kernel) rfl rfl ⟨Nat.le_of_ble_eq_true rfl, Nat.le_of_ble_eq_true rfl⟩ (hB.1 0 (by omega)).1 hB.2.1 rfl rfl rfl rfl (Nat.le_of_ble_eq_true rfl) hl.1 d_C_parity_2 ⟨Nat.le_of_ble_eq_true rfl, Nat.le_of_ble_eq_true rfl⟩) (fun r u H locs hp hh => ?_)
    obtain ⟨hr1, rfl⟩ := hp
    rw [h1] at hr1
    subst hr1
    refine lv_if_ne (tgt := 10) X.1 X.2.1 d_C_parity_5 (by decide) (fun _ => ?_) (fun hc => absurd hc (by decide))
    refine lv_aload_n X.1 X.2.1 d_C_parity_10 rfl (lv_at hl 0 rfl) ?_
    refine hl_get X hK hh (ref := "CycleGroups") i_C (ci := 0) rfl 3 (by decide) w_50 rfl (hB.1 0 (by omega)).1 hB.2.1 rfl d_C_parity_11 ?_
    refine lv_iload_n X.1 X.2.1 d_C_parity_14 rfl (lv_at hl 1 rfl) ?_
    refine hl_aaldG X hK hh (hB.1 2 (by omega)).1 hB.2.2.2.1 (by omega) (by omega) (if_pos (by omega)) d_C_parity_15 ?_
    refine lv_astore_n (lv' := [(2, .ref (b (20 + j))), (0, .ref (b 0)), (1, .int (nI j))]) X.1 X.2.1 d_C_parity_16 rfl hl (by decide) rfl (fun ls hl => ?_)
    refine lv_iconst (v := nI 0) X.1 X.2.1 d_C_parity_17 (by decide) ?_
    refine lv_istore_n (lv' := [(3, .int (nI 0)), (2, .ref (b (20 + j))), (0, .ref (b 0)), (1, .int (nI j))]) X.1 X.2.1 d_C_parity_18 rfl hl (by decide) rfl (fun ls hl => ?_)
    refine lv_iconst (v := nI 0) X.1 X.2.1 d_C_parity_19 (by decide) ?_
    refine lv_istore (lv' := [(4, .int (nI 0)), (3, .int (nI 0)), (2, .ref (b (20 + j))), (0, .ref (b 0)), (1, .int (nI j))]) X.1 X.2.1 d_C_parity_20 hl (by decide) rfl (fun ls hl => ?_)
    exact loop (n + 1) 0 _ _ ls (by omega) (by omega) hh (lv_sub hl [0, 1, 2, 3, 4] rfl)
end

