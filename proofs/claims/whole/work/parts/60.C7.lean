/-! CycleGroups: level, member, order, orbit, block, stabiliser. -/
section


/-- private void countGroup(Chain fresh) -/
theorem c_C_countGroup (l : Launch) (g : hl_G) (sz : Nat) (L : List Nat) (f : Nat → va_E) (T : Nat → Nat) (b : Nat → Nat) (n mm sm : Nat) (mv st : Nat → Nat → Nat) (zp zd : Nat → Nat) (cv : Value) (fl : Int32) (hB : cg_B g L f T b n mm sm mv st zp zd cv fl) (hn : n ≤ 24)
    (a0 lO wk : Nat) (ad : Nat → Nat → Nat → Nat) (zL : Nat → Option Nat) (gn : Nat → Nat) (G : Nat → Nat → Nat → Nat) (pr : Nat → Nat → Nat) (sn : Nat → Nat) (sp : Nat → Nat → Nat) (ix : Nat → Nat → Option Nat) (wb : Nat → Nat → Nat → Nat) (y : Nat → Nat) (k1 : cn_P g L f T ad n a0 lO wk zL gn G pr sn sp ix wb y) (hsn : ∀ i, i < n → sn i ≤ n - i) :
    Met l y_C_countGroup (hq y_C_countGroup b_C_countGroup 3 none) { frames := 2, cells := 0, slots := 0, locals := 60 } (hm_P g [.ref (b 0), .ref a0] sz L f) (va_Qv (fun u => u = (L, va_up f (b 6) (hl_nat g 24 (dgt (ch_pr sn 0 n))))) (hm_B g sz L) (hm_A sz L)) 0 0 (hm_A sz L) := by
  refine hm_ofW (by decide) (Nat.le_of_ble_eq_true rfl) ?_
  intro p e s m below meth c X hr hlk hnm hK hsz hh ls hl
  have hl : lv_has ls 3 [(0, .ref (b 0)), (1, .ref a0)] := hl
  have t6 := (hB.1 6 (by omega)).2
  have t5 := (hB.1 5 (by omega)).2
  have n56 : b 5 ≠ b 6 := hl_ne (T := T) (by omega)
  have fx : ∀ x, cg_B g L (va_up f (b 6) (hl_nat g 24 x)) T b n mm sm mv st zp x cv fl := fun x => cg_zdr hB x
  have cx : ∀ x, cn_P g L (va_up f (b 6) (hl_nat g 24 x)) T ad n a0 lO wk zL gn G pr sn sp ix wb y := fun x => cn_congr hn k1 (fun q hq => va_up_ne _ _ (hl_ne (T := T) (by rw [t6]; intro e0; rw [e0] at hq; exact cn_own_of (by omega) hq)))
  have loop : ∀ (t i : Nat) (H : Heap) (locs : List Loc) (ls : Array Slot), n + 1 ≤ i + t → i ≤ n → hl_H g (hm_A sz L) s.heap L (va_up f (b 6) (hl_nat g 24 (dgt (ch_pr sn 0 i)))) H locs → lv_has ls 3 [(2, .int (nI i)), (0, .ref (b 0)), (1, .ref a0)] → W p l e { frames := 2, cells := 0, slots := 0, locals := 60 } s m #[.ref (b 0), .ref a0] below meth c H locs 0 0 (MQ below (va_Qv (fun u => u = (L, va_up f (b 6) (hl_nat g 24 (dgt (ch_pr sn 0 n))))) (hm_B g sz L) (hm_A sz L)) #[.ref (b 0), .ref a0] s 0 0 (hm_A sz L)) (F0 m 9 ls []) := by
    intro t
    induction t with
    | zero => intros; omega
    | succ t ih =>
      intro i H locs ls hk hin hh hl
      have hB1 := fx (dgt (ch_pr sn 0 i))
      have k2 := cx (dgt (ch_pr sn 0 i))
      refine lv_iload_n X.1 X.2.1 d_C_countGroup_9 rfl (lv_at hl 0 rfl) ?_
      refine lv_aload_n X.1 X.2.1 d_C_countGroup_10 rfl (lv_at hl 1 rfl) ?_
      refine hl_get X hK hh (ref := "CycleGroups") i_C (ci := 0) rfl 0 (by decide) w_47 rfl (hB1.1 0 (by omega)).1 hB1.2.1 rfl d_C_countGroup_11 ?_
      refine hn_ige (tgt := 35) X (by omega) (by omega) d_C_countGroup_14 (by decide) (fun hc => ?_) (fun hc => ?_)
      · have hin2 : i = n := by omega
        rw [hin2] at hh
        exact hm_vret X hr hlk hh rfl (Nat.le_of_ble_eq_true rfl) (Nat.le_of_ble_eq_true rfl) d_C_countGroup_35
      · have hin2 : i < n := hc
        have hs1 := hsn i hin2
        refine lv_aload_n X.1 X.2.1 d_C_countGroup_17 rfl (lv_at hl 1 rfl) ?_
        refine hl_get X hK hh (ref := "CycleGroups") i_C (ci := 0) rfl 6 (by decide) w_53 rfl (hB1.1 0 (by omega)).1 hB1.2.1 rfl d_C_countGroup_18 ?_
        refine lv_aload_n X.1 X.2.1 d_C_countGroup_21 rfl (lv_at hl 2 rfl) ?_
        refine lv_iload_n X.1 X.2.1 d_C_countGroup_22 rfl (lv_at hl 0 rfl) ?_
        refine hl_calli hh (hl_runV (k := 1) X hK hh (c_H_spreadSize l g _ L _ T ad n a0 lO wk zL gn G pr sn sp ix wb y hn k2 i hin2) wc_H_spreadSize w_201 w_6 wi_H_spreadSize ws_H_spreadSize (by decide +kernel) rfl rfl ⟨Nat.le_of_ble_eq_true rfl, Nat.le_of_ble_eq_true rfl⟩ k2.1.1 k2.1.2.1 rfl rfl rfl rfl (Nat.le_of_ble_eq_true rfl) hl.1 d_C_countGroup_23 ⟨Nat.le_of_ble_eq_true rfl, Nat.le_of_ble_eq_true rfl⟩) (fun r u H locs hp hh => ?_)
        obtain ⟨rfl, rfl⟩ := hp
        refine hl_callv hh (hl_runV (k := 1) X hK hh (c_D_multiply l g _ L _ (b 5) (b 6) (sn i) _ (hB1.1 5 (by omega)).1 hB1.2.2.2.2.2.2.1 (hB1.1 6 (by omega)).1 (va_up_self ..) n56 (by omega) (fun i => dgt_lt _ i)) wc_D_multiply w_230 w_4 wi_D_multiply ws_D_multiply (by decide +kernel) rfl rfl ⟨Nat.le_of_ble_eq_true rfl, Nat.le_of_ble_eq_true rfl⟩ (hB1.1 5 (by omega)).1 hB1.2.2.2.2.2.2.1 rfl rfl rfl rfl (Nat.le_of_ble_eq_true rfl) hl.1 d_C_countGroup_26 ⟨Nat.le_of_ble_eq_true rfl, Nat.le_of_ble_eq_true rfl⟩) (fun u H locs hp hh => ?_)
        subst hp
        have hh : hl_H g (hm_A sz L) s.heap L (va_up (va_up f (b 6) (hl_nat g 24 (dgt (ch_pr sn 0 i)))) (b 6) (hl_nat g 24 (dg_mul (dgt (ch_pr sn 0 i)) (sn i)))) H locs := hh
        rw [hr_uu, dgt_mul] at hh
        have e1 : ch_pr sn 0 (i + 1) = ch_pr sn 0 i * sn i := by rw [ch_pr_last, Nat.zero_add]
        rw [← e1] at hh
        refine lv_iinc (v := nI (i + 1)) (lv' := [(2, .int (nI (i + 1))), (0, .ref (b 0)), (1, .ref a0)]) X.1 X.2.1 d_C_countGroup_29 hl (k := 0) rfl (hn_inc _) (by decide) rfl (fun ls hl => ?_)
        refine lv_goto (tgt := 9) X.1 X.2.1 d_C_countGroup_32 (by decide) ?_
        exact ih (i + 1) H locs ls (by omega) (by omega) hh hl
  refine lv_aload_n X.1 X.2.1 d_C_countGroup_0 rfl (lv_at hl 0 rfl) ?_
  refine hl_get X hK hh (ref := "CycleGroups") i_C (ci := 0) rfl 6 (by decide) w_53 rfl (hB.1 0 (by omega)).1 hB.2.1 rfl d_C_countGroup_1 ?_
  refine hl_callv hh (hl_runV (k := 0) X hK hh (c_D_setOne l g _ L f (b 5) (b 6) zd (hB.1 5 (by omega)).1 hB.2.2.2.2.2.2.1 (hB.1 6 (by omega)).1 hB.2.2.2.2.2.2.2.1 n56) wc_D_setOne w_225 w_4 wi_D_setOne ws_D_setOne (by decide +kernel) rfl rfl ⟨Nat.le_of_ble_eq_true rfl, Nat.le_of_ble_eq_true rfl⟩ (hB.1 5 (by omega)).1 hB.2.2.2.2.2.2.1 rfl rfl rfl rfl (Nat.le_of_ble_eq_true rfl) hl.1 d_C_countGroup_4 ⟨Nat.le_of_ble_eq_true rfl, Nat.le_of_ble_eq_true rfl⟩) (fun u H locs hp hh => ?_)
  subst hp
  have hh : hl_H g (hm_A sz L) s.heap L (va_up f (b 6) (hl_nat g 24 (fun p => if p = 0 then 1 else 0))) H locs := hh
  rw [dgt_one] at hh
  refine lv_iconst (v := nI 0) X.1 X.2.1 d_C_countGroup_7 (by decide) ?_
  refine lv_istore_n (lv' := [(2, .int (nI 0)), (0, .ref (b 0)), (1, .ref a0)]) X.1 X.2.1 d_C_countGroup_8 rfl hl (by decide) rfl (fun ls hl => ?_)
  exact loop (n + 1) 0 _ _ ls (by omega) (by omega) hh (lv_sub hl [0, 1, 2] rfl)

/-- int order(int i) -/
theorem c_C_order (l : Launch) (g : hl_G) (sz : Nat) (L : List Nat) (f : Nat → va_E) (T : Nat → Nat) (b : Nat → Nat) (n mm sm : Nat) (mv st : Nat → Nat → Nat) (made : Bool) (hI : cg_I g L f T b n mm sm mv st made) (mc ms : Nat) (hmc : made = false → mc = 1601 ∧ ms = 40003) (q1 : Int32) (post : Int32 → List Nat × (Nat → va_E) → Prop) (hpo : ∀ r u, (∃ sn, sz_all (gp_gen (mv_T mv mm)) n sn ∧ r = dg_at (dgt (ch_pr sn 0 n)) 24 q1 ∧ cg_R g L f T b n mm sm mv st true u) → post r u) :
    Met l y_C_order (hq y_C_order b_C_order 2 (some .int)) { frames := 6, cells := mc, slots := ms, locals := 230 } (hm_P g [.ref (b 0), .int q1] sz L f) (va_Qi (post) (hm_B g sz L) (hm_A sz L)) mc ms (hm_A sz L) := by
  refine hm_ofW (by decide) (Nat.le_of_ble_eq_true rfl) ?_
  intro p e s m below meth c X hr hlk hnm hK hsz hh ls hl
  have hl : lv_has ls 2 [(0, .ref (b 0)), (1, .int q1)] := hl
  obtain ⟨zp, zd, cv, fl, hB, hC, hW, hmd⟩ := id hI
  obtain ⟨hn0, hn, hmm, hsm, hmv, hst⟩ := id hW
  refine lv_aload_n X.1 X.2.1 d_C_order_0 rfl (lv_at hl 0 rfl) ?_
  refine lv_aload_n X.1 X.2.1 d_C_order_1 rfl (lv_at hl 0 rfl) ?_
  refine hl_callr2 hh (hl_runV (k := 0) X hK hh (c_C_freshChain l g _ L f T b n mm sm mv st zp zd cv fl mc ms hB hW hC (fun e0 => hmc (Bool.eq_false_iff.2 (fun h => hmd h e0)))) wc_C_freshChain w_98 w_1 wi_C_freshChain ws_C_freshChain (by decide +kernel) rfl rfl ⟨Nat.le_of_ble_eq_true rfl, Nat.le_of_ble_eq_true rfl⟩ (hB.1 0 (by omega)).1 hB.2.1 rfl rfl rfl rfl (Nat.le_of_ble_eq_true rfl) hl.1 d_C_order_2 ⟨Nat.le_of_eq (Nat.zero_add _), Nat.le_of_eq (Nat.zero_add _)⟩) (fun a0 u H locs hp hh => ?_)
  obtain ⟨f1, T1, hu2, hL1, hfr1, hB1, hch1⟩ := hp
  obtain ⟨L1, f0⟩ := u
  have hu2 : f0 = f1 := hu2
  subst hu2
  have hB1 : cg_B g L1 f0 T1 b n mm sm mv st zp zd (.ref a0) 0 := hB1
  have hch0 : cg_ch g L1 f0 T1 n mm mv a0 True := hch1
  obtain ⟨lO, wk, ad, zL, gn, G, pr, sn, sp, ix, wb, y, k1, k2, k3, k4⟩ := id hch0
  have hh : hl_H g (hm_A sz L) s.heap L1 f0 H locs := hh
  have hsz0 := sz_of (k4 trivial)
  have hsn : ∀ i, i < n → sn i ≤ n - i := fun i hi => (k2 i hi).2.2.2.2.2.1
  have t0 : T (b 0) = 0 := (hB.1 0 (by omega)).2
  have hfr2 : ∀ q, q ∈ L → 20000 ≤ T q → f0 q = f q := fun q hq ht => hfr1 q hq (cn_own_of (by omega)) (hl_ne (T := T) (by omega))
  have hR := cg_R_fr (made := true) hL1 hfr2 hB1 hch0 hW
  refine hl_callv hh (hl_runV (k := 1) X hK hh (c_C_countGroup l g _ L1 f0 T1 b n mm sm mv st zp zd (.ref a0) 0 hB1 hn a0 lO wk ad zL gn G pr sn sp ix wb y k1 hsn) wc_C_countGroup w_221 w_1 wi_C_countGroup ws_C_countGroup (by decide +kernel) rfl rfl ⟨Nat.le_of_ble_eq_true rfl, Nat.le_of_ble_eq_true rfl⟩ (hB1.1 0 (by omega)).1 hB1.2.1 rfl rfl rfl rfl (Nat.le_of_ble_eq_true rfl) hl.1 d_C_order_5 ⟨Nat.le_of_eq (Nat.zero_add _), Nat.le_of_eq (Nat.zero_add _)⟩) (fun u H locs hp hh => ?_)
  subst hp
  have hB2 := cg_zdr hB1 (dgt (ch_pr sn 0 n))
  have t6 := (hB1.1 6 (by omega)).2
  have k6 : cg_ch g L1 (va_up f0 (b 6) (hl_nat g 24 (dgt (ch_pr sn 0 n)))) T1 n mm mv a0 True := cg_ch_congr hn hch0 (fun q hq => va_up_ne _ _ (hl_ne (T := T1) (by rw [t6]; intro e0; rw [e0] at hq; exact cn_own_of (by omega) hq))) (fun h => h) (fun _ _ => Iff.rfl)
  have hR2 := cg_R_fr (f := f) (made := true) hL1 (fun q hq ht => (va_up_ne _ _ (hl_ne (T := T1) (by rw [t6, (hL1 q hq).2]; omega))).trans (hfr2 q hq ht)) hB2 k6 hW
  refine lv_aload_n X.1 X.2.1 d_C_order_8 rfl (lv_at hl 0 rfl) ?_
  refine hl_get X hK hh (ref := "CycleGroups") i_C (ci := 0) rfl 6 (by decide) w_53 rfl (hB2.1 0 (by omega)).1 hB2.2.1 rfl d_C_order_9 ?_
  refine lv_iload_n X.1 X.2.1 d_C_order_12 rfl (lv_at hl 1 rfl) ?_
  refine hl_calli hh (hl_runV (k := 1) X hK hh (c_D_digit l g _ L1 _ (b 5) (b 6) _ q1 (hB2.1 5 (by omega)).1 hB2.2.2.2.2.2.2.1 (hB2.1 6 (by omega)).1 (va_up_self ..) (fun i => dgt_lt _ i)) wc_D_digit w_234 w_4 wi_D_digit ws_D_digit (by decide +kernel) rfl rfl ⟨Nat.le_of_ble_eq_true rfl, Nat.le_of_ble_eq_true rfl⟩ (hB2.1 5 (by omega)).1 hB2.2.2.2.2.2.2.1 rfl rfl rfl rfl (Nat.le_of_ble_eq_true rfl) hl.1 d_C_order_13 ⟨Nat.le_of_eq (Nat.zero_add _), Nat.le_of_eq (Nat.zero_add _)⟩) (fun r u H locs hp hh => ?_)
  obtain ⟨hr1, rfl⟩ := hp
  exact hm_iret X hr hlk hh (hpo _ _ ⟨sn, hsz0, hr1, hR2⟩) (Nat.le_of_eq (Nat.zero_add _)) (Nat.le_of_eq (Nat.zero_add _)) d_C_order_16

/-- int level(int state), and what member asks of it -/
theorem lv_of {n : Nat} {gn : Nat → Nat} {G : Nat → Nat → Nat → Nat} {pr : Nat → Nat → Nat} {sn : Nat → Nat} {sp : Nat → Nat → Nat} {wb : Nat → Nat → Nat → Nat} {mm : Nat} {mv : Nat → Nat → Nat} (h : ch_inv n (cn_gs n gn G) pr sn sp wb 0 ∧ ∀ x, ch_G (cn_gs n gn G 0) x ↔ gp_gen (mv_T mv mm) x) {σ x : Nat → Nat} {j : Nat} (hj : j ≤ n) (hx : ch_G (cn_gs n gn G 0) x) (h1 : ∀ p, p < j → x (σ p) = p) (h2 : j < n → ¬ ∃ s, s < sn j ∧ sp j s = x (σ j)) : ch_lv (gp_gen (mv_T mv mm)) n σ j := by
  refine ⟨hj, ?_, fun hjn => ?_⟩
  · obtain ⟨z, hz, he⟩ := ch_goes h.1.1 (b := 0) (i := j) (Nat.zero_le _) hx (fun i _ hi => h1 i hi)
    exact ⟨z, (h.2 z).1 hz, fun i hi => he i (Nat.zero_le _) hi⟩
  · rintro ⟨z, hz, he⟩
    exact ch_fails h.1.1 (b := 0) (fun i _ hi => h.1.2.1 i (Nat.zero_le _) hi) (Nat.zero_le _) hjn hx (fun i _ hi => h1 i hi) (h2 hjn) ⟨z, (h.2 z).2 hz, fun i _ hi => he i hi⟩

theorem c_C_level (l : Launch) (g : hl_G) (sz : Nat) (L : List Nat) (f : Nat → va_E) (T : Nat → Nat) (b : Nat → Nat) (n mm sm : Nat) (mv st : Nat → Nat → Nat) (made : Bool) (hI : cg_I g L f T b n mm sm mv st made) (mc ms : Nat) (hmc : made = false → mc = 1601 ∧ ms = 40003) (q1 : Int32) (post : Int32 → List Nat × (Nat → va_E) → Prop) (hpo : ∀ r u, (ip q1 sm = false ∧ r = -1 ∧ u = (L, f)) ∨ (∃ j k, j < sm ∧ q1 = nI j ∧ ch_lv (gp_gen (mv_T mv mm)) n (st j) k ∧ r = nI k ∧ cg_R g L f T b n mm sm mv st true u) → post r u) :
    Met l y_C_level (hq y_C_level b_C_level 2 (some .int)) { frames := 6, cells := mc, slots := ms, locals := 230 } (hm_P g [.ref (b 0), .int q1] sz L f) (va_Qi (post) (hm_B g sz L) (hm_A sz L)) mc ms (hm_A sz L) := by
  refine hm_ofW (by decide) (Nat.le_of_ble_eq_true rfl) ?_
  intro p e s m below meth c X hr hlk hnm hK hsz hh ls hl
  have hl : lv_has ls 2 [(0, .ref (b 0)), (1, .int q1)] := hl
  obtain ⟨zp, zd, cv, fl, hB, hC, hW, hmd⟩ := id hI
  obtain ⟨hn0, hn, hmm, hsm, hmv, hst⟩ := id hW
  rcases ip_cases q1 (n := sm) (by omega) with h1 | ⟨j, hj, rfl⟩
  · skip
    refine lv_aload_n X.1 X.2.1 d_C_level_0 rfl (lv_at hl 0 rfl) ?_
    refine lv_iload_n X.1 X.2.1 d_C_level_1 rfl (lv_at hl 1 rfl) ?_
    refine hl_calli hh (hl_runV (k := 1) X hK hh (c_C_isState l g _ L f (b 0) sm _ _ _ _ .null _ _ _ _ q1 (hB.1 0 (by omega)).1 hB.2.1 (by omega)) wc_C_isState w_298 w_1 wi_C_isState ws_C_isState (by decide +kernel) rfl rfl ⟨Nat.le_of_ble_eq_true rfl, Nat.le_of_ble_eq_true rfl⟩ (hB.1 0 (by omega)).1 hB.2.1 rfl rfl rfl rfl (Nat.le_of_ble_eq_true rfl) hl.1 d_C_level_2 ⟨Nat.zero_le _, Nat.zero_le _⟩) (fun r u H locs hp hh => ?_)
    obtain ⟨hr1, rfl⟩ := hp
    rw [h1] at hr1
    subst hr1
    refine lv_if_eq (tgt := 24) X.1 X.2.1 d_C_level_5 (by decide) (fun _ => ?_) (fun hc => absurd (by decide) hc)
    refine lv_iconst (v := -1) X.1 X.2.1 d_C_level_24 (by decide) ?_
    exact hm_iret X hr hlk hh (hpo _ _ (Or.inl ⟨h1, rfl, rfl⟩)) (Nat.zero_le _) (Nat.zero_le _) d_C_level_25
  · have h1 := ip_in (by omega : sm < 2 ^ 31) hj
    refine lv_aload_n X.1 X.2.1 d_C_level_0 rfl (lv_at hl 0 rfl) ?_
    refine lv_iload_n X.1 X.2.1 d_C_level_1 rfl (lv_at hl 1 rfl) ?_
    refine hl_calli hh (hl_runV (k := 1) X hK hh (c_C_isState l g _ L f (b 0) sm _ _ _ _ .null _ _ _ _ (nI j) (hB.1 0 (by omega)).1 hB.2.1 (by omega)) wc_C_isState w_298 w_1 wi_C_isState ws_C_isState (by decide +kernel) rfl rfl ⟨Nat.le_of_ble_eq_true rfl, Nat.le_of_ble_eq_true rfl⟩ (hB.1 0 (by omega)).1 hB.2.1 rfl rfl rfl rfl (Nat.le_of_ble_eq_true rfl) hl.1 d_C_level_2 ⟨Nat.zero_le _, Nat.zero_le _⟩) (fun r u H locs hp hh => ?_)
    obtain ⟨hr1, rfl⟩ := hp
    rw [h1] at hr1
    subst hr1
    refine lv_if_eq (tgt := 24) X.1 X.2.1 d_C_level_5 (by decide) (fun hc => absurd hc (by decide)) (fun _ => ?_)
    refine lv_aload_n X.1 X.2.1 d_C_level_8 rfl (lv_at hl 0 rfl) ?_
    refine hl_callr2 hh (hl_runV (k := 0) X hK hh (c_C_freshChain l g _ L f T b n mm sm mv st zp zd cv fl mc ms hB hW hC (fun e0 => hmc (Bool.eq_false_iff.2 (fun h => hmd h e0)))) wc_C_freshChain w_98 w_1 wi_C_freshChain ws_C_freshChain (by decide +kernel) rfl rfl ⟨Nat.le_of_ble_eq_true rfl, Nat.le_of_ble_eq_true rfl⟩ (hB.1 0 (by omega)).1 hB.2.1 rfl rfl rfl rfl (Nat.le_of_ble_eq_true rfl) hl.1 d_C_level_9 ⟨Nat.le_of_eq (Nat.zero_add _), Nat.le_of_eq (Nat.zero_add _)⟩) (fun a0 u H locs hp hh => ?_)
    obtain ⟨f1, T1, hu2, hL1, hfr1, hB1, hch1⟩ := hp
    obtain ⟨L1, f0⟩ := u
    have hu2 : f0 = f1 := hu2
    subst hu2
    have hB1 : cg_B g L1 f0 T1 b n mm sm mv st zp zd (.ref a0) 0 := hB1
    have hch0 : cg_ch g L1 f0 T1 n mm mv a0 True := hch1
    obtain ⟨lO, wk, ad, zL, gn, G, pr, sn, sp, ix, wb, y, k1, k2, k3, k4⟩ := id hch0
    have hh : hl_H g (hm_A sz L) s.heap L1 f0 H locs := hh
    have hsz0 := sz_of (k4 trivial)
    have hsn : ∀ i, i < n → sn i ≤ n - i := fun i hi => (k2 i hi).2.2.2.2.2.1
    have t0 : T (b 0) = 0 := (hB.1 0 (by omega)).2
    have hfr2 : ∀ q, q ∈ L → 20000 ≤ T q → f0 q = f q := fun q hq ht => hfr1 q hq (cn_own_of (by omega)) (hl_ne (T := T) (by omega))
    have hR := cg_R_fr (made := true) hL1 hfr2 hB1 hch0 hW
    refine lv_aload_n X.1 X.2.1 d_C_level_12 rfl (lv_at hl 0 rfl) ?_
    refine hl_get X hK hh (ref := "CycleGroups") i_C (ci := 0) rfl 3 (by decide) w_50 rfl (hB1.1 0 (by omega)).1 hB1.2.1 rfl d_C_level_13 ?_
    refine lv_iload_n X.1 X.2.1 d_C_level_16 rfl (lv_at hl 1 rfl) ?_
    refine hl_aaldG X hK hh (hB1.1 2 (by omega)).1 hB1.2.2.2.1 (by omega) (by omega) (if_pos (by omega)) d_C_level_17 ?_
    refine hl_calli hh (hl_runV (k := 1) X hK hh (c_H_failingPlace l g _ L1 f0 T1 ad n a0 lO wk zL gn G pr sn sp ix wb y hn k1 k2 (k4 trivial).1.1 (b (20 + j)) (st j) (hB1.1 (20 + j) (by omega)).1 (hB1.2.2.2.2.2.2.2.2.2 j (by omega)) (hl_ne (T := T1) (by rw [(hB1.1 (20 + j) (by omega)).2, k1.2.2.1.2.2]; omega)) (hst j hj)) wc_H_failingPlace w_323 w_6 wi_H_failingPlace ws_H_failingPlace (by decide +kernel) rfl rfl ⟨Nat.le_of_ble_eq_true rfl, Nat.le_of_ble_eq_true rfl⟩ k1.1.1 k1.1.2.1 rfl rfl rfl rfl (Nat.le_of_ble_eq_true rfl) hl.1 d_C_level_18 ⟨Nat.le_of_eq (Nat.zero_add _), Nat.le_of_eq (Nat.zero_add _)⟩) (fun r u H locs hp hh => ?_)
    obtain ⟨i0, x, hi0, rfl, hx, rfl, hx1, hx2⟩ := hp
    have hlv := lv_of (k4 trivial) hi0 hx hx1 hx2
    have t9 := k1.2.2.1.2.2
    have hB2 : cg_B g L1 (va_up f0 wk (hl_nat g n (x ∘ st j))) T1 b n mm sm mv st zp zd (.ref a0) 0 := cg_B_congr hB1 (fun q h => ⟨h, rfl⟩) (fun q _ ht => va_up_ne _ _ (hl_ne (T := T1) (by omega)))
    have k6 : cg_ch g L1 (va_up f0 wk (hl_nat g n (x ∘ st j))) T1 n mm mv a0 True := ⟨lO, wk, ad, zL, gn, G, pr, sn, sp, ix, wb, _, cn_work hn k1 _, k2, k3, k4⟩
    have hR2 := cg_R_fr (f := f) (made := true) hL1 (fun q hq ht => (va_up_ne _ _ (hl_ne (T := T1) (by rw [t9, (hL1 q hq).2]; omega))).trans (hfr2 q hq ht)) hB2 k6 hW
    refine lv_goto (tgt := 25) X.1 X.2.1 d_C_level_21 (by decide) ?_
    exact hm_iret X hr hlk hh (hpo _ _ (Or.inr ⟨j, i0, hj, rfl, hlv, rfl, hR2⟩)) (Nat.le_of_eq (Nat.zero_add _)) (Nat.le_of_eq (Nat.zero_add _)) d_C_level_25

/-- int member(int state) -/
theorem c_C_member (l : Launch) (g : hl_G) (sz : Nat) (L : List Nat) (f : Nat → va_E) (T : Nat → Nat) (b : Nat → Nat) (n mm sm : Nat) (mv st : Nat → Nat → Nat) (made : Bool) (hI : cg_I g L f T b n mm sm mv st made) (mc ms : Nat) (hmc : made = false → mc = 1601 ∧ ms = 40003) (q1 : Int32) (post : Int32 → List Nat × (Nat → va_E) → Prop) (hpo : ∀ r u, (ip q1 sm = false ∧ r = -1 ∧ u = (L, f)) ∨ (∃ j k, j < sm ∧ q1 = nI j ∧ ch_lv (gp_gen (mv_T mv mm)) n (st j) k ∧ r = (if k = n then nI 1 else nI 0) ∧ cg_R g L f T b n mm sm mv st true u) → post r u) :
    Met l y_C_member (hq y_C_member b_C_member 2 (some .int)) { frames := 6, cells := mc, slots := ms, locals := 230 } (hm_P g [.ref (b 0), .int q1] sz L f) (va_Qi (post) (hm_B g sz L) (hm_A sz L)) mc ms (hm_A sz L) := by
  refine hm_ofW (by decide) (Nat.le_of_ble_eq_true rfl) ?_
  intro p e s m below meth c X hr hlk hnm hK hsz hh ls hl
  have hl : lv_has ls 2 [(0, .ref (b 0)), (1, .int q1)] := hl
  obtain ⟨zp, zd, cv, fl, hB, hC, hW, hmd⟩ := id hI
  obtain ⟨hn0, hn, hmm, hsm, hmv, hst⟩ := id hW
  rcases ip_cases q1 (n := sm) (by omega) with h1 | ⟨j, hj, rfl⟩
  · skip
    refine lv_aload_n X.1 X.2.1 d_C_member_0 rfl (lv_at hl 0 rfl) ?_
    refine lv_iload_n X.1 X.2.1 d_C_member_1 rfl (lv_at hl 1 rfl) ?_
    refine hl_calli hh (hl_runV (k := 1) X hK hh (c_C_isState l g _ L f (b 0) sm _ _ _ _ .null _ _ _ _ q1 (hB.1 0 (by omega)).1 hB.2.1 (by omega)) wc_C_isState w_298 w_1 wi_C_isState ws_C_isState (by decide +kernel) rfl rfl ⟨Nat.le_of_ble_eq_true rfl, Nat.le_of_ble_eq_true rfl⟩ (hB.1 0 (by omega)).1 hB.2.1 rfl rfl rfl rfl (Nat.le_of_ble_eq_true rfl) hl.1 d_C_member_2 ⟨Nat.zero_le _, Nat.zero_le _⟩) (fun r u H locs hp hh => ?_)
    obtain ⟨hr1, rfl⟩ := hp
    rw [h1] at hr1
    subst hr1
    refine lv_if_ne (tgt := 10) X.1 X.2.1 d_C_member_5 (by decide) (fun hc => absurd (by decide) hc) (fun _ => ?_)
    refine lv_iconst (v := -1) X.1 X.2.1 d_C_member_8 (by decide) ?_
    exact hm_iret X hr hlk hh (hpo _ _ (Or.inl ⟨h1, rfl, rfl⟩)) (Nat.zero_le _) (Nat.zero_le _) d_C_member_9
  · have h1 := ip_in (by omega : sm < 2 ^ 31) hj
    refine lv_aload_n X.1 X.2.1 d_C_member_0 rfl (lv_at hl 0 rfl) ?_
    refine lv_iload_n X.1 X.2.1 d_C_member_1 rfl (lv_at hl 1 rfl) ?_
    refine hl_calli hh (hl_runV (k := 1) X hK hh (c_C_isState l g _ L f (b 0) sm _ _ _ _ .null _ _ _ _ (nI j) (hB.1 0 (by omega)).1 hB.2.1 (by omega)) wc_C_isState w_298 w_1 wi_C_isState ws_C_isState (by decide +kernel) rfl rfl ⟨Nat.le_of_ble_eq_true rfl, Nat.le_of_ble_eq_true rfl⟩ (hB.1 0 (by omega)).1 hB.2.1 rfl rfl rfl rfl (Nat.le_of_ble_eq_true rfl) hl.1 d_C_member_2 ⟨Nat.zero_le _, Nat.zero_le _⟩) (fun r u H locs hp hh => ?_)
    obtain ⟨hr1, rfl⟩ := hp
    rw [h1] at hr1
    subst hr1
    refine lv_if_ne (tgt := 10) X.1 X.2.1 d_C_member_5 (by decide) (fun _ => ?_) (fun hc => absurd hc (by decide))
    refine lv_aload_n X.1 X.2.1 d_C_member_10 rfl (lv_at hl 0 rfl) ?_
    refine hl_callr2 hh (hl_runV (k := 0) X hK hh (c_C_freshChain l g _ L f T b n mm sm mv st zp zd cv fl mc ms hB hW hC (fun e0 => hmc (Bool.eq_false_iff.2 (fun h => hmd h e0)))) wc_C_freshChain w_98 w_1 wi_C_freshChain ws_C_freshChain (by decide +kernel) rfl rfl ⟨Nat.le_of_ble_eq_true rfl, Nat.le_of_ble_eq_true rfl⟩ (hB.1 0 (by omega)).1 hB.2.1 rfl rfl rfl rfl (Nat.le_of_ble_eq_true rfl) hl.1 d_C_member_11 ⟨Nat.le_of_eq (Nat.zero_add _), Nat.le_of_eq (Nat.zero_add _)⟩) (fun a0 u H locs hp hh => ?_)
    obtain ⟨f1, T1, hu2, hL1, hfr1, hB1, hch1⟩ := hp
    obtain ⟨L1, f0⟩ := u
    have hu2 : f0 = f1 := hu2
    subst hu2
    have hB1 : cg_B g L1 f0 T1 b n mm sm mv st zp zd (.ref a0) 0 := hB1
    have hch0 : cg_ch g L1 f0 T1 n mm mv a0 True := hch1
    obtain ⟨lO, wk, ad, zL, gn, G, pr, sn, sp, ix, wb, y, k1, k2, k3, k4⟩ := id hch0
    have hh : hl_H g (hm_A sz L) s.heap L1 f0 H locs := hh
    have hsz0 := sz_of (k4 trivial)
    have hsn : ∀ i, i < n → sn i ≤ n - i := fun i hi => (k2 i hi).2.2.2.2.2.1
    have t0 : T (b 0) = 0 := (hB.1 0 (by omega)).2
    have hfr2 : ∀ q, q ∈ L → 20000 ≤ T q → f0 q = f q := fun q hq ht => hfr1 q hq (cn_own_of (by omega)) (hl_ne (T := T) (by omega))
    have hR := cg_R_fr (made := true) hL1 hfr2 hB1 hch0 hW
    refine lv_aload_n X.1 X.2.1 d_C_member_14 rfl (lv_at hl 0 rfl) ?_
    refine hl_get X hK hh (ref := "CycleGroups") i_C (ci := 0) rfl 3 (by decide) w_50 rfl (hB1.1 0 (by omega)).1 hB1.2.1 rfl d_C_member_15 ?_
    refine lv_iload_n X.1 X.2.1 d_C_member_18 rfl (lv_at hl 1 rfl) ?_
    refine hl_aaldG X hK hh (hB1.1 2 (by omega)).1 hB1.2.2.2.1 (by omega) (by omega) (if_pos (by omega)) d_C_member_19 ?_
    refine hl_calli hh (hl_runV (k := 1) X hK hh (c_H_failingPlace l g _ L1 f0 T1 ad n a0 lO wk zL gn G pr sn sp ix wb y hn k1 k2 (k4 trivial).1.1 (b (20 + j)) (st j) (hB1.1 (20 + j) (by omega)).1 (hB1.2.2.2.2.2.2.2.2.2 j (by omega)) (hl_ne (T := T1) (by rw [(hB1.1 (20 + j) (by omega)).2, k1.2.2.1.2.2]; omega)) (hst j hj)) wc_H_failingPlace w_323 w_6 wi_H_failingPlace ws_H_failingPlace (by decide +kernel) rfl rfl ⟨Nat.le_of_ble_eq_true rfl, Nat.le_of_ble_eq_true rfl⟩ k1.1.1 k1.1.2.1 rfl rfl rfl rfl (Nat.le_of_ble_eq_true rfl) hl.1 d_C_member_20 ⟨Nat.le_of_eq (Nat.zero_add _), Nat.le_of_eq (Nat.zero_add _)⟩) (fun r u H locs hp hh => ?_)
    obtain ⟨i0, x, hi0, rfl, hx, rfl, hx1, hx2⟩ := hp
    have hlv := lv_of (k4 trivial) hi0 hx hx1 hx2
    have t9 := k1.2.2.1.2.2
    have hB2 : cg_B g L1 (va_up f0 wk (hl_nat g n (x ∘ st j))) T1 b n mm sm mv st zp zd (.ref a0) 0 := cg_B_congr hB1 (fun q h => ⟨h, rfl⟩) (fun q _ ht => va_up_ne _ _ (hl_ne (T := T1) (by omega)))
    have k6 : cg_ch g L1 (va_up f0 wk (hl_nat g n (x ∘ st j))) T1 n mm mv a0 True := ⟨lO, wk, ad, zL, gn, G, pr, sn, sp, ix, wb, _, cn_work hn k1 _, k2, k3, k4⟩
    have hR2 := cg_R_fr (f := f) (made := true) hL1 (fun q hq ht => (va_up_ne _ _ (hl_ne (T := T1) (by rw [t9, (hL1 q hq).2]; omega))).trans (hfr2 q hq ht)) hB2 k6 hW
    refine lv_aload_n X.1 X.2.1 d_C_member_23 rfl (lv_at hl 0 rfl) ?_
    refine hl_get X hK hh (ref := "CycleGroups") i_C (ci := 0) rfl 0 (by decide) w_47 rfl (hB2.1 0 (by omega)).1 hB2.2.1 rfl d_C_member_24 ?_
    refine hn_ine (tgt := 34) X (by omega) (by omega) d_C_member_27 (by decide) (fun hc => ?_) (fun hc => ?_)
    · have hc1 : ¬ i0 = n := hc
      refine lv_iconst (v := nI 0) X.1 X.2.1 d_C_member_34 (by decide) ?_
      exact hm_iret X hr hlk hh (hpo _ _ (Or.inr ⟨j, i0, hj, rfl, hlv, by rw [if_neg hc1], hR2⟩)) (Nat.le_of_eq (Nat.zero_add _)) (Nat.le_of_eq (Nat.zero_add _)) d_C_member_35
    · have hc1 : i0 = n := hc
      refine lv_iconst (v := nI 1) X.1 X.2.1 d_C_member_30 (by decide) ?_
      refine lv_goto (tgt := 35) X.1 X.2.1 d_C_member_31 (by decide) ?_
      exact hm_iret X hr hlk hh (hpo _ _ (Or.inr ⟨j, i0, hj, rfl, hlv, by rw [if_pos hc1], hR2⟩)) (Nat.le_of_eq (Nat.zero_add _)) (Nat.le_of_eq (Nat.zero_add _)) d_C_member_35

/-- the partition's row changed, and nothing else -/
theorem cg_R_zp {g : hl_G} {L : List Nat} {f : Nat → va_E} {T : Nat → Nat} {b : Nat → Nat} {n mm sm : Nat} {mv st : Nat → Nat → Nat} {made : Bool} (hI : cg_I g L f T b n mm sm mv st made) (x : Nat → Nat) : cg_R g L f T b n mm sm mv st made (L, va_up f (b 4) (hl_nat g n x)) := by
  obtain ⟨zp, zd, cv, fl, hB, hC, hW, hmd⟩ := hI
  have tm := (hB.1 4 (by omega)).2
  refine ⟨T, fun q h => ⟨h, rfl⟩, fun q hq ht => va_up_ne _ _ (hl_ne (T := T) (by omega)), x, zd, cv, fl, cg_zpr hB x, ?_, hW, hmd⟩
  refine cg_C_congr hW.2.1 hC (fun q hq => ?_) hC.1 (fun e0 => e0) (fun _ _ => Iff.rfl)
  have h2 : T q ≠ 4 := fun e0 => cn_own_of (by omega) hq
  exact va_up_ne _ _ (hl_ne (T := T) (by rw [tm]; exact h2))

theorem cg_rows {g : hl_G} {L : List Nat} {f : Nat → va_E} {T : Nat → Nat} {b : Nat → Nat} {n mm sm : Nat} {mv st : Nat → Nat → Nat} {zp zd : Nat → Nat} {cv : Value} {fl : Int32} (hB : cg_B g L f T b n mm sm mv st zp zd cv fl) (hmm : mm ≤ 10) : hl_rows g L f n (fun i => if i < 10 then some (b (10 + i)) else none) (fun i => b (10 + i)) mv mm :=
  fun i hi => ⟨if_pos (by omega), (hB.1 (10 + i) (by omega)).1, hB.2.2.2.2.2.2.2.2.1 i (by omega)⟩
theorem cg_ne {g : hl_G} {L : List Nat} {f : Nat → va_E} {T : Nat → Nat} {b : Nat → Nat} {n mm sm : Nat} {mv st : Nat → Nat → Nat} {zp zd : Nat → Nat} {cv : Value} {fl : Int32} (hB : cg_B g L f T b n mm sm mv st zp zd cv fl) {x y : Nat} (hx : x < 7 ∨ (10 ≤ x ∧ x < 40)) (hy : y < 7 ∨ (10 ≤ y ∧ y < 40)) (h : x ≠ y) : b x ≠ b y :=
  hl_ne (T := T) (by rw [(hB.1 x hx).2, (hB.1 y hy).2]; exact h)
theorem pt_orb1_lt {m z : Nat → Nat} {n : Nat} (hz : ∀ p, p < n → z p < n) (hm : ∀ p, p < n → m p < n) : ∀ k, k ≤ n → ∀ p, p < n → pt_orb1 m z k p < n := by
  intro k
  induction k with
  | zero => intro _; exact hz
  | succ k ih =>
    intro hk
    exact pt_join_lt (ih (by omega)) (by omega) (hm k (by omega))
theorem pt_orb_lt {mv : Nat → Nat → Nat} {z : Nat → Nat} {n : Nat} (hz : ∀ p, p < n → z p < n) : ∀ c, (∀ i, i < c → ∀ p, p < n → mv i p < n) → ∀ p, p < n → pt_orb mv n z c p < n := by
  intro c
  induction c with
  | zero => intro _; exact hz
  | succ c ih =>
    intro hm
    exact pt_orb1_lt (ih (fun i hi => hm i (by omega))) (hm c (by omega)) n (Nat.le_refl _)

theorem pt_rnd_lt {mv : Nat → Nat → Nat} {z : Nat → Nat} {n : Nat} (hz : ∀ p, p < n → z p < n) : ∀ c, (∀ i, i < c → ∀ p, p < n → mv i p < n) → ∀ p, p < n → (pt_rnd mv n z c).1 p < n := by
  intro c
  induction c with
  | zero => intro _; exact hz
  | succ c ih =>
    intro hm
    exact pt_im1_lt (ih (fun i hi => hm i (by omega))) (hm c (by omega)) n (Nat.le_refl _)
theorem pt_blk_lt {mv : Nat → Nat → Nat} {n c : Nat} (hm : ∀ i, i < c → ∀ p, p < n → mv i p < n) : ∀ k z, (∀ p, p < n → z p < n) → ∀ p, p < n → pt_blk mv n c k z p < n
  | 0, _, hz => hz
  | k + 1, z, hz => by
    have h1 := pt_rnd_lt hz c hm
    show ∀ p, p < n → (if (pt_rnd mv n z c).2 then pt_blk mv n c k (pt_rnd mv n z c).1 else (pt_rnd mv n z c).1) p < n
    by_cases h : (pt_rnd mv n z c).2
    · rw [if_pos h]; exact pt_blk_lt hm k _ h1
    · rw [if_neg h]; exact h1
theorem pt_size_pos (z : Nat → Nat) {j : Nat} : ∀ {n : Nat}, j < n → 0 < pt_size z j n
  | 0, h => absurd h (Nat.not_lt_zero _)
  | n + 1, h => by
    show 0 < (if z n = z j then pt_size z j n + 1 else pt_size z j n)
    by_cases e : j = n
    · subst e; rw [if_pos rfl]; omega
    · have := pt_size_pos z (j := j) (n := n) (by omega)
      split <;> omega

/-- int orbit(int place) -/
theorem c_C_orbit (l : Launch) (g : hl_G) (sz : Nat) (L : List Nat) (f : Nat → va_E) (T : Nat → Nat) (b : Nat → Nat) (n mm sm : Nat) (mv st : Nat → Nat → Nat) (made : Bool) (hI : cg_I g L f T b n mm sm mv st made) (q1 : Int32) (post : Int32 → List Nat × (Nat → va_E) → Prop) (hpo : ∀ r u, (ip q1 n = false ∧ r = -1 ∧ u = (L, f)) ∨ (∃ j, j < n ∧ q1 = nI j ∧ r = nI (pt_orb mv n id mm j) ∧ cg_R g L f T b n mm sm mv st made u) → post r u) :
    Met l y_C_orbit (hq y_C_orbit b_C_orbit 2 (some .int)) { frames := 4, cells := 0, slots := 0, locals := 110 } (hm_P g [.ref (b 0), .int q1] sz L f) (va_Qi (post) (hm_B g sz L) (hm_A sz L)) 0 0 (hm_A sz L) := by
  refine hm_ofW (by decide) (Nat.le_of_ble_eq_true rfl) ?_
  intro p e s m below meth c X hr hlk hnm hK hsz hh ls hl
  have hl : lv_has ls 2 [(0, .ref (b 0)), (1, .int q1)] := hl
  obtain ⟨zp, zd, cv, fl, hB, hC, hW, hmd⟩ := id hI
  obtain ⟨hn0, hn, hmm, hsm, hmv, hst⟩ := id hW
  have n34 : b 3 ≠ b 4 := cg_ne hB (by omega) (by omega) (by decide)
  rcases ip_cases q1 (n := n) (by omega) with h1 | ⟨j, hj, rfl⟩
  · skip
    refine lv_aload_n X.1 X.2.1 d_C_orbit_0 rfl (lv_at hl 0 rfl) ?_
    refine lv_iload_n X.1 X.2.1 d_C_orbit_1 rfl (lv_at hl 1 rfl) ?_
    refine hl_calli hh (hl_runV (k := 1) X hK hh (c_C_isPlace l g _ L f (b 0) n .null _ _ _ _ _ _ _ _ q1 (hB.1 0 (by omega)).1 hB.2.1 (by omega)) wc_C_isPlace w_90 w_1 wi_C_isPlace ws_C_isPlace (by decide +kernel) rfl rfl ⟨Nat.le_of_ble_eq_true rfl, Nat.le_of_ble_eq_true rfl⟩ (hB.1 0 (by omega)).1 hB.2.1 rfl rfl rfl rfl (Nat.le_of_ble_eq_true rfl) hl.1 d_C_orbit_2 ⟨Nat.le_of_ble_eq_true rfl, Nat.le_of_ble_eq_true rfl⟩) (fun r u H locs hp hh => ?_)
    obtain ⟨hr1, rfl⟩ := hp
    rw [h1] at hr1
    subst hr1
    refine lv_if_ne (tgt := 10) X.1 X.2.1 d_C_orbit_5 (by decide) (fun hc => absurd (by decide) hc) (fun _ => ?_)
    refine lv_iconst (v := -1) X.1 X.2.1 d_C_orbit_8 (by decide) ?_
    exact hm_iret X hr hlk hh (hpo _ _ (Or.inl ⟨h1, rfl, rfl⟩)) (Nat.le_of_ble_eq_true rfl) (Nat.le_of_ble_eq_true rfl) d_C_orbit_9
  · have h1 := ip_in (by omega : n < 2 ^ 31) hj
    refine lv_aload_n X.1 X.2.1 d_C_orbit_0 rfl (lv_at hl 0 rfl) ?_
    refine lv_iload_n X.1 X.2.1 d_C_orbit_1 rfl (lv_at hl 1 rfl) ?_
    refine hl_calli hh (hl_runV (k := 1) X hK hh (c_C_isPlace l g _ L f (b 0) n .null _ _ _ _ _ _ _ _ (nI j) (hB.1 0 (by omega)).1 hB.2.1 (by omega)) wc_C_isPlace w_90 w_1 wi_C_isPlace ws_C_isPlace (by decide +kernel) rfl rfl ⟨Nat.le_of_ble_eq_true rfl, Nat.le_of_ble_eq_true rfl⟩ (hB.1 0 (by omega)).1 hB.2.1 rfl rfl rfl rfl (Nat.le_of_ble_eq_true rfl) hl.1 d_C_orbit_2 ⟨Nat.le_of_ble_eq_true rfl, Nat.le_of_ble_eq_true rfl⟩) (fun r u H locs hp hh => ?_)
    obtain ⟨hr1, rfl⟩ := hp
    rw [h1] at hr1
    subst hr1
    refine lv_if_ne (tgt := 10) X.1 X.2.1 d_C_orbit_5 (by decide) (fun _ => ?_) (fun hc => absurd hc (by decide))
    refine lv_aload_n X.1 X.2.1 d_C_orbit_10 rfl (lv_at hl 0 rfl) ?_
    refine hl_get X hK hh (ref := "CycleGroups") i_C (ci := 0) rfl 5 (by decide) w_52 rfl (hB.1 0 (by omega)).1 hB.2.1 rfl d_C_orbit_11 ?_
    refine hl_callv hh (hl_runV (k := 0) X hK hh (c_P_separate l g _ L f (b 3) (b 4) n zp (hB.1 3 (by omega)).1 hB.2.2.2.2.1 (hB.1 4 (by omega)).1 hB.2.2.2.2.2.1 hn) wc_P_separate w_246 w_3 wi_P_separate ws_P_separate (by decide +kernel) rfl rfl ⟨Nat.le_of_ble_eq_true rfl, Nat.le_of_ble_eq_true rfl⟩ (hB.1 3 (by omega)).1 hB.2.2.2.2.1 rfl rfl rfl rfl (Nat.le_of_ble_eq_true rfl) hl.1 d_C_orbit_14 ⟨Nat.le_of_ble_eq_true rfl, Nat.le_of_ble_eq_true rfl⟩) (fun u H locs hp hh => ?_)
    subst hp
    have hB1 := cg_zpr hB id
    refine lv_aload_n X.1 X.2.1 d_C_orbit_17 rfl (lv_at hl 0 rfl) ?_
    refine hl_get X hK hh (ref := "CycleGroups") i_C (ci := 0) rfl 5 (by decide) w_52 rfl (hB1.1 0 (by omega)).1 hB1.2.1 rfl d_C_orbit_18 ?_
    refine lv_aload_n X.1 X.2.1 d_C_orbit_21 rfl (lv_at hl 0 rfl) ?_
    refine hl_get X hK hh (ref := "CycleGroups") i_C (ci := 0) rfl 1 (by decide) w_48 rfl (hB1.1 0 (by omega)).1 hB1.2.1 rfl d_C_orbit_22 ?_
    refine lv_aload_n X.1 X.2.1 d_C_orbit_25 rfl (lv_at hl 0 rfl) ?_
    refine hl_get X hK hh (ref := "CycleGroups") i_C (ci := 0) rfl 2 (by decide) w_49 rfl (hB1.1 0 (by omega)).1 hB1.2.1 rfl d_C_orbit_26 ?_
    refine hl_callv hh (hl_runV (k := 2) X hK hh (c_P_joinOrbits l g _ L _ (b 3) (b 4) n (b 1) mm id _ (fun i => b (10 + i)) mv (hB1.1 3 (by omega)).1 hB1.2.2.2.2.1 (hB1.1 4 (by omega)).1 (va_up_self ..) n34 hn (fun p hp => hp) (hB1.1 1 (by omega)).1 hB1.2.2.1 hmm (cg_rows hB1 hmm) (cg_ne hB (by omega) (by omega) (by decide)) (fun i hi => cg_ne hB (by omega) (by omega) (by omega)) (fun i hi p hp => lk_sym_lt (hmv i hi) hp)) wc_P_joinOrbits w_251 w_3 wi_P_joinOrbits ws_P_joinOrbits (by decide +kernel) rfl rfl ⟨Nat.le_of_ble_eq_true rfl, Nat.le_of_ble_eq_true rfl⟩ (hB1.1 3 (by omega)).1 hB1.2.2.2.2.1 rfl rfl rfl rfl (Nat.le_of_ble_eq_true rfl) hl.1 d_C_orbit_29 ⟨Nat.le_of_ble_eq_true rfl, Nat.le_of_ble_eq_true rfl⟩) (fun u H locs hp hh => ?_)
    subst hp
    have hh : hl_H g (hm_A sz L) s.heap L (va_up (va_up f (b 4) (hl_nat g n id)) (b 4) (hl_nat g n (pt_orb mv n id mm))) H locs := hh
    rw [hr_uu] at hh
    have hB2 := cg_zpr hB (pt_orb mv n id mm)
    refine lv_aload_n X.1 X.2.1 d_C_orbit_32 rfl (lv_at hl 0 rfl) ?_
    refine hl_get X hK hh (ref := "CycleGroups") i_C (ci := 0) rfl 5 (by decide) w_52 rfl (hB2.1 0 (by omega)).1 hB2.2.1 rfl d_C_orbit_33 ?_
    refine lv_iload_n X.1 X.2.1 d_C_orbit_36 rfl (lv_at hl 1 rfl) ?_
    refine hl_calli hh (hl_runV (k := 1) X hK hh (c_P_leastWith l g _ L _ (b 3) (b 4) n j _ (hB2.1 3 (by omega)).1 hB2.2.2.2.2.1 (hB2.1 4 (by omega)).1 (va_up_self ..) hn hj) wc_P_leastWith w_273 w_3 wi_P_leastWith ws_P_leastWith (by decide +kernel) rfl rfl ⟨Nat.le_of_ble_eq_true rfl, Nat.le_of_ble_eq_true rfl⟩ (hB2.1 3 (by omega)).1 hB2.2.2.2.2.1 rfl rfl rfl rfl (Nat.le_of_ble_eq_true rfl) hl.1 d_C_orbit_37 ⟨Nat.le_of_ble_eq_true rfl, Nat.le_of_ble_eq_true rfl⟩) (fun r u H locs hp hh => ?_)
    obtain ⟨rfl, rfl⟩ := hp
    exact hm_iret X hr hlk hh (hpo _ _ (Or.inr ⟨j, hj, rfl, rfl, cg_R_zp hI _⟩)) (Nat.le_of_ble_eq_true rfl) (Nat.le_of_ble_eq_true rfl) d_C_orbit_40

/-- int block(int a, int b) -/
theorem c_C_block (l : Launch) (g : hl_G) (sz : Nat) (L : List Nat) (f : Nat → va_E) (T : Nat → Nat) (b : Nat → Nat) (n mm sm : Nat) (mv st : Nat → Nat → Nat) (made : Bool) (hI : cg_I g L f T b n mm sm mv st made) (q1 q2 : Int32) (post : Int32 → List Nat × (Nat → va_E) → Prop) (hpo : ∀ r u, ((ip q1 n = false ∨ ip q2 n = false) ∧ r = -1 ∧ u = (L, f)) ∨ (∃ j k, j < n ∧ k < n ∧ q1 = nI j ∧ q2 = nI k ∧ r = nI (pt_size (pt_blk mv n mm n (pt_join id j k)) j n) ∧ cg_R g L f T b n mm sm mv st made u) → post r u) :
    Met l y_C_block (hq y_C_block b_C_block 3 (some .int)) { frames := 4, cells := 0, slots := 0, locals := 110 } (hm_P g [.ref (b 0), .int q1, .int q2] sz L f) (va_Qi (post) (hm_B g sz L) (hm_A sz L)) 0 0 (hm_A sz L) := by
  refine hm_ofW (by decide) (Nat.le_of_ble_eq_true rfl) ?_
  intro p e s m below meth c X hr hlk hnm hK hsz hh ls hl
  have hl : lv_has ls 3 [(0, .ref (b 0)), (1, .int q1), (2, .int q2)] := hl
  obtain ⟨zp, zd, cv, fl, hB, hC, hW, hmd⟩ := id hI
  obtain ⟨hn0, hn, hmm, hsm, hmv, hst⟩ := id hW
  have n34 : b 3 ≠ b 4 := cg_ne hB (by omega) (by omega) (by decide)
  rcases ip_cases q1 (n := n) (by omega) with h1 | ⟨j, hj, rfl⟩
  · skip
    refine lv_aload_n X.1 X.2.1 d_C_block_0 rfl (lv_at hl 0 rfl) ?_
    refine lv_iload_n X.1 X.2.1 d_C_block_1 rfl (lv_at hl 1 rfl) ?_
    refine hl_calli hh (hl_runV (k := 1) X hK hh (c_C_isPlace l g _ L f (b 0) n .null _ _ _ _ _ _ _ _ q1 (hB.1 0 (by omega)).1 hB.2.1 (by omega)) wc_C_isPlace w_90 w_1 wi_C_isPlace ws_C_isPlace (by decide +kernel) rfl rfl ⟨Nat.le_of_ble_eq_true rfl, Nat.le_of_ble_eq_true rfl⟩ (hB.1 0 (by omega)).1 hB.2.1 rfl rfl rfl rfl (Nat.le_of_ble_eq_true rfl) hl.1 d_C_block_2 ⟨Nat.le_of_ble_eq_true rfl, Nat.le_of_ble_eq_true rfl⟩) (fun r u H locs hp hh => ?_)
    obtain ⟨hr1, rfl⟩ := hp
    rw [h1] at hr1
    subst hr1
    refine lv_if_eq (tgt := 16) X.1 X.2.1 d_C_block_5 (by decide) (fun _ => ?_) (fun hc => absurd (by decide) hc)
    refine lv_iconst (v := -1) X.1 X.2.1 d_C_block_16 (by decide) ?_
    exact hm_iret X hr hlk hh (hpo _ _ (Or.inl ⟨Or.inl h1, rfl, rfl⟩)) (Nat.le_of_ble_eq_true rfl) (Nat.le_of_ble_eq_true rfl) d_C_block_17
  · have h1 := ip_in (by omega : n < 2 ^ 31) hj
    rcases ip_cases q2 (n := n) (by omega) with h2 | ⟨k, hk, rfl⟩
    · skip
      refine lv_aload_n X.1 X.2.1 d_C_block_0 rfl (lv_at hl 0 rfl) ?_
      refine lv_iload_n X.1 X.2.1 d_C_block_1 rfl (lv_at hl 1 rfl) ?_
      refine hl_calli hh (hl_runV (k := 1) X hK hh (c_C_isPlace l g _ L f (b 0) n .null _ _ _ _ _ _ _ _ (nI j) (hB.1 0 (by omega)).1 hB.2.1 (by omega)) wc_C_isPlace w_90 w_1 wi_C_isPlace ws_C_isPlace (by decide +kernel) rfl rfl ⟨Nat.le_of_ble_eq_true rfl, Nat.le_of_ble_eq_true rfl⟩ (hB.1 0 (by omega)).1 hB.2.1 rfl rfl rfl rfl (Nat.le_of_ble_eq_true rfl) hl.1 d_C_block_2 ⟨Nat.le_of_ble_eq_true rfl, Nat.le_of_ble_eq_true rfl⟩) (fun r u H locs hp hh => ?_)
      obtain ⟨hr1, rfl⟩ := hp
      rw [h1] at hr1
      subst hr1
      refine lv_if_eq (tgt := 16) X.1 X.2.1 d_C_block_5 (by decide) (fun hc => absurd hc (by decide)) (fun _ => ?_)
      refine lv_aload_n X.1 X.2.1 d_C_block_8 rfl (lv_at hl 0 rfl) ?_
      refine lv_iload_n X.1 X.2.1 d_C_block_9 rfl (lv_at hl 2 rfl) ?_
      refine hl_calli hh (hl_runV (k := 1) X hK hh (c_C_isPlace l g _ L f (b 0) n .null _ _ _ _ _ _ _ _ q2 (hB.1 0 (by omega)).1 hB.2.1 (by omega)) wc_C_isPlace w_90 w_1 wi_C_isPlace ws_C_isPlace (by decide +kernel) rfl rfl ⟨Nat.le_of_ble_eq_true rfl, Nat.le_of_ble_eq_true rfl⟩ (hB.1 0 (by omega)).1 hB.2.1 rfl rfl rfl rfl (Nat.le_of_ble_eq_true rfl) hl.1 d_C_block_10 ⟨Nat.le_of_ble_eq_true rfl, Nat.le_of_ble_eq_true rfl⟩) (fun r u H locs hp hh => ?_)
      obtain ⟨hr1, rfl⟩ := hp
      rw [h2] at hr1
      subst hr1
      refine lv_if_ne (tgt := 18) X.1 X.2.1 d_C_block_13 (by decide) (fun hc => absurd (by decide) hc) (fun _ => ?_)
      refine lv_iconst (v := -1) X.1 X.2.1 d_C_block_16 (by decide) ?_
      exact hm_iret X hr hlk hh (hpo _ _ (Or.inl ⟨Or.inr h2, rfl, rfl⟩)) (Nat.le_of_ble_eq_true rfl) (Nat.le_of_ble_eq_true rfl) d_C_block_17
    · have h2 := ip_in (by omega : n < 2 ^ 31) hk
      refine lv_aload_n X.1 X.2.1 d_C_block_0 rfl (lv_at hl 0 rfl) ?_
      refine lv_iload_n X.1 X.2.1 d_C_block_1 rfl (lv_at hl 1 rfl) ?_
      refine hl_calli hh (hl_runV (k := 1) X hK hh (c_C_isPlace l g _ L f (b 0) n .null _ _ _ _ _ _ _ _ (nI j) (hB.1 0 (by omega)).1 hB.2.1 (by omega)) wc_C_isPlace w_90 w_1 wi_C_isPlace ws_C_isPlace (by decide +kernel) rfl rfl ⟨Nat.le_of_ble_eq_true rfl, Nat.le_of_ble_eq_true rfl⟩ (hB.1 0 (by omega)).1 hB.2.1 rfl rfl rfl rfl (Nat.le_of_ble_eq_true rfl) hl.1 d_C_block_2 ⟨Nat.le_of_ble_eq_true rfl, Nat.le_of_ble_eq_true rfl⟩) (fun r u H locs hp hh => ?_)
      obtain ⟨hr1, rfl⟩ := hp
      rw [h1] at hr1
      subst hr1
      refine lv_if_eq (tgt := 16) X.1 X.2.1 d_C_block_5 (by decide) (fun hc => absurd hc (by decide)) (fun _ => ?_)
      refine lv_aload_n X.1 X.2.1 d_C_block_8 rfl (lv_at hl 0 rfl) ?_
      refine lv_iload_n X.1 X.2.1 d_C_block_9 rfl (lv_at hl 2 rfl) ?_
      refine hl_calli hh (hl_runV (k := 1) X hK hh (c_C_isPlace l g _ L f (b 0) n .null _ _ _ _ _ _ _ _ (nI k) (hB.1 0 (by omega)).1 hB.2.1 (by omega)) wc_C_isPlace w_90 w_1 wi_C_isPlace ws_C_isPlace (by decide +kernel) rfl rfl ⟨Nat.le_of_ble_eq_true rfl, Nat.le_of_ble_eq_true rfl⟩ (hB.1 0 (by omega)).1 hB.2.1 rfl rfl rfl rfl (Nat.le_of_ble_eq_true rfl) hl.1 d_C_block_10 ⟨Nat.le_of_ble_eq_true rfl, Nat.le_of_ble_eq_true rfl⟩) (fun r u H locs hp hh => ?_)
      obtain ⟨hr1, rfl⟩ := hp
      rw [h2] at hr1
      subst hr1
      refine lv_if_ne (tgt := 18) X.1 X.2.1 d_C_block_13 (by decide) (fun _ => ?_) (fun hc => absurd hc (by decide))
      refine lv_aload_n X.1 X.2.1 d_C_block_18 rfl (lv_at hl 0 rfl) ?_
      refine hl_get X hK hh (ref := "CycleGroups") i_C (ci := 0) rfl 5 (by decide) w_52 rfl (hB.1 0 (by omega)).1 hB.2.1 rfl d_C_block_19 ?_
      refine hl_callv hh (hl_runV (k := 0) X hK hh (c_P_separate l g _ L f (b 3) (b 4) n zp (hB.1 3 (by omega)).1 hB.2.2.2.2.1 (hB.1 4 (by omega)).1 hB.2.2.2.2.2.1 hn) wc_P_separate w_246 w_3 wi_P_separate ws_P_separate (by decide +kernel) rfl rfl ⟨Nat.le_of_ble_eq_true rfl, Nat.le_of_ble_eq_true rfl⟩ (hB.1 3 (by omega)).1 hB.2.2.2.2.1 rfl rfl rfl rfl (Nat.le_of_ble_eq_true rfl) hl.1 d_C_block_22 ⟨Nat.le_of_ble_eq_true rfl, Nat.le_of_ble_eq_true rfl⟩) (fun u H locs hp hh => ?_)
      subst hp
      have hB1 := cg_zpr hB id
      refine lv_aload_n X.1 X.2.1 d_C_block_25 rfl (lv_at hl 0 rfl) ?_
      refine hl_get X hK hh (ref := "CycleGroups") i_C (ci := 0) rfl 5 (by decide) w_52 rfl (hB1.1 0 (by omega)).1 hB1.2.1 rfl d_C_block_26 ?_
      refine lv_iload_n X.1 X.2.1 d_C_block_29 rfl (lv_at hl 1 rfl) ?_
      refine lv_iload_n X.1 X.2.1 d_C_block_30 rfl (lv_at hl 2 rfl) ?_
      refine hl_calli hh (hl_runV (k := 2) X hK hh (c_P_join l g _ L _ (b 3) (b 4) n j k id (hB1.1 3 (by omega)).1 hB1.2.2.2.2.1 (hB1.1 4 (by omega)).1 (va_up_self ..) n34 hn (fun p hp => hp) hj hk) wc_P_join w_281 w_3 wi_P_join ws_P_join (by decide +kernel) rfl rfl ⟨Nat.le_of_ble_eq_true rfl, Nat.le_of_ble_eq_true rfl⟩ (hB1.1 3 (by omega)).1 hB1.2.2.2.2.1 rfl rfl rfl rfl (Nat.le_of_ble_eq_true rfl) hl.1 d_C_block_31 ⟨Nat.le_of_ble_eq_true rfl, Nat.le_of_ble_eq_true rfl⟩) (fun r u H locs hp hh => ?_)
      obtain ⟨_, rfl⟩ := hp
      have hh : hl_H g (hm_A sz L) s.heap L (va_up (va_up f (b 4) (hl_nat g n id)) (b 4) (hl_nat g n (pt_join id j k))) H locs := hh
      rw [hr_uu] at hh
      have hjl : ∀ p, p < n → pt_join id j k p < n := pt_join_lt (fun p hp => hp) hj hk
      have hB2 := cg_zpr hB (pt_join id j k)
      refine lv_pop X.1 X.2.1 d_C_block_34 rfl ?_
      refine lv_aload_n X.1 X.2.1 d_C_block_35 rfl (lv_at hl 0 rfl) ?_
      refine hl_get X hK hh (ref := "CycleGroups") i_C (ci := 0) rfl 5 (by decide) w_52 rfl (hB2.1 0 (by omega)).1 hB2.2.1 rfl d_C_block_36 ?_
      refine lv_aload_n X.1 X.2.1 d_C_block_39 rfl (lv_at hl 0 rfl) ?_
      refine hl_get X hK hh (ref := "CycleGroups") i_C (ci := 0) rfl 1 (by decide) w_48 rfl (hB2.1 0 (by omega)).1 hB2.2.1 rfl d_C_block_40 ?_
      refine lv_aload_n X.1 X.2.1 d_C_block_43 rfl (lv_at hl 0 rfl) ?_
      refine hl_get X hK hh (ref := "CycleGroups") i_C (ci := 0) rfl 2 (by decide) w_49 rfl (hB2.1 0 (by omega)).1 hB2.2.1 rfl d_C_block_44 ?_
      refine hl_callv hh (hl_runV (k := 2) X hK hh (c_P_joinImages l g _ L _ (b 3) (b 4) n (b 1) mm (pt_join id j k) _ (fun i => b (10 + i)) mv (hB2.1 3 (by omega)).1 hB2.2.2.2.2.1 (hB2.1 4 (by omega)).1 (va_up_self ..) n34 hn hjl (hB2.1 1 (by omega)).1 hB2.2.2.1 hmm (cg_rows hB2 hmm) (cg_ne hB (by omega) (by omega) (by decide)) (fun i hi => cg_ne hB (by omega) (by omega) (by omega)) (fun i hi p hp => lk_sym_lt (hmv i hi) hp)) wc_P_joinImages w_282 w_3 wi_P_joinImages ws_P_joinImages (by decide +kernel) rfl rfl ⟨Nat.le_of_ble_eq_true rfl, Nat.le_of_ble_eq_true rfl⟩ (hB2.1 3 (by omega)).1 hB2.2.2.2.2.1 rfl rfl rfl rfl (Nat.le_of_ble_eq_true rfl) hl.1 d_C_block_47 ⟨Nat.le_of_ble_eq_true rfl, Nat.le_of_ble_eq_true rfl⟩) (fun u H locs hp hh => ?_)
      subst hp
      have hh : hl_H g (hm_A sz L) s.heap L (va_up (va_up f (b 4) (hl_nat g n (pt_join id j k))) (b 4) (hl_nat g n (pt_blk mv n mm n (pt_join id j k)))) H locs := hh
      rw [hr_uu] at hh
      have hB3 := cg_zpr hB (pt_blk mv n mm n (pt_join id j k))
      have hbl : ∀ p, p < n → pt_blk mv n mm n (pt_join id j k) p < n := pt_blk_lt (fun i hi p hp => lk_sym_lt (hmv i hi) hp) n _ hjl
      refine lv_aload_n X.1 X.2.1 d_C_block_50 rfl (lv_at hl 0 rfl) ?_
      refine hl_get X hK hh (ref := "CycleGroups") i_C (ci := 0) rfl 5 (by decide) w_52 rfl (hB3.1 0 (by omega)).1 hB3.2.1 rfl d_C_block_51 ?_
      refine lv_iload_n X.1 X.2.1 d_C_block_54 rfl (lv_at hl 1 rfl) ?_
      refine hl_calli hh (hl_runV (k := 1) X hK hh (c_P_sizeWith l g _ L _ (b 3) (b 4) n j _ (hB3.1 3 (by omega)).1 hB3.2.2.2.2.1 (hB3.1 4 (by omega)).1 (va_up_self ..) hn hbl hj) wc_P_sizeWith w_261 w_3 wi_P_sizeWith ws_P_sizeWith (by decide +kernel) rfl rfl ⟨Nat.le_of_ble_eq_true rfl, Nat.le_of_ble_eq_true rfl⟩ (hB3.1 3 (by omega)).1 hB3.2.2.2.2.1 rfl rfl rfl rfl (Nat.le_of_ble_eq_true rfl) hl.1 d_C_block_55 ⟨Nat.le_of_ble_eq_true rfl, Nat.le_of_ble_eq_true rfl⟩) (fun r u H locs hp hh => ?_)
      obtain ⟨rfl, rfl⟩ := hp
      exact hm_iret X hr hlk hh (hpo _ _ (Or.inr ⟨j, k, hj, hk, rfl, rfl, rfl, cg_R_zp hI _⟩)) (Nat.le_of_ble_eq_true rfl) (Nat.le_of_ble_eq_true rfl) d_C_block_58

/-- int stabiliser(int place, int i) -/
theorem c_C_stabiliser (l : Launch) (g : hl_G) (sz : Nat) (L : List Nat) (f : Nat → va_E) (T : Nat → Nat) (b : Nat → Nat) (n mm sm : Nat) (mv st : Nat → Nat → Nat) (made : Bool) (hI : cg_I g L f T b n mm sm mv st made) (mc ms : Nat) (hmc : made = false → mc = 1601 ∧ ms = 40003) (q1 q2 : Int32) (post : Int32 → List Nat × (Nat → va_E) → Prop) (hpo : ∀ r u, (ip q1 n = false ∧ r = -1 ∧ u = (L, f)) ∨ (∃ j sn, j < n ∧ q1 = nI j ∧ sz_all (gp_gen (mv_T mv mm)) n sn ∧ r = dg_at (dgt (ch_pr sn 0 n / pt_size (pt_orb mv n id mm) j n)) 24 q2 ∧ cg_R g L f T b n mm sm mv st true u) → post r u) :
    Met l y_C_stabiliser (hq y_C_stabiliser b_C_stabiliser 3 (some .int)) { frames := 6, cells := mc, slots := ms, locals := 230 } (hm_P g [.ref (b 0), .int q1, .int q2] sz L f) (va_Qi (post) (hm_B g sz L) (hm_A sz L)) mc ms (hm_A sz L) := by
  refine hm_ofW (by decide) (Nat.le_of_ble_eq_true rfl) ?_
  intro p e s m below meth c X hr hlk hnm hK hsz hh ls hl
  have hl : lv_has ls 3 [(0, .ref (b 0)), (1, .int q1), (2, .int q2)] := hl
  obtain ⟨zp, zd, cv, fl, hB, hC, hW, hmd⟩ := id hI
  obtain ⟨hn0, hn, hmm, hsm, hmv, hst⟩ := id hW
  have n34 : b 3 ≠ b 4 := cg_ne hB (by omega) (by omega) (by decide)
  rcases ip_cases q1 (n := n) (by omega) with h1 | ⟨j, hj, rfl⟩
  · skip
    refine lv_aload_n X.1 X.2.1 d_C_stabiliser_0 rfl (lv_at hl 0 rfl) ?_
    refine lv_iload_n X.1 X.2.1 d_C_stabiliser_1 rfl (lv_at hl 1 rfl) ?_
    refine hl_calli hh (hl_runV (k := 1) X hK hh (c_C_isPlace l g _ L f (b 0) n .null _ _ _ _ _ _ _ _ q1 (hB.1 0 (by omega)).1 hB.2.1 (by omega)) wc_C_isPlace w_90 w_1 wi_C_isPlace ws_C_isPlace (by decide +kernel) rfl rfl ⟨Nat.le_of_ble_eq_true rfl, Nat.le_of_ble_eq_true rfl⟩ (hB.1 0 (by omega)).1 hB.2.1 rfl rfl rfl rfl (Nat.le_of_ble_eq_true rfl) hl.1 d_C_stabiliser_2 ⟨Nat.zero_le _, Nat.zero_le _⟩) (fun r u H locs hp hh => ?_)
    obtain ⟨hr1, rfl⟩ := hp
    rw [h1] at hr1
    subst hr1
    refine lv_if_ne (tgt := 10) X.1 X.2.1 d_C_stabiliser_5 (by decide) (fun hc => absurd (by decide) hc) (fun _ => ?_)
    refine lv_iconst (v := -1) X.1 X.2.1 d_C_stabiliser_8 (by decide) ?_
    exact hm_iret X hr hlk hh (hpo _ _ (Or.inl ⟨h1, rfl, rfl⟩)) (Nat.zero_le _) (Nat.zero_le _) d_C_stabiliser_9
  · have h1 := ip_in (by omega : n < 2 ^ 31) hj
    have hol : ∀ p, p < n → pt_orb mv n id mm p < n := pt_orb_lt (fun p hp => hp) mm (fun i hi p hp => lk_sym_lt (hmv i hi) hp)
    refine lv_aload_n X.1 X.2.1 d_C_stabiliser_0 rfl (lv_at hl 0 rfl) ?_
    refine lv_iload_n X.1 X.2.1 d_C_stabiliser_1 rfl (lv_at hl 1 rfl) ?_
    refine hl_calli hh (hl_runV (k := 1) X hK hh (c_C_isPlace l g _ L f (b 0) n .null _ _ _ _ _ _ _ _ (nI j) (hB.1 0 (by omega)).1 hB.2.1 (by omega)) wc_C_isPlace w_90 w_1 wi_C_isPlace ws_C_isPlace (by decide +kernel) rfl rfl ⟨Nat.le_of_ble_eq_true rfl, Nat.le_of_ble_eq_true rfl⟩ (hB.1 0 (by omega)).1 hB.2.1 rfl rfl rfl rfl (Nat.le_of_ble_eq_true rfl) hl.1 d_C_stabiliser_2 ⟨Nat.zero_le _, Nat.zero_le _⟩) (fun r u H locs hp hh => ?_)
    obtain ⟨hr1, rfl⟩ := hp
    rw [h1] at hr1
    subst hr1
    refine lv_if_ne (tgt := 10) X.1 X.2.1 d_C_stabiliser_5 (by decide) (fun _ => ?_) (fun hc => absurd hc (by decide))
    refine lv_aload_n X.1 X.2.1 d_C_stabiliser_10 rfl (lv_at hl 0 rfl) ?_
    refine hl_get X hK hh (ref := "CycleGroups") i_C (ci := 0) rfl 5 (by decide) w_52 rfl (hB.1 0 (by omega)).1 hB.2.1 rfl d_C_stabiliser_11 ?_
    refine hl_callv hh (hl_runV (k := 0) X hK hh (c_P_separate l g _ L f (b 3) (b 4) n zp (hB.1 3 (by omega)).1 hB.2.2.2.2.1 (hB.1 4 (by omega)).1 hB.2.2.2.2.2.1 hn) wc_P_separate w_246 w_3 wi_P_separate ws_P_separate (by decide +kernel) rfl rfl ⟨Nat.le_of_ble_eq_true rfl, Nat.le_of_ble_eq_true rfl⟩ (hB.1 3 (by omega)).1 hB.2.2.2.2.1 rfl rfl rfl rfl (Nat.le_of_ble_eq_true rfl) hl.1 d_C_stabiliser_14 ⟨Nat.zero_le _, Nat.zero_le _⟩) (fun u H locs hp hh => ?_)
    subst hp
    have hB1 := cg_zpr hB id
    refine lv_aload_n X.1 X.2.1 d_C_stabiliser_17 rfl (lv_at hl 0 rfl) ?_
    refine hl_get X hK hh (ref := "CycleGroups") i_C (ci := 0) rfl 5 (by decide) w_52 rfl (hB1.1 0 (by omega)).1 hB1.2.1 rfl d_C_stabiliser_18 ?_
    refine lv_aload_n X.1 X.2.1 d_C_stabiliser_21 rfl (lv_at hl 0 rfl) ?_
    refine hl_get X hK hh (ref := "CycleGroups") i_C (ci := 0) rfl 1 (by decide) w_48 rfl (hB1.1 0 (by omega)).1 hB1.2.1 rfl d_C_stabiliser_22 ?_
    refine lv_aload_n X.1 X.2.1 d_C_stabiliser_25 rfl (lv_at hl 0 rfl) ?_
    refine hl_get X hK hh (ref := "CycleGroups") i_C (ci := 0) rfl 2 (by decide) w_49 rfl (hB1.1 0 (by omega)).1 hB1.2.1 rfl d_C_stabiliser_26 ?_
    refine hl_callv hh (hl_runV (k := 2) X hK hh (c_P_joinOrbits l g _ L _ (b 3) (b 4) n (b 1) mm id _ (fun i => b (10 + i)) mv (hB1.1 3 (by omega)).1 hB1.2.2.2.2.1 (hB1.1 4 (by omega)).1 (va_up_self ..) n34 hn (fun p hp => hp) (hB1.1 1 (by omega)).1 hB1.2.2.1 hmm (cg_rows hB1 hmm) (cg_ne hB (by omega) (by omega) (by decide)) (fun i hi => cg_ne hB (by omega) (by omega) (by omega)) (fun i hi p hp => lk_sym_lt (hmv i hi) hp)) wc_P_joinOrbits w_251 w_3 wi_P_joinOrbits ws_P_joinOrbits (by decide +kernel) rfl rfl ⟨Nat.le_of_ble_eq_true rfl, Nat.le_of_ble_eq_true rfl⟩ (hB1.1 3 (by omega)).1 hB1.2.2.2.2.1 rfl rfl rfl rfl (Nat.le_of_ble_eq_true rfl) hl.1 d_C_stabiliser_29 ⟨Nat.zero_le _, Nat.zero_le _⟩) (fun u H locs hp hh => ?_)
    subst hp
    have hh : hl_H g (hm_A sz L) s.heap L (va_up (va_up f (b 4) (hl_nat g n id)) (b 4) (hl_nat g n (pt_orb mv n id mm))) H locs := hh
    rw [hr_uu] at hh
    have hB2 := cg_zpr hB (pt_orb mv n id mm)
    refine lv_aload_n X.1 X.2.1 d_C_stabiliser_32 rfl (lv_at hl 0 rfl) ?_
    refine lv_aload_n X.1 X.2.1 d_C_stabiliser_33 rfl (lv_at hl 0 rfl) ?_
    have t4 := (hB.1 4 (by omega)).2
    obtain ⟨fa, hfa⟩ : ∃ x : Nat → va_E, x = va_up f (b 4) (hl_nat g n (pt_orb mv n id mm)) := ⟨_, rfl⟩
    have hC2 : cg_C g L fa T n mm mv cv fl := by
      rw [hfa]
      exact cg_C_congr hn hC (fun q hq => va_up_ne _ _ (hl_ne (T := T) (by rw [t4]; intro e0; rw [e0] at hq; exact cn_own_of (by omega) hq))) hC.1 (fun e0 => e0) (fun _ _ => Iff.rfl)
    rw [← hfa] at hB2
    have hh : hl_H g (hm_A sz L) s.heap L fa H locs := by rw [hfa]; exact hh
    refine hl_callr2 hh (hl_runV (k := 0) X hK hh (c_C_freshChain l g _ L fa T b n mm sm mv st (pt_orb mv n id mm) zd cv fl mc ms hB2 hW hC2 (fun e0 => hmc (Bool.eq_false_iff.2 (fun h => hmd h e0)))) wc_C_freshChain w_98 w_1 wi_C_freshChain ws_C_freshChain (by decide +kernel) rfl rfl ⟨Nat.le_of_ble_eq_true rfl, Nat.le_of_ble_eq_true rfl⟩ (hB2.1 0 (by omega)).1 hB2.2.1 rfl rfl rfl rfl (Nat.le_of_ble_eq_true rfl) hl.1 d_C_stabiliser_34 ⟨Nat.le_of_eq (Nat.zero_add _), Nat.le_of_eq (Nat.zero_add _)⟩) (fun a0 u H locs hp hh => ?_)
    obtain ⟨f1, T1, hu2, hL1, hfr1, hB1, hch1⟩ := hp
    obtain ⟨L1, f0⟩ := u
    have hu2 : f0 = f1 := hu2
    subst hu2
    have hB1 : cg_B g L1 f0 T1 b n mm sm mv st (pt_orb mv n id mm) zd (.ref a0) 0 := hB1
    have hch0 : cg_ch g L1 f0 T1 n mm mv a0 True := hch1
    obtain ⟨lO, wk, ad, zL, gn, G, pr, sn, sp, ix, wb, y, k1, k2, k3, k4⟩ := id hch0
    have hh : hl_H g (hm_A sz L) s.heap L1 f0 H locs := hh
    have hsz0 := sz_of (k4 trivial)
    have hsn : ∀ i, i < n → sn i ≤ n - i := fun i hi => (k2 i hi).2.2.2.2.2.1
    have t0 : T (b 0) = 0 := (hB.1 0 (by omega)).2
    have hfr2 : ∀ q, q ∈ L → 20000 ≤ T q → f0 q = f q := fun q hq ht => (hfr1 q hq (cn_own_of (by omega)) (hl_ne (T := T) (by omega))).trans (by rw [hfa]; exact va_up_ne _ _ (hl_ne (T := T) (by omega)))
    have hR := cg_R_fr (made := true) hL1 hfr2 hB1 hch0 hW
    refine hl_callv hh (hl_runV (k := 1) X hK hh (c_C_countGroup l g _ L1 f0 T1 b n mm sm mv st (pt_orb mv n id mm) zd (.ref a0) 0 hB1 hn a0 lO wk ad zL gn G pr sn sp ix wb y k1 hsn) wc_C_countGroup w_221 w_1 wi_C_countGroup ws_C_countGroup (by decide +kernel) rfl rfl ⟨Nat.le_of_ble_eq_true rfl, Nat.le_of_ble_eq_true rfl⟩ (hB1.1 0 (by omega)).1 hB1.2.1 rfl rfl rfl rfl (Nat.le_of_ble_eq_true rfl) hl.1 d_C_stabiliser_37 ⟨Nat.le_of_eq (Nat.zero_add _), Nat.le_of_eq (Nat.zero_add _)⟩) (fun u H locs hp hh => ?_)
    subst hp
    have hB3 := cg_zdr hB1 (dgt (ch_pr sn 0 n))
    have t6 := (hB1.1 6 (by omega)).2
    refine lv_aload_n X.1 X.2.1 d_C_stabiliser_40 rfl (lv_at hl 0 rfl) ?_
    refine hl_get X hK hh (ref := "CycleGroups") i_C (ci := 0) rfl 6 (by decide) w_53 rfl (hB3.1 0 (by omega)).1 hB3.2.1 rfl d_C_stabiliser_41 ?_
    refine lv_aload_n X.1 X.2.1 d_C_stabiliser_44 rfl (lv_at hl 0 rfl) ?_
    refine hl_get X hK hh (ref := "CycleGroups") i_C (ci := 0) rfl 5 (by decide) w_52 rfl (hB3.1 0 (by omega)).1 hB3.2.1 rfl d_C_stabiliser_45 ?_
    refine lv_iload_n X.1 X.2.1 d_C_stabiliser_48 rfl (lv_at hl 1 rfl) ?_
    refine hl_calli hh (hl_runV (k := 1) X hK hh (c_P_sizeWith l g _ L1 _ (b 3) (b 4) n j _ (hB3.1 3 (by omega)).1 hB3.2.2.2.2.1 (hB3.1 4 (by omega)).1 hB3.2.2.2.2.2.1 hn hol hj) wc_P_sizeWith w_261 w_3 wi_P_sizeWith ws_P_sizeWith (by decide +kernel) rfl rfl ⟨Nat.le_of_ble_eq_true rfl, Nat.le_of_ble_eq_true rfl⟩ (hB3.1 3 (by omega)).1 hB3.2.2.2.2.1 rfl rfl rfl rfl (Nat.le_of_ble_eq_true rfl) hl.1 d_C_stabiliser_49 ⟨Nat.le_of_eq (Nat.zero_add _), Nat.le_of_eq (Nat.zero_add _)⟩) (fun r u H locs hp hh => ?_)
    obtain ⟨rfl, rfl⟩ := hp
    have hs0 : 0 < pt_size (pt_orb mv n id mm) j n := pt_size_pos _ hj
    have hs1 := pt_size_le (pt_orb mv n id mm) j n
    have hV := pr_lt hn hsn (Nat.le_refl n)
    refine hl_callv hh (hl_runV (k := 1) X hK hh (c_D_divide l g _ L1 _ (b 5) (b 6) (pt_size (pt_orb mv n id mm) j n) _ (hB3.1 5 (by omega)).1 hB3.2.2.2.2.2.2.1 (hB3.1 6 (by omega)).1 (va_up_self ..) (cg_ne hB1 (by omega) (by omega) (by decide)) hs0 (by omega) (fun i => dgt_lt _ i)) wc_D_divide w_265 w_4 wi_D_divide ws_D_divide (by decide +kernel) rfl rfl ⟨Nat.le_of_ble_eq_true rfl, Nat.le_of_ble_eq_true rfl⟩ (hB3.1 5 (by omega)).1 hB3.2.2.2.2.2.2.1 rfl rfl rfl rfl (Nat.le_of_ble_eq_true rfl) hl.1 d_C_stabiliser_52 ⟨Nat.le_of_eq (Nat.zero_add _), Nat.le_of_eq (Nat.zero_add _)⟩) (fun u H locs hp hh => ?_)
    subst hp
    have hh : hl_H g (hm_A sz L) s.heap L1 (va_up (va_up f0 (b 6) (hl_nat g 24 (dgt (ch_pr sn 0 n)))) (b 6) (hl_nat g 24 (dg_div (dgt (ch_pr sn 0 n)) (pt_size (pt_orb mv n id mm) j n) 24))) H locs := hh
    rw [hr_uu] at hh
    have hh := hl_norm (w := fun p => nI (dgt (ch_pr sn 0 n / pt_size (pt_orb mv n id mm) j n) p)) hh (fun p hp => by rw [dgt_div hV hp hs0])
    have hB4 := cg_zdr hB1 (dgt (ch_pr sn 0 n / pt_size (pt_orb mv n id mm) j n))
    have k6 : cg_ch g L1 (va_up f0 (b 6) (hl_nat g 24 (dgt (ch_pr sn 0 n / pt_size (pt_orb mv n id mm) j n)))) T1 n mm mv a0 True := cg_ch_congr hn hch0 (fun q hq => va_up_ne _ _ (hl_ne (T := T1) (by rw [t6]; intro e0; rw [e0] at hq; exact cn_own_of (by omega) hq))) (fun h => h) (fun _ _ => Iff.rfl)
    have hR2 := cg_R_fr (f := f) (made := true) hL1 (fun q hq ht => (va_up_ne _ _ (hl_ne (T := T1) (by rw [t6, (hL1 q hq).2]; omega))).trans (hfr2 q hq ht)) hB4 k6 hW
    refine lv_aload_n X.1 X.2.1 d_C_stabiliser_55 rfl (lv_at hl 0 rfl) ?_
    refine hl_get X hK hh (ref := "CycleGroups") i_C (ci := 0) rfl 6 (by decide) w_53 rfl (hB4.1 0 (by omega)).1 hB4.2.1 rfl d_C_stabiliser_56 ?_
    refine lv_iload_n X.1 X.2.1 d_C_stabiliser_59 rfl (lv_at hl 2 rfl) ?_
    refine hl_calli hh (hl_runV (k := 1) X hK hh (c_D_digit l g _ L1 _ (b 5) (b 6) _ q2 (hB4.1 5 (by omega)).1 hB4.2.2.2.2.2.2.1 (hB4.1 6 (by omega)).1 (va_up_self ..) (fun i => dgt_lt _ i)) wc_D_digit w_234 w_4 wi_D_digit ws_D_digit (by decide +kernel) rfl rfl ⟨Nat.le_of_ble_eq_true rfl, Nat.le_of_ble_eq_true rfl⟩ (hB4.1 5 (by omega)).1 hB4.2.2.2.2.2.2.1 rfl rfl rfl rfl (Nat.le_of_ble_eq_true rfl) hl.1 d_C_stabiliser_60 ⟨Nat.le_of_eq (Nat.zero_add _), Nat.le_of_eq (Nat.zero_add _)⟩) (fun r u H locs hp hh => ?_)
    obtain ⟨hr1, rfl⟩ := hp
    exact hm_iret X hr hlk hh (hpo _ _ (Or.inr ⟨j, sn, hj, rfl, hsz0, hr1, hR2⟩)) (Nat.le_of_eq (Nat.zero_add _)) (Nat.le_of_eq (Nat.zero_add _)) d_C_stabiliser_63
end

