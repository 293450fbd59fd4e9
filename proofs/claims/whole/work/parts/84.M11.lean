/-! The reference: what asks for the spreads: spread, run, base, order, stabiliser, level, member. -/
section
theorem su_card {F : Nat → Nat} (h : ∀ j, F j = 0 ∨ F j = 1) : ∀ n, gp_card (fun q => q < n ∧ F q = 1) (su F n)
  | 0 => ⟨[], List.nodup_nil, rfl, fun x => ⟨fun hx => absurd hx List.not_mem_nil, fun hx => absurd hx.1 (Nat.not_lt_zero _)⟩⟩
  | n + 1 => by
    obtain ⟨q, h1, h2, h3⟩ := su_card h n
    have e0 : su F (n + 1) = su F n + F n := rfl
    rcases h n with e | e
    · rw [e0, e]
      refine ⟨q, h1, h2, fun x => (h3 x).trans ⟨fun hx => ⟨by omega, hx.2⟩, fun hx => ⟨?_, hx.2⟩⟩⟩
      have : x ≠ n := fun e1 => by rw [e1, e] at hx; omega
      omega
    · rw [e0, e]
      refine ⟨n :: q, List.nodup_cons.2 ⟨fun hn => by have := ((h3 n).1 hn).1; omega, h1⟩, by rw [List.length_cons, h2], fun x => ?_⟩
      rw [List.mem_cons, h3 x]
      constructor
      · rintro (rfl | hx)
        · exact ⟨by omega, e⟩
        · exact ⟨by omega, hx.2⟩
      · rintro ⟨hx, hy⟩
        by_cases e1 : x = n
        · exact Or.inl e1
        · exact Or.inr ⟨by omega, hy⟩
theorem md_sz {n mm : Nat} {mv : Nat → Nat → Nat} {r7 r8 : Nat → Nat} (hn : n ≤ 24) (hG : gp_sub (gp_gen (mv_T mv mm)) (gp_sym (ch_D n 0))) (h : md_K n mm mv n r7 r8) (h8 : ∀ p, r8 p = 0 ∨ r8 p = 1) :
    sz_all (gp_gen (mv_T mv mm)) n (fun i => su (fun j => r8 (24 * i + j)) n) := by
  intro i hi
  obtain ⟨h1, h2⟩ := h i hi
  refine gp_card_congr (su_card (F := fun j => r8 (24 * i + j)) (fun j => h8 _) n) (fun q => ?_)
  constructor
  · rintro ⟨hq, hq1⟩
    obtain ⟨x, x1, x2, x3, _⟩ := h1 q (by omega) hq1
    exact ⟨x, x1, x2, x3⟩
  · rintro ⟨x, x1, x2, rfl⟩
    exact ⟨(ch_D_mem.1 (gp_sym_mem (hG x x1) (ch_D_mem.2 ⟨Nat.zero_le _, hi⟩))).2, h2 x x1 x2⟩
/-- the reference knows its spreads -/
def md_Z (g : hl_G) (d : Nat → Nat) (f0 : Nat → va_E) (n mm sm : Nat) (mv : Nat → Nat → Nat) (r3 r5 : Nat → Nat) (f1 : Nat → va_E) : Prop :=
  ∃ (mk : Nat) (r7 r8 r10 r11 r12 r13 r14 r15 r16 r17 r18 r19 r20 r21 r22 r23 : Nat → Nat), md_K n mm mv n r7 r8 ∧ (∀ p, r8 p = 0 ∨ r8 p = 1) ∧ f1 = mf g d f0 n mm sm 1 mk r3 r5 r7 r8 r10 r11 r12 r13 r14 r15 r16 r17 r18 r19 r20 r21 r22 r23

/-- int spread(int p) -/
theorem c_M_spread (l : Launch) (g : hl_G) (sz : Nat) (L : List Nat) (d : Nat → Nat) (f0 : Nat → va_E) (hd : md_D L d) (n mm sm kn mk : Nat) (r3 r5 r7 r8 r10 r11 r12 r13 r14 r15 r16 r17 r18 r19 r20 r21 r22 r23 : Nat → Nat) (mv st : Nat → Nat → Nat) (hW : cg_W n mm sm mv st) (h3 : ∀ i, i < mm → fr r3 i (mv i)) (h5 : ∀ j, j < sm → fr r5 j (st j)) (hkn : kn = 0 ∨ kn = 1) (h8 : ∀ p, r8 p = 0 ∨ r8 p = 1) (hKn : kn = 1 → md_K n mm mv n r7 r8) (q1 : Int32) (post : Int32 → List Nat × (Nat → va_E) → Prop) (hpo : ∀ r f1, (ip q1 n = false ∧ r = -1 ∧ f1 = mf g d f0 n mm sm kn mk r3 r5 r7 r8 r10 r11 r12 r13 r14 r15 r16 r17 r18 r19 r20 r21 r22 r23) ∨ (∃ j S, j < n ∧ q1 = nI j ∧ sz_all (gp_gen (mv_T mv mm)) n S ∧ r = nI (S j) ∧ md_Z g d f0 n mm sm mv r3 r5 f1) → post r (L, f1)) :
    Met l y_M_spread (hq y_M_spread b_M_spread 2 (some .int)) { frames := 4, cells := 0, slots := 0, locals := 130 } (hm_P g [.ref (d 0), .int q1] sz L (mf g d f0 n mm sm kn mk r3 r5 r7 r8 r10 r11 r12 r13 r14 r15 r16 r17 r18 r19 r20 r21 r22 r23)) (va_Qi (post) (hm_B g sz L) (hm_A sz L)) 0 0 (hm_A sz L) := by
  refine hm_ofW (by decide) (Nat.le_of_ble_eq_true rfl) ?_
  intro p e s m below meth c X hr hlk hnm hK hsz hh ls hl
  have hl : lv_has ls 2 [(0, .ref (d 0)), (1, .int q1)] := hl
  obtain ⟨hn0, hn, hmm, hsm, hmv, hst⟩ := id hW
  rcases ip_cases q1 (n := n) (by omega) with h1 | ⟨j, hj, rfl⟩
  · skip
    refine lv_aload_n X.1 X.2.1 d_M_spread_0 rfl (lv_at hl 0 rfl) ?_
    refine lv_iconst (v := nI 0) X.1 X.2.1 d_M_spread_1 (by decide) ?_
    refine hl_put X hK hh (ref := "CycleGroupsModel") i_M t_M t_M_ok n_M (ci := 5) rfl 1 (by decide) w_351 rfl rfl (md_in hd (k := 0) rfl) md_at_0 (by first | rfl | decide) (by first | rfl | decide) (Nat.le_of_ble_eq_true rfl) d_M_spread_2 (fun H locs hh => ?_)
    have hh : hl_H g (hm_A sz L) s.heap L (mf g d f0 n mm sm kn mk r3 r5 r7 r8 r10 r11 r12 r13 r14 r15 r16 r17 r18 r19 r20 r21 r22 r23) H locs := md_set_0 hh
    refine lv_aload_n X.1 X.2.1 d_M_spread_5 rfl (lv_at hl 0 rfl) ?_
    refine lv_iload_n X.1 X.2.1 d_M_spread_6 rfl (lv_at hl 1 rfl) ?_
    refine hl_calli hh (hl_runV (k := 1) X hK hh (c_M_isPlace l g _ L d _ hd _ _ _ _ _ _ _ _ _ _ _ _ _ _ _ _ _ _ _ _ _ _ _ q1 (by omega)) wc_M_isPlace w_433 w_5 wi_M_isPlace ws_M_isPlace (by decide +kernel) rfl rfl ⟨Nat.le_of_ble_eq_true rfl, Nat.le_of_ble_eq_true rfl⟩ (md_in hd (k := 0) rfl) md_at_0 rfl rfl rfl rfl (Nat.le_of_ble_eq_true rfl) hl.1 d_M_spread_7 ⟨Nat.le_of_ble_eq_true rfl, Nat.le_of_ble_eq_true rfl⟩) (fun r u H locs hp hh => ?_)
    obtain ⟨hr1, rfl⟩ := hp
    rw [h1] at hr1
    subst hr1
    refine lv_if_ne (tgt := 15) X.1 X.2.1 d_M_spread_10 (by decide) (fun hc => absurd (by decide) hc) (fun _ => ?_)
    refine lv_iconst (v := -1) X.1 X.2.1 d_M_spread_13 (by decide) ?_
    exact hm_iret X hr hlk hh (hpo _ _ (Or.inl ⟨h1, rfl, rfl⟩)) (Nat.le_of_ble_eq_true rfl) (Nat.le_of_ble_eq_true rfl) d_M_spread_14
  · have h1 := ip_in (by omega : n < 2 ^ 31) hj
    refine lv_aload_n X.1 X.2.1 d_M_spread_0 rfl (lv_at hl 0 rfl) ?_
    refine lv_iconst (v := nI 0) X.1 X.2.1 d_M_spread_1 (by decide) ?_
    refine hl_put X hK hh (ref := "CycleGroupsModel") i_M t_M t_M_ok n_M (ci := 5) rfl 1 (by decide) w_351 rfl rfl (md_in hd (k := 0) rfl) md_at_0 (by first | rfl | decide) (by first | rfl | decide) (Nat.le_of_ble_eq_true rfl) d_M_spread_2 (fun H locs hh => ?_)
    have hh : hl_H g (hm_A sz L) s.heap L (mf g d f0 n mm sm kn mk r3 r5 r7 r8 r10 r11 r12 r13 r14 r15 r16 r17 r18 r19 r20 r21 r22 r23) H locs := md_set_0 hh
    refine lv_aload_n X.1 X.2.1 d_M_spread_5 rfl (lv_at hl 0 rfl) ?_
    refine lv_iload_n X.1 X.2.1 d_M_spread_6 rfl (lv_at hl 1 rfl) ?_
    refine hl_calli hh (hl_runV (k := 1) X hK hh (c_M_isPlace l g _ L d _ hd _ _ _ _ _ _ _ _ _ _ _ _ _ _ _ _ _ _ _ _ _ _ _ (nI j) (by omega)) wc_M_isPlace w_433 w_5 wi_M_isPlace ws_M_isPlace (by decide +kernel) rfl rfl ⟨Nat.le_of_ble_eq_true rfl, Nat.le_of_ble_eq_true rfl⟩ (md_in hd (k := 0) rfl) md_at_0 rfl rfl rfl rfl (Nat.le_of_ble_eq_true rfl) hl.1 d_M_spread_7 ⟨Nat.le_of_ble_eq_true rfl, Nat.le_of_ble_eq_true rfl⟩) (fun r u H locs hp hh => ?_)
    obtain ⟨hr1, rfl⟩ := hp
    rw [h1] at hr1
    subst hr1
    refine lv_if_ne (tgt := 15) X.1 X.2.1 d_M_spread_10 (by decide) (fun _ => ?_) (fun hc => absurd hc (by decide))
    refine lv_aload_n X.1 X.2.1 d_M_spread_15 rfl (lv_at hl 0 rfl) ?_
    refine hl_callv hh (hl_runV (k := 0) X hK hh (c_M_know l g _ L d f0 hd n mm sm kn mk r3 r5 r7 r8 r10 r11 r12 r13 r14 r15 r16 r17 r18 r19 r20 r21 r22 r23 mv st hW h3 h5 hkn h8 hKn (fun u => ∃ mk2 y7 y8 y10 lo hi lab us qu by' sn wk rd ri mo, md_K n mm mv n y7 y8 ∧ (∀ p, y8 p = 0 ∨ y8 p = 1) ∧ u = (L, mf g d f0 n mm sm 1 mk2 r3 r5 y7 y8 y10 lo hi lab us qu by' sn wk rd r20 r21 ri mo)) (fun mk2 y7 y8 y10 lo hi lab us qu by' sn wk rd ri mo x1 x2 => ⟨mk2, y7, y8, y10, lo, hi, lab, us, qu, by', sn, wk, rd, ri, mo, x1, x2, rfl⟩)) wc_M_know w_471 w_5 wi_M_know ws_M_know (by decide +kernel) rfl rfl ⟨Nat.le_of_ble_eq_true rfl, Nat.le_of_ble_eq_true rfl⟩ (md_in hd (k := 0) rfl) md_at_0 rfl rfl rfl rfl (Nat.le_of_ble_eq_true rfl) hl.1 d_M_spread_16 ⟨Nat.le_of_ble_eq_true rfl, Nat.le_of_ble_eq_true rfl⟩) (fun u H locs hp hh => ?_)
    obtain ⟨mk2, y7, y8, y10, lo, hi, lab, us, qu, by', sn, wk, rd, ri, mo, hKz, h8z, rfl⟩ := hp
    have hGs := cg_sub hW
    have hSz := md_sz hn hGs hKz h8z
    obtain ⟨S, eS⟩ : ∃ S : Nat → Nat, S = fun i => su (fun j => y8 (24 * i + j)) n := ⟨_, rfl⟩
    rw [← eS] at hSz
    have hS : ∀ i, su (fun j => y8 (24 * i + j)) n = S i := fun i => by rw [eS]
    have hSb : ∀ i, i < n → S i ≤ n - i := fun i hi => sz_le hGs hi (hSz i hi)
    refine lv_aload_n X.1 X.2.1 d_M_spread_19 rfl (lv_at hl 0 rfl) ?_
    refine lv_iload_n X.1 X.2.1 d_M_spread_20 rfl (lv_at hl 1 rfl) ?_
    refine hl_calli hh (hl_runV (k := 1) X hK hh (c_M_spreadSize l g _ L d f0 hd n mm sm 1 mk2 r3 r5 y7 y8 y10 lo hi lab us qu by' sn wk rd r20 r21 ri mo hn j (by omega) h8z) wc_M_spreadSize w_515 w_5 wi_M_spreadSize ws_M_spreadSize (by decide +kernel) rfl rfl ⟨Nat.le_of_ble_eq_true rfl, Nat.le_of_ble_eq_true rfl⟩ (md_in hd (k := 0) rfl) md_at_0 rfl rfl rfl rfl (Nat.le_of_ble_eq_true rfl) hl.1 d_M_spread_21 ⟨Nat.le_of_ble_eq_true rfl, Nat.le_of_ble_eq_true rfl⟩) (fun r u H locs hp hh => ?_)
    obtain ⟨rfl, rfl⟩ := hp
    rw [hS]
    exact hm_iret X hr hlk hh (hpo _ _ (Or.inr ⟨j, S, hj, rfl, hSz, rfl, ⟨_, _, _, _, _, _, _, _, _, _, _, _, _, _, _, _, _, hKz, h8z, rfl⟩⟩)) (Nat.le_of_ble_eq_true rfl) (Nat.le_of_ble_eq_true rfl) d_M_spread_24

/-- int run() -/
theorem c_M_run (l : Launch) (g : hl_G) (sz : Nat) (L : List Nat) (d : Nat → Nat) (f0 : Nat → va_E) (hd : md_D L d) (n mm sm kn mk : Nat) (r3 r5 r7 r8 r10 r11 r12 r13 r14 r15 r16 r17 r18 r19 r20 r21 r22 r23 : Nat → Nat) (mv st : Nat → Nat → Nat) (hW : cg_W n mm sm mv st) (h3 : ∀ i, i < mm → fr r3 i (mv i)) (h5 : ∀ j, j < sm → fr r5 j (st j)) (hkn : kn = 0 ∨ kn = 1) (h8 : ∀ p, r8 p = 0 ∨ r8 p = 1) (hKn : kn = 1 → md_K n mm mv n r7 r8) (post : Int32 → List Nat × (Nat → va_E) → Prop) (hpo : ∀ r f1, (∃ S, sz_all (gp_gen (mv_T mv mm)) n S ∧ r = nI (rn S n) ∧ md_Z g d f0 n mm sm mv r3 r5 f1) → post r (L, f1)) :
    Met l y_M_run (hq y_M_run b_M_run 3 (some .int)) { frames := 4, cells := 0, slots := 0, locals := 130 } (hm_P g [.ref (d 0)] sz L (mf g d f0 n mm sm kn mk r3 r5 r7 r8 r10 r11 r12 r13 r14 r15 r16 r17 r18 r19 r20 r21 r22 r23)) (va_Qi (post) (hm_B g sz L) (hm_A sz L)) 0 0 (hm_A sz L) := by
  refine hm_ofW (by decide) (Nat.le_of_ble_eq_true rfl) ?_
  intro p e s m below meth c X hr hlk hnm hK hsz hh ls hl
  have hl : lv_has ls 3 [(0, .ref (d 0))] := hl
  obtain ⟨hn0, hn, hmm, hsm, hmv, hst⟩ := id hW
  refine lv_aload_n X.1 X.2.1 d_M_run_0 rfl (lv_at hl 0 rfl) ?_
  refine lv_iconst (v := nI 0) X.1 X.2.1 d_M_run_1 (by decide) ?_
  refine hl_put X hK hh (ref := "CycleGroupsModel") i_M t_M t_M_ok n_M (ci := 5) rfl 1 (by decide) w_351 rfl rfl (md_in hd (k := 0) rfl) md_at_0 (by first | rfl | decide) (by first | rfl | decide) (Nat.le_of_ble_eq_true rfl) d_M_run_2 (fun H locs hh => ?_)
  have hh : hl_H g (hm_A sz L) s.heap L (mf g d f0 n mm sm kn mk r3 r5 r7 r8 r10 r11 r12 r13 r14 r15 r16 r17 r18 r19 r20 r21 r22 r23) H locs := md_set_0 hh
  refine lv_aload_n X.1 X.2.1 d_M_run_5 rfl (lv_at hl 0 rfl) ?_
  refine hl_callv hh (hl_runV (k := 0) X hK hh (c_M_know l g _ L d f0 hd n mm sm kn mk r3 r5 r7 r8 r10 r11 r12 r13 r14 r15 r16 r17 r18 r19 r20 r21 r22 r23 mv st hW h3 h5 hkn h8 hKn (fun u => ∃ mk2 y7 y8 y10 lo hi lab us qu by' sn wk rd ri mo, md_K n mm mv n y7 y8 ∧ (∀ p, y8 p = 0 ∨ y8 p = 1) ∧ u = (L, mf g d f0 n mm sm 1 mk2 r3 r5 y7 y8 y10 lo hi lab us qu by' sn wk rd r20 r21 ri mo)) (fun mk2 y7 y8 y10 lo hi lab us qu by' sn wk rd ri mo x1 x2 => ⟨mk2, y7, y8, y10, lo, hi, lab, us, qu, by', sn, wk, rd, ri, mo, x1, x2, rfl⟩)) wc_M_know w_471 w_5 wi_M_know ws_M_know (by decide +kernel) rfl rfl ⟨Nat.le_of_ble_eq_true rfl, Nat.le_of_ble_eq_true rfl⟩ (md_in hd (k := 0) rfl) md_at_0 rfl rfl rfl rfl (Nat.le_of_ble_eq_true rfl) hl.1 d_M_run_6 ⟨Nat.le_of_ble_eq_true rfl, Nat.le_of_ble_eq_true rfl⟩) (fun u H locs hp hh => ?_)
  obtain ⟨mk2, y7, y8, y10, lo, hi, lab, us, qu, by', sn, wk, rd, ri, mo, hKz, h8z, rfl⟩ := hp
  have hGs := cg_sub hW
  have hSz := md_sz hn hGs hKz h8z
  obtain ⟨S, eS⟩ : ∃ S : Nat → Nat, S = fun i => su (fun j => y8 (24 * i + j)) n := ⟨_, rfl⟩
  rw [← eS] at hSz
  have hS : ∀ i, su (fun j => y8 (24 * i + j)) n = S i := fun i => by rw [eS]
  have hSb : ∀ i, i < n → S i ≤ n - i := fun i hi => sz_le hGs hi (hSz i hi)
  have loop : ∀ (t i : Nat) (H : Heap) (locs : List Loc) (ls : Array Slot), n + 1 ≤ i + t → i ≤ n → hl_H g (hm_A sz L) s.heap L (mf g d f0 n mm sm 1 mk2 r3 r5 y7 y8 y10 lo hi lab us qu by' sn wk rd r20 r21 ri mo) H locs → lv_has ls 3 [(2, .int (nI i)), (1, .int (nI (rn S i))), (0, .ref (d 0))] → W p l e { frames := 4, cells := 0, slots := 0, locals := 130 } s m #[.ref (d 0)] below meth c H locs 0 0 (MQ below (va_Qi (post) (hm_B g sz L) (hm_A sz L)) #[.ref (d 0)] s 0 0 (hm_A sz L)) (F0 m 13 ls []) := by
    intro t
    induction t with
    | zero => intros; omega
    | succ t ih =>
      intro i H locs ls hk hin hh hl
      have b1 := rn_le S i
      refine lv_iload_n X.1 X.2.1 d_M_run_13 rfl (lv_at hl 0 rfl) ?_
      refine lv_aload_n X.1 X.2.1 d_M_run_14 rfl (lv_at hl 2 rfl) ?_
      refine hl_get X hK hh (ref := "CycleGroupsModel") i_M (ci := 5) rfl 0 (by decide) w_352 rfl (md_in hd (k := 0) rfl) md_at_0 rfl d_M_run_15 ?_
      refine hn_ige (tgt := 44) X (by omega) (by omega) d_M_run_18 (by decide) (fun hc => ?_) (fun hc => ?_)
      · have hin2 : i = n := by omega
        refine lv_iload_n X.1 X.2.1 d_M_run_44 rfl (lv_at hl 1 rfl) ?_
        exact hm_iret X hr hlk hh (hpo _ _ ⟨S, hSz, by rw [hin2], ⟨_, _, _, _, _, _, _, _, _, _, _, _, _, _, _, _, _, hKz, h8z, rfl⟩⟩) (Nat.le_of_ble_eq_true rfl) (Nat.le_of_ble_eq_true rfl) d_M_run_45
      have hin2 : i < n := hc
      have hs1 := hSb i hin2
      refine lv_iload_n X.1 X.2.1 d_M_run_21 rfl (lv_at hl 1 rfl) ?_
      refine lv_aload_n X.1 X.2.1 d_M_run_22 rfl (lv_at hl 2 rfl) ?_
      refine lv_iload_n X.1 X.2.1 d_M_run_23 rfl (lv_at hl 0 rfl) ?_
      refine hl_calli hh (hl_runV (k := 1) X hK hh (c_M_spreadSize l g _ L d f0 hd n mm sm 1 mk2 r3 r5 y7 y8 y10 lo hi lab us qu by' sn wk rd r20 r21 ri mo hn i (by omega) h8z) wc_M_spreadSize w_515 w_5 wi_M_spreadSize ws_M_spreadSize (by decide +kernel) rfl rfl ⟨Nat.le_of_ble_eq_true rfl, Nat.le_of_ble_eq_true rfl⟩ (md_in hd (k := 0) rfl) md_at_0 rfl rfl rfl rfl (Nat.le_of_ble_eq_true rfl) hl.1 d_M_run_24 ⟨Nat.le_of_ble_eq_true rfl, Nat.le_of_ble_eq_true rfl⟩) (fun r u H locs hp hh => ?_)
      obtain ⟨rfl, rfl⟩ := hp
      rw [hS]
      refine lv_iconst (v := nI 1) X.1 X.2.1 d_M_run_27 (by decide) ?_
      refine hn_ile (tgt := 35) X (by omega) (by omega) d_M_run_28 (by decide) (fun hc => ?_) (fun hc => ?_)
      · have e1 : rn S (i + 1) = rn S i := rn_n (by omega)
        refine lv_iconst (v := nI 0) X.1 X.2.1 d_M_run_35 (by decide) ?_
        refine hn_add X d_M_run_36 ?_
        refine lv_istore_n (lv' := [(1, .int (nI ((rn S i) + 0))), (2, .int (nI i)), (0, .ref (d 0))]) X.1 X.2.1 d_M_run_37 rfl hl (by decide) rfl (fun ls hl => ?_)
        refine lv_iinc (v := nI (i + 1)) (lv' := [(2, .int (nI (i + 1))), (1, .int (nI ((rn S i) + 0))), (0, .ref (d 0))]) X.1 X.2.1 d_M_run_38 hl (k := 1) rfl (hn_inc _) (by decide) rfl (fun ls hl => ?_)
        refine lv_goto (tgt := 13) X.1 X.2.1 d_M_run_41 (by decide) ?_
        rw [Nat.add_zero, ← e1] at hl
        exact ih (i + 1) H locs ls (by omega) (by omega) hh (lv_sub hl [0, 1, 2] rfl)
      have e1 : rn S (i + 1) = rn S i + 1 := rn_p (by omega)
      refine lv_iconst (v := nI 1) X.1 X.2.1 d_M_run_31 (by decide) ?_
      refine lv_goto (tgt := 36) X.1 X.2.1 d_M_run_32 (by decide) ?_
      refine hn_add X d_M_run_36 ?_
      refine lv_istore_n (lv' := [(1, .int (nI ((rn S i) + 1))), (2, .int (nI i)), (0, .ref (d 0))]) X.1 X.2.1 d_M_run_37 rfl hl (by decide) rfl (fun ls hl => ?_)
      refine lv_iinc (v := nI (i + 1)) (lv' := [(2, .int (nI (i + 1))), (1, .int (nI ((rn S i) + 1))), (0, .ref (d 0))]) X.1 X.2.1 d_M_run_38 hl (k := 1) rfl (hn_inc _) (by decide) rfl (fun ls hl => ?_)
      refine lv_goto (tgt := 13) X.1 X.2.1 d_M_run_41 (by decide) ?_
      rw [← e1] at hl
      exact ih (i + 1) H locs ls (by omega) (by omega) hh (lv_sub hl [0, 1, 2] rfl)
  refine lv_iconst (v := nI 0) X.1 X.2.1 d_M_run_9 (by decide) ?_
  refine lv_istore_n (lv' := [(1, .int (nI 0)), (0, .ref (d 0))]) X.1 X.2.1 d_M_run_10 rfl hl (by decide) rfl (fun ls hl => ?_)
  refine lv_iconst (v := nI 0) X.1 X.2.1 d_M_run_11 (by decide) ?_
  refine lv_istore_n (lv' := [(2, .int (nI 0)), (1, .int (nI 0)), (0, .ref (d 0))]) X.1 X.2.1 d_M_run_12 rfl hl (by decide) rfl (fun ls hl => ?_)
  exact loop (n + 1) 0 _ _ _ (by omega) (by omega) hh (lv_sub hl [0, 1, 2] rfl)

/-- int base(int k) -/
theorem c_M_base (l : Launch) (g : hl_G) (sz : Nat) (L : List Nat) (d : Nat → Nat) (f0 : Nat → va_E) (hd : md_D L d) (n mm sm kn mk : Nat) (r3 r5 r7 r8 r10 r11 r12 r13 r14 r15 r16 r17 r18 r19 r20 r21 r22 r23 : Nat → Nat) (mv st : Nat → Nat → Nat) (hW : cg_W n mm sm mv st) (h3 : ∀ i, i < mm → fr r3 i (mv i)) (h5 : ∀ j, j < sm → fr r5 j (st j)) (hkn : kn = 0 ∨ kn = 1) (h8 : ∀ p, r8 p = 0 ∨ r8 p = 1) (hKn : kn = 1 → md_K n mm mv n r7 r8) (q1 : Int32) (post : Int32 → List Nat × (Nat → va_E) → Prop) (hpo : ∀ r f1, (∃ S, sz_all (gp_gen (mv_T mv mm)) n S ∧ r = ba S q1 n 0 0 ∧ md_Z g d f0 n mm sm mv r3 r5 f1) → post r (L, f1)) :
    Met l y_M_base (hq y_M_base b_M_base 4 (some .int)) { frames := 4, cells := 0, slots := 0, locals := 130 } (hm_P g [.ref (d 0), .int q1] sz L (mf g d f0 n mm sm kn mk r3 r5 r7 r8 r10 r11 r12 r13 r14 r15 r16 r17 r18 r19 r20 r21 r22 r23)) (va_Qi (post) (hm_B g sz L) (hm_A sz L)) 0 0 (hm_A sz L) := by
  refine hm_ofW (by decide) (Nat.le_of_ble_eq_true rfl) ?_
  intro p e s m below meth c X hr hlk hnm hK hsz hh ls hl
  have hl : lv_has ls 4 [(0, .ref (d 0)), (1, .int q1)] := hl
  obtain ⟨hn0, hn, hmm, hsm, hmv, hst⟩ := id hW
  refine lv_aload_n X.1 X.2.1 d_M_base_0 rfl (lv_at hl 0 rfl) ?_
  refine lv_iconst (v := nI 0) X.1 X.2.1 d_M_base_1 (by decide) ?_
  refine hl_put X hK hh (ref := "CycleGroupsModel") i_M t_M t_M_ok n_M (ci := 5) rfl 1 (by decide) w_351 rfl rfl (md_in hd (k := 0) rfl) md_at_0 (by first | rfl | decide) (by first | rfl | decide) (Nat.le_of_ble_eq_true rfl) d_M_base_2 (fun H locs hh => ?_)
  have hh : hl_H g (hm_A sz L) s.heap L (mf g d f0 n mm sm kn mk r3 r5 r7 r8 r10 r11 r12 r13 r14 r15 r16 r17 r18 r19 r20 r21 r22 r23) H locs := md_set_0 hh
  refine lv_aload_n X.1 X.2.1 d_M_base_5 rfl (lv_at hl 0 rfl) ?_
  refine hl_callv hh (hl_runV (k := 0) X hK hh (c_M_know l g _ L d f0 hd n mm sm kn mk r3 r5 r7 r8 r10 r11 r12 r13 r14 r15 r16 r17 r18 r19 r20 r21 r22 r23 mv st hW h3 h5 hkn h8 hKn (fun u => ∃ mk2 y7 y8 y10 lo hi lab us qu by' sn wk rd ri mo, md_K n mm mv n y7 y8 ∧ (∀ p, y8 p = 0 ∨ y8 p = 1) ∧ u = (L, mf g d f0 n mm sm 1 mk2 r3 r5 y7 y8 y10 lo hi lab us qu by' sn wk rd r20 r21 ri mo)) (fun mk2 y7 y8 y10 lo hi lab us qu by' sn wk rd ri mo x1 x2 => ⟨mk2, y7, y8, y10, lo, hi, lab, us, qu, by', sn, wk, rd, ri, mo, x1, x2, rfl⟩)) wc_M_know w_471 w_5 wi_M_know ws_M_know (by decide +kernel) rfl rfl ⟨Nat.le_of_ble_eq_true rfl, Nat.le_of_ble_eq_true rfl⟩ (md_in hd (k := 0) rfl) md_at_0 rfl rfl rfl rfl (Nat.le_of_ble_eq_true rfl) hl.1 d_M_base_6 ⟨Nat.le_of_ble_eq_true rfl, Nat.le_of_ble_eq_true rfl⟩) (fun u H locs hp hh => ?_)
  obtain ⟨mk2, y7, y8, y10, lo, hi, lab, us, qu, by', sn, wk, rd, ri, mo, hKz, h8z, rfl⟩ := hp
  have hGs := cg_sub hW
  have hSz := md_sz hn hGs hKz h8z
  obtain ⟨S, eS⟩ : ∃ S : Nat → Nat, S = fun i => su (fun j => y8 (24 * i + j)) n := ⟨_, rfl⟩
  rw [← eS] at hSz
  have hS : ∀ i, su (fun j => y8 (24 * i + j)) n = S i := fun i => by rw [eS]
  have hSb : ∀ i, i < n → S i ≤ n - i := fun i hi => sz_le hGs hi (hSz i hi)
  have loop : ∀ (t i c0 : Nat) (H : Heap) (locs : List Loc) (ls : Array Slot), n = i + t → ba S q1 t i c0 = ba S q1 n 0 0 → hl_H g (hm_A sz L) s.heap L (mf g d f0 n mm sm 1 mk2 r3 r5 y7 y8 y10 lo hi lab us qu by' sn wk rd r20 r21 ri mo) H locs → lv_has ls 4 [(3, .int (nI i)), (2, .int (nI c0)), (0, .ref (d 0)), (1, .int q1)] → W p l e { frames := 4, cells := 0, slots := 0, locals := 130 } s m #[.ref (d 0), .int q1] below meth c H locs 0 0 (MQ below (va_Qi (post) (hm_B g sz L) (hm_A sz L)) #[.ref (d 0), .int q1] s 0 0 (hm_A sz L)) (F0 m 13 ls []) := by
    intro t
    induction t with
    | zero =>
      intro i c0 H locs ls hk he hh hl
      refine lv_iload_n X.1 X.2.1 d_M_base_13 rfl (lv_at hl 0 rfl) ?_
      refine lv_aload_n X.1 X.2.1 d_M_base_14 rfl (lv_at hl 2 rfl) ?_
      refine hl_get X hK hh (ref := "CycleGroupsModel") i_M (ci := 5) rfl 0 (by decide) w_352 rfl (md_in hd (k := 0) rfl) md_at_0 rfl d_M_base_15 ?_
      refine hn_ige (tgt := 49) X (by omega) (by omega) d_M_base_18 (by decide) (fun hc => ?_) (fun hc => ?_)
      · skip
        refine lv_iconst (v := -1) X.1 X.2.1 d_M_base_49 (by decide) ?_
        exact hm_iret X hr hlk hh (hpo _ _ ⟨S, hSz, he, ⟨_, _, _, _, _, _, _, _, _, _, _, _, _, _, _, _, _, hKz, h8z, rfl⟩⟩) (Nat.le_of_ble_eq_true rfl) (Nat.le_of_ble_eq_true rfl) d_M_base_50
      · omega
    | succ t ih =>
      intro i c0 H locs ls hk he hh hl
      have he : (if 2 ≤ S i then (if nI c0 = q1 then nI i else ba S q1 t (i + 1) (c0 + 1)) else ba S q1 t (i + 1) c0) = _ := he
      refine lv_iload_n X.1 X.2.1 d_M_base_13 rfl (lv_at hl 0 rfl) ?_
      refine lv_aload_n X.1 X.2.1 d_M_base_14 rfl (lv_at hl 2 rfl) ?_
      refine hl_get X hK hh (ref := "CycleGroupsModel") i_M (ci := 5) rfl 0 (by decide) w_352 rfl (md_in hd (k := 0) rfl) md_at_0 rfl d_M_base_15 ?_
      refine hn_ige (tgt := 49) X (by omega) (by omega) d_M_base_18 (by decide) (fun hc => ?_) (fun hc => ?_)
      · omega
      have hin2 : i < n := hc
      have hs1 := hSb i hin2
      refine lv_aload_n X.1 X.2.1 d_M_base_21 rfl (lv_at hl 2 rfl) ?_
      refine lv_iload_n X.1 X.2.1 d_M_base_22 rfl (lv_at hl 0 rfl) ?_
      refine hl_calli hh (hl_runV (k := 1) X hK hh (c_M_spreadSize l g _ L d f0 hd n mm sm 1 mk2 r3 r5 y7 y8 y10 lo hi lab us qu by' sn wk rd r20 r21 ri mo hn i (by omega) h8z) wc_M_spreadSize w_515 w_5 wi_M_spreadSize ws_M_spreadSize (by decide +kernel) rfl rfl ⟨Nat.le_of_ble_eq_true rfl, Nat.le_of_ble_eq_true rfl⟩ (md_in hd (k := 0) rfl) md_at_0 rfl rfl rfl rfl (Nat.le_of_ble_eq_true rfl) hl.1 d_M_base_23 ⟨Nat.le_of_ble_eq_true rfl, Nat.le_of_ble_eq_true rfl⟩) (fun r u H locs hp hh => ?_)
      obtain ⟨rfl, rfl⟩ := hp
      rw [hS]
      refine lv_iconst (v := nI 2) X.1 X.2.1 d_M_base_26 (by decide) ?_
      refine hn_ige (tgt := 33) X (by omega) (by omega) d_M_base_27 (by decide) (fun hc => ?_) (fun hc => ?_)
      · have hc : 2 ≤ S i := hc
        rw [if_pos hc] at he
        refine lv_iload_n X.1 X.2.1 d_M_base_33 rfl (lv_at hl 1 rfl) ?_
        refine lv_iload_n X.1 X.2.1 d_M_base_34 rfl (lv_at hl 3 rfl) ?_
        refine lv_icmp_ne (tgt := 40) X.1 X.2.1 d_M_base_35 (by decide) (fun hc => ?_) (fun hc => ?_)
        · rw [if_neg hc] at he
          refine lv_iinc (v := nI (c0 + 1)) (lv' := [(2, .int (nI (c0 + 1))), (3, .int (nI i)), (0, .ref (d 0)), (1, .int q1)]) X.1 X.2.1 d_M_base_40 hl (k := 1) rfl (hn_inc _) (by decide) rfl (fun ls hl => ?_)
          refine lv_iinc (v := nI (i + 1)) (lv' := [(3, .int (nI (i + 1))), (2, .int (nI (c0 + 1))), (0, .ref (d 0)), (1, .int q1)]) X.1 X.2.1 d_M_base_43 hl (k := 1) rfl (hn_inc _) (by decide) rfl (fun ls hl => ?_)
          refine lv_goto (tgt := 13) X.1 X.2.1 d_M_base_46 (by decide) ?_
          exact ih (i + 1) (c0 + 1) H locs ls (by omega) he hh (lv_sub hl [0, 1, 2, 3] rfl)
        rw [if_pos hc] at he
        refine lv_iload_n X.1 X.2.1 d_M_base_38 rfl (lv_at hl 0 rfl) ?_
        exact hm_iret X hr hlk hh (hpo _ _ ⟨S, hSz, he, ⟨_, _, _, _, _, _, _, _, _, _, _, _, _, _, _, _, _, hKz, h8z, rfl⟩⟩) (Nat.le_of_ble_eq_true rfl) (Nat.le_of_ble_eq_true rfl) d_M_base_39
      have hc2 : ¬ 2 ≤ S i := by omega
      rw [if_neg hc2] at he
      refine lv_goto (tgt := 43) X.1 X.2.1 d_M_base_30 (by decide) ?_
      refine lv_iinc (v := nI (i + 1)) (lv' := [(3, .int (nI (i + 1))), (2, .int (nI c0)), (0, .ref (d 0)), (1, .int q1)]) X.1 X.2.1 d_M_base_43 hl (k := 0) rfl (hn_inc _) (by decide) rfl (fun ls hl => ?_)
      refine lv_goto (tgt := 13) X.1 X.2.1 d_M_base_46 (by decide) ?_
      exact ih (i + 1) c0 H locs ls (by omega) he hh (lv_sub hl [0, 1, 2, 3] rfl)
  refine lv_iconst (v := nI 0) X.1 X.2.1 d_M_base_9 (by decide) ?_
  refine lv_istore_n (lv' := [(2, .int (nI 0)), (0, .ref (d 0)), (1, .int q1)]) X.1 X.2.1 d_M_base_10 rfl hl (by decide) rfl (fun ls hl => ?_)
  refine lv_iconst (v := nI 0) X.1 X.2.1 d_M_base_11 (by decide) ?_
  refine lv_istore_n (lv' := [(3, .int (nI 0)), (2, .int (nI 0)), (0, .ref (d 0)), (1, .int q1)]) X.1 X.2.1 d_M_base_12 rfl hl (by decide) rfl (fun ls hl => ?_)
  exact loop n 0 0 _ _ _ (by omega) rfl hh (lv_sub hl [0, 1, 2, 3] rfl)

/-- int order(int i) -/
theorem c_M_order (l : Launch) (g : hl_G) (sz : Nat) (L : List Nat) (d : Nat → Nat) (f0 : Nat → va_E) (hd : md_D L d) (n mm sm kn mk : Nat) (r3 r5 r7 r8 r10 r11 r12 r13 r14 r15 r16 r17 r18 r19 r20 r21 r22 r23 : Nat → Nat) (mv st : Nat → Nat → Nat) (hW : cg_W n mm sm mv st) (h3 : ∀ i, i < mm → fr r3 i (mv i)) (h5 : ∀ j, j < sm → fr r5 j (st j)) (hkn : kn = 0 ∨ kn = 1) (h8 : ∀ p, r8 p = 0 ∨ r8 p = 1) (hKn : kn = 1 → md_K n mm mv n r7 r8) (q1 : Int32) (post : Int32 → List Nat × (Nat → va_E) → Prop) (hpo : ∀ r f1, (∃ S, sz_all (gp_gen (mv_T mv mm)) n S ∧ r = dg_at (dgt (ch_pr S 0 n)) 24 q1 ∧ md_Z g d f0 n mm sm mv r3 r5 f1) → post r (L, f1)) :
    Met l y_M_order (hq y_M_order b_M_order 2 (some .int)) { frames := 4, cells := 0, slots := 0, locals := 130 } (hm_P g [.ref (d 0), .int q1] sz L (mf g d f0 n mm sm kn mk r3 r5 r7 r8 r10 r11 r12 r13 r14 r15 r16 r17 r18 r19 r20 r21 r22 r23)) (va_Qi (post) (hm_B g sz L) (hm_A sz L)) 0 0 (hm_A sz L) := by
  refine hm_ofW (by decide) (Nat.le_of_ble_eq_true rfl) ?_
  intro p e s m below meth c X hr hlk hnm hK hsz hh ls hl
  have hl : lv_has ls 2 [(0, .ref (d 0)), (1, .int q1)] := hl
  obtain ⟨hn0, hn, hmm, hsm, hmv, hst⟩ := id hW
  refine lv_aload_n X.1 X.2.1 d_M_order_0 rfl (lv_at hl 0 rfl) ?_
  refine lv_iconst (v := nI 0) X.1 X.2.1 d_M_order_1 (by decide) ?_
  refine hl_put X hK hh (ref := "CycleGroupsModel") i_M t_M t_M_ok n_M (ci := 5) rfl 1 (by decide) w_351 rfl rfl (md_in hd (k := 0) rfl) md_at_0 (by first | rfl | decide) (by first | rfl | decide) (Nat.le_of_ble_eq_true rfl) d_M_order_2 (fun H locs hh => ?_)
  have hh : hl_H g (hm_A sz L) s.heap L (mf g d f0 n mm sm kn mk r3 r5 r7 r8 r10 r11 r12 r13 r14 r15 r16 r17 r18 r19 r20 r21 r22 r23) H locs := md_set_0 hh
  refine lv_aload_n X.1 X.2.1 d_M_order_5 rfl (lv_at hl 0 rfl) ?_
  refine hl_callv hh (hl_runV (k := 0) X hK hh (c_M_know l g _ L d f0 hd n mm sm kn mk r3 r5 r7 r8 r10 r11 r12 r13 r14 r15 r16 r17 r18 r19 r20 r21 r22 r23 mv st hW h3 h5 hkn h8 hKn (fun u => ∃ mk2 y7 y8 y10 lo hi lab us qu by' sn wk rd ri mo, md_K n mm mv n y7 y8 ∧ (∀ p, y8 p = 0 ∨ y8 p = 1) ∧ u = (L, mf g d f0 n mm sm 1 mk2 r3 r5 y7 y8 y10 lo hi lab us qu by' sn wk rd r20 r21 ri mo)) (fun mk2 y7 y8 y10 lo hi lab us qu by' sn wk rd ri mo x1 x2 => ⟨mk2, y7, y8, y10, lo, hi, lab, us, qu, by', sn, wk, rd, ri, mo, x1, x2, rfl⟩)) wc_M_know w_471 w_5 wi_M_know ws_M_know (by decide +kernel) rfl rfl ⟨Nat.le_of_ble_eq_true rfl, Nat.le_of_ble_eq_true rfl⟩ (md_in hd (k := 0) rfl) md_at_0 rfl rfl rfl rfl (Nat.le_of_ble_eq_true rfl) hl.1 d_M_order_6 ⟨Nat.le_of_ble_eq_true rfl, Nat.le_of_ble_eq_true rfl⟩) (fun u H locs hp hh => ?_)
  obtain ⟨mk2, y7, y8, y10, lo, hi, lab, us, qu, by', sn, wk, rd, ri, mo, hKz, h8z, rfl⟩ := hp
  have hGs := cg_sub hW
  have hSz := md_sz hn hGs hKz h8z
  obtain ⟨S, eS⟩ : ∃ S : Nat → Nat, S = fun i => su (fun j => y8 (24 * i + j)) n := ⟨_, rfl⟩
  rw [← eS] at hSz
  have hS : ∀ i, su (fun j => y8 (24 * i + j)) n = S i := fun i => by rw [eS]
  have hSb : ∀ i, i < n → S i ≤ n - i := fun i hi => sz_le hGs hi (hSz i hi)
  refine lv_aload_n X.1 X.2.1 d_M_order_9 rfl (lv_at hl 0 rfl) ?_
  refine lv_iload_n X.1 X.2.1 d_M_order_10 rfl (lv_at hl 1 rfl) ?_
  refine lv_iconst (v := nI 1) X.1 X.2.1 d_M_order_11 (by decide) ?_
  refine hl_calli hh (hl_runV (k := 2) X hK hh (c_M_digitOf l g _ L d f0 hd n mm sm 1 mk2 r3 r5 y7 y8 y10 lo hi lab us qu by' sn wk rd r20 r21 ri mo hn q1 1 (by decide) (by decide) h8z S (fun i hi => hS i) hSb) wc_M_digitOf w_531 w_5 wi_M_digitOf ws_M_digitOf (by decide +kernel) rfl rfl ⟨Nat.le_of_ble_eq_true rfl, Nat.le_of_ble_eq_true rfl⟩ (md_in hd (k := 0) rfl) md_at_0 rfl rfl rfl rfl (Nat.le_of_ble_eq_true rfl) hl.1 d_M_order_12 ⟨Nat.le_of_ble_eq_true rfl, Nat.le_of_ble_eq_true rfl⟩) (fun r u H locs hp hh => ?_)
  obtain ⟨rfl, x, rfl⟩ := hp
  rw [Nat.div_one]
  exact hm_iret X hr hlk hh (hpo _ _ ⟨S, hSz, rfl, ⟨_, _, _, _, _, _, _, _, _, _, _, _, _, _, _, _, _, hKz, h8z, rfl⟩⟩) (Nat.le_of_ble_eq_true rfl) (Nat.le_of_ble_eq_true rfl) d_M_order_15

/-- int stabiliser(int p, int i) -/
theorem c_M_stabiliser (l : Launch) (g : hl_G) (sz : Nat) (L : List Nat) (d : Nat → Nat) (f0 : Nat → va_E) (hd : md_D L d) (n mm sm kn mk : Nat) (r3 r5 r7 r8 r10 r11 r12 r13 r14 r15 r16 r17 r18 r19 r20 r21 r22 r23 : Nat → Nat) (mv st : Nat → Nat → Nat) (hW : cg_W n mm sm mv st) (h3 : ∀ i, i < mm → fr r3 i (mv i)) (h5 : ∀ j, j < sm → fr r5 j (st j)) (hkn : kn = 0 ∨ kn = 1) (h8 : ∀ p, r8 p = 0 ∨ r8 p = 1) (hKn : kn = 1 → md_K n mm mv n r7 r8) (q1 q2 : Int32) (post : Int32 → List Nat × (Nat → va_E) → Prop) (hpo : ∀ r f1, (ip q1 n = false ∧ r = -1 ∧ f1 = mf g d f0 n mm sm kn mk r3 r5 r7 r8 r10 r11 r12 r13 r14 r15 r16 r17 r18 r19 r20 r21 r22 r23) ∨ (∃ j S, j < n ∧ q1 = nI j ∧ sz_all (gp_gen (mv_T mv mm)) n S ∧ r = dg_at (dgt (ch_pr S 0 n / pt_size (pt_orb mv n id mm) j n)) 24 q2 ∧ md_Z g d f0 n mm sm mv r3 r5 f1) → post r (L, f1)) :
    Met l y_M_stabiliser (hq y_M_stabiliser b_M_stabiliser 3 (some .int)) { frames := 4, cells := 0, slots := 0, locals := 130 } (hm_P g [.ref (d 0), .int q1, .int q2] sz L (mf g d f0 n mm sm kn mk r3 r5 r7 r8 r10 r11 r12 r13 r14 r15 r16 r17 r18 r19 r20 r21 r22 r23)) (va_Qi (post) (hm_B g sz L) (hm_A sz L)) 0 0 (hm_A sz L) := by
  refine hm_ofW (by decide) (Nat.le_of_ble_eq_true rfl) ?_
  intro p e s m below meth c X hr hlk hnm hK hsz hh ls hl
  have hl : lv_has ls 3 [(0, .ref (d 0)), (1, .int q1), (2, .int q2)] := hl
  obtain ⟨hn0, hn, hmm, hsm, hmv, hst⟩ := id hW
  rcases ip_cases q1 (n := n) (by omega) with h1 | ⟨j, hj, rfl⟩
  · skip
    refine lv_aload_n X.1 X.2.1 d_M_stabiliser_0 rfl (lv_at hl 0 rfl) ?_
    refine lv_iconst (v := nI 0) X.1 X.2.1 d_M_stabiliser_1 (by decide) ?_
    refine hl_put X hK hh (ref := "CycleGroupsModel") i_M t_M t_M_ok n_M (ci := 5) rfl 1 (by decide) w_351 rfl rfl (md_in hd (k := 0) rfl) md_at_0 (by first | rfl | decide) (by first | rfl | decide) (Nat.le_of_ble_eq_true rfl) d_M_stabiliser_2 (fun H locs hh => ?_)
    have hh : hl_H g (hm_A sz L) s.heap L (mf g d f0 n mm sm kn mk r3 r5 r7 r8 r10 r11 r12 r13 r14 r15 r16 r17 r18 r19 r20 r21 r22 r23) H locs := md_set_0 hh
    refine lv_aload_n X.1 X.2.1 d_M_stabiliser_5 rfl (lv_at hl 0 rfl) ?_
    refine lv_iload_n X.1 X.2.1 d_M_stabiliser_6 rfl (lv_at hl 1 rfl) ?_
    refine hl_calli hh (hl_runV (k := 1) X hK hh (c_M_isPlace l g _ L d _ hd _ _ _ _ _ _ _ _ _ _ _ _ _ _ _ _ _ _ _ _ _ _ _ q1 (by omega)) wc_M_isPlace w_433 w_5 wi_M_isPlace ws_M_isPlace (by decide +kernel) rfl rfl ⟨Nat.le_of_ble_eq_true rfl, Nat.le_of_ble_eq_true rfl⟩ (md_in hd (k := 0) rfl) md_at_0 rfl rfl rfl rfl (Nat.le_of_ble_eq_true rfl) hl.1 d_M_stabiliser_7 ⟨Nat.le_of_ble_eq_true rfl, Nat.le_of_ble_eq_true rfl⟩) (fun r u H locs hp hh => ?_)
    obtain ⟨hr1, rfl⟩ := hp
    rw [h1] at hr1
    subst hr1
    refine lv_if_ne (tgt := 15) X.1 X.2.1 d_M_stabiliser_10 (by decide) (fun hc => absurd (by decide) hc) (fun _ => ?_)
    refine lv_iconst (v := -1) X.1 X.2.1 d_M_stabiliser_13 (by decide) ?_
    exact hm_iret X hr hlk hh (hpo _ _ (Or.inl ⟨h1, rfl, rfl⟩)) (Nat.le_of_ble_eq_true rfl) (Nat.le_of_ble_eq_true rfl) d_M_stabiliser_14
  · have h1 := ip_in (by omega : n < 2 ^ 31) hj
    refine lv_aload_n X.1 X.2.1 d_M_stabiliser_0 rfl (lv_at hl 0 rfl) ?_
    refine lv_iconst (v := nI 0) X.1 X.2.1 d_M_stabiliser_1 (by decide) ?_
    refine hl_put X hK hh (ref := "CycleGroupsModel") i_M t_M t_M_ok n_M (ci := 5) rfl 1 (by decide) w_351 rfl rfl (md_in hd (k := 0) rfl) md_at_0 (by first | rfl | decide) (by first | rfl | decide) (Nat.le_of_ble_eq_true rfl) d_M_stabiliser_2 (fun H locs hh => ?_)
    have hh : hl_H g (hm_A sz L) s.heap L (mf g d f0 n mm sm kn mk r3 r5 r7 r8 r10 r11 r12 r13 r14 r15 r16 r17 r18 r19 r20 r21 r22 r23) H locs := md_set_0 hh
    refine lv_aload_n X.1 X.2.1 d_M_stabiliser_5 rfl (lv_at hl 0 rfl) ?_
    refine lv_iload_n X.1 X.2.1 d_M_stabiliser_6 rfl (lv_at hl 1 rfl) ?_
    refine hl_calli hh (hl_runV (k := 1) X hK hh (c_M_isPlace l g _ L d _ hd _ _ _ _ _ _ _ _ _ _ _ _ _ _ _ _ _ _ _ _ _ _ _ (nI j) (by omega)) wc_M_isPlace w_433 w_5 wi_M_isPlace ws_M_isPlace (by decide +kernel) rfl rfl ⟨Nat.le_of_ble_eq_true rfl, Nat.le_of_ble_eq_true rfl⟩ (md_in hd (k := 0) rfl) md_at_0 rfl rfl rfl rfl (Nat.le_of_ble_eq_true rfl) hl.1 d_M_stabiliser_7 ⟨Nat.le_of_ble_eq_true rfl, Nat.le_of_ble_eq_true rfl⟩) (fun r u H locs hp hh => ?_)
    obtain ⟨hr1, rfl⟩ := hp
    rw [h1] at hr1
    subst hr1
    refine lv_if_ne (tgt := 15) X.1 X.2.1 d_M_stabiliser_10 (by decide) (fun _ => ?_) (fun hc => absurd hc (by decide))
    refine lv_aload_n X.1 X.2.1 d_M_stabiliser_15 rfl (lv_at hl 0 rfl) ?_
    refine hl_callv hh (hl_runV (k := 0) X hK hh (c_M_know l g _ L d f0 hd n mm sm kn mk r3 r5 r7 r8 r10 r11 r12 r13 r14 r15 r16 r17 r18 r19 r20 r21 r22 r23 mv st hW h3 h5 hkn h8 hKn (fun u => ∃ mk2 y7 y8 y10 lo hi lab us qu by' sn wk rd ri mo, md_K n mm mv n y7 y8 ∧ (∀ p, y8 p = 0 ∨ y8 p = 1) ∧ u = (L, mf g d f0 n mm sm 1 mk2 r3 r5 y7 y8 y10 lo hi lab us qu by' sn wk rd r20 r21 ri mo)) (fun mk2 y7 y8 y10 lo hi lab us qu by' sn wk rd ri mo x1 x2 => ⟨mk2, y7, y8, y10, lo, hi, lab, us, qu, by', sn, wk, rd, ri, mo, x1, x2, rfl⟩)) wc_M_know w_471 w_5 wi_M_know ws_M_know (by decide +kernel) rfl rfl ⟨Nat.le_of_ble_eq_true rfl, Nat.le_of_ble_eq_true rfl⟩ (md_in hd (k := 0) rfl) md_at_0 rfl rfl rfl rfl (Nat.le_of_ble_eq_true rfl) hl.1 d_M_stabiliser_16 ⟨Nat.le_of_ble_eq_true rfl, Nat.le_of_ble_eq_true rfl⟩) (fun u H locs hp hh => ?_)
    obtain ⟨mk2, y7, y8, y10, lo, hi, lab, us, qu, by', sn, wk, rd, ri, mo, hKz, h8z, rfl⟩ := hp
    have hGs := cg_sub hW
    have hSz := md_sz hn hGs hKz h8z
    obtain ⟨S, eS⟩ : ∃ S : Nat → Nat, S = fun i => su (fun j => y8 (24 * i + j)) n := ⟨_, rfl⟩
    rw [← eS] at hSz
    have hS : ∀ i, su (fun j => y8 (24 * i + j)) n = S i := fun i => by rw [eS]
    have hSb : ∀ i, i < n → S i ≤ n - i := fun i hi => sz_le hGs hi (hSz i hi)
    refine lv_aload_n X.1 X.2.1 d_M_stabiliser_19 rfl (lv_at hl 0 rfl) ?_
    refine hl_callv hh (hl_runV (k := 0) X hK hh (c_M_orbits l g _ L d f0 hd n mm sm 1 mk2 r3 r5 y7 y8 y10 lo hi lab us qu by' sn wk rd r20 r21 ri mo mv st hW h3 h5) wc_M_orbits w_539 w_5 wi_M_orbits ws_M_orbits (by decide +kernel) rfl rfl ⟨Nat.le_of_ble_eq_true rfl, Nat.le_of_ble_eq_true rfl⟩ (md_in hd (k := 0) rfl) md_at_0 rfl rfl rfl rfl (Nat.le_of_ble_eq_true rfl) hl.1 d_M_stabiliser_20 ⟨Nat.le_of_ble_eq_true rfl, Nat.le_of_ble_eq_true rfl⟩) (fun u H locs hp hh => ?_)
    subst hp
    have hsz1 := pt_size_le (pt_orb mv n id mm) j n
    have hsz2 := pt_size_pos (pt_orb mv n id mm) hj
    refine lv_aload_n X.1 X.2.1 d_M_stabiliser_23 rfl (lv_at hl 0 rfl) ?_
    refine lv_iload_n X.1 X.2.1 d_M_stabiliser_24 rfl (lv_at hl 2 rfl) ?_
    refine lv_aload_n X.1 X.2.1 d_M_stabiliser_25 rfl (lv_at hl 0 rfl) ?_
    refine lv_iload_n X.1 X.2.1 d_M_stabiliser_26 rfl (lv_at hl 1 rfl) ?_
    refine hl_calli hh (hl_runV (k := 1) X hK hh (c_M_sizeOf l g _ L d f0 hd n mm sm 1 mk2 r3 r5 y7 y8 y10 lo hi lab us qu by' sn wk rd (pt_orb mv n id mm) r21 ri mo hn j hj (pt_orb_24 hW mm (Nat.le_refl _))) wc_M_sizeOf w_555 w_5 wi_M_sizeOf ws_M_sizeOf (by decide +kernel) rfl rfl ⟨Nat.le_of_ble_eq_true rfl, Nat.le_of_ble_eq_true rfl⟩ (md_in hd (k := 0) rfl) md_at_0 rfl rfl rfl rfl (Nat.le_of_ble_eq_true rfl) hl.1 d_M_stabiliser_27 ⟨Nat.le_of_ble_eq_true rfl, Nat.le_of_ble_eq_true rfl⟩) (fun r u H locs hp hh => ?_)
    obtain ⟨rfl, rfl⟩ := hp
    refine hl_calli hh (hl_runV (k := 2) X hK hh (c_M_digitOf l g _ L d f0 hd n mm sm 1 mk2 r3 r5 y7 y8 y10 lo hi lab us qu by' sn wk rd (pt_orb mv n id mm) r21 ri mo hn q2 (pt_size (pt_orb mv n id mm) j n) hsz2 (by omega) h8z S (fun i hi => hS i) hSb) wc_M_digitOf w_531 w_5 wi_M_digitOf ws_M_digitOf (by decide +kernel) rfl rfl ⟨Nat.le_of_ble_eq_true rfl, Nat.le_of_ble_eq_true rfl⟩ (md_in hd (k := 0) rfl) md_at_0 rfl rfl rfl rfl (Nat.le_of_ble_eq_true rfl) hl.1 d_M_stabiliser_30 ⟨Nat.le_of_ble_eq_true rfl, Nat.le_of_ble_eq_true rfl⟩) (fun r u H locs hp hh => ?_)
    obtain ⟨rfl, x, rfl⟩ := hp
    exact hm_iret X hr hlk hh (hpo _ _ (Or.inr ⟨j, S, hj, rfl, hSz, rfl, ⟨_, _, _, _, _, _, _, _, _, _, _, _, _, _, _, _, _, hKz, h8z, rfl⟩⟩)) (Nat.le_of_ble_eq_true rfl) (Nat.le_of_ble_eq_true rfl) d_M_stabiliser_33

/-- int level(int s) -/
theorem c_M_level (l : Launch) (g : hl_G) (sz : Nat) (L : List Nat) (d : Nat → Nat) (f0 : Nat → va_E) (hd : md_D L d) (n mm sm kn mk : Nat) (r3 r5 r7 r8 r10 r11 r12 r13 r14 r15 r16 r17 r18 r19 r20 r21 r22 r23 : Nat → Nat) (mv st : Nat → Nat → Nat) (hW : cg_W n mm sm mv st) (h3 : ∀ i, i < mm → fr r3 i (mv i)) (h5 : ∀ j, j < sm → fr r5 j (st j)) (hkn : kn = 0 ∨ kn = 1) (h8 : ∀ p, r8 p = 0 ∨ r8 p = 1) (hKn : kn = 1 → md_K n mm mv n r7 r8) (q1 : Int32) (post : Int32 → List Nat × (Nat → va_E) → Prop) (hpo : ∀ r f1, (ip q1 sm = false ∧ r = -1 ∧ f1 = mf g d f0 n mm sm kn mk r3 r5 r7 r8 r10 r11 r12 r13 r14 r15 r16 r17 r18 r19 r20 r21 r22 r23) ∨ (∃ j k, j < sm ∧ q1 = nI j ∧ ch_lv (gp_gen (mv_T mv mm)) n (st j) k ∧ r = nI k ∧ md_Z g d f0 n mm sm mv r3 r5 f1) → post r (L, f1)) :
    Met l y_M_level (hq y_M_level b_M_level 3 (some .int)) { frames := 4, cells := 0, slots := 0, locals := 130 } (hm_P g [.ref (d 0), .int q1] sz L (mf g d f0 n mm sm kn mk r3 r5 r7 r8 r10 r11 r12 r13 r14 r15 r16 r17 r18 r19 r20 r21 r22 r23)) (va_Qi (post) (hm_B g sz L) (hm_A sz L)) 0 0 (hm_A sz L) := by
  refine hm_ofW (by decide) (Nat.le_of_ble_eq_true rfl) ?_
  intro p e s m below meth c X hr hlk hnm hK hsz hh ls hl
  have hl : lv_has ls 3 [(0, .ref (d 0)), (1, .int q1)] := hl
  obtain ⟨hn0, hn, hmm, hsm, hmv, hst⟩ := id hW
  rcases ip_cases q1 (n := sm) (by omega) with h1 | ⟨j, hj, rfl⟩
  · skip
    refine lv_aload_n X.1 X.2.1 d_M_level_0 rfl (lv_at hl 0 rfl) ?_
    refine lv_iconst (v := nI 0) X.1 X.2.1 d_M_level_1 (by decide) ?_
    refine hl_put X hK hh (ref := "CycleGroupsModel") i_M t_M t_M_ok n_M (ci := 5) rfl 1 (by decide) w_351 rfl rfl (md_in hd (k := 0) rfl) md_at_0 (by first | rfl | decide) (by first | rfl | decide) (Nat.le_of_ble_eq_true rfl) d_M_level_2 (fun H locs hh => ?_)
    have hh : hl_H g (hm_A sz L) s.heap L (mf g d f0 n mm sm kn mk r3 r5 r7 r8 r10 r11 r12 r13 r14 r15 r16 r17 r18 r19 r20 r21 r22 r23) H locs := md_set_0 hh
    refine lv_aload_n X.1 X.2.1 d_M_level_5 rfl (lv_at hl 0 rfl) ?_
    refine lv_iload_n X.1 X.2.1 d_M_level_6 rfl (lv_at hl 1 rfl) ?_
    refine hl_calli hh (hl_runV (k := 1) X hK hh (c_M_isState l g _ L d _ hd _ _ _ _ _ _ _ _ _ _ _ _ _ _ _ _ _ _ _ _ _ _ _ q1 (by omega)) wc_M_isState w_445 w_5 wi_M_isState ws_M_isState (by decide +kernel) rfl rfl ⟨Nat.le_of_ble_eq_true rfl, Nat.le_of_ble_eq_true rfl⟩ (md_in hd (k := 0) rfl) md_at_0 rfl rfl rfl rfl (Nat.le_of_ble_eq_true rfl) hl.1 d_M_level_7 ⟨Nat.le_of_ble_eq_true rfl, Nat.le_of_ble_eq_true rfl⟩) (fun r u H locs hp hh => ?_)
    obtain ⟨hr1, rfl⟩ := hp
    rw [h1] at hr1
    subst hr1
    refine lv_if_ne (tgt := 15) X.1 X.2.1 d_M_level_10 (by decide) (fun hc => absurd (by decide) hc) (fun _ => ?_)
    refine lv_iconst (v := -1) X.1 X.2.1 d_M_level_13 (by decide) ?_
    exact hm_iret X hr hlk hh (hpo _ _ (Or.inl ⟨h1, rfl, rfl⟩)) (Nat.le_of_ble_eq_true rfl) (Nat.le_of_ble_eq_true rfl) d_M_level_14
  have h1 := ip_in (by omega : sm < 2 ^ 31) hj
  refine lv_aload_n X.1 X.2.1 d_M_level_0 rfl (lv_at hl 0 rfl) ?_
  refine lv_iconst (v := nI 0) X.1 X.2.1 d_M_level_1 (by decide) ?_
  refine hl_put X hK hh (ref := "CycleGroupsModel") i_M t_M t_M_ok n_M (ci := 5) rfl 1 (by decide) w_351 rfl rfl (md_in hd (k := 0) rfl) md_at_0 (by first | rfl | decide) (by first | rfl | decide) (Nat.le_of_ble_eq_true rfl) d_M_level_2 (fun H locs hh => ?_)
  have hh : hl_H g (hm_A sz L) s.heap L (mf g d f0 n mm sm kn mk r3 r5 r7 r8 r10 r11 r12 r13 r14 r15 r16 r17 r18 r19 r20 r21 r22 r23) H locs := md_set_0 hh
  refine lv_aload_n X.1 X.2.1 d_M_level_5 rfl (lv_at hl 0 rfl) ?_
  refine lv_iload_n X.1 X.2.1 d_M_level_6 rfl (lv_at hl 1 rfl) ?_
  refine hl_calli hh (hl_runV (k := 1) X hK hh (c_M_isState l g _ L d _ hd _ _ _ _ _ _ _ _ _ _ _ _ _ _ _ _ _ _ _ _ _ _ _ (nI j) (by omega)) wc_M_isState w_445 w_5 wi_M_isState ws_M_isState (by decide +kernel) rfl rfl ⟨Nat.le_of_ble_eq_true rfl, Nat.le_of_ble_eq_true rfl⟩ (md_in hd (k := 0) rfl) md_at_0 rfl rfl rfl rfl (Nat.le_of_ble_eq_true rfl) hl.1 d_M_level_7 ⟨Nat.le_of_ble_eq_true rfl, Nat.le_of_ble_eq_true rfl⟩) (fun r u H locs hp hh => ?_)
  obtain ⟨hr1, rfl⟩ := hp
  rw [h1] at hr1
  subst hr1
  refine lv_if_ne (tgt := 15) X.1 X.2.1 d_M_level_10 (by decide) (fun _ => ?_) (fun hc => absurd hc (by decide))
  refine lv_aload_n X.1 X.2.1 d_M_level_15 rfl (lv_at hl 0 rfl) ?_
  refine hl_callv hh (hl_runV (k := 0) X hK hh (c_M_know l g _ L d f0 hd n mm sm kn mk r3 r5 r7 r8 r10 r11 r12 r13 r14 r15 r16 r17 r18 r19 r20 r21 r22 r23 mv st hW h3 h5 hkn h8 hKn (fun u => ∃ mk2 y7 y8 y10 lo hi lab us qu by' sn wk rd ri mo, md_K n mm mv n y7 y8 ∧ (∀ p, y8 p = 0 ∨ y8 p = 1) ∧ u = (L, mf g d f0 n mm sm 1 mk2 r3 r5 y7 y8 y10 lo hi lab us qu by' sn wk rd r20 r21 ri mo)) (fun mk2 y7 y8 y10 lo hi lab us qu by' sn wk rd ri mo x1 x2 => ⟨mk2, y7, y8, y10, lo, hi, lab, us, qu, by', sn, wk, rd, ri, mo, x1, x2, rfl⟩)) wc_M_know w_471 w_5 wi_M_know ws_M_know (by decide +kernel) rfl rfl ⟨Nat.le_of_ble_eq_true rfl, Nat.le_of_ble_eq_true rfl⟩ (md_in hd (k := 0) rfl) md_at_0 rfl rfl rfl rfl (Nat.le_of_ble_eq_true rfl) hl.1 d_M_level_16 ⟨Nat.le_of_ble_eq_true rfl, Nat.le_of_ble_eq_true rfl⟩) (fun u H locs hp hh => ?_)
  obtain ⟨mk2, y7, y8, y10, lo, hi, lab, us, qu, by', sn, wk, rd, ri, mo, hKz, h8z, rfl⟩ := hp
  have hGs := cg_sub hW
  have hSz := md_sz hn hGs hKz h8z
  obtain ⟨S, eS⟩ : ∃ S : Nat → Nat, S = fun i => su (fun j => y8 (24 * i + j)) n := ⟨_, rfl⟩
  rw [← eS] at hSz
  have hS : ∀ i, su (fun j => y8 (24 * i + j)) n = S i := fun i => by rw [eS]
  have hSb : ∀ i, i < n → S i ≤ n - i := fun i hi => sz_le hGs hi (hSz i hi)
  have sg : gp_sg (gp_gen (mv_T mv mm)) := gp_gen_sg (ch_D_nodup n 0) (by rintro t ⟨x, hx, rfl⟩; exact hmv x hx)
  have hsj := hst j hj
  have h5j := h5 j hj
  have sift : ∀ (t i : Nat) (v : gp_f) (rd : Nat → Nat) (H : Heap) (locs : List Loc) (ls : Array Slot), n + 1 ≤ i + t → i ≤ n → (gp_gen (mv_T mv mm)) v → (∀ x, x < i → v (st j x) = x) → hl_H g (hm_A sz L) s.heap L (mf g d f0 n mm sm 1 mk2 r3 r5 y7 y8 y10 lo hi lab us qu by' sn (v ∘ st j) rd r20 r21 ri mo) H locs → lv_has ls 3 [(2, .int (nI i)), (0, .ref (d 0)), (1, .int (nI j))] → W p l e { frames := 4, cells := 0, slots := 0, locals := 130 } s m #[.ref (d 0), .int (nI j)] below meth c H locs 0 0 (MQ below (va_Qi (post) (hm_B g sz L) (hm_A sz L)) #[.ref (d 0), .int (nI j)] s 0 0 (hm_A sz L)) (F0 m 52 ls []) := by
    intro t
    induction t with
    | zero => intros; omega
    | succ t ih =>
      intro i v rd H locs ls hkt hin hv hfx hh hl
      obtain ⟨v2, hv2, hiv⟩ := sg.2.2 v hv
      have goes : ∃ x, (gp_gen (mv_T mv mm)) x ∧ ∀ y, y < i → x y = st j y := ⟨v2, hv2, fun y hy => by
        have := hiv.2 (st j y)
        rwa [hfx y hy] at this⟩
      have hvs := hGs v hv
      have hc24 : ∀ p, p < 24 → (v ∘ st j) p < 24 := fun p hp => sym_24 (σ := v) (p := st j p) hvs hn (sym_24 hsj hn hp)
      refine lv_iload_n X.1 X.2.1 d_M_level_52 rfl (lv_at hl 0 rfl) ?_
      refine lv_aload_n X.1 X.2.1 d_M_level_53 rfl (lv_at hl 1 rfl) ?_
      refine hl_get X hK hh (ref := "CycleGroupsModel") i_M (ci := 5) rfl 0 (by decide) w_352 rfl (md_in hd (k := 0) rfl) md_at_0 rfl d_M_level_54 ?_
      refine hn_ige (tgt := 98) X (by omega) (by omega) d_M_level_57 (by decide) (fun hc => ?_) (fun hc => ?_)
      · have hi9 : i = n := by omega
        subst hi9
        refine lv_aload_n X.1 X.2.1 d_M_level_98 rfl (lv_at hl 1 rfl) ?_
        refine hl_get X hK hh (ref := "CycleGroupsModel") i_M (ci := 5) rfl 0 (by decide) w_352 rfl (md_in hd (k := 0) rfl) md_at_0 rfl d_M_level_99 ?_
        exact hm_iret X hr hlk hh (hpo _ _ (Or.inr ⟨j, i, hj, rfl, ⟨Nat.le_refl _, goes, fun h => absurd h (Nat.lt_irrefl _)⟩, rfl, ⟨_, _, _, _, _, _, _, _, _, _, _, _, _, _, _, _, _, hKz, h8z, rfl⟩⟩)) (Nat.le_of_ble_eq_true rfl) (Nat.le_of_ble_eq_true rfl) d_M_level_102
      have hi9 : i < n := hc
      obtain ⟨k1, k2⟩ := hKz i hi9
      have c1 := hc24 i (by omega)
      have b8 := h8z (24 * i + (v ∘ st j) i)
      refine lv_aload_n X.1 X.2.1 d_M_level_60 rfl (lv_at hl 1 rfl) ?_
      refine hl_get X hK hh (ref := "CycleGroupsModel") i_M (ci := 5) rfl 8 (by decide) w_359 rfl (md_in hd (k := 0) rfl) md_at_0 rfl d_M_level_61 ?_
      refine lv_bipush (v := nI 24) X.1 X.2.1 d_M_level_64 (by decide) ?_
      refine lv_iload_n X.1 X.2.1 d_M_level_66 rfl (lv_at hl 0 rfl) ?_
      refine hn_mul X d_M_level_67 ?_
      refine lv_aload_n X.1 X.2.1 d_M_level_68 rfl (lv_at hl 1 rfl) ?_
      refine hl_get X hK hh (ref := "CycleGroupsModel") i_M (ci := 5) rfl 18 (by decide) w_369 rfl (md_in hd (k := 0) rfl) md_at_0 rfl d_M_level_69 ?_
      refine lv_iload_n X.1 X.2.1 d_M_level_72 rfl (lv_at hl 0 rfl) ?_
      refine hl_iald X hK hh (md_in hd (k := 18) rfl) (md_at_18 hd) (by omega) (by decide) d_M_level_73 ?_
      refine hn_add X d_M_level_74 ?_
      refine hl_zald X hK hh (md_in hd (k := 8) rfl) (md_at_8 hd) (by omega) (by decide) d_M_level_75 ?_
      refine hn_zne (tgt := 81) X (by omega) d_M_level_76 (by decide) (fun hc => ?_) (fun hc => ?_)
      · have hc : ¬ y8 (24 * i + (v ∘ st j) i) = 0 := hc
        have hc : y8 (24 * i + (v ∘ st j) i) = 1 := by omega
        obtain ⟨x, x1, x2, x3, x4⟩ := k1 _ c1 hc
        obtain ⟨x5, x6, x7⟩ := sg.2.2 x x1
        have xs := hGs x x1
        refine lv_aload_n X.1 X.2.1 d_M_level_81 rfl (lv_at hl 1 rfl) ?_
        refine lv_iload_n X.1 X.2.1 d_M_level_82 rfl (lv_at hl 0 rfl) ?_
        refine lv_aload_n X.1 X.2.1 d_M_level_83 rfl (lv_at hl 1 rfl) ?_
        refine hl_get X hK hh (ref := "CycleGroupsModel") i_M (ci := 5) rfl 18 (by decide) w_369 rfl (md_in hd (k := 0) rfl) md_at_0 rfl d_M_level_84 ?_
        refine lv_iload_n X.1 X.2.1 d_M_level_87 rfl (lv_at hl 0 rfl) ?_
        refine hl_iald X hK hh (md_in hd (k := 18) rfl) (md_at_18 hd) (by omega) (by decide) d_M_level_88 ?_
        refine hl_callv hh (hl_runV (k := 2) X hK hh (c_M_undo l g _ L d f0 hd n mm sm 1 mk2 r3 r5 y7 y8 y10 lo hi lab us qu by' sn (v ∘ st j) rd r20 r21 ri mo hn i ((v ∘ st j) i) (by omega) x x5 xs x7 x4 hc24) wc_M_undo w_483 w_5 wi_M_undo ws_M_undo (by decide +kernel) rfl rfl ⟨Nat.le_of_ble_eq_true rfl, Nat.le_of_ble_eq_true rfl⟩ (md_in hd (k := 0) rfl) md_at_0 rfl rfl rfl rfl (Nat.le_of_ble_eq_true rfl) hl.1 d_M_level_89 ⟨Nat.le_of_ble_eq_true rfl, Nat.le_of_ble_eq_true rfl⟩) (fun u H locs hp hh => ?_)
        subst hp
        refine lv_iinc (v := nI (i + 1)) (lv' := [(2, .int (nI (i + 1))), (0, .ref (d 0)), (1, .int (nI j))]) X.1 X.2.1 d_M_level_92 hl (k := 0) rfl (hn_inc _) (by decide) rfl (fun ls hl => ?_)
        refine lv_goto (tgt := 52) X.1 X.2.1 d_M_level_95 (by decide) ?_
        refine ih (i + 1) (x5 ∘ v) x5 H locs _ (by omega) (by omega) (sg.2.1 _ _ x6 hv) (fun y hy => ?_) hh hl
        show x5 (v (st j y)) = y
        by_cases e0 : y = i
        · rw [e0]
          have := x7.2 i
          rw [x3] at this
          exact this
        · rw [hfx y (by omega)]
          have := x7.2 y
          rwa [x2 y (by omega)] at this
      have hc : y8 (24 * i + (v ∘ st j) i) = 0 := hc
      have bad : ¬ ∃ x, (gp_gen (mv_T mv mm)) x ∧ ∀ y, y ≤ i → x y = st j y := by
        rintro ⟨x, x1, x2⟩
        have := k2 (v ∘ x) (sg.2.1 _ _ hv x1) (fun k hk => by show v (x k) = k; rw [x2 k (by omega)]; exact hfx k hk)
        have e1 : (v ∘ x) i = (v ∘ st j) i := by show v (x i) = v (st j i); rw [x2 i (Nat.le_refl _)]
        rw [e1, hc] at this
        omega
      refine lv_iload_n X.1 X.2.1 d_M_level_79 rfl (lv_at hl 0 rfl) ?_
      exact hm_iret X hr hlk hh (hpo _ _ (Or.inr ⟨j, i, hj, rfl, ⟨by omega, goes, fun _ => bad⟩, rfl, ⟨_, _, _, _, _, _, _, _, _, _, _, _, _, _, _, _, _, hKz, h8z, rfl⟩⟩)) (Nat.le_of_ble_eq_true rfl) (Nat.le_of_ble_eq_true rfl) d_M_level_80
  have cpy : ∀ (t i : Nat) (y : Nat → Nat) (H : Heap) (locs : List Loc) (ls : Array Slot), 24 + 1 ≤ i + t → i ≤ 24 → (∀ p, p < i → y p = st j p) → hl_H g (hm_A sz L) s.heap L (mf g d f0 n mm sm 1 mk2 r3 r5 y7 y8 y10 lo hi lab us qu by' sn y rd r20 r21 ri mo) H locs → lv_has ls 3 [(2, .int (nI i)), (0, .ref (d 0)), (1, .int (nI j))] → W p l e { frames := 4, cells := 0, slots := 0, locals := 130 } s m #[.ref (d 0), .int (nI j)] below meth c H locs 0 0 (MQ below (va_Qi (post) (hm_B g sz L) (hm_A sz L)) #[.ref (d 0), .int (nI j)] s 0 0 (hm_A sz L)) (F0 m 21 ls []) := by
    intro t
    induction t with
    | zero => intros; omega
    | succ t ih =>
      intro i y H locs ls hkt hin hy hh hl
      refine lv_iload_n X.1 X.2.1 d_M_level_21 rfl (lv_at hl 0 rfl) ?_
      refine lv_bipush (v := nI 24) X.1 X.2.1 d_M_level_22 (by decide) ?_
      refine hn_ige (tgt := 50) X (by omega) (by omega) d_M_level_24 (by decide) (fun hc => ?_) (fun hc => ?_)
      · have hh := md_nrm_18 (x := id ∘ st j) hd hh (fun p hp => hy p (by omega))
        refine lv_iconst (v := nI 0) X.1 X.2.1 d_M_level_50 (by decide) ?_
        refine lv_istore_n (lv' := [(2, .int (nI 0)), (0, .ref (d 0)), (1, .int (nI j))]) X.1 X.2.1 d_M_level_51 rfl hl (by decide) rfl (fun ls hl => ?_)
        exact sift (n + 1) 0 id rd H locs _ (by omega) (by omega) sg.1 (fun x hx => absurd hx (Nat.not_lt_zero _)) hh (lv_sub hl [0, 1, 2] rfl)
      have hi9 : i < 24 := hc
      have f1 := h5j i hi9
      have f2 := sym_24 hsj hn hi9
      refine lv_aload_n X.1 X.2.1 d_M_level_27 rfl (lv_at hl 1 rfl) ?_
      refine hl_get X hK hh (ref := "CycleGroupsModel") i_M (ci := 5) rfl 18 (by decide) w_369 rfl (md_in hd (k := 0) rfl) md_at_0 rfl d_M_level_28 ?_
      refine lv_iload_n X.1 X.2.1 d_M_level_31 rfl (lv_at hl 0 rfl) ?_
      refine lv_aload_n X.1 X.2.1 d_M_level_32 rfl (lv_at hl 1 rfl) ?_
      refine hl_get X hK hh (ref := "CycleGroupsModel") i_M (ci := 5) rfl 5 (by decide) w_356 rfl (md_in hd (k := 0) rfl) md_at_0 rfl d_M_level_33 ?_
      refine lv_bipush (v := nI 24) X.1 X.2.1 d_M_level_36 (by decide) ?_
      refine lv_iload_n X.1 X.2.1 d_M_level_38 rfl (lv_at hl 2 rfl) ?_
      refine hn_mul X d_M_level_39 ?_
      refine lv_iload_n X.1 X.2.1 d_M_level_40 rfl (lv_at hl 0 rfl) ?_
      refine hn_add X d_M_level_41 ?_
      refine hl_iald X hK hh (md_in hd (k := 5) rfl) (md_at_5 hd) (by omega) (by decide) d_M_level_42 ?_
      refine hl_iastN X hK hh (md_in hd (k := 18) rfl) (md_at_18 hd) (by omega) (by decide) d_M_level_43 (fun H locs hh => ?_)
      have hh : hl_H g (hm_A sz L) s.heap L (mf g d f0 n mm sm 1 mk2 r3 r5 y7 y8 y10 lo hi lab us qu by' sn (va_up y i (r5 ((24 * j) + i))) rd r20 r21 ri mo) H locs := md_set_18 hd hh
      refine lv_iinc (v := nI (i + 1)) (lv' := [(2, .int (nI (i + 1))), (0, .ref (d 0)), (1, .int (nI j))]) X.1 X.2.1 d_M_level_44 hl (k := 0) rfl (hn_inc _) (by decide) rfl (fun ls hl => ?_)
      refine lv_goto (tgt := 21) X.1 X.2.1 d_M_level_47 (by decide) ?_
      rw [f1] at hh
      refine ih (i + 1) (va_up y i (st j i)) H locs _ (by omega) (by omega) (fun p hp => ?_) hh hl
      by_cases e0 : p = i
      · rw [e0, va_up_self]
      · rw [va_up_ne _ _ e0]; exact hy p (by omega)
  refine lv_iconst (v := nI 0) X.1 X.2.1 d_M_level_19 (by decide) ?_
  refine lv_istore_n (lv' := [(2, .int (nI 0)), (0, .ref (d 0)), (1, .int (nI j))]) X.1 X.2.1 d_M_level_20 rfl hl (by decide) rfl (fun ls hl => ?_)
  exact cpy 25 0 wk _ _ _ (by omega) (by omega) (fun p hp => absurd hp (Nat.not_lt_zero _)) hh hl

/-- int member(int s) -/
theorem c_M_member (l : Launch) (g : hl_G) (sz : Nat) (L : List Nat) (d : Nat → Nat) (f0 : Nat → va_E) (hd : md_D L d) (n mm sm kn mk : Nat) (r3 r5 r7 r8 r10 r11 r12 r13 r14 r15 r16 r17 r18 r19 r20 r21 r22 r23 : Nat → Nat) (mv st : Nat → Nat → Nat) (hW : cg_W n mm sm mv st) (h3 : ∀ i, i < mm → fr r3 i (mv i)) (h5 : ∀ j, j < sm → fr r5 j (st j)) (hkn : kn = 0 ∨ kn = 1) (h8 : ∀ p, r8 p = 0 ∨ r8 p = 1) (hKn : kn = 1 → md_K n mm mv n r7 r8) (q1 : Int32) (post : Int32 → List Nat × (Nat → va_E) → Prop) (hpo : ∀ r f1, (ip q1 sm = false ∧ r = -1 ∧ f1 = mf g d f0 n mm sm kn mk r3 r5 r7 r8 r10 r11 r12 r13 r14 r15 r16 r17 r18 r19 r20 r21 r22 r23) ∨ (∃ j k, j < sm ∧ q1 = nI j ∧ ch_lv (gp_gen (mv_T mv mm)) n (st j) k ∧ r = (if k = n then nI 1 else nI 0) ∧ md_Z g d f0 n mm sm mv r3 r5 f1) → post r (L, f1)) :
    Met l y_M_member (hq y_M_member b_M_member 3 (some .int)) { frames := 5, cells := 0, slots := 0, locals := 160 } (hm_P g [.ref (d 0), .int q1] sz L (mf g d f0 n mm sm kn mk r3 r5 r7 r8 r10 r11 r12 r13 r14 r15 r16 r17 r18 r19 r20 r21 r22 r23)) (va_Qi (post) (hm_B g sz L) (hm_A sz L)) 0 0 (hm_A sz L) := by
  refine hm_ofW (by decide) (Nat.le_of_ble_eq_true rfl) ?_
  intro p e s m below meth c X hr hlk hnm hK hsz hh ls hl
  have hl : lv_has ls 3 [(0, .ref (d 0)), (1, .int q1)] := hl
  obtain ⟨hn0, hn, hmm, hsm, hmv, hst⟩ := id hW
  refine lv_aload_n X.1 X.2.1 d_M_member_0 rfl (lv_at hl 0 rfl) ?_
  refine lv_iload_n X.1 X.2.1 d_M_member_1 rfl (lv_at hl 1 rfl) ?_
  refine hl_calli hh (hl_runV (k := 1) X hK hh (c_M_level l g _ L d f0 hd n mm sm kn mk r3 r5 r7 r8 r10 r11 r12 r13 r14 r15 r16 r17 r18 r19 r20 r21 r22 r23 mv st hW h3 h5 hkn h8 hKn q1 (fun r u => ∃ f1, u = (L, f1) ∧ ((ip q1 sm = false ∧ r = -1 ∧ f1 = mf g d f0 n mm sm kn mk r3 r5 r7 r8 r10 r11 r12 r13 r14 r15 r16 r17 r18 r19 r20 r21 r22 r23) ∨ (∃ j k, j < sm ∧ q1 = nI j ∧ ch_lv (gp_gen (mv_T mv mm)) n (st j) k ∧ r = nI k ∧ md_Z g d f0 n mm sm mv r3 r5 f1))) (fun r f1 h => ⟨f1, rfl, h⟩)) wc_M_level w_571 w_5 wi_M_level ws_M_level (by decide +kernel) rfl rfl ⟨Nat.le_of_ble_eq_true rfl, Nat.le_of_ble_eq_true rfl⟩ (md_in hd (k := 0) rfl) md_at_0 rfl rfl rfl rfl (Nat.le_of_ble_eq_true rfl) hl.1 d_M_member_2 ⟨Nat.le_of_ble_eq_true rfl, Nat.le_of_ble_eq_true rfl⟩) (fun r u H locs hp hh => ?_)
  obtain ⟨f1, rfl, hp⟩ := hp
  rcases hp with ⟨h1, rfl, rfl⟩ | ⟨j, k, hj, rfl, hlv, rfl, hz⟩
  · skip
    refine lv_istore_n (lv' := [(2, .int (-1)), (0, .ref (d 0)), (1, .int q1)]) X.1 X.2.1 d_M_member_5 rfl hl (by decide) rfl (fun ls hl => ?_)
    refine lv_iload_n X.1 X.2.1 d_M_member_6 rfl (lv_at hl 0 rfl) ?_
    refine lv_if_ge (tgt := 14) X.1 X.2.1 d_M_member_7 (by decide) (fun hc => ?_) (fun hc => ?_)
    · exact absurd hc (by decide)
    refine lv_iconst (v := -1) X.1 X.2.1 d_M_member_10 (by decide) ?_
    refine lv_goto (tgt := 27) X.1 X.2.1 d_M_member_11 (by decide) ?_
    exact hm_iret X hr hlk hh (hpo _ _ (Or.inl ⟨h1, rfl, rfl⟩)) (Nat.le_of_ble_eq_true rfl) (Nat.le_of_ble_eq_true rfl) d_M_member_27
  have hk := hlv.1
  have hz0 := hz
  obtain ⟨mk2, r7, r8, r10, r11, r12, r13, r14, r15, r16, r17, r18, r19, r20, r21, r22, r23, hKz, h8z, rfl⟩ := hz
  refine lv_istore_n (lv' := [(2, .int (nI k)), (0, .ref (d 0)), (1, .int (nI j))]) X.1 X.2.1 d_M_member_5 rfl hl (by decide) rfl (fun ls hl => ?_)
  refine lv_iload_n X.1 X.2.1 d_M_member_6 rfl (lv_at hl 0 rfl) ?_
  refine lv_if_ge (tgt := 14) X.1 X.2.1 d_M_member_7 (by decide) (fun hc => ?_) (fun hc => ?_)
  · skip
    refine lv_iload_n X.1 X.2.1 d_M_member_14 rfl (lv_at hl 0 rfl) ?_
    refine lv_aload_n X.1 X.2.1 d_M_member_15 rfl (lv_at hl 1 rfl) ?_
    refine hl_get X hK hh (ref := "CycleGroupsModel") i_M (ci := 5) rfl 0 (by decide) w_352 rfl (md_in hd (k := 0) rfl) md_at_0 rfl d_M_member_16 ?_
    refine hn_ine (tgt := 26) X (by omega) (by omega) d_M_member_19 (by decide) (fun hc => ?_) (fun hc => ?_)
    · have hc : ¬ k = n := hc
      refine lv_iconst (v := nI 0) X.1 X.2.1 d_M_member_26 (by decide) ?_
      exact hm_iret X hr hlk hh (hpo _ _ (Or.inr ⟨j, k, hj, rfl, hlv, by rw [if_neg hc], hz0⟩)) (Nat.le_of_ble_eq_true rfl) (Nat.le_of_ble_eq_true rfl) d_M_member_27
    have hc : k = n := hc
    refine lv_iconst (v := nI 1) X.1 X.2.1 d_M_member_22 (by decide) ?_
    refine lv_goto (tgt := 27) X.1 X.2.1 d_M_member_23 (by decide) ?_
    exact hm_iret X hr hlk hh (hpo _ _ (Or.inr ⟨j, k, hj, rfl, hlv, by rw [if_pos hc], hz0⟩)) (Nat.le_of_ble_eq_true rfl) (Nat.le_of_ble_eq_true rfl) d_M_member_27
  · exact absurd (Int32.not_lt.1 (nI_pos (by omega))) hc

end

