/-! Link: addGenerator, widen, reachesNewPlace, clear. -/
section
theorem hr_upo (ix : Nat → Option Nat) (q k : Nat) : va_up (fun p => oI (ix p)) q (nI k) = fun p => oI (va_up ix q (some k) p) := by
  funext p
  by_cases h : p = q
  · rw [h, va_up_self, va_up_self]; rfl
  · rw [va_up_ne _ _ h, va_up_ne _ _ h]

/-- void addGenerator(int[] row), where there is room for one -/
theorem c_K_addGenerator (l : Launch) (g : hl_G) (sz : Nat) (L : List Nat) (f : Nat → va_E) (T : Nat → Nat) (ad : Nat → Nat → Nat → Nat) (n i gn : Nat) (G : Nat → Nat → Nat) (pr : Nat → Nat) (sn : Nat) (sp : Nat → Nat) (ix : Nat → Option Nat) (wb : Nat → Nat → Nat)
    (hP : lk_P g L f ad n i gn G pr sn sp ix wb) (hn : n ≤ 24) (hT : lk_T T ad n i) (hgm : gn < lk_most n i) (rw0 : Nat) (r : gp_f) (hr0 : rw0 ∈ L) (hfr : f rw0 = hl_nat g n r) (hTr : T rw0 = 9) :
    Met l y_K_addGenerator (hq y_K_addGenerator b_K_addGenerator 2 none) { frames := 1, cells := 0, slots := 0, locals := 60 } (hm_P g [.ref (ad 0 i 0), .ref rw0] sz L f) (va_Qv (fun u => ∃ f1, u = (L, f1) ∧ lk_P g L f1 ad n i (gn + 1) (va_up G gn r) (va_up pr gn 0) sn sp ix wb ∧ ∀ q, ¬ lk_tag i (T q) → f1 q = f q) (hm_B g sz L) (hm_A sz L)) 0 0 (hm_A sz L) := by
  refine hm_ofW (by decide) (Nat.le_of_ble_eq_true rfl) ?_
  intro p e s m below meth c X hr hlk hnm hK hsz hh ls hl
  have hl : lv_has ls 2 [(0, .ref (ad 0 i 0)), (1, .ref rw0)] := hl
  have hP0 := hP
  obtain ⟨⟨p0, q0⟩, ⟨p1, q1⟩, hg, ⟨p3, q3⟩, ⟨p4, q4⟩, ⟨p5, q5⟩, ⟨p6, q6⟩, hw⟩ := hP
  have hmo : lk_most n i ≤ 36 := by unfold lk_most; omega
  obtain ⟨pg, qg⟩ := hg gn hgm
  refine lv_aload_n X.1 X.2.1 d_K_addGenerator_0 rfl (lv_at hl 0 rfl) ?_
  refine hl_get X hK hh (ref := "CycleGroups$Link") i_K (ci := 3) rfl 1 (by decide) w_121 rfl p0 q0 rfl d_K_addGenerator_1 ?_
  refine lv_aload_n X.1 X.2.1 d_K_addGenerator_4 rfl (lv_at hl 0 rfl) ?_
  refine hl_get X hK hh (ref := "CycleGroups$Link") i_K (ci := 3) rfl 0 (by decide) w_120 rfl p0 q0 rfl d_K_addGenerator_5 ?_
  refine hl_alenG X hK hh p1 q1 d_K_addGenerator_8 ?_
  refine hn_ilt (tgt := 13) X (by omega) (by omega) d_K_addGenerator_9 (by decide) (fun hc => ?_) (fun hc => ?_)
  · skip
    refine lv_aload_n X.1 X.2.1 d_K_addGenerator_13 rfl (lv_at hl 1 rfl) ?_
    refine lv_iconst (v := nI 0) X.1 X.2.1 d_K_addGenerator_14 (by decide) ?_
    refine lv_aload_n X.1 X.2.1 d_K_addGenerator_15 rfl (lv_at hl 0 rfl) ?_
    refine hl_get X hK hh (ref := "CycleGroups$Link") i_K (ci := 3) rfl 0 (by decide) w_120 rfl p0 q0 rfl d_K_addGenerator_16 ?_
    refine lv_aload_n X.1 X.2.1 d_K_addGenerator_19 rfl (lv_at hl 0 rfl) ?_
    refine hl_get X hK hh (ref := "CycleGroups$Link") i_K (ci := 3) rfl 1 (by decide) w_121 rfl p0 q0 rfl d_K_addGenerator_20 ?_
    refine hl_aaldG X hK hh p1 q1 (by omega) (by omega) (if_pos hgm) d_K_addGenerator_23 ?_
    refine lv_iconst (v := nI 0) X.1 X.2.1 d_K_addGenerator_24 (by decide) ?_
    refine lv_aload_n X.1 X.2.1 d_K_addGenerator_25 rfl (lv_at hl 1 rfl) ?_
    refine hl_alenI X hK hh hr0 hfr d_K_addGenerator_26 ?_
    refine hl_copy X hK hh w_179 hr0 hfr pg qg (by omega) (by omega) (by omega) (by omega) hl.1 (Nat.le_of_ble_eq_true rfl) (Nat.le_of_ble_eq_true rfl) d_K_addGenerator_27 (fun H locs hh => ?_)
    have hh := hl_norm (w := fun p => nI (r p)) hh (fun p hp => by rw [pk_cpy_in (Nat.zero_le p) (by omega)]; simp)
    obtain ⟨f1, hf1⟩ : ∃ x : Nat → va_E, x = va_up f (ad 2 i gn) (hl_nat g n r) := ⟨_, rfl⟩
    have hh : hl_H g (hm_A sz L) s.heap L f1 H locs := by rw [hf1]; exact hh
    have q1_ad0i0 := (congrFun hf1 (ad 0 i 0)).trans ((va_up_ne _ _ (hl_ne (T := T) (by rw [(hT 0 0 (by decide) rfl), (hT 2 gn (by decide) (show gn < lk_most n i by omega))]; omega))).trans q0)
    have q1_ad1i0 := (congrFun hf1 (ad 1 i 0)).trans ((va_up_ne _ _ (hl_ne (T := T) (by rw [(hT 1 0 (by decide) rfl), (hT 2 gn (by decide) (show gn < lk_most n i by omega))]; omega))).trans q1)
    have q1_ad3i0 := (congrFun hf1 (ad 3 i 0)).trans ((va_up_ne _ _ (hl_ne (T := T) (by rw [(hT 3 0 (by decide) rfl), (hT 2 gn (by decide) (show gn < lk_most n i by omega))]; omega))).trans q3)
    have q1_rw0 := (congrFun hf1 rw0).trans ((va_up_ne _ _ (hl_ne (T := T) (by rw [hTr, (hT 2 gn (by decide) (show gn < lk_most n i by omega))]; omega))).trans hfr)
    have q1_ad2ign := (congrFun hf1 (ad 2 i gn)).trans (va_up_self ..)
    refine lv_aload_n X.1 X.2.1 d_K_addGenerator_30 rfl (lv_at hl 0 rfl) ?_
    refine hl_get X hK hh (ref := "CycleGroups$Link") i_K (ci := 3) rfl 2 (by decide) w_122 rfl p0 q1_ad0i0 rfl d_K_addGenerator_31 ?_
    refine lv_aload_n X.1 X.2.1 d_K_addGenerator_34 rfl (lv_at hl 0 rfl) ?_
    refine hl_get X hK hh (ref := "CycleGroups$Link") i_K (ci := 3) rfl 1 (by decide) w_121 rfl p0 q1_ad0i0 rfl d_K_addGenerator_35 ?_
    refine lv_iconst (v := nI 0) X.1 X.2.1 d_K_addGenerator_38 (by decide) ?_
    refine hl_iastN X hK hh p3 q1_ad3i0 (by omega) (by omega) d_K_addGenerator_39 (fun H locs hh => ?_)
    obtain ⟨f2, hf2⟩ : ∃ x : Nat → va_E, x = va_up f1 (ad 3 i 0) (hl_nat g (lk_most n i) (va_up pr gn 0)) := ⟨_, rfl⟩
    have hh : hl_H g (hm_A sz L) s.heap L f2 H locs := by rw [hf2]; exact hh
    have q2_ad0i0 := (congrFun hf2 (ad 0 i 0)).trans ((va_up_ne _ _ (hl_ne (T := T) (by rw [(hT 0 0 (by decide) rfl), (hT 3 0 (by decide) rfl)]; omega))).trans q1_ad0i0)
    have q2_ad1i0 := (congrFun hf2 (ad 1 i 0)).trans ((va_up_ne _ _ (hl_ne (T := T) (by rw [(hT 1 0 (by decide) rfl), (hT 3 0 (by decide) rfl)]; omega))).trans q1_ad1i0)
    have q2_ad2ign := (congrFun hf2 (ad 2 i gn)).trans ((va_up_ne _ _ (hl_ne (T := T) (by rw [(hT 2 gn (by decide) (show gn < lk_most n i by omega)), (hT 3 0 (by decide) rfl)]; omega))).trans q1_ad2ign)
    have q2_rw0 := (congrFun hf2 rw0).trans ((va_up_ne _ _ (hl_ne (T := T) (by rw [hTr, (hT 3 0 (by decide) rfl)]; omega))).trans q1_rw0)
    have q2_ad3i0 := (congrFun hf2 (ad 3 i 0)).trans (va_up_self ..)
    refine lv_aload_n X.1 X.2.1 d_K_addGenerator_40 rfl (lv_at hl 0 rfl) ?_
    refine lv_dup X.1 X.2.1 d_K_addGenerator_41 rfl ?_
    refine hl_get X hK hh (ref := "CycleGroups$Link") i_K (ci := 3) rfl 1 (by decide) w_121 rfl p0 q2_ad0i0 rfl d_K_addGenerator_42 ?_
    refine lv_iconst (v := nI 1) X.1 X.2.1 d_K_addGenerator_45 (by decide) ?_
    refine hn_add X d_K_addGenerator_46 ?_
    refine hl_put X hK hh (ref := "CycleGroups$Link") i_K t_K t_K_ok n_K (ci := 3) rfl 1 (by decide) w_121 rfl rfl p0 q2_ad0i0 (by first | rfl | decide) (by first | rfl | decide) (Nat.le_of_ble_eq_true rfl) d_K_addGenerator_47 (fun H locs hh => ?_)
    obtain ⟨f3, hf3⟩ : ∃ x : Nat → va_E, x = va_up f2 (ad 0 i 0) (.inr (3, [.ref (ad 1 i 0), .int (nI (gn + 1)), .ref (ad 3 i 0), .ref (ad 4 i 0), .int (nI sn), .ref (ad 5 i 0), .ref (ad 6 i 0)])) := ⟨_, rfl⟩
    have hh : hl_H g (hm_A sz L) s.heap L f3 H locs := by rw [hf3]; exact hh
    have q3_ad1i0 := (congrFun hf3 (ad 1 i 0)).trans ((va_up_ne _ _ (hl_ne (T := T) (by rw [(hT 1 0 (by decide) rfl), (hT 0 0 (by decide) rfl)]; omega))).trans q2_ad1i0)
    have q3_ad2ign := (congrFun hf3 (ad 2 i gn)).trans ((va_up_ne _ _ (hl_ne (T := T) (by rw [(hT 2 gn (by decide) (show gn < lk_most n i by omega)), (hT 0 0 (by decide) rfl)]; omega))).trans q2_ad2ign)
    have q3_ad3i0 := (congrFun hf3 (ad 3 i 0)).trans ((va_up_ne _ _ (hl_ne (T := T) (by rw [(hT 3 0 (by decide) rfl), (hT 0 0 (by decide) rfl)]; omega))).trans q2_ad3i0)
    have q3_rw0 := (congrFun hf3 rw0).trans ((va_up_ne _ _ (hl_ne (T := T) (by rw [hTr, (hT 0 0 (by decide) rfl)]; omega))).trans q2_rw0)
    have q3_ad0i0 := (congrFun hf3 (ad 0 i 0)).trans (va_up_self ..)
    refine hm_vret X hr hlk hh ⟨_, rfl, ?_, ?_⟩ (Nat.le_of_ble_eq_true rfl) (Nat.le_of_ble_eq_true rfl) d_K_addGenerator_50
    · rw [hf3, hf2, hf1]
      exact lk_up0 hn (lk_up3 hn (lk_up2 hn hP0 hT gn hgm r) hT (va_up pr gn 0)) hT (gn + 1) sn
    · intro q hq
      rw [hf3, lk_fr (k := 0) (j := 0) hT (by decide) rfl (by decide) _ _ q hq, hf2, lk_fr (k := 3) (j := 0) hT (by decide) rfl (by decide) _ _ q hq, hf1, lk_fr (k := 2) (j := gn) hT (by decide) hgm (by omega) _ _ q hq]
  · omega

/-- private void widen(int reached, int[] generator, int[] back), where there is room for one -/
theorem c_K_widen (l : Launch) (g : hl_G) (sz : Nat) (L : List Nat) (f : Nat → va_E) (T : Nat → Nat) (ad : Nat → Nat → Nat → Nat) (n i gn : Nat) (G : Nat → Nat → Nat) (pr : Nat → Nat) (sn : Nat) (sp : Nat → Nat) (ix : Nat → Option Nat) (wb : Nat → Nat → Nat)
    (hP : lk_P g L f ad n i gn G pr sn sp ix wb) (hn : n ≤ 24) (hT : lk_T T ad n i) (k s0 q0 : Nat) (hk : k < lk_most n i) (hs : s0 < sn) (hsn : sn < n - i) (hq0 : q0 < n) (g1 : gp_f) (hgi : gp_inv (G k) g1)
    (hGn : ∀ p, p < n ↔ G k p < n) (hwn : ∀ p, p < n → wb s0 p < n) :
    Met l y_K_widen (hq y_K_widen b_K_widen 6 none) { frames := 0, cells := 0, slots := 0, locals := 0 } (hm_P g [.ref (ad 0 i 0), .int (nI q0), .ref (ad 2 i k), .ref (ad 7 i s0)] sz L f) (va_Qv (fun u => ∃ f1, u = (L, f1) ∧ lk_P g L f1 ad n i gn G pr (sn + 1) (va_up sp sn q0) (va_up ix q0 (some sn)) (va_up wb sn (wb s0 ∘ g1)) ∧ ∀ q, ¬ lk_tag i (T q) → f1 q = f q) (hm_B g sz L) (hm_A sz L)) 0 0 (hm_A sz L) := by
  have hP0 := hP
  have hqn := hq0
  obtain ⟨⟨p0, q0'⟩, ⟨p1, q1⟩, hg, ⟨p3, q3⟩, ⟨p4, q4⟩, ⟨p5, q5⟩, ⟨p6, q6⟩, hw⟩ := hP
  have hmo : lk_most n i ≤ 36 := by unfold lk_most; omega
  obtain ⟨pg, qg⟩ := hg k hk
  obtain ⟨pb, qb⟩ := hw s0 (by omega)
  obtain ⟨pw, qw⟩ := hw sn hsn
  refine hm_ofW (by decide) (Nat.le_of_ble_eq_true rfl) ?_
  intro p e s m below meth c X hr hlk hnm hK hsz hh ls hl
  have hl : lv_has ls 6 [(0, .ref (ad 0 i 0)), (1, .int (nI q0)), (2, .ref (ad 2 i k)), (3, .ref (ad 7 i s0))] := hl
  have loop : ∀ (t j : Nat) (y : Nat → Nat) (H : Heap) (locs : List Loc) (ls : Array Slot), n + 1 ≤ j + t → j ≤ n → (∀ p, p < j → y (G k p) = wb s0 p) →
      hl_H g (hm_A sz L) s.heap L (va_up f (ad 7 i sn) (hl_nat g n y)) H locs → lv_has ls 6 [(5, .int (nI j)), (4, .ref (ad 7 i sn)), (0, .ref (ad 0 i 0)), (1, .int (nI q0)), (2, .ref (ad 2 i k)), (3, .ref (ad 7 i s0))] →
      W p l e { frames := 0, cells := 0, slots := 0, locals := 0 } s m #[.ref (ad 0 i 0), .int (nI q0), .ref (ad 2 i k), .ref (ad 7 i s0)] below meth c H locs 0 0 (MQ below (va_Qv (fun u => ∃ f1, u = (L, f1) ∧ lk_P g L f1 ad n i gn G pr (sn + 1) (va_up sp sn q0) (va_up ix q0 (some sn)) (va_up wb sn (wb s0 ∘ g1)) ∧ ∀ q, ¬ lk_tag i (T q) → f1 q = f q) (hm_B g sz L) (hm_A sz L)) #[.ref (ad 0 i 0), .int (nI q0), .ref (ad 2 i k), .ref (ad 7 i s0)] s 0 0 (hm_A sz L)) (F0 m 27 ls []) := by
    intro t
    induction t with
    | zero => intros; omega
    | succ t ih =>
      intro j y H locs ls hkj hjn hy hh hl
      have ng : ad 2 i k ≠ ad 7 i sn := hl_ne (T := T) (by rw [hT 2 k (by decide) (show k < lk_most n i by omega), hT 7 sn (by decide) (show sn < n - i by omega)]; omega)
      have nb : ad 7 i s0 ≠ ad 7 i sn := hl_ne (T := T) (by rw [hT 7 s0 (by decide) (show s0 < n - i by omega), hT 7 sn (by decide) (show sn < n - i by omega)]; omega)
      refine lv_iload X.1 X.2.1 d_K_widen_27 (lv_at hl 0 rfl) ?_
      refine lv_aload X.1 X.2.1 d_K_widen_29 (lv_at hl 1 rfl) ?_
      refine hl_alenI X hK hh pw (va_up_self ..) d_K_widen_31 ?_
      refine hn_ige (tgt := 52) X (by omega) (by omega) d_K_widen_32 (by decide) (fun hc => ?_) (fun hc => ?_)
      · have hh := hl_norm (w := fun p => nI ((wb s0 ∘ g1) p)) hh (fun p hp => by
          have h1 : g1 p < n := (hGn (g1 p)).2 (by rw [hgi.1]; exact hp)
          have h2 := hy (g1 p) (by omega)
          rw [hgi.1] at h2
          rw [h2]; rfl)
        obtain ⟨f1, hf1⟩ : ∃ x : Nat → va_E, x = va_up f (ad 7 i sn) (hl_nat g n (wb s0 ∘ g1)) := ⟨_, rfl⟩
        have hh : hl_H g (hm_A sz L) s.heap L f1 H locs := by rw [hf1]; exact hh
        have q1_ad0i0 := (congrFun hf1 (ad 0 i 0)).trans ((va_up_ne _ _ (hl_ne (T := T) (by rw [(hT 0 0 (by decide) rfl), (hT 7 sn (by decide) (show sn < n - i by omega))]; omega))).trans q0')
        have q1_ad4i0 := (congrFun hf1 (ad 4 i 0)).trans ((va_up_ne _ _ (hl_ne (T := T) (by rw [(hT 4 0 (by decide) rfl), (hT 7 sn (by decide) (show sn < n - i by omega))]; omega))).trans q4)
        have q1_ad5i0 := (congrFun hf1 (ad 5 i 0)).trans ((va_up_ne _ _ (hl_ne (T := T) (by rw [(hT 5 0 (by decide) rfl), (hT 7 sn (by decide) (show sn < n - i by omega))]; omega))).trans q5)
        have q1_ad7isn := (congrFun hf1 (ad 7 i sn)).trans (va_up_self ..)
        refine lv_aload_n X.1 X.2.1 d_K_widen_52 rfl (lv_at hl 2 rfl) ?_
        refine hl_get X hK hh (ref := "CycleGroups$Link") i_K (ci := 3) rfl 3 (by decide) w_123 rfl p0 q1_ad0i0 rfl d_K_widen_53 ?_
        refine lv_aload_n X.1 X.2.1 d_K_widen_56 rfl (lv_at hl 2 rfl) ?_
        refine hl_get X hK hh (ref := "CycleGroups$Link") i_K (ci := 3) rfl 4 (by decide) w_124 rfl p0 q1_ad0i0 rfl d_K_widen_57 ?_
        refine lv_iload_n X.1 X.2.1 d_K_widen_60 rfl (lv_at hl 3 rfl) ?_
        refine hl_iastN X hK hh p4 q1_ad4i0 (by omega) (by omega) d_K_widen_61 (fun H locs hh => ?_)
        obtain ⟨f2, hf2⟩ : ∃ x : Nat → va_E, x = va_up f1 (ad 4 i 0) (hl_nat g (n - i) (va_up sp sn q0)) := ⟨_, rfl⟩
        have hh : hl_H g (hm_A sz L) s.heap L f2 H locs := by rw [hf2]; exact hh
        have q2_ad7isn := (congrFun hf2 (ad 7 i sn)).trans ((va_up_ne _ _ (hl_ne (T := T) (by rw [(hT 7 sn (by decide) (show sn < n - i by omega)), (hT 4 0 (by decide) rfl)]; omega))).trans q1_ad7isn)
        have q2_ad0i0 := (congrFun hf2 (ad 0 i 0)).trans ((va_up_ne _ _ (hl_ne (T := T) (by rw [(hT 0 0 (by decide) rfl), (hT 4 0 (by decide) rfl)]; omega))).trans q1_ad0i0)
        have q2_ad5i0 := (congrFun hf2 (ad 5 i 0)).trans ((va_up_ne _ _ (hl_ne (T := T) (by rw [(hT 5 0 (by decide) rfl), (hT 4 0 (by decide) rfl)]; omega))).trans q1_ad5i0)
        have q2_ad4i0 := (congrFun hf2 (ad 4 i 0)).trans (va_up_self ..)
        refine lv_aload_n X.1 X.2.1 d_K_widen_62 rfl (lv_at hl 2 rfl) ?_
        refine hl_get X hK hh (ref := "CycleGroups$Link") i_K (ci := 3) rfl 5 (by decide) w_125 rfl p0 q2_ad0i0 rfl d_K_widen_63 ?_
        refine lv_iload_n X.1 X.2.1 d_K_widen_66 rfl (lv_at hl 3 rfl) ?_
        refine lv_aload_n X.1 X.2.1 d_K_widen_67 rfl (lv_at hl 2 rfl) ?_
        refine hl_get X hK hh (ref := "CycleGroups$Link") i_K (ci := 3) rfl 4 (by decide) w_124 rfl p0 q2_ad0i0 rfl d_K_widen_68 ?_
        refine hl_iast X hK hh p5 q2_ad5i0 (by omega) (by omega) d_K_widen_71 (fun H locs hh => ?_)
        obtain ⟨f3, hf3⟩ : ∃ x : Nat → va_E, x = va_up f2 (ad 5 i 0) (hl_row g n (va_up (fun p => oI (ix p)) q0 (nI sn))) := ⟨_, rfl⟩
        have hh : hl_H g (hm_A sz L) s.heap L f3 H locs := by rw [hf3]; exact hh
        have q3_ad7isn := (congrFun hf3 (ad 7 i sn)).trans ((va_up_ne _ _ (hl_ne (T := T) (by rw [(hT 7 sn (by decide) (show sn < n - i by omega)), (hT 5 0 (by decide) rfl)]; omega))).trans q2_ad7isn)
        have q3_ad0i0 := (congrFun hf3 (ad 0 i 0)).trans ((va_up_ne _ _ (hl_ne (T := T) (by rw [(hT 0 0 (by decide) rfl), (hT 5 0 (by decide) rfl)]; omega))).trans q2_ad0i0)
        have q3_ad4i0 := (congrFun hf3 (ad 4 i 0)).trans ((va_up_ne _ _ (hl_ne (T := T) (by rw [(hT 4 0 (by decide) rfl), (hT 5 0 (by decide) rfl)]; omega))).trans q2_ad4i0)
        have q3_ad5i0 := (congrFun hf3 (ad 5 i 0)).trans (va_up_self ..)
        refine lv_aload_n X.1 X.2.1 d_K_widen_72 rfl (lv_at hl 2 rfl) ?_
        refine lv_dup X.1 X.2.1 d_K_widen_73 rfl ?_
        refine hl_get X hK hh (ref := "CycleGroups$Link") i_K (ci := 3) rfl 4 (by decide) w_124 rfl p0 q3_ad0i0 rfl d_K_widen_74 ?_
        refine lv_iconst (v := nI 1) X.1 X.2.1 d_K_widen_77 (by decide) ?_
        refine hn_add X d_K_widen_78 ?_
        refine hl_put X hK hh (ref := "CycleGroups$Link") i_K t_K t_K_ok n_K (ci := 3) rfl 4 (by decide) w_124 rfl rfl p0 q3_ad0i0 (by first | rfl | decide) (by first | rfl | decide) (Nat.le_of_ble_eq_true rfl) d_K_widen_79 (fun H locs hh => ?_)
        obtain ⟨f4, hf4⟩ : ∃ x : Nat → va_E, x = va_up f3 (ad 0 i 0) (.inr (3, [.ref (ad 1 i 0), .int (nI gn), .ref (ad 3 i 0), .ref (ad 4 i 0), .int (nI (sn + 1)), .ref (ad 5 i 0), .ref (ad 6 i 0)])) := ⟨_, rfl⟩
        have hh : hl_H g (hm_A sz L) s.heap L f4 H locs := by rw [hf4]; exact hh
        have q4_ad7isn := (congrFun hf4 (ad 7 i sn)).trans ((va_up_ne _ _ (hl_ne (T := T) (by rw [(hT 7 sn (by decide) (show sn < n - i by omega)), (hT 0 0 (by decide) rfl)]; omega))).trans q3_ad7isn)
        have q4_ad4i0 := (congrFun hf4 (ad 4 i 0)).trans ((va_up_ne _ _ (hl_ne (T := T) (by rw [(hT 4 0 (by decide) rfl), (hT 0 0 (by decide) rfl)]; omega))).trans q3_ad4i0)
        have q4_ad5i0 := (congrFun hf4 (ad 5 i 0)).trans ((va_up_ne _ _ (hl_ne (T := T) (by rw [(hT 5 0 (by decide) rfl), (hT 0 0 (by decide) rfl)]; omega))).trans q3_ad5i0)
        have q4_ad0i0 := (congrFun hf4 (ad 0 i 0)).trans (va_up_self ..)
        refine hm_vret X hr hlk hh ⟨_, rfl, ?_, ?_⟩ (Nat.le_of_ble_eq_true rfl) (Nat.le_of_ble_eq_true rfl) d_K_widen_82
        · rw [hf4, hf3, hr_upo, hf2, hf1]
          exact lk_up0 hn (lk_up5 hn (lk_up4 hn (lk_up7 hn hP0 hT sn hsn (wb s0 ∘ g1)) hT (va_up sp sn q0)) hT (va_up ix q0 (some sn))) hT gn (sn + 1)
        · intro q hq
          rw [hf4, lk_fr (k := 0) (j := 0) hT (by decide) rfl (by decide) _ _ q hq, hf3, lk_fr (k := 5) (j := 0) hT (by decide) rfl (by decide) _ _ q hq, hf2, lk_fr (k := 4) (j := 0) hT (by decide) rfl (by decide) _ _ q hq, hf1, lk_fr (k := 7) (j := sn) hT (by decide) hsn (by omega) _ _ q hq]
      · have h1 := (hGn j).1 hc
        have h2 := hwn j hc
        refine lv_aload X.1 X.2.1 d_K_widen_35 (lv_at hl 1 rfl) ?_
        refine lv_aload_n X.1 X.2.1 d_K_widen_37 rfl (lv_at hl 4 rfl) ?_
        refine lv_iload X.1 X.2.1 d_K_widen_38 (lv_at hl 0 rfl) ?_
        refine hl_iald X hK hh pg ((va_up_ne _ _ ng).trans qg) (by omega) (by omega) d_K_widen_40 ?_
        refine lv_aload_n X.1 X.2.1 d_K_widen_41 rfl (lv_at hl 5 rfl) ?_
        refine lv_iload X.1 X.2.1 d_K_widen_42 (lv_at hl 0 rfl) ?_
        refine hl_iald X hK hh pb ((va_up_ne _ _ nb).trans qb) (by omega) (by omega) d_K_widen_44 ?_
        refine hl_iastN X hK hh pw (va_up_self ..) (by omega) (by omega) d_K_widen_45 (fun H locs hh => ?_)
        rw [hr_uu] at hh
        refine lv_iinc (v := nI (j + 1)) (lv' := [(5, .int (nI (j + 1))), (4, .ref (ad 7 i sn)), (0, .ref (ad 0 i 0)), (1, .int (nI q0)), (2, .ref (ad 2 i k)), (3, .ref (ad 7 i s0))]) X.1 X.2.1 d_K_widen_46 hl (k := 0) rfl (hn_inc _) (by decide) rfl (fun ls hl => ?_)
        refine lv_goto (tgt := 27) X.1 X.2.1 d_K_widen_49 (by decide) ?_
        refine ih (j + 1) (va_up y (G k j) (wb s0 j)) H locs ls (by omega) (by omega) (fun p hp => ?_) hh hl
        by_cases e1 : p = j
        · rw [e1, va_up_self]
        · rw [va_up_ne _ _ (fun e2 => e1 (gp_inv_inj hgi e2))]; exact hy p (by omega)
  refine lv_aload_n X.1 X.2.1 d_K_widen_0 rfl (lv_at hl 0 rfl) ?_
  refine hl_get X hK hh (ref := "CycleGroups$Link") i_K (ci := 3) rfl 4 (by decide) w_124 rfl p0 q0' rfl d_K_widen_1 ?_
  refine lv_aload_n X.1 X.2.1 d_K_widen_4 rfl (lv_at hl 0 rfl) ?_
  refine hl_get X hK hh (ref := "CycleGroups$Link") i_K (ci := 3) rfl 3 (by decide) w_123 rfl p0 q0' rfl d_K_widen_5 ?_
  refine hl_alenI X hK hh p4 q4 d_K_widen_8 ?_
  refine hn_ilt (tgt := 13) X (by omega) (by omega) d_K_widen_9 (by decide) (fun hc => ?_) (fun hc => ?_)
  · skip
    refine lv_aload_n X.1 X.2.1 d_K_widen_13 rfl (lv_at hl 0 rfl) ?_
    refine hl_get X hK hh (ref := "CycleGroups$Link") i_K (ci := 3) rfl 6 (by decide) w_126 rfl p0 q0' rfl d_K_widen_14 ?_
    refine lv_aload_n X.1 X.2.1 d_K_widen_17 rfl (lv_at hl 0 rfl) ?_
    refine hl_get X hK hh (ref := "CycleGroups$Link") i_K (ci := 3) rfl 4 (by decide) w_124 rfl p0 q0' rfl d_K_widen_18 ?_
    refine hl_aaldG X hK hh p6 q6 (by omega) (by omega) (if_pos hsn) d_K_widen_21 ?_
    refine lv_astore (lv' := [(4, .ref (ad 7 i sn)), (0, .ref (ad 0 i 0)), (1, .int (nI q0)), (2, .ref (ad 2 i k)), (3, .ref (ad 7 i s0))]) X.1 X.2.1 d_K_widen_22 hl (by decide) rfl (fun ls hl => ?_)
    refine lv_iconst (v := nI 0) X.1 X.2.1 d_K_widen_24 (by decide) ?_
    refine lv_istore (lv' := [(5, .int (nI 0)), (4, .ref (ad 7 i sn)), (0, .ref (ad 0 i 0)), (1, .int (nI q0)), (2, .ref (ad 2 i k)), (3, .ref (ad 7 i s0))]) X.1 X.2.1 d_K_widen_25 hl (by decide) rfl (fun ls hl => ?_)
    exact loop (n + 1) 0 (wb sn) s.heap [] ls (by omega) (by omega) (fun p hp => absurd hp (Nat.not_lt_zero _)) (hl_same qw hh) hl
  · omega
end

