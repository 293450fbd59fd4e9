/-! The reference: parity, times, orbit, block. -/
section

/-- int parity(int s) -/
theorem c_M_parity (l : Launch) (g : hl_G) (sz : Nat) (L : List Nat) (d : Nat → Nat) (f0 : Nat → va_E) (hd : md_D L d) (n mm sm kn mk : Nat) (r3 r5 r7 r8 r10 r11 r12 r13 r14 r15 r16 r17 r18 r19 r20 r21 r22 r23 : Nat → Nat) (mv st : Nat → Nat → Nat) (hW : cg_W n mm sm mv st) (h3 : ∀ i, i < mm → fr r3 i (mv i)) (h5 : ∀ j, j < sm → fr r5 j (st j)) (q1 : Int32) (post : Int32 → List Nat × (Nat → va_E) → Prop) (hpo : ∀ r, (ip q1 sm = false ∧ r = -1) ∨ (∃ j, j < sm ∧ q1 = nI j ∧ r = nI (pa_n (st j) n % 2)) → post r (L, mf g d f0 n mm sm kn mk r3 r5 r7 r8 r10 r11 r12 r13 r14 r15 r16 r17 r18 r19 r20 r21 r22 r23)) :
    Met l y_M_parity (hq y_M_parity b_M_parity 5 (some .int)) { frames := 1, cells := 0, slots := 0, locals := 30 } (hm_P g [.ref (d 0), .int q1] sz L (mf g d f0 n mm sm kn mk r3 r5 r7 r8 r10 r11 r12 r13 r14 r15 r16 r17 r18 r19 r20 r21 r22 r23)) (va_Qi (post) (hm_B g sz L) (hm_A sz L)) 0 0 (hm_A sz L) := by
  refine hm_ofW (by decide) (Nat.le_of_ble_eq_true rfl) ?_
  intro p e s m below meth c X hr hlk hnm hK hsz hh ls hl
  have hl : lv_has ls 5 [(0, .ref (d 0)), (1, .int q1)] := hl
  obtain ⟨hn0, hn, hmm, hsm, hmv, hst⟩ := id hW
  rcases ip_cases q1 (n := sm) (by omega) with h1 | ⟨j, hj, rfl⟩
  · skip
    refine lv_aload_n X.1 X.2.1 d_M_parity_0 rfl (lv_at hl 0 rfl) ?_
    refine lv_iconst (v := nI 0) X.1 X.2.1 d_M_parity_1 (by decide) ?_
    refine hl_put X hK hh (ref := "CycleGroupsModel") i_M t_M t_M_ok n_M (ci := 5) rfl 1 (by decide) w_351 rfl rfl (md_in hd (k := 0) rfl) md_at_0 (by first | rfl | decide) (by first | rfl | decide) (Nat.le_of_ble_eq_true rfl) d_M_parity_2 (fun H locs hh => ?_)
    have hh : hl_H g (hm_A sz L) s.heap L (mf g d f0 n mm sm kn mk r3 r5 r7 r8 r10 r11 r12 r13 r14 r15 r16 r17 r18 r19 r20 r21 r22 r23) H locs := md_set_0 hh
    refine lv_aload_n X.1 X.2.1 d_M_parity_5 rfl (lv_at hl 0 rfl) ?_
    refine lv_iload_n X.1 X.2.1 d_M_parity_6 rfl (lv_at hl 1 rfl) ?_
    refine hl_calli hh (hl_runV (k := 1) X hK hh (c_M_isState l g _ L d _ hd _ _ _ _ _ _ _ _ _ _ _ _ _ _ _ _ _ _ _ _ _ _ _ q1 (by omega)) wc_M_isState w_445 w_5 wi_M_isState ws_M_isState (by decide +kernel) rfl rfl ⟨Nat.le_of_ble_eq_true rfl, Nat.le_of_ble_eq_true rfl⟩ (md_in hd (k := 0) rfl) md_at_0 rfl rfl rfl rfl (Nat.le_of_ble_eq_true rfl) hl.1 d_M_parity_7 ⟨Nat.le_of_ble_eq_true rfl, Nat.le_of_ble_eq_true rfl⟩) (fun r u H locs hp hh => ?_)
    obtain ⟨hr1, rfl⟩ := hp
    rw [h1] at hr1
    subst hr1
    refine lv_if_ne (tgt := 15) X.1 X.2.1 d_M_parity_10 (by decide) (fun hc => absurd (by decide) hc) (fun _ => ?_)
    refine lv_iconst (v := -1) X.1 X.2.1 d_M_parity_13 (by decide) ?_
    exact hm_iret X hr hlk hh (hpo _ (Or.inl ⟨h1, rfl⟩)) (Nat.le_of_ble_eq_true rfl) (Nat.le_of_ble_eq_true rfl) d_M_parity_14
  · have h1 := ip_in (by omega : sm < 2 ^ 31) hj
    have bd1 : ∀ p k, k ≤ n → su (pa_1 (st j) p) k ≤ 24 := fun p k hk => by have := su_le (pa_1_le (st j) p) k; omega
    have bd : ∀ k, k ≤ n → su (fun p => su (pa_1 (st j) p) n) k ≤ 576 := fun k hk => by have := su_le (F := fun p => su (pa_1 (st j) p) n) (m := 24) (fun p => bd1 p n (Nat.le_refl _)) k; omega
    have inner : ∀ (t i q : Nat) (H : Heap) (locs : List Loc) (ls : Array Slot), n + 1 ≤ q + t → i < q → q ≤ n → i < n →
        (∀ (H : Heap) (locs : List Loc) (ls : Array Slot), hl_H g (hm_A sz L) s.heap L (mf g d f0 n mm sm kn mk r3 r5 r7 r8 r10 r11 r12 r13 r14 r15 r16 r17 r18 r19 r20 r21 r22 r23) H locs → lv_has ls 5 [(3, .int (nI (i + 1))), (2, .int (nI (su (fun p => su (pa_1 (st j) p) n) (i + 1)))), (0, .ref (d 0)), (1, .int (nI j))] → W p l e { frames := 1, cells := 0, slots := 0, locals := 30 } s m #[.ref (d 0), .int (nI j)] below meth c H locs 0 0 (MQ below (va_Qi (post) (hm_B g sz L) (hm_A sz L)) #[.ref (d 0), .int (nI j)] s 0 0 (hm_A sz L)) (F0 m 19 ls [])) →
        hl_H g (hm_A sz L) s.heap L (mf g d f0 n mm sm kn mk r3 r5 r7 r8 r10 r11 r12 r13 r14 r15 r16 r17 r18 r19 r20 r21 r22 r23) H locs → lv_has ls 5 [(4, .int (nI q)), (2, .int (nI (su (fun p => su (pa_1 (st j) p) n) i + su (pa_1 (st j) i) q))), (3, .int (nI i)), (0, .ref (d 0)), (1, .int (nI j))] →
        W p l e { frames := 1, cells := 0, slots := 0, locals := 30 } s m #[.ref (d 0), .int (nI j)] below meth c H locs 0 0 (MQ below (va_Qi (post) (hm_B g sz L) (hm_A sz L)) #[.ref (d 0), .int (nI j)] s 0 0 (hm_A sz L)) (F0 m 32 ls []) := by
      intro t
      induction t with
      | zero => intros; omega
      | succ t ih =>
        intro i q H locs ls hk hiq hqn hin kk hh hl
        have b1 := bd1 i q hqn
        have b2 := bd i (by omega)
        refine lv_iload X.1 X.2.1 d_M_parity_32 (lv_at hl 0 rfl) ?_
        refine lv_aload_n X.1 X.2.1 d_M_parity_34 rfl (lv_at hl 3 rfl) ?_
        refine hl_get X hK hh (ref := "CycleGroupsModel") i_M (ci := 5) rfl 0 (by decide) w_352 rfl (md_in hd (k := 0) rfl) md_at_0 rfl d_M_parity_35 ?_
        refine hn_ige (tgt := 81) X (by omega) (by omega) d_M_parity_38 (by decide) (fun hc => ?_) (fun hc => ?_)
        · have hqn2 : q = n := by omega
          refine lv_iinc (v := nI (i + 1)) (lv' := [(3, .int (nI (i + 1))), (4, .int (nI q)), (2, .int (nI (su (fun p => su (pa_1 (st j) p) n) i + su (pa_1 (st j) i) q))), (0, .ref (d 0)), (1, .int (nI j))]) X.1 X.2.1 d_M_parity_81 hl (k := 2) rfl (hn_inc _) (by decide) rfl (fun ls hl => ?_)
          refine lv_goto (tgt := 19) X.1 X.2.1 d_M_parity_84 (by decide) ?_
          rw [hqn2] at hl
          exact kk H locs ls hh (lv_sub hl [0, 2, 3, 4] rfl)
        · have hqn2 : q < n := hc
          have hsi := lk_sym_lt (hst j hj) hin
          have hsq := lk_sym_lt (hst j hj) hqn2
          have z1 := h5 j hj i (by omega)
          have z2 := h5 j hj q (by omega)
          refine lv_iload_n X.1 X.2.1 d_M_parity_41 rfl (lv_at hl 1 rfl) ?_
          refine lv_aload_n X.1 X.2.1 d_M_parity_42 rfl (lv_at hl 3 rfl) ?_
          refine hl_get X hK hh (ref := "CycleGroupsModel") i_M (ci := 5) rfl 5 (by decide) w_356 rfl (md_in hd (k := 0) rfl) md_at_0 rfl d_M_parity_43 ?_
          refine lv_bipush (v := nI 24) X.1 X.2.1 d_M_parity_46 (by decide) ?_
          refine lv_iload_n X.1 X.2.1 d_M_parity_48 rfl (lv_at hl 4 rfl) ?_
          refine hn_mul X d_M_parity_49 ?_
          refine lv_iload_n X.1 X.2.1 d_M_parity_50 rfl (lv_at hl 2 rfl) ?_
          refine hn_add X d_M_parity_51 ?_
          refine hl_iald X hK hh (md_in hd (k := 5) rfl) (md_at_5 hd) (by omega) (by decide) d_M_parity_52 ?_
          refine lv_aload_n X.1 X.2.1 d_M_parity_53 rfl (lv_at hl 3 rfl) ?_
          refine hl_get X hK hh (ref := "CycleGroupsModel") i_M (ci := 5) rfl 5 (by decide) w_356 rfl (md_in hd (k := 0) rfl) md_at_0 rfl d_M_parity_54 ?_
          refine lv_bipush (v := nI 24) X.1 X.2.1 d_M_parity_57 (by decide) ?_
          refine lv_iload_n X.1 X.2.1 d_M_parity_59 rfl (lv_at hl 4 rfl) ?_
          refine hn_mul X d_M_parity_60 ?_
          refine lv_iload X.1 X.2.1 d_M_parity_61 (lv_at hl 0 rfl) ?_
          refine hn_add X d_M_parity_63 ?_
          refine hl_iald X hK hh (md_in hd (k := 5) rfl) (md_at_5 hd) (by omega) (by decide) d_M_parity_64 ?_
          refine hn_ile (tgt := 72) X (by omega) (by omega) d_M_parity_65 (by decide) (fun hc => ?_) (fun hc => ?_)
          · have hle : r5 (24 * j + i) ≤ r5 (24 * j + q) := hc
            refine lv_iconst (v := nI 0) X.1 X.2.1 d_M_parity_72 (by decide) ?_
            refine hn_add X d_M_parity_73 ?_
            refine lv_istore_n (lv' := [(2, .int (nI ((su (fun p => su (pa_1 (st j) p) n) i + su (pa_1 (st j) i) q) + 0))), (4, .int (nI q)), (3, .int (nI i)), (0, .ref (d 0)), (1, .int (nI j))]) X.1 X.2.1 d_M_parity_74 rfl hl (by decide) rfl (fun ls hl => ?_)
            refine lv_iinc (v := nI (q + 1)) (lv' := [(4, .int (nI (q + 1))), (2, .int (nI ((su (fun p => su (pa_1 (st j) p) n) i + su (pa_1 (st j) i) q) + 0))), (3, .int (nI i)), (0, .ref (d 0)), (1, .int (nI j))]) X.1 X.2.1 d_M_parity_75 hl (k := 1) rfl (hn_inc _) (by decide) rfl (fun ls hl => ?_)
            refine lv_goto (tgt := 32) X.1 X.2.1 d_M_parity_78 (by decide) ?_
            have e1 : su (pa_1 (st j) i) (q + 1) = su (pa_1 (st j) i) q := by show su (pa_1 (st j) i) q + pa_1 (st j) i q = _; unfold pa_1; rw [if_neg (by omega)]; rfl
            rw [Nat.add_zero, ← e1] at hl
            exact ih i (q + 1) H locs ls (by omega) (by omega) (by omega) hin kk hh (lv_sub hl [0, 1, 2, 3, 4] rfl)
          · have hle : r5 (24 * j + q) < r5 (24 * j + i) := hc
            refine lv_iconst (v := nI 1) X.1 X.2.1 d_M_parity_68 (by decide) ?_
            refine lv_goto (tgt := 73) X.1 X.2.1 d_M_parity_69 (by decide) ?_
            refine hn_add X d_M_parity_73 ?_
            refine lv_istore_n (lv' := [(2, .int (nI ((su (fun p => su (pa_1 (st j) p) n) i + su (pa_1 (st j) i) q) + 1))), (4, .int (nI q)), (3, .int (nI i)), (0, .ref (d 0)), (1, .int (nI j))]) X.1 X.2.1 d_M_parity_74 rfl hl (by decide) rfl (fun ls hl => ?_)
            refine lv_iinc (v := nI (q + 1)) (lv' := [(4, .int (nI (q + 1))), (2, .int (nI ((su (fun p => su (pa_1 (st j) p) n) i + su (pa_1 (st j) i) q) + 1))), (3, .int (nI i)), (0, .ref (d 0)), (1, .int (nI j))]) X.1 X.2.1 d_M_parity_75 hl (k := 1) rfl (hn_inc _) (by decide) rfl (fun ls hl => ?_)
            refine lv_goto (tgt := 32) X.1 X.2.1 d_M_parity_78 (by decide) ?_
            have e1 : su (pa_1 (st j) i) (q + 1) = su (pa_1 (st j) i) q + 1 := by show su (pa_1 (st j) i) q + pa_1 (st j) i q = _; unfold pa_1; rw [if_pos (by omega)]
            rw [Nat.add_assoc, ← e1] at hl
            exact ih i (q + 1) H locs ls (by omega) (by omega) (by omega) hin kk hh (lv_sub hl [0, 1, 2, 3, 4] rfl)
    have loop : ∀ (t i : Nat) (H : Heap) (locs : List Loc) (ls : Array Slot), n + 1 ≤ i + t → i ≤ n →
        hl_H g (hm_A sz L) s.heap L (mf g d f0 n mm sm kn mk r3 r5 r7 r8 r10 r11 r12 r13 r14 r15 r16 r17 r18 r19 r20 r21 r22 r23) H locs → lv_has ls 5 [(3, .int (nI i)), (2, .int (nI (su (fun p => su (pa_1 (st j) p) n) i))), (0, .ref (d 0)), (1, .int (nI j))] →
        W p l e { frames := 1, cells := 0, slots := 0, locals := 30 } s m #[.ref (d 0), .int (nI j)] below meth c H locs 0 0 (MQ below (va_Qi (post) (hm_B g sz L) (hm_A sz L)) #[.ref (d 0), .int (nI j)] s 0 0 (hm_A sz L)) (F0 m 19 ls []) := by
      intro t
      induction t with
      | zero => intros; omega
      | succ t ih =>
        intro i H locs ls hk hin hh hl
        have b2 := bd i (by omega)
        refine lv_iload_n X.1 X.2.1 d_M_parity_19 rfl (lv_at hl 0 rfl) ?_
        refine lv_aload_n X.1 X.2.1 d_M_parity_20 rfl (lv_at hl 2 rfl) ?_
        refine hl_get X hK hh (ref := "CycleGroupsModel") i_M (ci := 5) rfl 0 (by decide) w_352 rfl (md_in hd (k := 0) rfl) md_at_0 rfl d_M_parity_21 ?_
        refine hn_ige (tgt := 87) X (by omega) (by omega) d_M_parity_24 (by decide) (fun hc => ?_) (fun hc => ?_)
        · have hin2 : i = n := by omega
          rw [hin2] at hl b2
          refine lv_iload_n X.1 X.2.1 d_M_parity_87 rfl (lv_at hl 1 rfl) ?_
          refine lv_iconst (v := nI 2) X.1 X.2.1 d_M_parity_88 (by decide) ?_
          refine hn_rem X (by omega) (by omega) (by omega) d_M_parity_89 ?_
          exact hm_iret X hr hlk hh (hpo _ (Or.inr ⟨j, hj, rfl, rfl⟩)) (Nat.le_of_ble_eq_true rfl) (Nat.le_of_ble_eq_true rfl) d_M_parity_90
        · have hin2 : i < n := hc
          refine lv_iload_n X.1 X.2.1 d_M_parity_27 rfl (lv_at hl 0 rfl) ?_
          refine lv_iconst (v := nI 1) X.1 X.2.1 d_M_parity_28 (by decide) ?_
          refine hn_add X d_M_parity_29 ?_
          refine lv_istore (lv' := [(4, .int (nI (i + 1))), (3, .int (nI i)), (2, .int (nI (su (fun p => su (pa_1 (st j) p) n) i))), (0, .ref (d 0)), (1, .int (nI j))]) X.1 X.2.1 d_M_parity_30 hl (by decide) rfl (fun ls hl => ?_)
          have e1 : su (pa_1 (st j) i) (i + 1) = 0 := su_zero _ (fun q hq => if_neg (by omega))
          have e2 : nI (su (fun p => su (pa_1 (st j) p) n) i) = nI (su (fun p => su (pa_1 (st j) p) n) i + su (pa_1 (st j) i) (i + 1)) := by rw [e1]; rfl
          rw [e2] at hl
          exact inner (n + 1) i (i + 1) H locs ls (by omega) (by omega) (by omega) hin2 (fun H locs ls hh hl => ih (i + 1) H locs ls (by omega) (by omega) hh hl) hh (lv_sub hl [0, 2, 1, 3, 4] rfl)
    refine lv_aload_n X.1 X.2.1 d_M_parity_0 rfl (lv_at hl 0 rfl) ?_
    refine lv_iconst (v := nI 0) X.1 X.2.1 d_M_parity_1 (by decide) ?_
    refine hl_put X hK hh (ref := "CycleGroupsModel") i_M t_M t_M_ok n_M (ci := 5) rfl 1 (by decide) w_351 rfl rfl (md_in hd (k := 0) rfl) md_at_0 (by first | rfl | decide) (by first | rfl | decide) (Nat.le_of_ble_eq_true rfl) d_M_parity_2 (fun H locs hh => ?_)
    have hh : hl_H g (hm_A sz L) s.heap L (mf g d f0 n mm sm kn mk r3 r5 r7 r8 r10 r11 r12 r13 r14 r15 r16 r17 r18 r19 r20 r21 r22 r23) H locs := md_set_0 hh
    refine lv_aload_n X.1 X.2.1 d_M_parity_5 rfl (lv_at hl 0 rfl) ?_
    refine lv_iload_n X.1 X.2.1 d_M_parity_6 rfl (lv_at hl 1 rfl) ?_
    refine hl_calli hh (hl_runV (k := 1) X hK hh (c_M_isState l g _ L d _ hd _ _ _ _ _ _ _ _ _ _ _ _ _ _ _ _ _ _ _ _ _ _ _ (nI j) (by omega)) wc_M_isState w_445 w_5 wi_M_isState ws_M_isState (by decide +kernel) rfl rfl ⟨Nat.le_of_ble_eq_true rfl, Nat.le_of_ble_eq_true rfl⟩ (md_in hd (k := 0) rfl) md_at_0 rfl rfl rfl rfl (Nat.le_of_ble_eq_true rfl) hl.1 d_M_parity_7 ⟨Nat.le_of_ble_eq_true rfl, Nat.le_of_ble_eq_true rfl⟩) (fun r u H locs hp hh => ?_)
    obtain ⟨hr1, rfl⟩ := hp
    rw [h1] at hr1
    subst hr1
    refine lv_if_ne (tgt := 15) X.1 X.2.1 d_M_parity_10 (by decide) (fun _ => ?_) (fun hc => absurd hc (by decide))
    refine lv_iconst (v := nI 0) X.1 X.2.1 d_M_parity_15 (by decide) ?_
    refine lv_istore_n (lv' := [(2, .int (nI 0)), (0, .ref (d 0)), (1, .int (nI j))]) X.1 X.2.1 d_M_parity_16 rfl hl (by decide) rfl (fun ls hl => ?_)
    refine lv_iconst (v := nI 0) X.1 X.2.1 d_M_parity_17 (by decide) ?_
    refine lv_istore_n (lv' := [(3, .int (nI 0)), (2, .int (nI 0)), (0, .ref (d 0)), (1, .int (nI j))]) X.1 X.2.1 d_M_parity_18 rfl hl (by decide) rfl (fun ls hl => ?_)
    exact loop (n + 1) 0 _ _ ls (by omega) (by omega) hh (lv_sub hl [0, 1, 2, 3] rfl)

/-- private int roundOf(int s, int p) -/
theorem c_M_roundOf (l : Launch) (g : hl_G) (sz : Nat) (L : List Nat) (d : Nat → Nat) (f0 : Nat → va_E) (hd : md_D L d) (n mm sm kn mk : Nat) (r3 r5 r7 r8 r10 r11 r12 r13 r14 r15 r16 r17 r18 r19 r20 r21 r22 r23 : Nat → Nat) (hn : n ≤ 24) (σ : Nat → Nat) (j k0 : Nat) (hj : j < 20) (h5 : fr r5 j σ) (hs : gp_sym (ch_D n 0) σ) (hk0 : k0 < n) :
    Met l y_M_roundOf (hq y_M_roundOf b_M_roundOf 5 (some .int)) { frames := 0, cells := 0, slots := 0, locals := 0 } (hm_P g [.ref (d 0), .int (nI j), .int (nI k0)] sz L (mf g d f0 n mm sm kn mk r3 r5 r7 r8 r10 r11 r12 r13 r14 r15 r16 r17 r18 r19 r20 r21 r22 r23)) (va_Qi (fun r u => (∃ r0, rt σ n k0 r0 ∧ r = nI r0) ∧ u = (L, mf g d f0 n mm sm kn mk r3 r5 r7 r8 r10 r11 r12 r13 r14 r15 r16 r17 r18 r19 r20 r21 r22 r23)) (hm_B g sz L) (hm_A sz L)) 0 0 (hm_A sz L) := by
  refine hm_ofW (by decide) (Nat.le_of_ble_eq_true rfl) ?_
  intro p e s m below meth c X hr hlk hnm hK hsz hh ls hl
  have hl : lv_has ls 5 [(0, .ref (d 0)), (1, .int (nI j)), (2, .int (nI k0))] := hl
  have loop : ∀ (t i : Nat) (H : Heap) (locs : List Loc) (ls : Array Slot), n + 1 ≤ i + t → 1 ≤ i → i ≤ n → (∀ t, 1 ≤ t → t < i → itf σ t k0 ≠ k0) → hl_H g (hm_A sz L) s.heap L (mf g d f0 n mm sm kn mk r3 r5 r7 r8 r10 r11 r12 r13 r14 r15 r16 r17 r18 r19 r20 r21 r22 r23) H locs → lv_has ls 5 [(4, .int (nI (itf σ i k0))), (3, .int (nI i)), (0, .ref (d 0)), (1, .int (nI j)), (2, .int (nI k0))] → W p l e { frames := 0, cells := 0, slots := 0, locals := 0 } s m #[.ref (d 0), .int (nI j), .int (nI k0)] below meth c H locs 0 0 (MQ below (va_Qi (fun r u => (∃ r0, rt σ n k0 r0 ∧ r = nI r0) ∧ u = (L, mf g d f0 n mm sm kn mk r3 r5 r7 r8 r10 r11 r12 r13 r14 r15 r16 r17 r18 r19 r20 r21 r22 r23)) (hm_B g sz L) (hm_A sz L)) #[.ref (d 0), .int (nI j), .int (nI k0)] s 0 0 (hm_A sz L)) (F0 m 15 ls []) := by
    intro t
    induction t with
    | zero => intros; omega
    | succ t ih =>
      intro i H locs ls hk hi1 hin hno hh hl
      have hlt := itf_lt hs hk0 i
      refine lv_iload X.1 X.2.1 d_M_roundOf_15 (lv_at hl 0 rfl) ?_
      refine lv_iload_n X.1 X.2.1 d_M_roundOf_17 rfl (lv_at hl 4 rfl) ?_
      refine hn_ieq (tgt := 41) X (by omega) (by omega) d_M_roundOf_18 (by decide) (fun hc => ?_) (fun hc => ?_)
      · have hc1 : itf σ i k0 = k0 := hc
        refine lv_iload_n X.1 X.2.1 d_M_roundOf_41 rfl (lv_at hl 1 rfl) ?_
        exact hm_iret X hr hlk hh ⟨⟨i, ⟨hi1, hin, hc1, hno⟩, rfl⟩, rfl⟩ (Nat.le_of_ble_eq_true rfl) (Nat.le_of_ble_eq_true rfl) d_M_roundOf_42
      · have hc1 : ¬ itf σ i k0 = k0 := hc
        have hc2 : i < n := by
          rcases Nat.lt_or_ge i n with q | q
          · exact q
          · obtain ⟨t0, x1, x2, x3⟩ := rt_ex hs hk0
            rcases Nat.lt_or_ge t0 i with q2 | q2
            · exact absurd x3 (hno t0 x1 q2)
            · have : t0 = i := by omega
              exact absurd (this ▸ x3) hc1
        have e1 := h5 (itf σ i k0) (by omega)
        refine lv_iinc (v := nI (i + 1)) (lv' := [(3, .int (nI (i + 1))), (4, .int (nI (itf σ i k0))), (0, .ref (d 0)), (1, .int (nI j)), (2, .int (nI k0))]) X.1 X.2.1 d_M_roundOf_21 hl (k := 1) rfl (hn_inc _) (by decide) rfl (fun ls hl => ?_)
        refine lv_aload_n X.1 X.2.1 d_M_roundOf_24 rfl (lv_at hl 2 rfl) ?_
        refine hl_get X hK hh (ref := "CycleGroupsModel") i_M (ci := 5) rfl 5 (by decide) w_356 rfl (md_in hd (k := 0) rfl) md_at_0 rfl d_M_roundOf_25 ?_
        refine lv_bipush (v := nI 24) X.1 X.2.1 d_M_roundOf_28 (by decide) ?_
        refine lv_iload_n X.1 X.2.1 d_M_roundOf_30 rfl (lv_at hl 3 rfl) ?_
        refine hn_mul X d_M_roundOf_31 ?_
        refine lv_iload X.1 X.2.1 d_M_roundOf_32 (lv_at hl 1 rfl) ?_
        refine hn_add X d_M_roundOf_34 ?_
        refine hl_iald X hK hh (md_in hd (k := 5) rfl) (md_at_5 hd) (by omega) (by decide) d_M_roundOf_35 ?_
        refine lv_istore (lv' := [(4, .int (nI (r5 ((24 * j) + (itf σ i k0))))), (3, .int (nI (i + 1))), (0, .ref (d 0)), (1, .int (nI j)), (2, .int (nI k0))]) X.1 X.2.1 d_M_roundOf_36 hl (by decide) rfl (fun ls hl => ?_)
        refine lv_goto (tgt := 15) X.1 X.2.1 d_M_roundOf_38 (by decide) ?_
        rw [e1] at hl
        refine ih (i + 1) H locs ls (by omega) (by omega) (by omega) (fun t1 h1 h2 => ?_) hh (lv_sub hl [0, 1, 2, 3, 4] rfl)
        rcases Nat.lt_or_ge t1 i with q | q
        · exact hno t1 h1 q
        · have : t1 = i := by omega
          rw [this]; exact hc1
  refine lv_iconst (v := nI 1) X.1 X.2.1 d_M_roundOf_0 (by decide) ?_
  refine lv_istore_n (lv' := [(3, .int (nI 1)), (0, .ref (d 0)), (1, .int (nI j)), (2, .int (nI k0))]) X.1 X.2.1 d_M_roundOf_1 rfl hl (by decide) rfl (fun ls hl => ?_)
  refine lv_aload_n X.1 X.2.1 d_M_roundOf_2 rfl (lv_at hl 1 rfl) ?_
  refine hl_get X hK hh (ref := "CycleGroupsModel") i_M (ci := 5) rfl 5 (by decide) w_356 rfl (md_in hd (k := 0) rfl) md_at_0 rfl d_M_roundOf_3 ?_
  refine lv_bipush (v := nI 24) X.1 X.2.1 d_M_roundOf_6 (by decide) ?_
  refine lv_iload_n X.1 X.2.1 d_M_roundOf_8 rfl (lv_at hl 2 rfl) ?_
  refine hn_mul X d_M_roundOf_9 ?_
  refine lv_iload_n X.1 X.2.1 d_M_roundOf_10 rfl (lv_at hl 3 rfl) ?_
  refine hn_add X d_M_roundOf_11 ?_
  refine hl_iald X hK hh (md_in hd (k := 5) rfl) (md_at_5 hd) (by omega) (by decide) d_M_roundOf_12 ?_
  refine lv_istore (lv' := [(4, .int (nI (r5 ((24 * j) + k0)))), (3, .int (nI 1)), (0, .ref (d 0)), (1, .int (nI j)), (2, .int (nI k0))]) X.1 X.2.1 d_M_roundOf_13 hl (by decide) rfl (fun ls hl => ?_)
  rw [h5 k0 (by omega)] at hl
  exact loop (n + 1) 1 _ _ ls (by omega) (by omega) (by omega) (fun t1 h1 h2 => by omega) hh (lv_sub hl [0, 1, 2, 3, 4] rfl)

/-- all return times below i divide t -/
def tmd (σ : Nat → Nat) (n i t : Nat) : Prop := ∀ p r, p < i → rt σ n p r → r ∣ t
theorem rt_all {σ : Nat → Nat} {n : Nat} (hs : gp_sym (ch_D n 0) σ) {p : Nat} (hp : p < n) : ∃ r, rt σ n p r := by
  obtain ⟨t, h1, h2, h3⟩ := rt_ex hs hp
  have key : ∀ m, (∃ t, 1 ≤ t ∧ t ≤ m ∧ itf σ t p = p) → ∃ r, 1 ≤ r ∧ r ≤ m ∧ itf σ r p = p ∧ ∀ t, 1 ≤ t → t < r → itf σ t p ≠ p := by
    intro m
    induction m with
    | zero => rintro ⟨t, a1, a2, _⟩; omega
    | succ m ih =>
      rintro ⟨t, a1, a2, a3⟩
      by_cases h : ∃ t, 1 ≤ t ∧ t ≤ m ∧ itf σ t p = p
      · obtain ⟨r, b1, b2, b3, b4⟩ := ih h
        exact ⟨r, b1, by omega, b3, b4⟩
      · refine ⟨t, a1, a2, a3, fun t2 c1 c2 c3 => h ⟨t2, c1, by omega, c3⟩⟩
  obtain ⟨r, b1, b2, b3, b4⟩ := key t ⟨t, h1, Nat.le_refl _, h3⟩
  exact ⟨r, b1, by omega, b3, b4⟩
theorem tm_ex {σ : Nat → Nat} {n : Nat} (hs : gp_sym (ch_D n 0) σ) : ∀ i, i ≤ n → ∃ x, tm σ n i x
  | 0, _ => ⟨1, tm_0 σ n⟩
  | i + 1, h => by
    obtain ⟨x, hx⟩ := tm_ex hs i (by omega)
    obtain ⟨r, hr⟩ := rt_all hs (p := i) (by omega)
    exact ⟨_, tm_s hx hr⟩

/-- long times(int s) -/
theorem c_M_times (l : Launch) (g : hl_G) (sz : Nat) (L : List Nat) (d : Nat → Nat) (f0 : Nat → va_E) (hd : md_D L d) (n mm sm kn mk : Nat) (r3 r5 r7 r8 r10 r11 r12 r13 r14 r15 r16 r17 r18 r19 r20 r21 r22 r23 : Nat → Nat) (mv st : Nat → Nat → Nat) (hW : cg_W n mm sm mv st) (h3 : ∀ i, i < mm → fr r3 i (mv i)) (h5 : ∀ j, j < sm → fr r5 j (st j)) (q1 : Int32) (post : Int64 → List Nat × (Nat → va_E) → Prop) (hpo : ∀ r, (ip q1 sm = false ∧ r = lN 0) ∨ (∃ j x, j < sm ∧ q1 = nI j ∧ tm (st j) n n x ∧ r = lN x) → post r (L, mf g d f0 n mm sm kn mk r3 r5 r7 r8 r10 r11 r12 r13 r14 r15 r16 r17 r18 r19 r20 r21 r22 r23)) :
    Met l y_M_times (hq y_M_times b_M_times 6 (some .long)) { frames := 1, cells := 0, slots := 0, locals := 30 } (hm_P g [.ref (d 0), .int q1] sz L (mf g d f0 n mm sm kn mk r3 r5 r7 r8 r10 r11 r12 r13 r14 r15 r16 r17 r18 r19 r20 r21 r22 r23)) (va_Ql (post) (hm_B g sz L) (hm_A sz L)) 0 0 (hm_A sz L) := by
  refine hm_ofW (by decide) (Nat.le_of_ble_eq_true rfl) ?_
  intro p e s m below meth c X hr hlk hnm hK hsz hh ls hl
  have hl : lv_has ls 6 [(0, .ref (d 0)), (1, .int q1)] := hl
  obtain ⟨hn0, hn, hmm, hsm, hmv, hst⟩ := id hW
  rcases ip_cases q1 (n := sm) (by omega) with h1 | ⟨j, hj, rfl⟩
  · skip
    refine lv_aload_n X.1 X.2.1 d_M_times_0 rfl (lv_at hl 0 rfl) ?_
    refine lv_iconst (v := nI 0) X.1 X.2.1 d_M_times_1 (by decide) ?_
    refine hl_put X hK hh (ref := "CycleGroupsModel") i_M t_M t_M_ok n_M (ci := 5) rfl 1 (by decide) w_351 rfl rfl (md_in hd (k := 0) rfl) md_at_0 (by first | rfl | decide) (by first | rfl | decide) (Nat.le_of_ble_eq_true rfl) d_M_times_2 (fun H locs hh => ?_)
    have hh : hl_H g (hm_A sz L) s.heap L (mf g d f0 n mm sm kn mk r3 r5 r7 r8 r10 r11 r12 r13 r14 r15 r16 r17 r18 r19 r20 r21 r22 r23) H locs := md_set_0 hh
    refine lv_aload_n X.1 X.2.1 d_M_times_5 rfl (lv_at hl 0 rfl) ?_
    refine lv_iload_n X.1 X.2.1 d_M_times_6 rfl (lv_at hl 1 rfl) ?_
    refine hl_calli hh (hl_runV (k := 1) X hK hh (c_M_isState l g _ L d _ hd _ _ _ _ _ _ _ _ _ _ _ _ _ _ _ _ _ _ _ _ _ _ _ q1 (by omega)) wc_M_isState w_445 w_5 wi_M_isState ws_M_isState (by decide +kernel) rfl rfl ⟨Nat.le_of_ble_eq_true rfl, Nat.le_of_ble_eq_true rfl⟩ (md_in hd (k := 0) rfl) md_at_0 rfl rfl rfl rfl (Nat.le_of_ble_eq_true rfl) hl.1 d_M_times_7 ⟨Nat.le_of_ble_eq_true rfl, Nat.le_of_ble_eq_true rfl⟩) (fun r u H locs hp hh => ?_)
    obtain ⟨hr1, rfl⟩ := hp
    rw [h1] at hr1
    subst hr1
    refine lv_if_ne (tgt := 15) X.1 X.2.1 d_M_times_10 (by decide) (fun hc => absurd (by decide) hc) (fun _ => ?_)
    refine lv_lconst (v := lN 0) X.1 X.2.1 d_M_times_13 (by decide) ?_
    exact hm_lret X hr hlk hh (hpo _ (Or.inl ⟨h1, rfl⟩)) (Nat.le_of_ble_eq_true rfl) (Nat.le_of_ble_eq_true rfl) d_M_times_14
  · have h1 := ip_in (by omega : sm < 2 ^ 31) hj
    obtain ⟨x, hx⟩ := tm_ex (hst j hj) n (Nat.le_refl n)
    have hxl := tm_le hx hn
    have inner : ∀ (t0 : Nat), 1 ≤ t0 → t0 ≤ x →
        (∀ (fl : Nat) (H : Heap) (locs : List Loc) (ls : Array Slot), ((fl = 0 ∧ ¬ tmd (st j) n n t0) ∨ (fl = 1 ∧ tmd (st j) n n t0)) → hl_H g (hm_A sz L) s.heap L (mf g d f0 n mm sm kn mk r3 r5 r7 r8 r10 r11 r12 r13 r14 r15 r16 r17 r18 r19 r20 r21 r22 r23) H locs → lv_has ls 6 [(5, .int (nI n)), (4, .int (nI fl)), (2, .long (lN t0)), (0, .ref (d 0)), (1, .int (nI j))] → W p l e { frames := 1, cells := 0, slots := 0, locals := 30 } s m #[.ref (d 0), .int (nI j)] below meth c H locs 0 0 (MQ below (va_Ql (post) (hm_B g sz L) (hm_A sz L)) #[.ref (d 0), .int (nI j)] s 0 0 (hm_A sz L)) (F0 m 73 ls [])) →
        ∀ (t i fl : Nat) (H : Heap) (locs : List Loc) (ls : Array Slot), n + 1 ≤ i + t → i ≤ n → ((fl = 0 ∧ ¬ tmd (st j) n i t0) ∨ (fl = 1 ∧ tmd (st j) n i t0)) →
        hl_H g (hm_A sz L) s.heap L (mf g d f0 n mm sm kn mk r3 r5 r7 r8 r10 r11 r12 r13 r14 r15 r16 r17 r18 r19 r20 r21 r22 r23) H locs → lv_has ls 6 [(5, .int (nI i)), (4, .int (nI fl)), (2, .long (lN t0)), (0, .ref (d 0)), (1, .int (nI j))] → W p l e { frames := 1, cells := 0, slots := 0, locals := 30 } s m #[.ref (d 0), .int (nI j)] below meth c H locs 0 0 (MQ below (va_Ql (post) (hm_B g sz L) (hm_A sz L)) #[.ref (d 0), .int (nI j)] s 0 0 (hm_A sz L)) (F0 m 31 ls []) := by
      intro t0 ht0 ht1 kk t
      induction t with
      | zero => intros; omega
      | succ t ih =>
        intro i fl H locs ls hk hin hfl hh hl
        refine lv_iload X.1 X.2.1 d_M_times_31 (lv_at hl 0 rfl) ?_
        refine lv_aload_n X.1 X.2.1 d_M_times_33 rfl (lv_at hl 3 rfl) ?_
        refine hl_get X hK hh (ref := "CycleGroupsModel") i_M (ci := 5) rfl 0 (by decide) w_352 rfl (md_in hd (k := 0) rfl) md_at_0 rfl d_M_times_34 ?_
        refine hn_ige (tgt := 73) X (by omega) (by omega) d_M_times_37 (by decide) (fun hc => ?_) (fun hc => ?_)
        · have hin2 : i = n := by omega
          rw [hin2] at hl hfl
          exact kk fl H locs ls hfl hh hl
        · have hin2 : i < n := hc
          refine lv_iload X.1 X.2.1 d_M_times_40 (lv_at hl 1 rfl) ?_
          refine hn_zeq (tgt := 64) X (by omega) d_M_times_42 (by decide) (fun hc => ?_) (fun hc => ?_)
          · have hf0 : fl = 0 := hc
            have hno : ¬ tmd (st j) n i t0 := by
              rcases hfl with ⟨_, h⟩ | ⟨h, _⟩
              · exact h
              · omega
            refine lv_iconst (v := nI 0) X.1 X.2.1 d_M_times_64 (by decide) ?_
            refine lv_istore (lv' := [(4, .int (nI 0)), (5, .int (nI i)), (2, .long (lN t0)), (0, .ref (d 0)), (1, .int (nI j))]) X.1 X.2.1 d_M_times_65 hl (by decide) rfl (fun ls hl => ?_)
            refine lv_iinc (v := nI (i + 1)) (lv' := [(5, .int (nI (i + 1))), (4, .int (nI 0)), (2, .long (lN t0)), (0, .ref (d 0)), (1, .int (nI j))]) X.1 X.2.1 d_M_times_67 hl (k := 1) rfl (hn_inc _) (by decide) rfl (fun ls hl => ?_)
            refine lv_goto (tgt := 31) X.1 X.2.1 d_M_times_70 (by decide) ?_
            exact ih (i + 1) 0 H locs ls (by omega) (by omega) (Or.inl ⟨rfl, fun h => hno (fun p r hp hr => h p r (by omega) hr)⟩) hh (lv_sub hl [0, 1, 2, 3, 4] rfl)
          · have hf1 : ¬ fl = 0 := hc
            have hyes : tmd (st j) n i t0 := by
              rcases hfl with ⟨h, _⟩ | ⟨_, h⟩
              · omega
              · exact h
            refine lv_lload_n X.1 X.2.1 d_M_times_45 rfl (lv_at hl 2 rfl) ?_
            refine lv_aload_n X.1 X.2.1 d_M_times_46 rfl (lv_at hl 3 rfl) ?_
            refine lv_iload_n X.1 X.2.1 d_M_times_47 rfl (lv_at hl 4 rfl) ?_
            refine lv_iload X.1 X.2.1 d_M_times_48 (lv_at hl 0 rfl) ?_
            refine hl_calli hh (hl_runV (k := 2) X hK hh (c_M_roundOf l g _ L d f0 hd n mm sm kn mk r3 r5 r7 r8 r10 r11 r12 r13 r14 r15 r16 r17 r18 r19 r20 r21 r22 r23 hn (st j) j i (by omega) (h5 j hj) (hst j hj) hin2) wc_M_roundOf w_580 w_5 wi_M_roundOf ws_M_roundOf (by decide +kernel) rfl rfl ⟨Nat.le_of_ble_eq_true rfl, Nat.le_of_ble_eq_true rfl⟩ (md_in hd (k := 0) rfl) md_at_0 rfl rfl rfl rfl (Nat.le_of_ble_eq_true rfl) hl.1 d_M_times_50 ⟨Nat.le_of_ble_eq_true rfl, Nat.le_of_ble_eq_true rfl⟩) (fun r u H locs hp hh => ?_)
            obtain ⟨⟨r0, hr0, rfl⟩, rfl⟩ := hp
            have hrb := hr0.2.1
            have hra := hr0.1
            refine hn_i2l X (by omega) d_M_times_53 ?_
            refine hn_lrem X (by omega) (by omega) (by omega) d_M_times_54 ?_
            refine lv_lconst (v := lN 0) X.1 X.2.1 d_M_times_55 (by decide) ?_
            refine lv_lcmp0 X.1 X.2.1 d_M_times_56 (fun v hv => ?_)
            have hv2 : v = 0 ↔ r0 ∣ t0 := by
              rw [hv, pk_lEQ (by have := Nat.mod_lt t0 (show 0 < r0 by omega); omega) (by decide)]
              exact ⟨Nat.dvd_of_mod_eq_zero, Nat.mod_eq_zero_of_dvd⟩
            refine lv_if_ne (tgt := 64) X.1 X.2.1 d_M_times_57 (by decide) (fun hc => ?_) (fun hc => ?_)
            · skip
              refine lv_iconst (v := nI 0) X.1 X.2.1 d_M_times_64 (by decide) ?_
              refine lv_istore (lv' := [(4, .int (nI 0)), (5, .int (nI i)), (2, .long (lN t0)), (0, .ref (d 0)), (1, .int (nI j))]) X.1 X.2.1 d_M_times_65 hl (by decide) rfl (fun ls hl => ?_)
              refine lv_iinc (v := nI (i + 1)) (lv' := [(5, .int (nI (i + 1))), (4, .int (nI 0)), (2, .long (lN t0)), (0, .ref (d 0)), (1, .int (nI j))]) X.1 X.2.1 d_M_times_67 hl (k := 1) rfl (hn_inc _) (by decide) rfl (fun ls hl => ?_)
              refine lv_goto (tgt := 31) X.1 X.2.1 d_M_times_70 (by decide) ?_
              exact ih (i + 1) 0 H locs ls (by omega) (by omega) (Or.inl ⟨rfl, fun h => hc (hv2.2 (h i r0 (by omega) hr0))⟩) hh (lv_sub hl [0, 1, 2, 3, 4] rfl)
            · have hv0 : v = 0 := hc
              refine lv_iconst (v := nI 1) X.1 X.2.1 d_M_times_60 (by decide) ?_
              refine lv_goto (tgt := 65) X.1 X.2.1 d_M_times_61 (by decide) ?_
              refine lv_istore (lv' := [(4, .int (nI 1)), (5, .int (nI i)), (2, .long (lN t0)), (0, .ref (d 0)), (1, .int (nI j))]) X.1 X.2.1 d_M_times_65 hl (by decide) rfl (fun ls hl => ?_)
              refine lv_iinc (v := nI (i + 1)) (lv' := [(5, .int (nI (i + 1))), (4, .int (nI 1)), (2, .long (lN t0)), (0, .ref (d 0)), (1, .int (nI j))]) X.1 X.2.1 d_M_times_67 hl (k := 1) rfl (hn_inc _) (by decide) rfl (fun ls hl => ?_)
              refine lv_goto (tgt := 31) X.1 X.2.1 d_M_times_70 (by decide) ?_
              refine ih (i + 1) 1 H locs ls (by omega) (by omega) (Or.inr ⟨rfl, fun p r hp hr => ?_⟩) hh (lv_sub hl [0, 1, 2, 3, 4] rfl)
              rcases Nat.lt_or_ge p i with q | q
              · exact hyes p r q hr
              · have : p = i := by omega
                subst this
                rw [rt_uniq hr hr0]; exact hv2.1 hv0
    have loop : ∀ (t t0 : Nat) (H : Heap) (locs : List Loc) (ls : Array Slot), x + 1 ≤ t0 + t → 1 ≤ t0 → t0 ≤ x → (∀ y, 1 ≤ y → y < t0 → ¬ tmd (st j) n n y) → hl_H g (hm_A sz L) s.heap L (mf g d f0 n mm sm kn mk r3 r5 r7 r8 r10 r11 r12 r13 r14 r15 r16 r17 r18 r19 r20 r21 r22 r23) H locs → lv_has ls 6 [(4, .int (nI 0)), (2, .long (lN t0)), (0, .ref (d 0)), (1, .int (nI j))] → W p l e { frames := 1, cells := 0, slots := 0, locals := 30 } s m #[.ref (d 0), .int (nI j)] below meth c H locs 0 0 (MQ below (va_Ql (post) (hm_B g sz L) (hm_A sz L)) #[.ref (d 0), .int (nI j)] s 0 0 (hm_A sz L)) (F0 m 20 ls []) := by
      intro t
      induction t with
      | zero => intros; omega
      | succ t ih =>
        intro t0 H locs ls hk ht1 htx hno hh hl
        refine lv_iload X.1 X.2.1 d_M_times_20 (lv_at hl 0 rfl) ?_
        refine hn_zne (tgt := 89) X (by omega) d_M_times_22 (by decide) (fun hc => ?_) (fun hc => ?_)
        · exact absurd rfl hc
        refine lv_iconst (v := nI 1) X.1 X.2.1 d_M_times_25 (by decide) ?_
        refine lv_istore (lv' := [(4, .int (nI 1)), (2, .long (lN t0)), (0, .ref (d 0)), (1, .int (nI j))]) X.1 X.2.1 d_M_times_26 hl (by decide) rfl (fun ls hl => ?_)
        refine lv_iconst (v := nI 0) X.1 X.2.1 d_M_times_28 (by decide) ?_
        refine lv_istore (lv' := [(5, .int (nI 0)), (4, .int (nI 1)), (2, .long (lN t0)), (0, .ref (d 0)), (1, .int (nI j))]) X.1 X.2.1 d_M_times_29 hl (by decide) rfl (fun ls hl => ?_)
        refine inner t0 ht1 htx ?_ (n + 1) 0 1 H locs ls (by omega) (by omega) (Or.inr ⟨rfl, fun p r hp => absurd hp (Nat.not_lt_zero _)⟩) hh (lv_sub hl [0, 1, 2, 3, 4] rfl)
        intro fl H locs ls hfl hh hl
        refine lv_lload_n X.1 X.2.1 d_M_times_73 rfl (lv_at hl 2 rfl) ?_
        refine lv_iload X.1 X.2.1 d_M_times_74 (lv_at hl 1 rfl) ?_
        refine hn_zeq (tgt := 83) X (by rcases hfl with h | h <;> omega) d_M_times_76 (by decide) (fun hc => ?_) (fun hc => ?_)
        · have hf0 : fl = 0 := hc
          have hno2 : ¬ tmd (st j) n n t0 := by
            rcases hfl with ⟨_, h⟩ | ⟨h, _⟩
            · exact h
            · omega
          subst hf0
          refine lv_lconst (v := lN 1) X.1 X.2.1 d_M_times_83 (by decide) ?_
          refine hn_ladd X d_M_times_84 ?_
          refine lv_lstore_n (lv' := [(2, .long (lN (t0 + 1))), (5, .int (nI n)), (4, .int (nI 0)), (0, .ref (d 0)), (1, .int (nI j))]) X.1 X.2.1 d_M_times_85 rfl hl (by decide) rfl (fun ls hl => ?_)
          refine lv_goto (tgt := 20) X.1 X.2.1 d_M_times_86 (by decide) ?_
          have hlt : t0 < x := by
            rcases Nat.lt_or_ge t0 x with q | q
            · exact q
            · have : t0 = x := by omega
              exact absurd (this ▸ hx.2.1) hno2
          refine ih (t0 + 1) H locs ls (by omega) (by omega) (by omega) (fun y h1 h2 => ?_) hh (lv_sub hl [2, 0, 3, 4] rfl)
          rcases Nat.lt_or_ge y t0 with q | q
          · exact hno y h1 q
          · have : y = t0 := by omega
            rw [this]; exact hno2
        · have hf0 : ¬ fl = 0 := hc
          have hyes : fl = 1 ∧ tmd (st j) n n t0 := by
            rcases hfl with ⟨h, _⟩ | h
            · omega
            · exact h
          obtain ⟨rfl, hyes⟩ := hyes
          refine lv_lconst (v := lN 0) X.1 X.2.1 d_M_times_79 (by decide) ?_
          refine lv_goto (tgt := 84) X.1 X.2.1 d_M_times_80 (by decide) ?_
          refine hn_ladd X d_M_times_84 ?_
          refine lv_lstore_n (lv' := [(2, .long (lN (t0 + 0))), (5, .int (nI n)), (4, .int (nI 1)), (0, .ref (d 0)), (1, .int (nI j))]) X.1 X.2.1 d_M_times_85 rfl hl (by decide) rfl (fun ls hl => ?_)
          refine lv_goto (tgt := 20) X.1 X.2.1 d_M_times_86 (by decide) ?_
          refine lv_iload X.1 X.2.1 d_M_times_20 (lv_at hl 2 rfl) ?_
          refine hn_zne (tgt := 89) X (by omega) d_M_times_22 (by decide) (fun hc => ?_) (fun hc => ?_)
          · have hxt : x ≤ t0 := Nat.le_of_dvd (by omega) (hx.2.2 t0 hyes)
            have e1 : t0 + 0 = x := by omega
            refine lv_lload_n X.1 X.2.1 d_M_times_89 rfl (lv_at hl 0 rfl) ?_
            exact hm_lret X hr hlk hh (hpo _ (Or.inr ⟨j, x, hj, rfl, hx, by rw [e1]⟩)) (Nat.le_of_ble_eq_true rfl) (Nat.le_of_ble_eq_true rfl) d_M_times_90
          · omega
    refine lv_aload_n X.1 X.2.1 d_M_times_0 rfl (lv_at hl 0 rfl) ?_
    refine lv_iconst (v := nI 0) X.1 X.2.1 d_M_times_1 (by decide) ?_
    refine hl_put X hK hh (ref := "CycleGroupsModel") i_M t_M t_M_ok n_M (ci := 5) rfl 1 (by decide) w_351 rfl rfl (md_in hd (k := 0) rfl) md_at_0 (by first | rfl | decide) (by first | rfl | decide) (Nat.le_of_ble_eq_true rfl) d_M_times_2 (fun H locs hh => ?_)
    have hh : hl_H g (hm_A sz L) s.heap L (mf g d f0 n mm sm kn mk r3 r5 r7 r8 r10 r11 r12 r13 r14 r15 r16 r17 r18 r19 r20 r21 r22 r23) H locs := md_set_0 hh
    refine lv_aload_n X.1 X.2.1 d_M_times_5 rfl (lv_at hl 0 rfl) ?_
    refine lv_iload_n X.1 X.2.1 d_M_times_6 rfl (lv_at hl 1 rfl) ?_
    refine hl_calli hh (hl_runV (k := 1) X hK hh (c_M_isState l g _ L d _ hd _ _ _ _ _ _ _ _ _ _ _ _ _ _ _ _ _ _ _ _ _ _ _ (nI j) (by omega)) wc_M_isState w_445 w_5 wi_M_isState ws_M_isState (by decide +kernel) rfl rfl ⟨Nat.le_of_ble_eq_true rfl, Nat.le_of_ble_eq_true rfl⟩ (md_in hd (k := 0) rfl) md_at_0 rfl rfl rfl rfl (Nat.le_of_ble_eq_true rfl) hl.1 d_M_times_7 ⟨Nat.le_of_ble_eq_true rfl, Nat.le_of_ble_eq_true rfl⟩) (fun r u H locs hp hh => ?_)
    obtain ⟨hr1, rfl⟩ := hp
    rw [h1] at hr1
    subst hr1
    refine lv_if_ne (tgt := 15) X.1 X.2.1 d_M_times_10 (by decide) (fun _ => ?_) (fun hc => absurd hc (by decide))
    refine lv_lconst (v := lN 1) X.1 X.2.1 d_M_times_15 (by decide) ?_
    refine lv_lstore_n (lv' := [(2, .long (lN 1)), (0, .ref (d 0)), (1, .int (nI j))]) X.1 X.2.1 d_M_times_16 rfl hl (by decide) rfl (fun ls hl => ?_)
    refine lv_iconst (v := nI 0) X.1 X.2.1 d_M_times_17 (by decide) ?_
    refine lv_istore (lv' := [(4, .int (nI 0)), (2, .long (lN 1)), (0, .ref (d 0)), (1, .int (nI j))]) X.1 X.2.1 d_M_times_18 hl (by decide) rfl (fun ls hl => ?_)
    exact loop (x + 1) 1 _ _ ls (by omega) (by omega) hx.1 (fun y h1 h2 => by omega) hh (lv_sub hl [0, 1, 2, 3] rfl)
end

