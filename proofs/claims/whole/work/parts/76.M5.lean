/-! The reference: block. -/
section
theorem bk_id : bk_rep id := fun p => ⟨Nat.le_refl _, rfl⟩

/-- int block(int a, int b) -/
theorem c_M_block (l : Launch) (g : hl_G) (sz : Nat) (L : List Nat) (d : Nat → Nat) (f0 : Nat → va_E) (hd : md_D L d) (n mm sm kn mk : Nat) (r3 r5 r7 r8 r10 r11 r12 r13 r14 r15 r16 r17 r18 r19 r20 r21 r22 r23 : Nat → Nat) (mv st : Nat → Nat → Nat) (hW : cg_W n mm sm mv st) (h3 : ∀ i, i < mm → fr r3 i (mv i)) (h5 : ∀ j, j < sm → fr r5 j (st j)) (q1 q2 : Int32) (post : Int32 → List Nat × (Nat → va_E) → Prop) (hpo : ∀ r f1, ((ip q1 n = false ∨ ip q2 n = false) ∧ r = -1 ∧ f1 = mf g d f0 n mm sm kn mk r3 r5 r7 r8 r10 r11 r12 r13 r14 r15 r16 r17 r18 r19 r20 r21 r22 r23) ∨ (∃ j k, j < n ∧ k < n ∧ q1 = nI j ∧ q2 = nI k ∧ r = nI (pt_size (pt_blk mv n mm n (pt_join id j k)) j n) ∧ ∃ z, f1 = mf g d f0 n mm sm kn mk r3 r5 r7 r8 r10 r11 r12 r13 r14 r15 r16 r17 r18 r19 z r21 r22 r23) → post r (L, f1)) :
    Met l y_M_block (hq y_M_block b_M_block 6 (some .int)) { frames := 2, cells := 0, slots := 0, locals := 60 } (hm_P g [.ref (d 0), .int q1, .int q2] sz L (mf g d f0 n mm sm kn mk r3 r5 r7 r8 r10 r11 r12 r13 r14 r15 r16 r17 r18 r19 r20 r21 r22 r23)) (va_Qi (post) (hm_B g sz L) (hm_A sz L)) 0 0 (hm_A sz L) := by
  refine hm_ofW (by decide) (Nat.le_of_ble_eq_true rfl) ?_
  intro p e s m below meth c X hr hlk hnm hK hsz hh ls hl
  have hl : lv_has ls 6 [(0, .ref (d 0)), (1, .int q1), (2, .int q2)] := hl
  obtain ⟨hn0, hn, hmm, hsm, hmv, hst⟩ := id hW
  have hmv24 : ∀ i, i < mm → ∀ p, p < 24 → mv i p < 24 := fun i hi p hp => sym_24 (hmv i hi) hn hp
  have hmvn : ∀ i, i < mm → ∀ p, p < n → mv i p < n := fun i hi p hp => (ch_D_mem.1 (gp_sym_mem (hmv i hi) (ch_D_mem.2 ⟨Nat.zero_le _, hp⟩))).2
  rcases ip_cases q1 (n := n) (by omega) with h1 | ⟨j, hj, rfl⟩
  · skip
    refine lv_aload_n X.1 X.2.1 d_M_block_0 rfl (lv_at hl 0 rfl) ?_
    refine lv_iconst (v := nI 0) X.1 X.2.1 d_M_block_1 (by decide) ?_
    refine hl_put X hK hh (ref := "CycleGroupsModel") i_M t_M t_M_ok n_M (ci := 5) rfl 1 (by decide) w_351 rfl rfl (md_in hd (k := 0) rfl) md_at_0 (by first | rfl | decide) (by first | rfl | decide) (Nat.le_of_ble_eq_true rfl) d_M_block_2 (fun H locs hh => ?_)
    have hh : hl_H g (hm_A sz L) s.heap L (mf g d f0 n mm sm kn mk r3 r5 r7 r8 r10 r11 r12 r13 r14 r15 r16 r17 r18 r19 r20 r21 r22 r23) H locs := md_set_0 hh
    refine lv_aload_n X.1 X.2.1 d_M_block_5 rfl (lv_at hl 0 rfl) ?_
    refine lv_iload_n X.1 X.2.1 d_M_block_6 rfl (lv_at hl 1 rfl) ?_
    refine hl_calli hh (hl_runV (k := 1) X hK hh (c_M_isPlace l g _ L d _ hd _ _ _ _ _ _ _ _ _ _ _ _ _ _ _ _ _ _ _ _ _ _ _ q1 (by omega)) wc_M_isPlace w_433 w_5 wi_M_isPlace ws_M_isPlace (by decide +kernel) rfl rfl ⟨Nat.le_of_ble_eq_true rfl, Nat.le_of_ble_eq_true rfl⟩ (md_in hd (k := 0) rfl) md_at_0 rfl rfl rfl rfl (Nat.le_of_ble_eq_true rfl) hl.1 d_M_block_7 ⟨Nat.le_of_ble_eq_true rfl, Nat.le_of_ble_eq_true rfl⟩) (fun r u H locs hp hh => ?_)
    obtain ⟨hr1, rfl⟩ := hp
    rw [h1] at hr1
    subst hr1
    refine lv_if_eq (tgt := 21) X.1 X.2.1 d_M_block_10 (by decide) (fun _ => ?_) (fun hc => absurd (by decide) hc)
    refine lv_iconst (v := -1) X.1 X.2.1 d_M_block_21 (by decide) ?_
    exact hm_iret X hr hlk hh (hpo _ _ (Or.inl ⟨Or.inl h1, rfl, rfl⟩)) (Nat.le_of_ble_eq_true rfl) (Nat.le_of_ble_eq_true rfl) d_M_block_22
  have h1 := ip_in (by omega : n < 2 ^ 31) hj
  rcases ip_cases q2 (n := n) (by omega) with h2 | ⟨k, hk, rfl⟩
  · skip
    refine lv_aload_n X.1 X.2.1 d_M_block_0 rfl (lv_at hl 0 rfl) ?_
    refine lv_iconst (v := nI 0) X.1 X.2.1 d_M_block_1 (by decide) ?_
    refine hl_put X hK hh (ref := "CycleGroupsModel") i_M t_M t_M_ok n_M (ci := 5) rfl 1 (by decide) w_351 rfl rfl (md_in hd (k := 0) rfl) md_at_0 (by first | rfl | decide) (by first | rfl | decide) (Nat.le_of_ble_eq_true rfl) d_M_block_2 (fun H locs hh => ?_)
    have hh : hl_H g (hm_A sz L) s.heap L (mf g d f0 n mm sm kn mk r3 r5 r7 r8 r10 r11 r12 r13 r14 r15 r16 r17 r18 r19 r20 r21 r22 r23) H locs := md_set_0 hh
    refine lv_aload_n X.1 X.2.1 d_M_block_5 rfl (lv_at hl 0 rfl) ?_
    refine lv_iload_n X.1 X.2.1 d_M_block_6 rfl (lv_at hl 1 rfl) ?_
    refine hl_calli hh (hl_runV (k := 1) X hK hh (c_M_isPlace l g _ L d _ hd _ _ _ _ _ _ _ _ _ _ _ _ _ _ _ _ _ _ _ _ _ _ _ (nI j) (by omega)) wc_M_isPlace w_433 w_5 wi_M_isPlace ws_M_isPlace (by decide +kernel) rfl rfl ⟨Nat.le_of_ble_eq_true rfl, Nat.le_of_ble_eq_true rfl⟩ (md_in hd (k := 0) rfl) md_at_0 rfl rfl rfl rfl (Nat.le_of_ble_eq_true rfl) hl.1 d_M_block_7 ⟨Nat.le_of_ble_eq_true rfl, Nat.le_of_ble_eq_true rfl⟩) (fun r u H locs hp hh => ?_)
    obtain ⟨hr1, rfl⟩ := hp
    rw [h1] at hr1
    subst hr1
    refine lv_if_eq (tgt := 21) X.1 X.2.1 d_M_block_10 (by decide) (fun hc => absurd hc (by decide)) (fun _ => ?_)
    refine lv_aload_n X.1 X.2.1 d_M_block_13 rfl (lv_at hl 0 rfl) ?_
    refine lv_iload_n X.1 X.2.1 d_M_block_14 rfl (lv_at hl 2 rfl) ?_
    refine hl_calli hh (hl_runV (k := 1) X hK hh (c_M_isPlace l g _ L d _ hd _ _ _ _ _ _ _ _ _ _ _ _ _ _ _ _ _ _ _ _ _ _ _ q2 (by omega)) wc_M_isPlace w_433 w_5 wi_M_isPlace ws_M_isPlace (by decide +kernel) rfl rfl ⟨Nat.le_of_ble_eq_true rfl, Nat.le_of_ble_eq_true rfl⟩ (md_in hd (k := 0) rfl) md_at_0 rfl rfl rfl rfl (Nat.le_of_ble_eq_true rfl) hl.1 d_M_block_15 ⟨Nat.le_of_ble_eq_true rfl, Nat.le_of_ble_eq_true rfl⟩) (fun r u H locs hp hh => ?_)
    obtain ⟨hr1, rfl⟩ := hp
    rw [h2] at hr1
    subst hr1
    refine lv_if_ne (tgt := 23) X.1 X.2.1 d_M_block_18 (by decide) (fun hc => absurd (by decide) hc) (fun _ => ?_)
    refine lv_iconst (v := -1) X.1 X.2.1 d_M_block_21 (by decide) ?_
    exact hm_iret X hr hlk hh (hpo _ _ (Or.inl ⟨Or.inr h2, rfl, rfl⟩)) (Nat.le_of_ble_eq_true rfl) (Nat.le_of_ble_eq_true rfl) d_M_block_22
  have h2 := ip_in (by omega : n < 2 ^ 31) hk
  have inner : ∀ (z : Nat → Nat), bk_rep z → ∀ (F : Bool) (c0 : Nat), c0 < mm → (∀ (H : Heap) (locs : List Loc) (ls : Array Slot), hl_H g (hm_A sz L) s.heap L (mf g d f0 n mm sm kn mk r3 r5 r7 r8 r10 r11 r12 r13 r14 r15 r16 r17 r18 r19 ((pt_im1 (mv c0) z n).1) r21 r22 r23) H locs → lv_has ls 6 [(4, .int (nI (c0 + 1))), (3, .int (hb (F || (pt_im1 (mv c0) z n).2))), (0, .ref (d 0)), (1, .int (nI j)), (2, .int (nI k))] → W p l e { frames := 2, cells := 0, slots := 0, locals := 60 } s m #[.ref (d 0), .int (nI j), .int (nI k)] below meth c H locs 0 0 (MQ below (va_Qi (post) (hm_B g sz L) (hm_A sz L)) #[.ref (d 0), .int (nI j), .int (nI k)] s 0 0 (hm_A sz L)) (F0 m 45 ls [])) →
      ∀ (t i : Nat) (H : Heap) (locs : List Loc) (ls : Array Slot), n + 1 ≤ i + t → i ≤ n → hl_H g (hm_A sz L) s.heap L (mf g d f0 n mm sm kn mk r3 r5 r7 r8 r10 r11 r12 r13 r14 r15 r16 r17 r18 r19 ((pt_im1 (mv c0) z i).1) r21 r22 r23) H locs → lv_has ls 6 [(5, .int (nI i)), (4, .int (nI c0)), (3, .int (hb (F || (pt_im1 (mv c0) z i).2))), (0, .ref (d 0)), (1, .int (nI j)), (2, .int (nI k))] → W p l e { frames := 2, cells := 0, slots := 0, locals := 60 } s m #[.ref (d 0), .int (nI j), .int (nI k)] below meth c H locs 0 0 (MQ below (va_Qi (post) (hm_B g sz L) (hm_A sz L)) #[.ref (d 0), .int (nI j), .int (nI k)] s 0 0 (hm_A sz L)) (F0 m 57 ls []) := by
    intro z hz F c0 hc0 kk t
    induction t with
    | zero => intros; omega
    | succ t ih =>
      intro i H locs ls hkt hin hh hl
      refine lv_iload X.1 X.2.1 d_M_block_57 (lv_at hl 0 rfl) ?_
      refine lv_aload_n X.1 X.2.1 d_M_block_59 rfl (lv_at hl 3 rfl) ?_
      refine hl_get X hK hh (ref := "CycleGroupsModel") i_M (ci := 5) rfl 0 (by decide) w_352 rfl (md_in hd (k := 0) rfl) md_at_0 rfl d_M_block_60 ?_
      refine hn_ige (tgt := 120) X (by omega) (by omega) d_M_block_63 (by decide) (fun hc => ?_) (fun hc => ?_)
      · have hi : i = n := by omega
        rw [hi] at hh
        refine lv_iinc (v := nI (c0 + 1)) (lv' := [(4, .int (nI (c0 + 1))), (5, .int (nI i)), (3, .int (hb (F || (pt_im1 (mv c0) z i).2))), (0, .ref (d 0)), (1, .int (nI j)), (2, .int (nI k))]) X.1 X.2.1 d_M_block_120 hl (k := 1) rfl (hn_inc _) (by decide) rfl (fun ls hl => ?_)
        refine lv_goto (tgt := 45) X.1 X.2.1 d_M_block_123 (by decide) ?_
        rw [hi] at hl
        exact kk H locs ls hh (lv_sub hl [0, 2, 3, 4, 5] rfl)
      · have hi : i < n := hc
        obtain ⟨hr0, _⟩ := bk_im1 (m := mv c0) (n := n) hz (hmvn c0 hc0) i hin
        have hn1 : (pt_im1 (mv c0) z (i + 1)).1 = pt_join (pt_im1 (mv c0) z i).1 (mv c0 i) (mv c0 ((pt_im1 (mv c0) z i).1 i)) := rfl
        have hn2 : (pt_im1 (mv c0) z (i + 1)).2 = ((pt_im1 (mv c0) z i).2 || decide (¬ (pt_im1 (mv c0) z i).1 (mv c0 i) = (pt_im1 (mv c0) z i).1 (mv c0 ((pt_im1 (mv c0) z i).1 i)))) := rfl
        obtain ⟨y, ey⟩ : ∃ y, y = (pt_im1 (mv c0) z i).1 := ⟨_, rfl⟩
        obtain ⟨G, eG⟩ : ∃ G, G = (pt_im1 (mv c0) z i).2 := ⟨_, rfl⟩
        rw [← ey] at hr0 hn1 hn2 hh
        rw [← eG] at hn2 hl
        have hyi := (hr0 i).1
        have e1 := h3 c0 hc0 i (by omega)
        have e2 := h3 c0 hc0 (y i) (by omega)
        refine lv_aload_n X.1 X.2.1 d_M_block_66 rfl (lv_at hl 3 rfl) ?_
        refine lv_aload_n X.1 X.2.1 d_M_block_67 rfl (lv_at hl 3 rfl) ?_
        refine hl_get X hK hh (ref := "CycleGroupsModel") i_M (ci := 5) rfl 3 (by decide) w_354 rfl (md_in hd (k := 0) rfl) md_at_0 rfl d_M_block_68 ?_
        refine lv_bipush (v := nI 24) X.1 X.2.1 d_M_block_71 (by decide) ?_
        refine lv_iload X.1 X.2.1 d_M_block_73 (lv_at hl 1 rfl) ?_
        refine hn_mul X d_M_block_75 ?_
        refine lv_iload X.1 X.2.1 d_M_block_76 (lv_at hl 0 rfl) ?_
        refine hn_add X d_M_block_78 ?_
        refine hl_iald X hK hh (md_in hd (k := 3) rfl) (md_at_3 hd) (by omega) (by decide) d_M_block_79 ?_
        refine lv_aload_n X.1 X.2.1 d_M_block_80 rfl (lv_at hl 3 rfl) ?_
        refine hl_get X hK hh (ref := "CycleGroupsModel") i_M (ci := 5) rfl 3 (by decide) w_354 rfl (md_in hd (k := 0) rfl) md_at_0 rfl d_M_block_81 ?_
        refine lv_bipush (v := nI 24) X.1 X.2.1 d_M_block_84 (by decide) ?_
        refine lv_iload X.1 X.2.1 d_M_block_86 (lv_at hl 1 rfl) ?_
        refine hn_mul X d_M_block_88 ?_
        refine lv_aload_n X.1 X.2.1 d_M_block_89 rfl (lv_at hl 3 rfl) ?_
        refine hl_get X hK hh (ref := "CycleGroupsModel") i_M (ci := 5) rfl 20 (by decide) w_371 rfl (md_in hd (k := 0) rfl) md_at_0 rfl d_M_block_90 ?_
        refine lv_iload X.1 X.2.1 d_M_block_93 (lv_at hl 0 rfl) ?_
        refine hl_iald X hK hh (md_in hd (k := 20) rfl) (md_at_20 hd) (by omega) (by decide) d_M_block_95 ?_
        refine hn_add X d_M_block_96 ?_
        refine hl_iald X hK hh (md_in hd (k := 3) rfl) (md_at_3 hd) (by omega) (by decide) d_M_block_97 ?_
        rw [e1, e2]
        refine hl_calli hh (hl_runV (k := 2) X hK hh (c_M_joinSets l g _ L d f0 hd n mm sm kn mk r3 r5 r7 r8 r10 r11 r12 r13 r14 r15 r16 r17 r18 r19 y r21 r22 r23 (mv c0 i) (mv c0 (y i)) (hmv24 c0 hc0 i (by omega)) (hmv24 c0 hc0 (y i) (by omega)) (fun p hp => by have := (hr0 p).1; omega)) wc_M_joinSets w_547 w_5 wi_M_joinSets ws_M_joinSets (by decide +kernel) rfl rfl ⟨Nat.le_of_ble_eq_true rfl, Nat.le_of_ble_eq_true rfl⟩ (md_in hd (k := 0) rfl) md_at_0 rfl rfl rfl rfl (Nat.le_of_ble_eq_true rfl) hl.1 d_M_block_98 ⟨Nat.le_of_ble_eq_true rfl, Nat.le_of_ble_eq_true rfl⟩) (fun r u H locs hp hh => ?_)
        obtain ⟨hr1, rfl⟩ := hp
        rw [← hn1] at hh
        by_cases e3 : y (mv c0 i) = y (mv c0 (y i))
        · rw [if_pos e3] at hr1
          rw [decide_eq_false (by simp [e3]), Bool.or_false] at hn2
          subst hr1
          refine lv_if_ne (tgt := 108) X.1 X.2.1 d_M_block_101 (by decide) (fun hc => absurd (by decide) hc) (fun _ => ?_)
          refine lv_iload_n X.1 X.2.1 d_M_block_104 rfl (lv_at hl 2 rfl) ?_
          cases hF : (F || G) with
          | true =>
            rw [hF] at hl
            have e4 : (F || (pt_im1 (mv c0) z (i + 1)).2) = true := by rw [hn2]; exact hF
            refine lv_if_eq (tgt := 112) X.1 X.2.1 d_M_block_105 (by decide) (fun hc => absurd hc (by decide)) (fun _ => ?_)
            refine lv_iconst (v := nI 1) X.1 X.2.1 d_M_block_108 (by decide) ?_
            refine lv_goto (tgt := 113) X.1 X.2.1 d_M_block_109 (by decide) ?_
            refine lv_istore_n (lv' := [(3, .int (nI 1)), (5, .int (nI i)), (4, .int (nI c0)), (0, .ref (d 0)), (1, .int (nI j)), (2, .int (nI k))]) X.1 X.2.1 d_M_block_113 rfl hl (by decide) rfl (fun ls hl => ?_)
            refine lv_iinc (v := nI (i + 1)) (lv' := [(5, .int (nI (i + 1))), (3, .int (nI 1)), (4, .int (nI c0)), (0, .ref (d 0)), (1, .int (nI j)), (2, .int (nI k))]) X.1 X.2.1 d_M_block_114 hl (k := 1) rfl (hn_inc _) (by decide) rfl (fun ls hl => ?_)
            refine lv_goto (tgt := 57) X.1 X.2.1 d_M_block_117 (by decide) ?_
            refine ih (i + 1) H locs ls (by omega) (by omega) hh ?_
            rw [e4]
            exact (lv_sub hl [0, 2, 1, 3, 4, 5] rfl)
          | false =>
            rw [hF] at hl
            have e4 : (F || (pt_im1 (mv c0) z (i + 1)).2) = false := by rw [hn2]; exact hF
            refine lv_if_eq (tgt := 112) X.1 X.2.1 d_M_block_105 (by decide) (fun _ => ?_) (fun hc => absurd (by decide) hc)
            refine lv_iconst (v := nI 0) X.1 X.2.1 d_M_block_112 (by decide) ?_
            refine lv_istore_n (lv' := [(3, .int (nI 0)), (5, .int (nI i)), (4, .int (nI c0)), (0, .ref (d 0)), (1, .int (nI j)), (2, .int (nI k))]) X.1 X.2.1 d_M_block_113 rfl hl (by decide) rfl (fun ls hl => ?_)
            refine lv_iinc (v := nI (i + 1)) (lv' := [(5, .int (nI (i + 1))), (3, .int (nI 0)), (4, .int (nI c0)), (0, .ref (d 0)), (1, .int (nI j)), (2, .int (nI k))]) X.1 X.2.1 d_M_block_114 hl (k := 1) rfl (hn_inc _) (by decide) rfl (fun ls hl => ?_)
            refine lv_goto (tgt := 57) X.1 X.2.1 d_M_block_117 (by decide) ?_
            refine ih (i + 1) H locs ls (by omega) (by omega) hh ?_
            rw [e4]
            exact (lv_sub hl [0, 2, 1, 3, 4, 5] rfl)
        · rw [if_neg e3] at hr1
          rw [decide_eq_true e3, Bool.or_true] at hn2
          subst hr1
          have e4 : (F || (pt_im1 (mv c0) z (i + 1)).2) = true := by rw [hn2, Bool.or_true]
          refine lv_if_ne (tgt := 108) X.1 X.2.1 d_M_block_101 (by decide) (fun _ => ?_) (fun hc => absurd hc (by decide))
          refine lv_iconst (v := nI 1) X.1 X.2.1 d_M_block_108 (by decide) ?_
          refine lv_goto (tgt := 113) X.1 X.2.1 d_M_block_109 (by decide) ?_
          refine lv_istore_n (lv' := [(3, .int (nI 1)), (5, .int (nI i)), (4, .int (nI c0)), (0, .ref (d 0)), (1, .int (nI j)), (2, .int (nI k))]) X.1 X.2.1 d_M_block_113 rfl hl (by decide) rfl (fun ls hl => ?_)
          refine lv_iinc (v := nI (i + 1)) (lv' := [(5, .int (nI (i + 1))), (3, .int (nI 1)), (4, .int (nI c0)), (0, .ref (d 0)), (1, .int (nI j)), (2, .int (nI k))]) X.1 X.2.1 d_M_block_114 hl (k := 1) rfl (hn_inc _) (by decide) rfl (fun ls hl => ?_)
          refine lv_goto (tgt := 57) X.1 X.2.1 d_M_block_117 (by decide) ?_
          refine ih (i + 1) H locs ls (by omega) (by omega) hh ?_
          rw [e4]
          exact (lv_sub hl [0, 2, 1, 3, 4, 5] rfl)
  have mid : ∀ (z : Nat → Nat), bk_rep z → (∀ (H : Heap) (locs : List Loc) (ls : Array Slot), hl_H g (hm_A sz L) s.heap L (mf g d f0 n mm sm kn mk r3 r5 r7 r8 r10 r11 r12 r13 r14 r15 r16 r17 r18 r19 ((pt_rnd mv n z mm).1) r21 r22 r23) H locs → lv_has ls 6 [(3, .int (hb (pt_rnd mv n z mm).2)), (0, .ref (d 0)), (1, .int (nI j)), (2, .int (nI k))] → W p l e { frames := 2, cells := 0, slots := 0, locals := 60 } s m #[.ref (d 0), .int (nI j), .int (nI k)] below meth c H locs 0 0 (MQ below (va_Qi (post) (hm_B g sz L) (hm_A sz L)) #[.ref (d 0), .int (nI j), .int (nI k)] s 0 0 (hm_A sz L)) (F0 m 36 ls [])) →
      ∀ (t c0 : Nat) (H : Heap) (locs : List Loc) (ls : Array Slot), mm + 1 ≤ c0 + t → c0 ≤ mm → hl_H g (hm_A sz L) s.heap L (mf g d f0 n mm sm kn mk r3 r5 r7 r8 r10 r11 r12 r13 r14 r15 r16 r17 r18 r19 ((pt_rnd mv n z c0).1) r21 r22 r23) H locs → lv_has ls 6 [(4, .int (nI c0)), (3, .int (hb (pt_rnd mv n z c0).2)), (0, .ref (d 0)), (1, .int (nI j)), (2, .int (nI k))] → W p l e { frames := 2, cells := 0, slots := 0, locals := 60 } s m #[.ref (d 0), .int (nI j), .int (nI k)] below meth c H locs 0 0 (MQ below (va_Qi (post) (hm_B g sz L) (hm_A sz L)) #[.ref (d 0), .int (nI j), .int (nI k)] s 0 0 (hm_A sz L)) (F0 m 45 ls []) := by
    intro z hz kk t
    induction t with
    | zero => intros; omega
    | succ t ih =>
      intro c0 H locs ls hkt hin hh hl
      refine lv_iload X.1 X.2.1 d_M_block_45 (lv_at hl 0 rfl) ?_
      refine lv_aload_n X.1 X.2.1 d_M_block_47 rfl (lv_at hl 2 rfl) ?_
      refine hl_get X hK hh (ref := "CycleGroupsModel") i_M (ci := 5) rfl 2 (by decide) w_353 rfl (md_in hd (k := 0) rfl) md_at_0 rfl d_M_block_48 ?_
      refine hn_ige (tgt := 126) X (by omega) (by omega) d_M_block_51 (by decide) (fun hc => ?_) (fun hc => ?_)
      · have hi : c0 = mm := by omega
        rw [hi] at hh
        refine lv_goto (tgt := 36) X.1 X.2.1 d_M_block_126 (by decide) ?_
        rw [hi] at hl
        exact kk H locs ls hh (lv_sub hl [1, 2, 3, 4] rfl)
      · have hi : c0 < mm := hc
        refine lv_iconst (v := nI 0) X.1 X.2.1 d_M_block_54 (by decide) ?_
        refine lv_istore (lv' := [(5, .int (nI 0)), (4, .int (nI c0)), (3, .int (hb (pt_rnd mv n z c0).2)), (0, .ref (d 0)), (1, .int (nI j)), (2, .int (nI k))]) X.1 X.2.1 d_M_block_55 hl (by decide) rfl (fun ls hl => ?_)
        refine inner _ (bk_rnd (n := n) hz c0 (fun i hi2 => hmvn i (by omega))).1 (pt_rnd mv n z c0).2 c0 hi (fun H locs ls hh hl => ih (c0 + 1) H locs ls (by omega) (by omega) hh hl) (n + 1) 0 H locs ls (by omega) (by omega) hh ?_
        have e0 : (pt_im1 (mv c0) (pt_rnd mv n z c0).1 0).2 = false := rfl
        rw [e0, Bool.or_false]
        exact (lv_sub hl [0, 1, 2, 3, 4, 5] rfl)
  have fin : ∀ (z : Nat → Nat), bk_rep z → z = pt_blk mv n mm n (pt_join id j k) → ∀ (H : Heap) (locs : List Loc) (ls : Array Slot), hl_H g (hm_A sz L) s.heap L (mf g d f0 n mm sm kn mk r3 r5 r7 r8 r10 r11 r12 r13 r14 r15 r16 r17 r18 r19 z r21 r22 r23) H locs → lv_has ls 6 [(3, .int (hb false)), (0, .ref (d 0)), (1, .int (nI j)), (2, .int (nI k))] → W p l e { frames := 2, cells := 0, slots := 0, locals := 60 } s m #[.ref (d 0), .int (nI j), .int (nI k)] below meth c H locs 0 0 (MQ below (va_Qi (post) (hm_B g sz L) (hm_A sz L)) #[.ref (d 0), .int (nI j), .int (nI k)] s 0 0 (hm_A sz L)) (F0 m 36 ls []) := by
    intro z hz ez H locs ls hh hl
    refine lv_iload_n X.1 X.2.1 d_M_block_36 rfl (lv_at hl 0 rfl) ?_
    refine lv_if_eq (tgt := 129) X.1 X.2.1 d_M_block_37 (by decide) (fun _ => ?_) (fun hc => absurd (by decide) hc)
    refine lv_aload_n X.1 X.2.1 d_M_block_129 rfl (lv_at hl 1 rfl) ?_
    refine lv_iload_n X.1 X.2.1 d_M_block_130 rfl (lv_at hl 2 rfl) ?_
    refine hl_calli hh (hl_runV (k := 1) X hK hh (c_M_sizeOf l g _ L d f0 hd n mm sm kn mk r3 r5 r7 r8 r10 r11 r12 r13 r14 r15 r16 r17 r18 r19 z r21 r22 r23 hn j hj (fun p hp => by have := (hz p).1; omega)) wc_M_sizeOf w_555 w_5 wi_M_sizeOf ws_M_sizeOf (by decide +kernel) rfl rfl ⟨Nat.le_of_ble_eq_true rfl, Nat.le_of_ble_eq_true rfl⟩ (md_in hd (k := 0) rfl) md_at_0 rfl rfl rfl rfl (Nat.le_of_ble_eq_true rfl) hl.1 d_M_block_131 ⟨Nat.le_of_ble_eq_true rfl, Nat.le_of_ble_eq_true rfl⟩) (fun r u H locs hp hh => ?_)
    obtain ⟨rfl, rfl⟩ := hp
    rw [ez]
    exact hm_iret X hr hlk hh (hpo _ _ (Or.inr ⟨j, k, hj, hk, rfl, rfl, rfl, _, rfl⟩)) (Nat.le_of_ble_eq_true rfl) (Nat.le_of_ble_eq_true rfl) d_M_block_134
  have outer : ∀ (t : Nat) (z : Nat → Nat), bk_rep z → bk_rt z n ≤ t → pt_blk mv n mm t z = pt_blk mv n mm n (pt_join id j k) → ∀ (H : Heap) (locs : List Loc) (ls : Array Slot), hl_H g (hm_A sz L) s.heap L (mf g d f0 n mm sm kn mk r3 r5 r7 r8 r10 r11 r12 r13 r14 r15 r16 r17 r18 r19 z r21 r22 r23) H locs → lv_has ls 6 [(3, .int (hb true)), (0, .ref (d 0)), (1, .int (nI j)), (2, .int (nI k))] → W p l e { frames := 2, cells := 0, slots := 0, locals := 60 } s m #[.ref (d 0), .int (nI j), .int (nI k)] below meth c H locs 0 0 (MQ below (va_Qi (post) (hm_B g sz L) (hm_A sz L)) #[.ref (d 0), .int (nI j), .int (nI k)] s 0 0 (hm_A sz L)) (F0 m 36 ls []) := by
    intro t
    induction t with
    | zero => intro z hz ht; have := bk_pos hz hn0; omega
    | succ t ih =>
      intro z hz ht eB H locs ls hh hl
      obtain ⟨k1, k2⟩ := bk_rnd (n := n) hz mm hmvn
      have eB2 : pt_blk mv n mm (t + 1) z = if (pt_rnd mv n z mm).2 then pt_blk mv n mm t (pt_rnd mv n z mm).1 else (pt_rnd mv n z mm).1 := rfl
      rw [eB] at eB2
      refine lv_iload_n X.1 X.2.1 d_M_block_36 rfl (lv_at hl 0 rfl) ?_
      refine lv_if_eq (tgt := 129) X.1 X.2.1 d_M_block_37 (by decide) (fun hc => absurd hc (by decide)) (fun _ => ?_)
      refine lv_iconst (v := nI 0) X.1 X.2.1 d_M_block_40 (by decide) ?_
      refine lv_istore_n (lv' := [(3, .int (nI 0)), (0, .ref (d 0)), (1, .int (nI j)), (2, .int (nI k))]) X.1 X.2.1 d_M_block_41 rfl hl (by decide) rfl (fun ls hl => ?_)
      refine lv_iconst (v := nI 0) X.1 X.2.1 d_M_block_42 (by decide) ?_
      refine lv_istore (lv' := [(4, .int (nI 0)), (3, .int (nI 0)), (0, .ref (d 0)), (1, .int (nI j)), (2, .int (nI k))]) X.1 X.2.1 d_M_block_43 hl (by decide) rfl (fun ls hl => ?_)
      refine mid z hz ?_ (mm + 1) 0 H locs ls (by omega) (by omega) hh (lv_sub hl [0, 1, 2, 3, 4] rfl)
      intro H locs ls hh hl
      cases hF : (pt_rnd mv n z mm).2 with
      | true =>
        rw [hF] at hl k2 eB2
        rw [if_pos rfl] at k2 eB2
        exact ih _ k1 (by omega) eB2.symm H locs ls hh hl
      | false =>
        rw [hF] at hl eB2
        rw [if_neg (by decide)] at eB2
        exact fin _ k1 eB2.symm H locs ls hh hl
  refine lv_aload_n X.1 X.2.1 d_M_block_0 rfl (lv_at hl 0 rfl) ?_
  refine lv_iconst (v := nI 0) X.1 X.2.1 d_M_block_1 (by decide) ?_
  refine hl_put X hK hh (ref := "CycleGroupsModel") i_M t_M t_M_ok n_M (ci := 5) rfl 1 (by decide) w_351 rfl rfl (md_in hd (k := 0) rfl) md_at_0 (by first | rfl | decide) (by first | rfl | decide) (Nat.le_of_ble_eq_true rfl) d_M_block_2 (fun H locs hh => ?_)
  have hh : hl_H g (hm_A sz L) s.heap L (mf g d f0 n mm sm kn mk r3 r5 r7 r8 r10 r11 r12 r13 r14 r15 r16 r17 r18 r19 r20 r21 r22 r23) H locs := md_set_0 hh
  refine lv_aload_n X.1 X.2.1 d_M_block_5 rfl (lv_at hl 0 rfl) ?_
  refine lv_iload_n X.1 X.2.1 d_M_block_6 rfl (lv_at hl 1 rfl) ?_
  refine hl_calli hh (hl_runV (k := 1) X hK hh (c_M_isPlace l g _ L d _ hd _ _ _ _ _ _ _ _ _ _ _ _ _ _ _ _ _ _ _ _ _ _ _ (nI j) (by omega)) wc_M_isPlace w_433 w_5 wi_M_isPlace ws_M_isPlace (by decide +kernel) rfl rfl ⟨Nat.le_of_ble_eq_true rfl, Nat.le_of_ble_eq_true rfl⟩ (md_in hd (k := 0) rfl) md_at_0 rfl rfl rfl rfl (Nat.le_of_ble_eq_true rfl) hl.1 d_M_block_7 ⟨Nat.le_of_ble_eq_true rfl, Nat.le_of_ble_eq_true rfl⟩) (fun r u H locs hp hh => ?_)
  obtain ⟨hr1, rfl⟩ := hp
  rw [h1] at hr1
  subst hr1
  refine lv_if_eq (tgt := 21) X.1 X.2.1 d_M_block_10 (by decide) (fun hc => absurd hc (by decide)) (fun _ => ?_)
  refine lv_aload_n X.1 X.2.1 d_M_block_13 rfl (lv_at hl 0 rfl) ?_
  refine lv_iload_n X.1 X.2.1 d_M_block_14 rfl (lv_at hl 2 rfl) ?_
  refine hl_calli hh (hl_runV (k := 1) X hK hh (c_M_isPlace l g _ L d _ hd _ _ _ _ _ _ _ _ _ _ _ _ _ _ _ _ _ _ _ _ _ _ _ (nI k) (by omega)) wc_M_isPlace w_433 w_5 wi_M_isPlace ws_M_isPlace (by decide +kernel) rfl rfl ⟨Nat.le_of_ble_eq_true rfl, Nat.le_of_ble_eq_true rfl⟩ (md_in hd (k := 0) rfl) md_at_0 rfl rfl rfl rfl (Nat.le_of_ble_eq_true rfl) hl.1 d_M_block_15 ⟨Nat.le_of_ble_eq_true rfl, Nat.le_of_ble_eq_true rfl⟩) (fun r u H locs hp hh => ?_)
  obtain ⟨hr1, rfl⟩ := hp
  rw [h2] at hr1
  subst hr1
  refine lv_if_ne (tgt := 23) X.1 X.2.1 d_M_block_18 (by decide) (fun _ => ?_) (fun hc => absurd hc (by decide))
  refine lv_aload_n X.1 X.2.1 d_M_block_23 rfl (lv_at hl 0 rfl) ?_
  refine hl_callv hh (hl_runV (k := 0) X hK hh (c_M_share l g _ L d f0 hd n mm sm kn mk r3 r5 r7 r8 r10 r11 r12 r13 r14 r15 r16 r17 r18 r19 r20 r21 r22 r23) wc_M_share w_543 w_5 wi_M_share ws_M_share (by decide +kernel) rfl rfl ⟨Nat.le_of_ble_eq_true rfl, Nat.le_of_ble_eq_true rfl⟩ (md_in hd (k := 0) rfl) md_at_0 rfl rfl rfl rfl (Nat.le_of_ble_eq_true rfl) hl.1 d_M_block_24 ⟨Nat.le_of_ble_eq_true rfl, Nat.le_of_ble_eq_true rfl⟩) (fun u H locs hp hh => ?_)
  subst hp
  refine lv_aload_n X.1 X.2.1 d_M_block_27 rfl (lv_at hl 0 rfl) ?_
  refine lv_iload_n X.1 X.2.1 d_M_block_28 rfl (lv_at hl 1 rfl) ?_
  refine lv_iload_n X.1 X.2.1 d_M_block_29 rfl (lv_at hl 2 rfl) ?_
  refine hl_calli hh (hl_runV (k := 2) X hK hh (c_M_joinSets l g _ L d f0 hd n mm sm kn mk r3 r5 r7 r8 r10 r11 r12 r13 r14 r15 r16 r17 r18 r19 id r21 r22 r23 j k (by omega) (by omega) (fun p hp => hp)) wc_M_joinSets w_547 w_5 wi_M_joinSets ws_M_joinSets (by decide +kernel) rfl rfl ⟨Nat.le_of_ble_eq_true rfl, Nat.le_of_ble_eq_true rfl⟩ (md_in hd (k := 0) rfl) md_at_0 rfl rfl rfl rfl (Nat.le_of_ble_eq_true rfl) hl.1 d_M_block_30 ⟨Nat.le_of_ble_eq_true rfl, Nat.le_of_ble_eq_true rfl⟩) (fun r u H locs hp hh => ?_)
  obtain ⟨_, rfl⟩ := hp
  refine lv_pop X.1 X.2.1 d_M_block_33 rfl ?_
  refine lv_iconst (v := nI 1) X.1 X.2.1 d_M_block_34 (by decide) ?_
  refine lv_istore_n (lv' := [(3, .int (nI 1)), (0, .ref (d 0)), (1, .int (nI j)), (2, .int (nI k))]) X.1 X.2.1 d_M_block_35 rfl hl (by decide) rfl (fun ls hl => ?_)
  exact outer n _ (bk_join (n := n) bk_id hj hk).1 (bk_le _ _) rfl H locs _ hh hl

end

