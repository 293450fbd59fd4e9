/-! The reference: sets of places, sizes, digits. -/
section

/-- private void share() -/
theorem c_M_share (l : Launch) (g : hl_G) (sz : Nat) (L : List Nat) (d : Nat → Nat) (f0 : Nat → va_E) (hd : md_D L d) (n mm sm kn mk : Nat) (r3 r5 r7 r8 r10 r11 r12 r13 r14 r15 r16 r17 r18 r19 r20 r21 r22 r23 : Nat → Nat) : Met l y_M_share (hq y_M_share b_M_share 2 none) { frames := 0, cells := 0, slots := 0, locals := 0 } (hm_P g [.ref (d 0)] sz L (mf g d f0 n mm sm kn mk r3 r5 r7 r8 r10 r11 r12 r13 r14 r15 r16 r17 r18 r19 r20 r21 r22 r23)) (va_Qv (fun u => u = (L, mf g d f0 n mm sm kn mk r3 r5 r7 r8 r10 r11 r12 r13 r14 r15 r16 r17 r18 r19 id r21 r22 r23)) (hm_B g sz L) (hm_A sz L)) 0 0 (hm_A sz L) := by
  refine hm_ofW (by decide) (Nat.le_of_ble_eq_true rfl) ?_
  intro p e s m below meth c X hr hlk hnm hK hsz hh ls hl
  have hl : lv_has ls 2 [(0, .ref (d 0))] := hl
  have loop : ∀ (t i : Nat) (y : Nat → Nat) (H : Heap) (locs : List Loc) (ls : Array Slot), 24 + 1 ≤ i + t → i ≤ 24 → (∀ p, p < i → y p = p) → hl_H g (hm_A sz L) s.heap L (mf g d f0 n mm sm kn mk r3 r5 r7 r8 r10 r11 r12 r13 r14 r15 r16 r17 r18 r19 y r21 r22 r23) H locs → lv_has ls 2 [(1, .int (nI i)), (0, .ref (d 0))] → W p l e { frames := 0, cells := 0, slots := 0, locals := 0 } s m #[.ref (d 0)] below meth c H locs 0 0 (MQ below (va_Qv (fun u => u = (L, mf g d f0 n mm sm kn mk r3 r5 r7 r8 r10 r11 r12 r13 r14 r15 r16 r17 r18 r19 id r21 r22 r23)) (hm_B g sz L) (hm_A sz L)) #[.ref (d 0)] s 0 0 (hm_A sz L)) (F0 m 2 ls []) := by
    intro t
    induction t with
    | zero => intros; omega
    | succ t ih =>
      intro i y H locs ls hk hin hy hh hl
      refine lv_iload_n X.1 X.2.1 d_M_share_2 rfl (lv_at hl 0 rfl) ?_
      refine lv_bipush (v := nI 24) X.1 X.2.1 d_M_share_3 (by decide) ?_
      refine hn_ige (tgt := 21) X (by omega) (by omega) d_M_share_5 (by decide) (fun hc => ?_) (fun hc => ?_)
      · have hh := md_nrm_20 (x := id) hd hh (fun p hp => hy p (by omega))
        exact hm_vret X hr hlk hh rfl (Nat.le_of_ble_eq_true rfl) (Nat.le_of_ble_eq_true rfl) d_M_share_21
      · have hi : i < 24 := hc
        refine lv_aload_n X.1 X.2.1 d_M_share_8 rfl (lv_at hl 1 rfl) ?_
        refine hl_get X hK hh (ref := "CycleGroupsModel") i_M (ci := 5) rfl 20 (by decide) w_371 rfl (md_in hd (k := 0) rfl) md_at_0 rfl d_M_share_9 ?_
        refine lv_iload_n X.1 X.2.1 d_M_share_12 rfl (lv_at hl 0 rfl) ?_
        refine lv_iload_n X.1 X.2.1 d_M_share_13 rfl (lv_at hl 0 rfl) ?_
        refine hl_iastN X hK hh (md_in hd (k := 20) rfl) (md_at_20 hd) (by omega) (by decide) d_M_share_14 (fun H locs hh => ?_)
        have hh : hl_H g (hm_A sz L) s.heap L (mf g d f0 n mm sm kn mk r3 r5 r7 r8 r10 r11 r12 r13 r14 r15 r16 r17 r18 r19 (va_up y i i) r21 r22 r23) H locs := md_set_20 hd hh
        refine lv_iinc (v := nI (i + 1)) (lv' := [(1, .int (nI (i + 1))), (0, .ref (d 0))]) X.1 X.2.1 d_M_share_15 hl (k := 0) rfl (hn_inc _) (by decide) rfl (fun ls hl => ?_)
        refine lv_goto (tgt := 2) X.1 X.2.1 d_M_share_18 (by decide) ?_
        refine ih (i + 1) (va_up y i i) H locs ls (by omega) (by omega) (fun p hp => ?_) hh hl
        by_cases e0 : p = i
        · rw [e0, va_up_self]
        · rw [va_up_ne _ _ e0]; exact hy p (by omega)
  refine lv_iconst (v := nI 0) X.1 X.2.1 d_M_share_0 (by decide) ?_
  refine lv_istore_n (lv' := [(1, .int (nI 0)), (0, .ref (d 0))]) X.1 X.2.1 d_M_share_1 rfl hl (by decide) rfl (fun ls hl => ?_)
  exact loop 25 0 r20 _ _ ls (by omega) (by omega) (fun p hp => absurd hp (Nat.not_lt_zero _)) hh hl

/-- private boolean joinSets(int a, int b) -/
theorem c_M_joinSets (l : Launch) (g : hl_G) (sz : Nat) (L : List Nat) (d : Nat → Nat) (f0 : Nat → va_E) (hd : md_D L d) (n mm sm kn mk : Nat) (r3 r5 r7 r8 r10 r11 r12 r13 r14 r15 r16 r17 r18 r19 r20 r21 r22 r23 : Nat → Nat) (a b : Nat) (ha : a < 24) (hb : b < 24) (hz : ∀ p, p < 24 → r20 p < 24) :
    Met l y_M_joinSets (hq y_M_joinSets b_M_joinSets 6 (some .boolean)) { frames := 0, cells := 0, slots := 0, locals := 0 } (hm_P g [.ref (d 0), .int (nI a), .int (nI b)] sz L (mf g d f0 n mm sm kn mk r3 r5 r7 r8 r10 r11 r12 r13 r14 r15 r16 r17 r18 r19 r20 r21 r22 r23)) (va_Qi (fun r u => r = (if r20 a = r20 b then nI 0 else nI 1) ∧ u = (L, mf g d f0 n mm sm kn mk r3 r5 r7 r8 r10 r11 r12 r13 r14 r15 r16 r17 r18 r19 (pt_join r20 a b) r21 r22 r23)) (hm_B g sz L) (hm_A sz L)) 0 0 (hm_A sz L) := by
  refine hm_ofW (by decide) (Nat.le_of_ble_eq_true rfl) ?_
  intro p e s m below meth c X hr hlk hnm hK hsz hh ls hl
  have hl : lv_has ls 6 [(0, .ref (d 0)), (1, .int (nI a)), (2, .int (nI b))] := hl
  have za := hz a ha
  have zb := hz b hb
  have loop : ∀ (lw hg : Nat), lw = min (r20 a) (r20 b) → hg = max (r20 a) (r20 b) → ∀ (t i : Nat) (y : Nat → Nat) (H : Heap) (locs : List Loc) (ls : Array Slot), 24 + 1 ≤ i + t → i ≤ 24 → (∀ p, p < i → y p = pt_join r20 a b p) → (∀ p, i ≤ p → y p = r20 p) → hl_H g (hm_A sz L) s.heap L (mf g d f0 n mm sm kn mk r3 r5 r7 r8 r10 r11 r12 r13 r14 r15 r16 r17 r18 r19 y r21 r22 r23) H locs → lv_has ls 6 [(5, .int (nI i)), (4, .int (nI lw)), (3, .int (nI hg)), (0, .ref (d 0)), (1, .int (nI a)), (2, .int (nI b))] → W p l e { frames := 0, cells := 0, slots := 0, locals := 0 } s m #[.ref (d 0), .int (nI a), .int (nI b)] below meth c H locs 0 0 (MQ below (va_Qi (fun r u => r = (if r20 a = r20 b then nI 0 else nI 1) ∧ u = (L, mf g d f0 n mm sm kn mk r3 r5 r7 r8 r10 r11 r12 r13 r14 r15 r16 r17 r18 r19 (pt_join r20 a b) r21 r22 r23)) (hm_B g sz L) (hm_A sz L)) #[.ref (d 0), .int (nI a), .int (nI b)] s 0 0 (hm_A sz L)) (F0 m 66 ls []) := by
    intro lw hg elw ehg t
    induction t with
    | zero => intros; omega
    | succ t ih =>
      intro i y H locs ls hk hin hy hy2 hh hl
      have fin : ∀ (H : Heap) (locs : List Loc), hl_H g (hm_A sz L) s.heap L (mf g d f0 n mm sm kn mk r3 r5 r7 r8 r10 r11 r12 r13 r14 r15 r16 r17 r18 r19 (pt_join r20 a b) r21 r22 r23) H locs → W p l e { frames := 0, cells := 0, slots := 0, locals := 0 } s m #[.ref (d 0), .int (nI a), .int (nI b)] below meth c H locs 0 0 (MQ below (va_Qi (fun r u => r = (if r20 a = r20 b then nI 0 else nI 1) ∧ u = (L, mf g d f0 n mm sm kn mk r3 r5 r7 r8 r10 r11 r12 r13 r14 r15 r16 r17 r18 r19 (pt_join r20 a b) r21 r22 r23)) (hm_B g sz L) (hm_A sz L)) #[.ref (d 0), .int (nI a), .int (nI b)] s 0 0 (hm_A sz L)) (F0 m 105 ls []) := by
        intro H locs hh
        refine lv_iload_n X.1 X.2.1 d_M_joinSets_105 rfl (lv_at hl 2 rfl) ?_
        refine lv_iload X.1 X.2.1 d_M_joinSets_106 (lv_at hl 1 rfl) ?_
        refine hn_ieq (tgt := 115) X (by omega) (by omega) d_M_joinSets_108 (by decide) (fun hc => ?_) (fun hc => ?_)
        · have hc : hg = lw := hc
          refine lv_iconst (v := nI 0) X.1 X.2.1 d_M_joinSets_115 (by decide) ?_
          exact hm_zret X hr hlk hh (Or.inl rfl) ⟨by rw [if_pos (by omega)], rfl⟩ (Nat.le_of_ble_eq_true rfl) (Nat.le_of_ble_eq_true rfl) d_M_joinSets_116
        · have hc : ¬ hg = lw := hc
          refine lv_iconst (v := nI 1) X.1 X.2.1 d_M_joinSets_111 (by decide) ?_
          refine lv_goto (tgt := 116) X.1 X.2.1 d_M_joinSets_112 (by decide) ?_
          exact hm_zret X hr hlk hh (Or.inr rfl) ⟨by rw [if_neg (by omega)], rfl⟩ (Nat.le_of_ble_eq_true rfl) (Nat.le_of_ble_eq_true rfl) d_M_joinSets_116
      refine lv_iload X.1 X.2.1 d_M_joinSets_66 (lv_at hl 0 rfl) ?_
      refine lv_bipush (v := nI 24) X.1 X.2.1 d_M_joinSets_68 (by decide) ?_
      refine hn_ige (tgt := 105) X (by omega) (by omega) d_M_joinSets_70 (by decide) (fun hc => ?_) (fun hc => ?_)
      · have hh := md_nrm_20 (x := pt_join r20 a b) hd hh (fun p hp => hy p (by omega))
        exact fin H locs hh
      · have hi : i < 24 := hc
        have zi := hz i hi
        have yi := hy2 i (Nat.le_refl _)
        refine lv_iload_n X.1 X.2.1 d_M_joinSets_73 rfl (lv_at hl 2 rfl) ?_
        refine lv_iload X.1 X.2.1 d_M_joinSets_74 (lv_at hl 1 rfl) ?_
        refine hn_ieq (tgt := 105) X (by omega) (by omega) d_M_joinSets_76 (by decide) (fun hc => ?_) (fun hc => ?_)
        · have hc : hg = lw := hc
          have hh := md_nrm_20 (x := pt_join r20 a b) hd hh (fun p hp => by
            rcases Nat.lt_or_ge p i with q | q
            · exact hy p q
            · rw [hy2 p q, pt_join_same (by omega)])
          exact fin H locs hh
        · have hc1 : ¬ hg = lw := hc
          have step : ∀ v, v = pt_join r20 a b i → (∀ p, p < i + 1 → va_up y i v p = pt_join r20 a b p) ∧ (∀ p, i + 1 ≤ p → va_up y i v p = r20 p) := by
            intro v hv
            refine ⟨fun p hp => ?_, fun p hp => ?_⟩
            · by_cases e0 : p = i
              · rw [e0, va_up_self, hv]
              · rw [va_up_ne _ _ e0]; exact hy p (by omega)
            · rw [va_up_ne _ _ (by omega)]; exact hy2 p (by omega)
          refine lv_aload_n X.1 X.2.1 d_M_joinSets_79 rfl (lv_at hl 3 rfl) ?_
          refine hl_get X hK hh (ref := "CycleGroupsModel") i_M (ci := 5) rfl 20 (by decide) w_371 rfl (md_in hd (k := 0) rfl) md_at_0 rfl d_M_joinSets_80 ?_
          refine lv_iload X.1 X.2.1 d_M_joinSets_83 (lv_at hl 0 rfl) ?_
          refine hl_iald X hK hh (md_in hd (k := 20) rfl) (md_at_20 hd) (by omega) (by decide) d_M_joinSets_85 ?_
          refine lv_iload_n X.1 X.2.1 d_M_joinSets_86 rfl (lv_at hl 2 rfl) ?_
          refine hn_ine (tgt := 99) X (by omega) (by omega) d_M_joinSets_87 (by decide) (fun hc => ?_) (fun hc => ?_)
          · have hc2 : ¬ y i = hg := hc
            have e1 : pt_join r20 a b i = r20 i := if_neg (by omega)
            refine lv_iinc (v := nI (i + 1)) (lv' := [(5, .int (nI (i + 1))), (4, .int (nI lw)), (3, .int (nI hg)), (0, .ref (d 0)), (1, .int (nI a)), (2, .int (nI b))]) X.1 X.2.1 d_M_joinSets_99 hl (k := 0) rfl (hn_inc _) (by decide) rfl (fun ls hl => ?_)
            refine lv_goto (tgt := 66) X.1 X.2.1 d_M_joinSets_102 (by decide) ?_
            obtain ⟨s1, s2⟩ := step (y i) (by rw [yi, e1])
            rw [hr_id] at s1 s2
            exact ih (i + 1) y H locs ls (by omega) (by omega) s1 s2 hh hl
          · have hc2 : y i = hg := hc
            have e1 : pt_join r20 a b i = lw := by unfold pt_join; rw [if_pos (by omega), elw]
            refine lv_aload_n X.1 X.2.1 d_M_joinSets_90 rfl (lv_at hl 3 rfl) ?_
            refine hl_get X hK hh (ref := "CycleGroupsModel") i_M (ci := 5) rfl 20 (by decide) w_371 rfl (md_in hd (k := 0) rfl) md_at_0 rfl d_M_joinSets_91 ?_
            refine lv_iload X.1 X.2.1 d_M_joinSets_94 (lv_at hl 0 rfl) ?_
            refine lv_iload X.1 X.2.1 d_M_joinSets_96 (lv_at hl 1 rfl) ?_
            refine hl_iastN X hK hh (md_in hd (k := 20) rfl) (md_at_20 hd) (by omega) (by decide) d_M_joinSets_98 (fun H locs hh => ?_)
            have hh : hl_H g (hm_A sz L) s.heap L (mf g d f0 n mm sm kn mk r3 r5 r7 r8 r10 r11 r12 r13 r14 r15 r16 r17 r18 r19 (va_up y i lw) r21 r22 r23) H locs := md_set_20 hd hh
            refine lv_iinc (v := nI (i + 1)) (lv' := [(5, .int (nI (i + 1))), (4, .int (nI lw)), (3, .int (nI hg)), (0, .ref (d 0)), (1, .int (nI a)), (2, .int (nI b))]) X.1 X.2.1 d_M_joinSets_99 hl (k := 0) rfl (hn_inc _) (by decide) rfl (fun ls hl => ?_)
            refine lv_goto (tgt := 66) X.1 X.2.1 d_M_joinSets_102 (by decide) ?_
            obtain ⟨s1, s2⟩ := step lw e1.symm
            exact ih (i + 1) (va_up y i lw) H locs ls (by omega) (by omega) s1 s2 hh hl
  rcases Nat.lt_or_ge (r20 b) (r20 a) with q | q
  · skip
    refine lv_aload_n X.1 X.2.1 d_M_joinSets_0 rfl (lv_at hl 0 rfl) ?_
    refine hl_get X hK hh (ref := "CycleGroupsModel") i_M (ci := 5) rfl 20 (by decide) w_371 rfl (md_in hd (k := 0) rfl) md_at_0 rfl d_M_joinSets_1 ?_
    refine lv_iload_n X.1 X.2.1 d_M_joinSets_4 rfl (lv_at hl 1 rfl) ?_
    refine hl_iald X hK hh (md_in hd (k := 20) rfl) (md_at_20 hd) (by omega) (by decide) d_M_joinSets_5 ?_
    refine lv_aload_n X.1 X.2.1 d_M_joinSets_6 rfl (lv_at hl 0 rfl) ?_
    refine hl_get X hK hh (ref := "CycleGroupsModel") i_M (ci := 5) rfl 20 (by decide) w_371 rfl (md_in hd (k := 0) rfl) md_at_0 rfl d_M_joinSets_7 ?_
    refine lv_iload_n X.1 X.2.1 d_M_joinSets_10 rfl (lv_at hl 2 rfl) ?_
    refine hl_iald X hK hh (md_in hd (k := 20) rfl) (md_at_20 hd) (by omega) (by decide) d_M_joinSets_11 ?_
    refine hn_ile (tgt := 24) X (by omega) (by omega) d_M_joinSets_12 (by decide) (fun hc => ?_) (fun hc => ?_)
    · omega
    refine lv_aload_n X.1 X.2.1 d_M_joinSets_15 rfl (lv_at hl 0 rfl) ?_
    refine hl_get X hK hh (ref := "CycleGroupsModel") i_M (ci := 5) rfl 20 (by decide) w_371 rfl (md_in hd (k := 0) rfl) md_at_0 rfl d_M_joinSets_16 ?_
    refine lv_iload_n X.1 X.2.1 d_M_joinSets_19 rfl (lv_at hl 1 rfl) ?_
    refine hl_iald X hK hh (md_in hd (k := 20) rfl) (md_at_20 hd) (by omega) (by decide) d_M_joinSets_20 ?_
    refine lv_goto (tgt := 30) X.1 X.2.1 d_M_joinSets_21 (by decide) ?_
    refine lv_istore_n (lv' := [(3, .int (nI (r20 a))), (0, .ref (d 0)), (1, .int (nI a)), (2, .int (nI b))]) X.1 X.2.1 d_M_joinSets_30 rfl hl (by decide) rfl (fun ls hl => ?_)
    refine lv_aload_n X.1 X.2.1 d_M_joinSets_31 rfl (lv_at hl 1 rfl) ?_
    refine hl_get X hK hh (ref := "CycleGroupsModel") i_M (ci := 5) rfl 20 (by decide) w_371 rfl (md_in hd (k := 0) rfl) md_at_0 rfl d_M_joinSets_32 ?_
    refine lv_iload_n X.1 X.2.1 d_M_joinSets_35 rfl (lv_at hl 2 rfl) ?_
    refine hl_iald X hK hh (md_in hd (k := 20) rfl) (md_at_20 hd) (by omega) (by decide) d_M_joinSets_36 ?_
    refine lv_aload_n X.1 X.2.1 d_M_joinSets_37 rfl (lv_at hl 1 rfl) ?_
    refine hl_get X hK hh (ref := "CycleGroupsModel") i_M (ci := 5) rfl 20 (by decide) w_371 rfl (md_in hd (k := 0) rfl) md_at_0 rfl d_M_joinSets_38 ?_
    refine lv_iload_n X.1 X.2.1 d_M_joinSets_41 rfl (lv_at hl 3 rfl) ?_
    refine hl_iald X hK hh (md_in hd (k := 20) rfl) (md_at_20 hd) (by omega) (by decide) d_M_joinSets_42 ?_
    refine hn_ile (tgt := 55) X (by omega) (by omega) d_M_joinSets_43 (by decide) (fun hc => ?_) (fun hc => ?_)
    · omega
    refine lv_aload_n X.1 X.2.1 d_M_joinSets_46 rfl (lv_at hl 1 rfl) ?_
    refine hl_get X hK hh (ref := "CycleGroupsModel") i_M (ci := 5) rfl 20 (by decide) w_371 rfl (md_in hd (k := 0) rfl) md_at_0 rfl d_M_joinSets_47 ?_
    refine lv_iload_n X.1 X.2.1 d_M_joinSets_50 rfl (lv_at hl 3 rfl) ?_
    refine hl_iald X hK hh (md_in hd (k := 20) rfl) (md_at_20 hd) (by omega) (by decide) d_M_joinSets_51 ?_
    refine lv_goto (tgt := 61) X.1 X.2.1 d_M_joinSets_52 (by decide) ?_
    refine lv_istore (lv' := [(4, .int (nI (r20 b))), (3, .int (nI (r20 a))), (0, .ref (d 0)), (1, .int (nI a)), (2, .int (nI b))]) X.1 X.2.1 d_M_joinSets_61 hl (by decide) rfl (fun ls hl => ?_)
    refine lv_iconst (v := nI 0) X.1 X.2.1 d_M_joinSets_63 (by decide) ?_
    refine lv_istore (lv' := [(5, .int (nI 0)), (4, .int (nI (r20 b))), (3, .int (nI (r20 a))), (0, .ref (d 0)), (1, .int (nI a)), (2, .int (nI b))]) X.1 X.2.1 d_M_joinSets_64 hl (by decide) rfl (fun ls hl => ?_)
    exact loop (r20 b) (r20 a) (by omega) (by omega) 25 0 r20 _ _ ls (by omega) (by omega) (fun p hp => absurd hp (Nat.not_lt_zero _)) (fun _ _ => rfl) hh (lv_sub hl [0, 1, 2, 3, 4, 5] rfl)
  · skip
    refine lv_aload_n X.1 X.2.1 d_M_joinSets_0 rfl (lv_at hl 0 rfl) ?_
    refine hl_get X hK hh (ref := "CycleGroupsModel") i_M (ci := 5) rfl 20 (by decide) w_371 rfl (md_in hd (k := 0) rfl) md_at_0 rfl d_M_joinSets_1 ?_
    refine lv_iload_n X.1 X.2.1 d_M_joinSets_4 rfl (lv_at hl 1 rfl) ?_
    refine hl_iald X hK hh (md_in hd (k := 20) rfl) (md_at_20 hd) (by omega) (by decide) d_M_joinSets_5 ?_
    refine lv_aload_n X.1 X.2.1 d_M_joinSets_6 rfl (lv_at hl 0 rfl) ?_
    refine hl_get X hK hh (ref := "CycleGroupsModel") i_M (ci := 5) rfl 20 (by decide) w_371 rfl (md_in hd (k := 0) rfl) md_at_0 rfl d_M_joinSets_7 ?_
    refine lv_iload_n X.1 X.2.1 d_M_joinSets_10 rfl (lv_at hl 2 rfl) ?_
    refine hl_iald X hK hh (md_in hd (k := 20) rfl) (md_at_20 hd) (by omega) (by decide) d_M_joinSets_11 ?_
    refine hn_ile (tgt := 24) X (by omega) (by omega) d_M_joinSets_12 (by decide) (fun hc => ?_) (fun hc => ?_)
    · skip
      refine lv_aload_n X.1 X.2.1 d_M_joinSets_24 rfl (lv_at hl 0 rfl) ?_
      refine hl_get X hK hh (ref := "CycleGroupsModel") i_M (ci := 5) rfl 20 (by decide) w_371 rfl (md_in hd (k := 0) rfl) md_at_0 rfl d_M_joinSets_25 ?_
      refine lv_iload_n X.1 X.2.1 d_M_joinSets_28 rfl (lv_at hl 2 rfl) ?_
      refine hl_iald X hK hh (md_in hd (k := 20) rfl) (md_at_20 hd) (by omega) (by decide) d_M_joinSets_29 ?_
      refine lv_istore_n (lv' := [(3, .int (nI (r20 b))), (0, .ref (d 0)), (1, .int (nI a)), (2, .int (nI b))]) X.1 X.2.1 d_M_joinSets_30 rfl hl (by decide) rfl (fun ls hl => ?_)
      refine lv_aload_n X.1 X.2.1 d_M_joinSets_31 rfl (lv_at hl 1 rfl) ?_
      refine hl_get X hK hh (ref := "CycleGroupsModel") i_M (ci := 5) rfl 20 (by decide) w_371 rfl (md_in hd (k := 0) rfl) md_at_0 rfl d_M_joinSets_32 ?_
      refine lv_iload_n X.1 X.2.1 d_M_joinSets_35 rfl (lv_at hl 2 rfl) ?_
      refine hl_iald X hK hh (md_in hd (k := 20) rfl) (md_at_20 hd) (by omega) (by decide) d_M_joinSets_36 ?_
      refine lv_aload_n X.1 X.2.1 d_M_joinSets_37 rfl (lv_at hl 1 rfl) ?_
      refine hl_get X hK hh (ref := "CycleGroupsModel") i_M (ci := 5) rfl 20 (by decide) w_371 rfl (md_in hd (k := 0) rfl) md_at_0 rfl d_M_joinSets_38 ?_
      refine lv_iload_n X.1 X.2.1 d_M_joinSets_41 rfl (lv_at hl 3 rfl) ?_
      refine hl_iald X hK hh (md_in hd (k := 20) rfl) (md_at_20 hd) (by omega) (by decide) d_M_joinSets_42 ?_
      refine hn_ile (tgt := 55) X (by omega) (by omega) d_M_joinSets_43 (by decide) (fun hc => ?_) (fun hc => ?_)
      · skip
        refine lv_aload_n X.1 X.2.1 d_M_joinSets_55 rfl (lv_at hl 1 rfl) ?_
        refine hl_get X hK hh (ref := "CycleGroupsModel") i_M (ci := 5) rfl 20 (by decide) w_371 rfl (md_in hd (k := 0) rfl) md_at_0 rfl d_M_joinSets_56 ?_
        refine lv_iload_n X.1 X.2.1 d_M_joinSets_59 rfl (lv_at hl 2 rfl) ?_
        refine hl_iald X hK hh (md_in hd (k := 20) rfl) (md_at_20 hd) (by omega) (by decide) d_M_joinSets_60 ?_
        refine lv_istore (lv' := [(4, .int (nI (r20 a))), (3, .int (nI (r20 b))), (0, .ref (d 0)), (1, .int (nI a)), (2, .int (nI b))]) X.1 X.2.1 d_M_joinSets_61 hl (by decide) rfl (fun ls hl => ?_)
        refine lv_iconst (v := nI 0) X.1 X.2.1 d_M_joinSets_63 (by decide) ?_
        refine lv_istore (lv' := [(5, .int (nI 0)), (4, .int (nI (r20 a))), (3, .int (nI (r20 b))), (0, .ref (d 0)), (1, .int (nI a)), (2, .int (nI b))]) X.1 X.2.1 d_M_joinSets_64 hl (by decide) rfl (fun ls hl => ?_)
        exact loop (r20 a) (r20 b) (by omega) (by omega) 25 0 r20 _ _ ls (by omega) (by omega) (fun p hp => absurd hp (Nat.not_lt_zero _)) (fun _ _ => rfl) hh (lv_sub hl [0, 1, 2, 3, 4, 5] rfl)
      · omega
    · omega

/-- private void orbits() -/
theorem c_M_orbits (l : Launch) (g : hl_G) (sz : Nat) (L : List Nat) (d : Nat → Nat) (f0 : Nat → va_E) (hd : md_D L d) (n mm sm kn mk : Nat) (r3 r5 r7 r8 r10 r11 r12 r13 r14 r15 r16 r17 r18 r19 r20 r21 r22 r23 : Nat → Nat) (mv st : Nat → Nat → Nat) (hW : cg_W n mm sm mv st) (h3 : ∀ i, i < mm → fr r3 i (mv i)) (h5 : ∀ j, j < sm → fr r5 j (st j)) : Met l y_M_orbits (hq y_M_orbits b_M_orbits 3 none) { frames := 1, cells := 0, slots := 0, locals := 30 } (hm_P g [.ref (d 0)] sz L (mf g d f0 n mm sm kn mk r3 r5 r7 r8 r10 r11 r12 r13 r14 r15 r16 r17 r18 r19 r20 r21 r22 r23)) (va_Qv (fun u => u = (L, mf g d f0 n mm sm kn mk r3 r5 r7 r8 r10 r11 r12 r13 r14 r15 r16 r17 r18 r19 (pt_orb mv n id mm) r21 r22 r23)) (hm_B g sz L) (hm_A sz L)) 0 0 (hm_A sz L) := by
  refine hm_ofW (by decide) (Nat.le_of_ble_eq_true rfl) ?_
  intro p e s m below meth c X hr hlk hnm hK hsz hh ls hl
  have hl : lv_has ls 3 [(0, .ref (d 0))] := hl
  obtain ⟨hn0, hn, hmm, hsm, hmv, hst⟩ := id hW
  have hmv24 : ∀ i, i < mm → ∀ p, p < 24 → mv i p < 24 := fun i hi p hp => sym_24 (hmv i hi) hn hp
  have hol : ∀ c k, c < mm → k ≤ n → ∀ p, p < 24 → pt_orb1 (mv c) (pt_orb mv n id c) k p < 24 := by
    intro c k hc hk
    have h0 : ∀ c, c ≤ mm → ∀ p, p < 24 → pt_orb mv n id c p < 24 := by
      intro c
      induction c with
      | zero => intro _ p hp; exact hp
      | succ c ih =>
        intro hc
        have key : ∀ k, k ≤ n → ∀ p, p < 24 → pt_orb1 (mv c) (pt_orb mv n id c) k p < 24 := by
          intro k
          induction k with
          | zero => intro _; exact ih (by omega)
          | succ k ih2 => intro hk; exact pt_join_lt (ih2 (by omega)) (by omega) (hmv24 c (by omega) k (by omega))
        exact key n (Nat.le_refl _)
    induction k with
    | zero => exact h0 c (by omega)
    | succ k ih2 => exact pt_join_lt (ih2 (by omega)) (by omega) (hmv24 c hc k (by omega))
  have inner : ∀ (c0 : Nat), c0 < mm → (∀ (H : Heap) (locs : List Loc) (ls : Array Slot), hl_H g (hm_A sz L) s.heap L (mf g d f0 n mm sm kn mk r3 r5 r7 r8 r10 r11 r12 r13 r14 r15 r16 r17 r18 r19 (pt_orb mv n id (c0 + 1)) r21 r22 r23) H locs → lv_has ls 3 [(1, .int (nI (c0 + 1))), (0, .ref (d 0))] → W p l e { frames := 1, cells := 0, slots := 0, locals := 30 } s m #[.ref (d 0)] below meth c H locs 0 0 (MQ below (va_Qv (fun u => u = (L, mf g d f0 n mm sm kn mk r3 r5 r7 r8 r10 r11 r12 r13 r14 r15 r16 r17 r18 r19 (pt_orb mv n id mm) r21 r22 r23)) (hm_B g sz L) (hm_A sz L)) #[.ref (d 0)] s 0 0 (hm_A sz L)) (F0 m 6 ls [])) →
      ∀ (t i : Nat) (H : Heap) (locs : List Loc) (ls : Array Slot), n + 1 ≤ i + t → i ≤ n → hl_H g (hm_A sz L) s.heap L (mf g d f0 n mm sm kn mk r3 r5 r7 r8 r10 r11 r12 r13 r14 r15 r16 r17 r18 r19 (pt_orb1 (mv c0) (pt_orb mv n id c0) i) r21 r22 r23) H locs → lv_has ls 3 [(2, .int (nI i)), (1, .int (nI c0)), (0, .ref (d 0))] → W p l e { frames := 1, cells := 0, slots := 0, locals := 30 } s m #[.ref (d 0)] below meth c H locs 0 0 (MQ below (va_Qv (fun u => u = (L, mf g d f0 n mm sm kn mk r3 r5 r7 r8 r10 r11 r12 r13 r14 r15 r16 r17 r18 r19 (pt_orb mv n id mm) r21 r22 r23)) (hm_B g sz L) (hm_A sz L)) #[.ref (d 0)] s 0 0 (hm_A sz L)) (F0 m 16 ls []) := by
    intro c0 hc0 kk t
    induction t with
    | zero => intros; omega
    | succ t ih =>
      intro i H locs ls hk hin hh hl
      refine lv_iload_n X.1 X.2.1 d_M_orbits_16 rfl (lv_at hl 0 rfl) ?_
      refine lv_aload_n X.1 X.2.1 d_M_orbits_17 rfl (lv_at hl 2 rfl) ?_
      refine hl_get X hK hh (ref := "CycleGroupsModel") i_M (ci := 5) rfl 0 (by decide) w_352 rfl (md_in hd (k := 0) rfl) md_at_0 rfl d_M_orbits_18 ?_
      refine hn_ige (tgt := 47) X (by omega) (by omega) d_M_orbits_21 (by decide) (fun hc => ?_) (fun hc => ?_)
      · have hi : i = n := by omega
        rw [hi] at hh
        refine lv_iinc (v := nI (c0 + 1)) (lv' := [(1, .int (nI (c0 + 1))), (2, .int (nI i)), (0, .ref (d 0))]) X.1 X.2.1 d_M_orbits_47 hl (k := 1) rfl (hn_inc _) (by decide) rfl (fun ls hl => ?_)
        refine lv_goto (tgt := 6) X.1 X.2.1 d_M_orbits_50 (by decide) ?_
        exact kk H locs ls hh (lv_sub hl [0, 2] rfl)
      · have hi : i < n := hc
        have e1 := h3 c0 hc0 i (by omega)
        refine lv_aload_n X.1 X.2.1 d_M_orbits_24 rfl (lv_at hl 2 rfl) ?_
        refine lv_iload_n X.1 X.2.1 d_M_orbits_25 rfl (lv_at hl 0 rfl) ?_
        refine lv_aload_n X.1 X.2.1 d_M_orbits_26 rfl (lv_at hl 2 rfl) ?_
        refine hl_get X hK hh (ref := "CycleGroupsModel") i_M (ci := 5) rfl 3 (by decide) w_354 rfl (md_in hd (k := 0) rfl) md_at_0 rfl d_M_orbits_27 ?_
        refine lv_bipush (v := nI 24) X.1 X.2.1 d_M_orbits_30 (by decide) ?_
        refine lv_iload_n X.1 X.2.1 d_M_orbits_32 rfl (lv_at hl 1 rfl) ?_
        refine hn_mul X d_M_orbits_33 ?_
        refine lv_iload_n X.1 X.2.1 d_M_orbits_34 rfl (lv_at hl 0 rfl) ?_
        refine hn_add X d_M_orbits_35 ?_
        refine hl_iald X hK hh (md_in hd (k := 3) rfl) (md_at_3 hd) (by omega) (by decide) d_M_orbits_36 ?_
        rw [e1]
        refine hl_calli hh (hl_runV (k := 2) X hK hh (c_M_joinSets l g _ L d f0 hd n mm sm kn mk r3 r5 r7 r8 r10 r11 r12 r13 r14 r15 r16 r17 r18 r19 (pt_orb1 (mv c0) (pt_orb mv n id c0) i) r21 r22 r23 i (mv c0 i) (by omega) (hmv24 c0 hc0 i (by omega)) (hol c0 i hc0 hin)) wc_M_joinSets w_547 w_5 wi_M_joinSets ws_M_joinSets (by decide +kernel) rfl rfl ⟨Nat.le_of_ble_eq_true rfl, Nat.le_of_ble_eq_true rfl⟩ (md_in hd (k := 0) rfl) md_at_0 rfl rfl rfl rfl (Nat.le_of_ble_eq_true rfl) hl.1 d_M_orbits_37 ⟨Nat.le_of_ble_eq_true rfl, Nat.le_of_ble_eq_true rfl⟩) (fun r u H locs hp hh => ?_)
        obtain ⟨_, rfl⟩ := hp
        refine lv_pop X.1 X.2.1 d_M_orbits_40 rfl ?_
        refine lv_iinc (v := nI (i + 1)) (lv' := [(2, .int (nI (i + 1))), (1, .int (nI c0)), (0, .ref (d 0))]) X.1 X.2.1 d_M_orbits_41 hl (k := 0) rfl (hn_inc _) (by decide) rfl (fun ls hl => ?_)
        refine lv_goto (tgt := 16) X.1 X.2.1 d_M_orbits_44 (by decide) ?_
        exact ih (i + 1) H locs ls (by omega) (by omega) hh hl
  have loop : ∀ (t c0 : Nat) (H : Heap) (locs : List Loc) (ls : Array Slot), mm + 1 ≤ c0 + t → c0 ≤ mm → hl_H g (hm_A sz L) s.heap L (mf g d f0 n mm sm kn mk r3 r5 r7 r8 r10 r11 r12 r13 r14 r15 r16 r17 r18 r19 (pt_orb mv n id c0) r21 r22 r23) H locs → lv_has ls 3 [(1, .int (nI c0)), (0, .ref (d 0))] → W p l e { frames := 1, cells := 0, slots := 0, locals := 30 } s m #[.ref (d 0)] below meth c H locs 0 0 (MQ below (va_Qv (fun u => u = (L, mf g d f0 n mm sm kn mk r3 r5 r7 r8 r10 r11 r12 r13 r14 r15 r16 r17 r18 r19 (pt_orb mv n id mm) r21 r22 r23)) (hm_B g sz L) (hm_A sz L)) #[.ref (d 0)] s 0 0 (hm_A sz L)) (F0 m 6 ls []) := by
    intro t
    induction t with
    | zero => intros; omega
    | succ t ih =>
      intro c0 H locs ls hk hin hh hl
      refine lv_iload_n X.1 X.2.1 d_M_orbits_6 rfl (lv_at hl 0 rfl) ?_
      refine lv_aload_n X.1 X.2.1 d_M_orbits_7 rfl (lv_at hl 1 rfl) ?_
      refine hl_get X hK hh (ref := "CycleGroupsModel") i_M (ci := 5) rfl 2 (by decide) w_353 rfl (md_in hd (k := 0) rfl) md_at_0 rfl d_M_orbits_8 ?_
      refine hn_ige (tgt := 53) X (by omega) (by omega) d_M_orbits_11 (by decide) (fun hc => ?_) (fun hc => ?_)
      · have hi : c0 = mm := by omega
        rw [hi] at hh
        exact hm_vret X hr hlk hh rfl (Nat.le_of_ble_eq_true rfl) (Nat.le_of_ble_eq_true rfl) d_M_orbits_53
      · have hi : c0 < mm := hc
        refine lv_iconst (v := nI 0) X.1 X.2.1 d_M_orbits_14 (by decide) ?_
        refine lv_istore_n (lv' := [(2, .int (nI 0)), (1, .int (nI c0)), (0, .ref (d 0))]) X.1 X.2.1 d_M_orbits_15 rfl hl (by decide) rfl (fun ls hl => ?_)
        exact inner c0 hi (fun H locs ls hh hl => ih (c0 + 1) H locs ls (by omega) (by omega) hh hl) (n + 1) 0 H locs ls (by omega) (by omega) hh hl
  refine lv_aload_n X.1 X.2.1 d_M_orbits_0 rfl (lv_at hl 0 rfl) ?_
  refine hl_callv hh (hl_runV (k := 0) X hK hh (c_M_share l g _ L d f0 hd n mm sm kn mk r3 r5 r7 r8 r10 r11 r12 r13 r14 r15 r16 r17 r18 r19 r20 r21 r22 r23) wc_M_share w_543 w_5 wi_M_share ws_M_share (by decide +kernel) rfl rfl ⟨Nat.le_of_ble_eq_true rfl, Nat.le_of_ble_eq_true rfl⟩ (md_in hd (k := 0) rfl) md_at_0 rfl rfl rfl rfl (Nat.le_of_ble_eq_true rfl) hl.1 d_M_orbits_1 ⟨Nat.le_of_ble_eq_true rfl, Nat.le_of_ble_eq_true rfl⟩) (fun u H locs hp hh => ?_)
  subst hp
  refine lv_iconst (v := nI 0) X.1 X.2.1 d_M_orbits_4 (by decide) ?_
  refine lv_istore_n (lv' := [(1, .int (nI 0)), (0, .ref (d 0))]) X.1 X.2.1 d_M_orbits_5 rfl hl (by decide) rfl (fun ls hl => ?_)
  exact loop (mm + 1) 0 _ _ ls (by omega) (by omega) hh hl

/-- private int sizeOf(int p) -/
theorem c_M_sizeOf (l : Launch) (g : hl_G) (sz : Nat) (L : List Nat) (d : Nat → Nat) (f0 : Nat → va_E) (hd : md_D L d) (n mm sm kn mk : Nat) (r3 r5 r7 r8 r10 r11 r12 r13 r14 r15 r16 r17 r18 r19 r20 r21 r22 r23 : Nat → Nat) (hn : n ≤ 24) (a : Nat) (ha : a < n) (hz : ∀ p, p < 24 → r20 p < 24) :
    Met l y_M_sizeOf (hq y_M_sizeOf b_M_sizeOf 4 (some .int)) { frames := 0, cells := 0, slots := 0, locals := 0 } (hm_P g [.ref (d 0), .int (nI a)] sz L (mf g d f0 n mm sm kn mk r3 r5 r7 r8 r10 r11 r12 r13 r14 r15 r16 r17 r18 r19 r20 r21 r22 r23)) (va_Qi (fun r u => r = nI (pt_size r20 a n) ∧ u = (L, mf g d f0 n mm sm kn mk r3 r5 r7 r8 r10 r11 r12 r13 r14 r15 r16 r17 r18 r19 r20 r21 r22 r23)) (hm_B g sz L) (hm_A sz L)) 0 0 (hm_A sz L) := by
  refine hm_ofW (by decide) (Nat.le_of_ble_eq_true rfl) ?_
  intro p e s m below meth c X hr hlk hnm hK hsz hh ls hl
  have hl : lv_has ls 4 [(0, .ref (d 0)), (1, .int (nI a))] := hl
  have loop : ∀ (t i : Nat) (H : Heap) (locs : List Loc) (ls : Array Slot), n + 1 ≤ i + t → i ≤ n → hl_H g (hm_A sz L) s.heap L (mf g d f0 n mm sm kn mk r3 r5 r7 r8 r10 r11 r12 r13 r14 r15 r16 r17 r18 r19 r20 r21 r22 r23) H locs → lv_has ls 4 [(3, .int (nI i)), (2, .int (nI (pt_size r20 a i))), (0, .ref (d 0)), (1, .int (nI a))] → W p l e { frames := 0, cells := 0, slots := 0, locals := 0 } s m #[.ref (d 0), .int (nI a)] below meth c H locs 0 0 (MQ below (va_Qi (fun r u => r = nI (pt_size r20 a n) ∧ u = (L, mf g d f0 n mm sm kn mk r3 r5 r7 r8 r10 r11 r12 r13 r14 r15 r16 r17 r18 r19 r20 r21 r22 r23)) (hm_B g sz L) (hm_A sz L)) #[.ref (d 0), .int (nI a)] s 0 0 (hm_A sz L)) (F0 m 4 ls []) := by
    intro t
    induction t with
    | zero => intros; omega
    | succ t ih =>
      intro i H locs ls hk hin hh hl
      have bd := pt_size_le r20 a i
      refine lv_iload_n X.1 X.2.1 d_M_sizeOf_4 rfl (lv_at hl 0 rfl) ?_
      refine lv_aload_n X.1 X.2.1 d_M_sizeOf_5 rfl (lv_at hl 2 rfl) ?_
      refine hl_get X hK hh (ref := "CycleGroupsModel") i_M (ci := 5) rfl 0 (by decide) w_352 rfl (md_in hd (k := 0) rfl) md_at_0 rfl d_M_sizeOf_6 ?_
      refine hn_ige (tgt := 41) X (by omega) (by omega) d_M_sizeOf_9 (by decide) (fun hc => ?_) (fun hc => ?_)
      · have hi : i = n := by omega
        refine lv_iload_n X.1 X.2.1 d_M_sizeOf_41 rfl (lv_at hl 1 rfl) ?_
        exact hm_iret X hr hlk hh ⟨by rw [hi], rfl⟩ (Nat.le_of_ble_eq_true rfl) (Nat.le_of_ble_eq_true rfl) d_M_sizeOf_42
      · have hi : i < n := hc
        have z1 := hz i (by omega)
        have z2 := hz a (by omega)
        refine lv_iload_n X.1 X.2.1 d_M_sizeOf_12 rfl (lv_at hl 1 rfl) ?_
        refine lv_aload_n X.1 X.2.1 d_M_sizeOf_13 rfl (lv_at hl 2 rfl) ?_
        refine hl_get X hK hh (ref := "CycleGroupsModel") i_M (ci := 5) rfl 20 (by decide) w_371 rfl (md_in hd (k := 0) rfl) md_at_0 rfl d_M_sizeOf_14 ?_
        refine lv_iload_n X.1 X.2.1 d_M_sizeOf_17 rfl (lv_at hl 0 rfl) ?_
        refine hl_iald X hK hh (md_in hd (k := 20) rfl) (md_at_20 hd) (by omega) (by decide) d_M_sizeOf_18 ?_
        refine lv_aload_n X.1 X.2.1 d_M_sizeOf_19 rfl (lv_at hl 2 rfl) ?_
        refine hl_get X hK hh (ref := "CycleGroupsModel") i_M (ci := 5) rfl 20 (by decide) w_371 rfl (md_in hd (k := 0) rfl) md_at_0 rfl d_M_sizeOf_20 ?_
        refine lv_iload_n X.1 X.2.1 d_M_sizeOf_23 rfl (lv_at hl 3 rfl) ?_
        refine hl_iald X hK hh (md_in hd (k := 20) rfl) (md_at_20 hd) (by omega) (by decide) d_M_sizeOf_24 ?_
        refine hn_ine (tgt := 32) X (by omega) (by omega) d_M_sizeOf_25 (by decide) (fun hc => ?_) (fun hc => ?_)
        · have hc1 : ¬ r20 i = r20 a := hc
          have e1 : pt_size r20 a (i + 1) = pt_size r20 a i := if_neg hc1
          refine lv_iconst (v := nI 0) X.1 X.2.1 d_M_sizeOf_32 (by decide) ?_
          refine hn_add X d_M_sizeOf_33 ?_
          refine lv_istore_n (lv' := [(2, .int (nI ((pt_size r20 a i) + 0))), (3, .int (nI i)), (0, .ref (d 0)), (1, .int (nI a))]) X.1 X.2.1 d_M_sizeOf_34 rfl hl (by decide) rfl (fun ls hl => ?_)
          refine lv_iinc (v := nI (i + 1)) (lv' := [(3, .int (nI (i + 1))), (2, .int (nI ((pt_size r20 a i) + 0))), (0, .ref (d 0)), (1, .int (nI a))]) X.1 X.2.1 d_M_sizeOf_35 hl (k := 1) rfl (hn_inc _) (by decide) rfl (fun ls hl => ?_)
          refine lv_goto (tgt := 4) X.1 X.2.1 d_M_sizeOf_38 (by decide) ?_
          rw [Nat.add_zero, ← e1] at hl
          exact ih (i + 1) H locs ls (by omega) (by omega) hh (lv_sub hl [0, 1, 2, 3] rfl)
        · have hc1 : r20 i = r20 a := hc
          have e1 : pt_size r20 a (i + 1) = pt_size r20 a i + 1 := if_pos hc1
          refine lv_iconst (v := nI 1) X.1 X.2.1 d_M_sizeOf_28 (by decide) ?_
          refine lv_goto (tgt := 33) X.1 X.2.1 d_M_sizeOf_29 (by decide) ?_
          refine hn_add X d_M_sizeOf_33 ?_
          refine lv_istore_n (lv' := [(2, .int (nI ((pt_size r20 a i) + 1))), (3, .int (nI i)), (0, .ref (d 0)), (1, .int (nI a))]) X.1 X.2.1 d_M_sizeOf_34 rfl hl (by decide) rfl (fun ls hl => ?_)
          refine lv_iinc (v := nI (i + 1)) (lv' := [(3, .int (nI (i + 1))), (2, .int (nI ((pt_size r20 a i) + 1))), (0, .ref (d 0)), (1, .int (nI a))]) X.1 X.2.1 d_M_sizeOf_35 hl (k := 1) rfl (hn_inc _) (by decide) rfl (fun ls hl => ?_)
          refine lv_goto (tgt := 4) X.1 X.2.1 d_M_sizeOf_38 (by decide) ?_
          rw [← e1] at hl
          exact ih (i + 1) H locs ls (by omega) (by omega) hh (lv_sub hl [0, 1, 2, 3] rfl)
  refine lv_iconst (v := nI 0) X.1 X.2.1 d_M_sizeOf_0 (by decide) ?_
  refine lv_istore_n (lv' := [(2, .int (nI 0)), (0, .ref (d 0)), (1, .int (nI a))]) X.1 X.2.1 d_M_sizeOf_1 rfl hl (by decide) rfl (fun ls hl => ?_)
  refine lv_iconst (v := nI 0) X.1 X.2.1 d_M_sizeOf_2 (by decide) ?_
  refine lv_istore_n (lv' := [(3, .int (nI 0)), (2, .int (nI 0)), (0, .ref (d 0)), (1, .int (nI a))]) X.1 X.2.1 d_M_sizeOf_3 rfl hl (by decide) rfl (fun ls hl => ?_)
  exact loop (n + 1) 0 _ _ ls (by omega) (by omega) hh (lv_sub hl [0, 1, 2, 3] rfl)

theorem pt_orb_24 {n mm sm : Nat} {mv st : Nat → Nat → Nat} (hW : cg_W n mm sm mv st) : ∀ c, c ≤ mm → ∀ p, p < 24 → pt_orb mv n id c p < 24 := by
  obtain ⟨hn0, hn, hmm, hsm, hmv, hst⟩ := hW
  intro c
  induction c with
  | zero => intro _ p hp; exact hp
  | succ c ih =>
    intro hc
    have key : ∀ k, k ≤ n → ∀ p, p < 24 → pt_orb1 (mv c) (pt_orb mv n id c) k p < 24 := by
      intro k
      induction k with
      | zero => intro _; exact ih (by omega)
      | succ k ih2 => intro hk; exact pt_join_lt (ih2 (by omega)) (by omega) (sym_24 (hmv c (by omega)) hn (by omega))
    exact key n (Nat.le_refl _)

/-- int orbit(int p) -/
theorem c_M_orbit (l : Launch) (g : hl_G) (sz : Nat) (L : List Nat) (d : Nat → Nat) (f0 : Nat → va_E) (hd : md_D L d) (n mm sm kn mk : Nat) (r3 r5 r7 r8 r10 r11 r12 r13 r14 r15 r16 r17 r18 r19 r20 r21 r22 r23 : Nat → Nat) (mv st : Nat → Nat → Nat) (hW : cg_W n mm sm mv st) (h3 : ∀ i, i < mm → fr r3 i (mv i)) (h5 : ∀ j, j < sm → fr r5 j (st j)) (q1 : Int32) (post : Int32 → List Nat × (Nat → va_E) → Prop) (hpo : ∀ r f1, (ip q1 n = false ∧ r = -1 ∧ f1 = mf g d f0 n mm sm kn mk r3 r5 r7 r8 r10 r11 r12 r13 r14 r15 r16 r17 r18 r19 r20 r21 r22 r23) ∨ (∃ j, j < n ∧ q1 = nI j ∧ r = nI (pt_orb mv n id mm j) ∧ f1 = mf g d f0 n mm sm kn mk r3 r5 r7 r8 r10 r11 r12 r13 r14 r15 r16 r17 r18 r19 (pt_orb mv n id mm) r21 r22 r23) → post r (L, f1)) :
    Met l y_M_orbit (hq y_M_orbit b_M_orbit 2 (some .int)) { frames := 2, cells := 0, slots := 0, locals := 60 } (hm_P g [.ref (d 0), .int q1] sz L (mf g d f0 n mm sm kn mk r3 r5 r7 r8 r10 r11 r12 r13 r14 r15 r16 r17 r18 r19 r20 r21 r22 r23)) (va_Qi (post) (hm_B g sz L) (hm_A sz L)) 0 0 (hm_A sz L) := by
  refine hm_ofW (by decide) (Nat.le_of_ble_eq_true rfl) ?_
  intro p e s m below meth c X hr hlk hnm hK hsz hh ls hl
  have hl : lv_has ls 2 [(0, .ref (d 0)), (1, .int q1)] := hl
  obtain ⟨hn0, hn, hmm, hsm, hmv, hst⟩ := id hW
  rcases ip_cases q1 (n := n) (by omega) with h1 | ⟨j, hj, rfl⟩
  · skip
    refine lv_aload_n X.1 X.2.1 d_M_orbit_0 rfl (lv_at hl 0 rfl) ?_
    refine lv_iconst (v := nI 0) X.1 X.2.1 d_M_orbit_1 (by decide) ?_
    refine hl_put X hK hh (ref := "CycleGroupsModel") i_M t_M t_M_ok n_M (ci := 5) rfl 1 (by decide) w_351 rfl rfl (md_in hd (k := 0) rfl) md_at_0 (by first | rfl | decide) (by first | rfl | decide) (Nat.le_of_ble_eq_true rfl) d_M_orbit_2 (fun H locs hh => ?_)
    have hh : hl_H g (hm_A sz L) s.heap L (mf g d f0 n mm sm kn mk r3 r5 r7 r8 r10 r11 r12 r13 r14 r15 r16 r17 r18 r19 r20 r21 r22 r23) H locs := md_set_0 hh
    refine lv_aload_n X.1 X.2.1 d_M_orbit_5 rfl (lv_at hl 0 rfl) ?_
    refine lv_iload_n X.1 X.2.1 d_M_orbit_6 rfl (lv_at hl 1 rfl) ?_
    refine hl_calli hh (hl_runV (k := 1) X hK hh (c_M_isPlace l g _ L d _ hd _ _ _ _ _ _ _ _ _ _ _ _ _ _ _ _ _ _ _ _ _ _ _ q1 (by omega)) wc_M_isPlace w_433 w_5 wi_M_isPlace ws_M_isPlace (by decide +kernel) rfl rfl ⟨Nat.le_of_ble_eq_true rfl, Nat.le_of_ble_eq_true rfl⟩ (md_in hd (k := 0) rfl) md_at_0 rfl rfl rfl rfl (Nat.le_of_ble_eq_true rfl) hl.1 d_M_orbit_7 ⟨Nat.le_of_ble_eq_true rfl, Nat.le_of_ble_eq_true rfl⟩) (fun r u H locs hp hh => ?_)
    obtain ⟨hr1, rfl⟩ := hp
    rw [h1] at hr1
    subst hr1
    refine lv_if_ne (tgt := 15) X.1 X.2.1 d_M_orbit_10 (by decide) (fun hc => absurd (by decide) hc) (fun _ => ?_)
    refine lv_iconst (v := -1) X.1 X.2.1 d_M_orbit_13 (by decide) ?_
    exact hm_iret X hr hlk hh (hpo _ _ (Or.inl ⟨h1, rfl, rfl⟩)) (Nat.le_of_ble_eq_true rfl) (Nat.le_of_ble_eq_true rfl) d_M_orbit_14
  · have h1 := ip_in (by omega : n < 2 ^ 31) hj
    refine lv_aload_n X.1 X.2.1 d_M_orbit_0 rfl (lv_at hl 0 rfl) ?_
    refine lv_iconst (v := nI 0) X.1 X.2.1 d_M_orbit_1 (by decide) ?_
    refine hl_put X hK hh (ref := "CycleGroupsModel") i_M t_M t_M_ok n_M (ci := 5) rfl 1 (by decide) w_351 rfl rfl (md_in hd (k := 0) rfl) md_at_0 (by first | rfl | decide) (by first | rfl | decide) (Nat.le_of_ble_eq_true rfl) d_M_orbit_2 (fun H locs hh => ?_)
    have hh : hl_H g (hm_A sz L) s.heap L (mf g d f0 n mm sm kn mk r3 r5 r7 r8 r10 r11 r12 r13 r14 r15 r16 r17 r18 r19 r20 r21 r22 r23) H locs := md_set_0 hh
    refine lv_aload_n X.1 X.2.1 d_M_orbit_5 rfl (lv_at hl 0 rfl) ?_
    refine lv_iload_n X.1 X.2.1 d_M_orbit_6 rfl (lv_at hl 1 rfl) ?_
    refine hl_calli hh (hl_runV (k := 1) X hK hh (c_M_isPlace l g _ L d _ hd _ _ _ _ _ _ _ _ _ _ _ _ _ _ _ _ _ _ _ _ _ _ _ (nI j) (by omega)) wc_M_isPlace w_433 w_5 wi_M_isPlace ws_M_isPlace (by decide +kernel) rfl rfl ⟨Nat.le_of_ble_eq_true rfl, Nat.le_of_ble_eq_true rfl⟩ (md_in hd (k := 0) rfl) md_at_0 rfl rfl rfl rfl (Nat.le_of_ble_eq_true rfl) hl.1 d_M_orbit_7 ⟨Nat.le_of_ble_eq_true rfl, Nat.le_of_ble_eq_true rfl⟩) (fun r u H locs hp hh => ?_)
    obtain ⟨hr1, rfl⟩ := hp
    rw [h1] at hr1
    subst hr1
    refine lv_if_ne (tgt := 15) X.1 X.2.1 d_M_orbit_10 (by decide) (fun _ => ?_) (fun hc => absurd hc (by decide))
    refine lv_aload_n X.1 X.2.1 d_M_orbit_15 rfl (lv_at hl 0 rfl) ?_
    refine hl_callv hh (hl_runV (k := 0) X hK hh (c_M_orbits l g _ L d f0 hd n mm sm kn mk r3 r5 r7 r8 r10 r11 r12 r13 r14 r15 r16 r17 r18 r19 r20 r21 r22 r23 mv st hW h3 h5) wc_M_orbits w_539 w_5 wi_M_orbits ws_M_orbits (by decide +kernel) rfl rfl ⟨Nat.le_of_ble_eq_true rfl, Nat.le_of_ble_eq_true rfl⟩ (md_in hd (k := 0) rfl) md_at_0 rfl rfl rfl rfl (Nat.le_of_ble_eq_true rfl) hl.1 d_M_orbit_16 ⟨Nat.le_of_ble_eq_true rfl, Nat.le_of_ble_eq_true rfl⟩) (fun u H locs hp hh => ?_)
    subst hp
    refine lv_aload_n X.1 X.2.1 d_M_orbit_19 rfl (lv_at hl 0 rfl) ?_
    refine hl_get X hK hh (ref := "CycleGroupsModel") i_M (ci := 5) rfl 20 (by decide) w_371 rfl (md_in hd (k := 0) rfl) md_at_0 rfl d_M_orbit_20 ?_
    refine lv_iload_n X.1 X.2.1 d_M_orbit_23 rfl (lv_at hl 1 rfl) ?_
    refine hl_iald X hK hh (md_in hd (k := 20) rfl) (md_at_20 hd) (by omega) (by decide) d_M_orbit_24 ?_
    exact hm_iret X hr hlk hh (hpo _ _ (Or.inr ⟨j, hj, rfl, rfl, rfl⟩)) (Nat.le_of_ble_eq_true rfl) (Nat.le_of_ble_eq_true rfl) d_M_orbit_25

/-- private int spreadSize(int i) -/
theorem c_M_spreadSize (l : Launch) (g : hl_G) (sz : Nat) (L : List Nat) (d : Nat → Nat) (f0 : Nat → va_E) (hd : md_D L d) (n mm sm kn mk : Nat) (r3 r5 r7 r8 r10 r11 r12 r13 r14 r15 r16 r17 r18 r19 r20 r21 r22 r23 : Nat → Nat) (hn : n ≤ 24) (a : Nat) (ha : a < 24) (hz : ∀ p, r8 p = 0 ∨ r8 p = 1) :
    Met l y_M_spreadSize (hq y_M_spreadSize b_M_spreadSize 4 (some .int)) { frames := 0, cells := 0, slots := 0, locals := 0 } (hm_P g [.ref (d 0), .int (nI a)] sz L (mf g d f0 n mm sm kn mk r3 r5 r7 r8 r10 r11 r12 r13 r14 r15 r16 r17 r18 r19 r20 r21 r22 r23)) (va_Qi (fun r u => r = nI (su (fun j => r8 (24 * a + j)) n) ∧ u = (L, mf g d f0 n mm sm kn mk r3 r5 r7 r8 r10 r11 r12 r13 r14 r15 r16 r17 r18 r19 r20 r21 r22 r23)) (hm_B g sz L) (hm_A sz L)) 0 0 (hm_A sz L) := by
  refine hm_ofW (by decide) (Nat.le_of_ble_eq_true rfl) ?_
  intro p e s m below meth c X hr hlk hnm hK hsz hh ls hl
  have hl : lv_has ls 4 [(0, .ref (d 0)), (1, .int (nI a))] := hl
  have loop : ∀ (t i : Nat) (H : Heap) (locs : List Loc) (ls : Array Slot), n + 1 ≤ i + t → i ≤ n → hl_H g (hm_A sz L) s.heap L (mf g d f0 n mm sm kn mk r3 r5 r7 r8 r10 r11 r12 r13 r14 r15 r16 r17 r18 r19 r20 r21 r22 r23) H locs → lv_has ls 4 [(3, .int (nI i)), (2, .int (nI (su (fun j => r8 (24 * a + j)) i))), (0, .ref (d 0)), (1, .int (nI a))] → W p l e { frames := 0, cells := 0, slots := 0, locals := 0 } s m #[.ref (d 0), .int (nI a)] below meth c H locs 0 0 (MQ below (va_Qi (fun r u => r = nI (su (fun j => r8 (24 * a + j)) n) ∧ u = (L, mf g d f0 n mm sm kn mk r3 r5 r7 r8 r10 r11 r12 r13 r14 r15 r16 r17 r18 r19 r20 r21 r22 r23)) (hm_B g sz L) (hm_A sz L)) #[.ref (d 0), .int (nI a)] s 0 0 (hm_A sz L)) (F0 m 4 ls []) := by
    intro t
    induction t with
    | zero => intros; omega
    | succ t ih =>
      intro i H locs ls hk hin hh hl
      have bd := su_le (F := fun j => r8 (24 * a + j)) (m := 1) (fun j => by rcases hz (24 * a + j) with q | q <;> omega) i
      refine lv_iload_n X.1 X.2.1 d_M_spreadSize_4 rfl (lv_at hl 0 rfl) ?_
      refine lv_aload_n X.1 X.2.1 d_M_spreadSize_5 rfl (lv_at hl 2 rfl) ?_
      refine hl_get X hK hh (ref := "CycleGroupsModel") i_M (ci := 5) rfl 0 (by decide) w_352 rfl (md_in hd (k := 0) rfl) md_at_0 rfl d_M_spreadSize_6 ?_
      refine hn_ige (tgt := 40) X (by omega) (by omega) d_M_spreadSize_9 (by decide) (fun hc => ?_) (fun hc => ?_)
      · have hi : i = n := by omega
        refine lv_iload_n X.1 X.2.1 d_M_spreadSize_40 rfl (lv_at hl 1 rfl) ?_
        exact hm_iret X hr hlk hh ⟨by rw [hi], rfl⟩ (Nat.le_of_ble_eq_true rfl) (Nat.le_of_ble_eq_true rfl) d_M_spreadSize_41
      · have hi : i < n := hc
        have z1 := hz (24 * a + i)
        have e1 : su (fun j => r8 (24 * a + j)) (i + 1) = su (fun j => r8 (24 * a + j)) i + r8 (24 * a + i) := rfl
        refine lv_iload_n X.1 X.2.1 d_M_spreadSize_12 rfl (lv_at hl 1 rfl) ?_
        refine lv_aload_n X.1 X.2.1 d_M_spreadSize_13 rfl (lv_at hl 2 rfl) ?_
        refine hl_get X hK hh (ref := "CycleGroupsModel") i_M (ci := 5) rfl 8 (by decide) w_359 rfl (md_in hd (k := 0) rfl) md_at_0 rfl d_M_spreadSize_14 ?_
        refine lv_bipush (v := nI 24) X.1 X.2.1 d_M_spreadSize_17 (by decide) ?_
        refine lv_iload_n X.1 X.2.1 d_M_spreadSize_19 rfl (lv_at hl 3 rfl) ?_
        refine hn_mul X d_M_spreadSize_20 ?_
        refine lv_iload_n X.1 X.2.1 d_M_spreadSize_21 rfl (lv_at hl 0 rfl) ?_
        refine hn_add X d_M_spreadSize_22 ?_
        refine hl_zald X hK hh (md_in hd (k := 8) rfl) (md_at_8 hd) (by omega) (by decide) d_M_spreadSize_23 ?_
        refine hn_zeq (tgt := 31) X (by omega) d_M_spreadSize_24 (by decide) (fun hc => ?_) (fun hc => ?_)
        · have hc1 : r8 (24 * a + i) = 0 := hc
          refine lv_iconst (v := nI 0) X.1 X.2.1 d_M_spreadSize_31 (by decide) ?_
          refine hn_add X d_M_spreadSize_32 ?_
          refine lv_istore_n (lv' := [(2, .int (nI ((su (fun j => r8 (24 * a + j)) i) + 0))), (3, .int (nI i)), (0, .ref (d 0)), (1, .int (nI a))]) X.1 X.2.1 d_M_spreadSize_33 rfl hl (by decide) rfl (fun ls hl => ?_)
          refine lv_iinc (v := nI (i + 1)) (lv' := [(3, .int (nI (i + 1))), (2, .int (nI ((su (fun j => r8 (24 * a + j)) i) + 0))), (0, .ref (d 0)), (1, .int (nI a))]) X.1 X.2.1 d_M_spreadSize_34 hl (k := 1) rfl (hn_inc _) (by decide) rfl (fun ls hl => ?_)
          refine lv_goto (tgt := 4) X.1 X.2.1 d_M_spreadSize_37 (by decide) ?_
          rw [hc1] at e1
          rw [← e1] at hl
          exact ih (i + 1) H locs ls (by omega) (by omega) hh (lv_sub hl [0, 1, 2, 3] rfl)
        · have hc1 : ¬ r8 (24 * a + i) = 0 := hc
          refine lv_iconst (v := nI 1) X.1 X.2.1 d_M_spreadSize_27 (by decide) ?_
          refine lv_goto (tgt := 32) X.1 X.2.1 d_M_spreadSize_28 (by decide) ?_
          refine hn_add X d_M_spreadSize_32 ?_
          refine lv_istore_n (lv' := [(2, .int (nI ((su (fun j => r8 (24 * a + j)) i) + 1))), (3, .int (nI i)), (0, .ref (d 0)), (1, .int (nI a))]) X.1 X.2.1 d_M_spreadSize_33 rfl hl (by decide) rfl (fun ls hl => ?_)
          refine lv_iinc (v := nI (i + 1)) (lv' := [(3, .int (nI (i + 1))), (2, .int (nI ((su (fun j => r8 (24 * a + j)) i) + 1))), (0, .ref (d 0)), (1, .int (nI a))]) X.1 X.2.1 d_M_spreadSize_34 hl (k := 1) rfl (hn_inc _) (by decide) rfl (fun ls hl => ?_)
          refine lv_goto (tgt := 4) X.1 X.2.1 d_M_spreadSize_37 (by decide) ?_
          rw [show r8 (24 * a + i) = 1 by omega] at e1
          rw [← e1] at hl
          exact ih (i + 1) H locs ls (by omega) (by omega) hh (lv_sub hl [0, 1, 2, 3] rfl)
  refine lv_iconst (v := nI 0) X.1 X.2.1 d_M_spreadSize_0 (by decide) ?_
  refine lv_istore_n (lv' := [(2, .int (nI 0)), (0, .ref (d 0)), (1, .int (nI a))]) X.1 X.2.1 d_M_spreadSize_1 rfl hl (by decide) rfl (fun ls hl => ?_)
  refine lv_iconst (v := nI 0) X.1 X.2.1 d_M_spreadSize_2 (by decide) ?_
  refine lv_istore_n (lv' := [(3, .int (nI 0)), (2, .int (nI 0)), (0, .ref (d 0)), (1, .int (nI a))]) X.1 X.2.1 d_M_spreadSize_3 rfl hl (by decide) rfl (fun ls hl => ?_)
  exact loop (n + 1) 0 _ _ ls (by omega) (by omega) hh (lv_sub hl [0, 1, 2, 3] rfl)

/-- private int digitOf(int i, int by0) -/
theorem c_M_digitOf (l : Launch) (g : hl_G) (sz : Nat) (L : List Nat) (d : Nat → Nat) (f0 : Nat → va_E) (hd : md_D L d) (n mm sm kn mk : Nat) (r3 r5 r7 r8 r10 r11 r12 r13 r14 r15 r16 r17 r18 r19 r20 r21 r22 r23 : Nat → Nat) (hn : n ≤ 24) (q1 : Int32) (k : Nat) (hk0 : 0 < k) (hk : k ≤ 24) (hz : ∀ p, r8 p = 0 ∨ r8 p = 1) (sn : Nat → Nat) (hsn : ∀ i, i < n → su (fun j => r8 (24 * i + j)) n = sn i) (hsb : ∀ i, i < n → sn i ≤ n - i) :
    Met l y_M_digitOf (hq y_M_digitOf b_M_digitOf 7 (some .int)) { frames := 1, cells := 0, slots := 0, locals := 30 } (hm_P g [.ref (d 0), .int q1, .int (nI k)] sz L (mf g d f0 n mm sm kn mk r3 r5 r7 r8 r10 r11 r12 r13 r14 r15 r16 r17 r18 r19 r20 r21 r22 r23)) (va_Qi (fun r u => r = dg_at (dgt (ch_pr sn 0 n / k)) 24 q1 ∧ ∃ x, u = (L, mf g d f0 n mm sm kn mk r3 r5 r7 r8 r10 r11 r12 r13 r14 r15 r16 r17 r18 r19 r20 x r22 r23)) (hm_B g sz L) (hm_A sz L)) 0 0 (hm_A sz L) := by
  refine hm_ofW (by decide) (Nat.le_of_ble_eq_true rfl) ?_
  intro p e s m below meth c X hr hlk hnm hK hsz hh ls hl
  have hl : lv_has ls 7 [(0, .ref (d 0)), (1, .int q1), (2, .int (nI k))] := hl
  have hV := pr_lt hn hsb (Nat.le_refl n)
  obtain ⟨V, eV⟩ : ∃ V, V = ch_pr sn 0 n := ⟨_, rfl⟩
  have hV40 : V < 10 ^ 40 := by rw [eV]; exact Nat.lt_of_lt_of_le hV (Nat.pow_le_pow_right (by decide) (by decide))
  rw [← eV] at hV
  have hVk : V / k < 10 ^ 24 := Nat.lt_of_le_of_lt (Nat.div_le_self _ _) hV
  have hlen := dg_len_le (dgt (V / k)) 40
  have fin : ∀ (H : Heap) (locs : List Loc) (ls : Array Slot), hl_H g (hm_A sz L) s.heap L (mf g d f0 n mm sm kn mk r3 r5 r7 r8 r10 r11 r12 r13 r14 r15 r16 r17 r18 r19 r20 (dgt (V / k)) r22 r23) H locs → lv_has ls 7 [(4, .int (nI (dg_len (dgt (V / k)) 40))), (0, .ref (d 0)), (1, .int q1), (2, .int (nI k))] → W p l e { frames := 1, cells := 0, slots := 0, locals := 30 } s m #[.ref (d 0), .int q1, .int (nI k)] below meth c H locs 0 0 (MQ below (va_Qi (fun r u => r = dg_at (dgt (ch_pr sn 0 n / k)) 24 q1 ∧ ∃ x, u = (L, mf g d f0 n mm sm kn mk r3 r5 r7 r8 r10 r11 r12 r13 r14 r15 r16 r17 r18 r19 r20 x r22 r23)) (hm_B g sz L) (hm_A sz L)) #[.ref (d 0), .int q1, .int (nI k)] s 0 0 (hm_A sz L)) (F0 m 175 ls []) := by
    intro H locs ls hh hl
    refine lv_iload_n X.1 X.2.1 d_M_digitOf_175 rfl (lv_at hl 2 rfl) ?_
    refine lv_if_lt (tgt := 194) X.1 X.2.1 d_M_digitOf_176 (by decide) (fun hc => ?_) (fun hc => ?_)
    · skip
      refine lv_iconst (v := -1) X.1 X.2.1 d_M_digitOf_194 (by decide) ?_
      exact hm_iret X hr hlk hh ⟨by rw [← eV]; unfold dg_at; rw [if_pos hc], _, rfl⟩ (Nat.le_of_ble_eq_true rfl) (Nat.le_of_ble_eq_true rfl) d_M_digitOf_195
    · obtain ⟨j, hj, rfl⟩ := nI_of hc
      have hat : dg_at (dgt (V / k)) 24 (nI j) = if j < dg_len (dgt (V / k)) 40 then nI (dgt (V / k) j) else -1 := by
        rw [← dg_at_40 hVk]; unfold dg_at; rw [if_neg (nI_pos hj), nI_clamp hj]
      refine lv_iload_n X.1 X.2.1 d_M_digitOf_179 rfl (lv_at hl 2 rfl) ?_
      refine lv_iload X.1 X.2.1 d_M_digitOf_180 (lv_at hl 0 rfl) ?_
      refine hn_ige (tgt := 194) X (by omega) (by omega) d_M_digitOf_182 (by decide) (fun hc => ?_) (fun hc => ?_)
      · skip
        refine lv_iconst (v := -1) X.1 X.2.1 d_M_digitOf_194 (by decide) ?_
        exact hm_iret X hr hlk hh ⟨by rw [← eV, hat, if_neg (by omega)], _, rfl⟩ (Nat.le_of_ble_eq_true rfl) (Nat.le_of_ble_eq_true rfl) d_M_digitOf_195
      · skip
        refine lv_aload_n X.1 X.2.1 d_M_digitOf_185 rfl (lv_at hl 1 rfl) ?_
        refine hl_get X hK hh (ref := "CycleGroupsModel") i_M (ci := 5) rfl 21 (by decide) w_372 rfl (md_in hd (k := 0) rfl) md_at_0 rfl d_M_digitOf_186 ?_
        refine lv_iload_n X.1 X.2.1 d_M_digitOf_189 rfl (lv_at hl 2 rfl) ?_
        refine hl_iald X hK hh (md_in hd (k := 21) rfl) (md_at_21 hd) (by omega) (by decide) d_M_digitOf_190 ?_
        refine lv_goto (tgt := 195) X.1 X.2.1 d_M_digitOf_191 (by decide) ?_
        exact hm_iret X hr hlk hh ⟨by rw [← eV, hat, if_pos hc], _, rfl⟩ (Nat.le_of_ble_eq_true rfl) (Nat.le_of_ble_eq_true rfl) d_M_digitOf_195
  have lenl : ∀ (t : Nat) (H : Heap) (locs : List Loc) (ls : Array Slot), t + 1 ≤ 40 → dg_len (dgt (V / k)) (t + 1) = dg_len (dgt (V / k)) 40 → hl_H g (hm_A sz L) s.heap L (mf g d f0 n mm sm kn mk r3 r5 r7 r8 r10 r11 r12 r13 r14 r15 r16 r17 r18 r19 r20 (dgt (V / k)) r22 r23) H locs → lv_has ls 7 [(4, .int (nI (t + 1))), (0, .ref (d 0)), (1, .int q1), (2, .int (nI k))] → W p l e { frames := 1, cells := 0, slots := 0, locals := 30 } s m #[.ref (d 0), .int q1, .int (nI k)] below meth c H locs 0 0 (MQ below (va_Qi (fun r u => r = dg_at (dgt (ch_pr sn 0 n / k)) 24 q1 ∧ ∃ x, u = (L, mf g d f0 n mm sm kn mk r3 r5 r7 r8 r10 r11 r12 r13 r14 r15 r16 r17 r18 r19 r20 x r22 r23)) (hm_B g sz L) (hm_A sz L)) #[.ref (d 0), .int q1, .int (nI k)] s 0 0 (hm_A sz L)) (F0 m 151 ls []) := by
    intro t
    induction t with
    | zero =>
      intro H locs ls hin hz hh hl
      refine lv_iload X.1 X.2.1 d_M_digitOf_151 (lv_at hl 0 rfl) ?_
      refine lv_iconst (v := nI 1) X.1 X.2.1 d_M_digitOf_153 (by decide) ?_
      refine hn_ile (tgt := 175) X (by omega) (by omega) d_M_digitOf_154 (by decide) (fun hc => ?_) (fun hc => ?_)
      · have hz : 0 + 1 = dg_len (dgt (V / k)) 40 := hz
        rw [hz] at hl
        exact fin H locs ls hh hl
      · omega
    | succ t ih =>
      intro H locs ls hin hz hh hl
      have hz : (if dgt (V / k) (t + 1) = 0 then dg_len (dgt (V / k)) (t + 1) else t + 2) = dg_len (dgt (V / k)) 40 := hz
      have hdt := dgt_lt (V / k) (t + 1 + 1 - 1)
      refine lv_iload X.1 X.2.1 d_M_digitOf_151 (lv_at hl 0 rfl) ?_
      refine lv_iconst (v := nI 1) X.1 X.2.1 d_M_digitOf_153 (by decide) ?_
      refine hn_ile (tgt := 175) X (by omega) (by omega) d_M_digitOf_154 (by decide) (fun hc => ?_) (fun hc => ?_)
      · omega
      refine lv_aload_n X.1 X.2.1 d_M_digitOf_157 rfl (lv_at hl 1 rfl) ?_
      refine hl_get X hK hh (ref := "CycleGroupsModel") i_M (ci := 5) rfl 21 (by decide) w_372 rfl (md_in hd (k := 0) rfl) md_at_0 rfl d_M_digitOf_158 ?_
      refine lv_iload X.1 X.2.1 d_M_digitOf_161 (lv_at hl 0 rfl) ?_
      refine lv_iconst (v := nI 1) X.1 X.2.1 d_M_digitOf_163 (by decide) ?_
      refine hn_sub X (by omega) d_M_digitOf_164 ?_
      refine hl_iald X hK hh (md_in hd (k := 21) rfl) (md_at_21 hd) (by omega) (by decide) d_M_digitOf_165 ?_
      refine hn_zne (tgt := 175) X (by omega) d_M_digitOf_166 (by decide) (fun hc => ?_) (fun hc => ?_)
      · have hc : ¬ dgt (V / k) (t + 1) = 0 := hc
        rw [if_neg hc] at hz
        have hz : t + 1 + 1 = dg_len (dgt (V / k)) 40 := hz
        rw [hz] at hl
        exact fin H locs ls hh hl
      · have hc : dgt (V / k) (t + 1) = 0 := hc
        rw [if_pos hc] at hz
        refine lv_iinc (v := nI (t + 1)) (lv' := [(4, .int (nI (t + 1))), (0, .ref (d 0)), (1, .int q1), (2, .int (nI k))]) X.1 X.2.1 d_M_digitOf_169 hl (k := 0) rfl (hn_dec _) (by decide) rfl (fun ls hl => ?_)
        refine lv_goto (tgt := 151) X.1 X.2.1 d_M_digitOf_172 (by decide) ?_
        exact ih H locs ls (by omega) hz hh hl
  have divl : ∀ (t : Nat) (z : Nat → Nat) (H : Heap) (locs : List Loc) (ls : Array Slot), t ≤ 40 → (∀ p, t ≤ p → p < 40 → z p = dg_div (dgt V) k 40 p) → (∀ p, p < t → z p = dgt V p) → hl_H g (hm_A sz L) s.heap L (mf g d f0 n mm sm kn mk r3 r5 r7 r8 r10 r11 r12 r13 r14 r15 r16 r17 r18 r19 r20 z r22 r23) H locs → lv_has ls 7 [(4, .int (nI t + (-1))), (3, .int (nI (dg_rs (dgt V) k (40 - t) t))), (0, .ref (d 0)), (1, .int q1), (2, .int (nI k))] → W p l e { frames := 1, cells := 0, slots := 0, locals := 30 } s m #[.ref (d 0), .int q1, .int (nI k)] below meth c H locs 0 0 (MQ below (va_Qi (fun r u => r = dg_at (dgt (ch_pr sn 0 n / k)) 24 q1 ∧ ∃ x, u = (L, mf g d f0 n mm sm kn mk r3 r5 r7 r8 r10 r11 r12 r13 r14 r15 r16 r17 r18 r19 r20 x r22 r23)) (hm_B g sz L) (hm_A sz L)) #[.ref (d 0), .int q1, .int (nI k)] s 0 0 (hm_A sz L)) (F0 m 106 ls []) := by
    intro t
    induction t with
    | zero =>
      intro z H locs ls hin hz hz2 hh hl
      refine lv_iload X.1 X.2.1 d_M_digitOf_106 (lv_at hl 0 rfl) ?_
      refine lv_if_lt (tgt := 147) X.1 X.2.1 d_M_digitOf_108 (by decide) (fun hc => ?_) (fun hc => ?_)
      · have hh := md_nrm_21 (x := dgt (V / k)) hd hh (fun p hp => by rw [hz p (by omega) hp, dgt_div hV40 hp hk0])
        refine lv_bipush (v := nI 40) X.1 X.2.1 d_M_digitOf_147 (by decide) ?_
        refine lv_istore (lv' := [(4, .int (nI 40)), (3, .int (nI (dg_rs (dgt V) k (40 - 0) 0))), (0, .ref (d 0)), (1, .int q1), (2, .int (nI k))]) X.1 X.2.1 d_M_digitOf_149 hl (by decide) rfl (fun ls hl => ?_)
        exact lenl 39 H locs ls (by omega) rfl hh (lv_sub hl [0, 2, 3, 4] rfl)
      · exact absurd (show (nI 0 + (-1) : Int32) < 0 by decide) hc
    | succ t ih =>
      intro z H locs ls hin hz hz2 hh hl
      rw [pk_m1] at hl
      have hr0 := dg_rs_lt (dgt V) hk0 (40 - (t + 1)) (t + 1)
      have hzi := hz2 t (Nat.lt_succ_self t)
      have hdi := dgt_lt V t
      refine lv_iload X.1 X.2.1 d_M_digitOf_106 (lv_at hl 0 rfl) ?_
      refine lv_if_lt (tgt := 147) X.1 X.2.1 d_M_digitOf_108 (by decide) (fun hc => ?_) (fun hc => ?_)
      · exact absurd hc (nI_pos (by omega))
      refine lv_bipush (v := nI 10) X.1 X.2.1 d_M_digitOf_111 (by decide) ?_
      refine lv_iload_n X.1 X.2.1 d_M_digitOf_113 rfl (lv_at hl 1 rfl) ?_
      refine hn_mul X d_M_digitOf_114 ?_
      refine lv_aload_n X.1 X.2.1 d_M_digitOf_115 rfl (lv_at hl 2 rfl) ?_
      refine hl_get X hK hh (ref := "CycleGroupsModel") i_M (ci := 5) rfl 21 (by decide) w_372 rfl (md_in hd (k := 0) rfl) md_at_0 rfl d_M_digitOf_116 ?_
      refine lv_iload X.1 X.2.1 d_M_digitOf_119 (lv_at hl 0 rfl) ?_
      refine hl_iald X hK hh (md_in hd (k := 21) rfl) (md_at_21 hd) (by omega) (by decide) d_M_digitOf_121 ?_
      refine hn_add X d_M_digitOf_122 ?_
      refine lv_istore (lv' := [(5, .int (nI ((10 * (dg_rs (dgt V) k (40 - (t + 1)) (t + 1))) + (z t)))), (4, .int (nI t)), (3, .int (nI (dg_rs (dgt V) k (40 - (t + 1)) (t + 1)))), (0, .ref (d 0)), (1, .int q1), (2, .int (nI k))]) X.1 X.2.1 d_M_digitOf_123 hl (by decide) rfl (fun ls hl => ?_)
      refine lv_aload_n X.1 X.2.1 d_M_digitOf_125 rfl (lv_at hl 3 rfl) ?_
      refine hl_get X hK hh (ref := "CycleGroupsModel") i_M (ci := 5) rfl 21 (by decide) w_372 rfl (md_in hd (k := 0) rfl) md_at_0 rfl d_M_digitOf_126 ?_
      refine lv_iload X.1 X.2.1 d_M_digitOf_129 (lv_at hl 1 rfl) ?_
      refine lv_iload X.1 X.2.1 d_M_digitOf_131 (lv_at hl 0 rfl) ?_
      refine lv_iload_n X.1 X.2.1 d_M_digitOf_133 rfl (lv_at hl 5 rfl) ?_
      refine hn_div X (by omega) (by omega) (by omega) d_M_digitOf_134 ?_
      refine hl_iastN X hK hh (md_in hd (k := 21) rfl) (md_at_21 hd) (by omega) (by decide) d_M_digitOf_135 (fun H locs hh => ?_)
      have hh : hl_H g (hm_A sz L) s.heap L (mf g d f0 n mm sm kn mk r3 r5 r7 r8 r10 r11 r12 r13 r14 r15 r16 r17 r18 r19 r20 (va_up z t (((10 * (dg_rs (dgt V) k (40 - (t + 1)) (t + 1))) + (z t)) / k)) r22 r23) H locs := md_set_21 hd hh
      refine lv_iload X.1 X.2.1 d_M_digitOf_136 (lv_at hl 0 rfl) ?_
      refine lv_iload_n X.1 X.2.1 d_M_digitOf_138 rfl (lv_at hl 5 rfl) ?_
      refine hn_rem X (by omega) (by omega) (by omega) d_M_digitOf_139 ?_
      refine lv_istore_n (lv' := [(3, .int (nI (((10 * (dg_rs (dgt V) k (40 - (t + 1)) (t + 1))) + (z t)) % k))), (5, .int (nI ((10 * (dg_rs (dgt V) k (40 - (t + 1)) (t + 1))) + (z t)))), (4, .int (nI t)), (0, .ref (d 0)), (1, .int q1), (2, .int (nI k))]) X.1 X.2.1 d_M_digitOf_140 rfl hl (by decide) rfl (fun ls hl => ?_)
      refine lv_iinc (v := nI t + (-1)) (lv' := [(4, .int (nI t + (-1))), (3, .int (nI (((10 * (dg_rs (dgt V) k (40 - (t + 1)) (t + 1))) + (z t)) % k))), (5, .int (nI ((10 * (dg_rs (dgt V) k (40 - (t + 1)) (t + 1))) + (z t)))), (0, .ref (d 0)), (1, .int q1), (2, .int (nI k))]) X.1 X.2.1 d_M_digitOf_141 hl (k := 2) rfl rfl (by decide) rfl (fun ls hl => ?_)
      refine lv_goto (tgt := 106) X.1 X.2.1 d_M_digitOf_144 (by decide) ?_
      have e0 : 10 * dg_rs (dgt V) k (40 - (t + 1)) (t + 1) + z t = dg_rs (dgt V) k (40 - (t + 1)) (t + 1) * 10 + dgt V t := by rw [Nat.mul_comm, hzi]
      rw [e0] at hh hl
      have e1 : 40 - t = (40 - (t + 1)) + 1 := by omega
      refine ih (va_up z t (dg_div (dgt V) k 40 t)) H locs ls (by omega) (fun p hp hp2 => ?_) (fun p hp => ?_) hh ?_
      · by_cases hpi : p = t
        · rw [hpi, va_up_self]
        · rw [va_up_ne _ _ hpi]; exact hz p (by omega) hp2
      · rw [va_up_ne _ _ (by omega)]; exact hz2 p (by omega)
      · rw [e1]
        exact (lv_sub hl [0, 1, 3, 4, 5] rfl)
  have mull : ∀ (s0 : Nat), s0 < n → (∀ (H : Heap) (locs : List Loc) (ls : Array Slot), hl_H g (hm_A sz L) s.heap L (mf g d f0 n mm sm kn mk r3 r5 r7 r8 r10 r11 r12 r13 r14 r15 r16 r17 r18 r19 r20 (dgt (ch_pr sn 0 (s0 + 1))) r22 r23) H locs → lv_has ls 7 [(3, .int (nI (s0 + 1))), (0, .ref (d 0)), (1, .int q1), (2, .int (nI k))] → W p l e { frames := 1, cells := 0, slots := 0, locals := 30 } s m #[.ref (d 0), .int q1, .int (nI k)] below meth c H locs 0 0 (MQ below (va_Qi (fun r u => r = dg_at (dgt (ch_pr sn 0 n / k)) 24 q1 ∧ ∃ x, u = (L, mf g d f0 n mm sm kn mk r3 r5 r7 r8 r10 r11 r12 r13 r14 r15 r16 r17 r18 r19 r20 x r22 r23)) (hm_B g sz L) (hm_A sz L)) #[.ref (d 0), .int q1, .int (nI k)] s 0 0 (hm_A sz L)) (F0 m 30 ls [])) →
      ∀ (t i : Nat) (z : Nat → Nat) (H : Heap) (locs : List Loc) (ls : Array Slot), 40 + 1 ≤ i + t → i ≤ 40 → (∀ p, p < i → z p = dg_mul (dgt (ch_pr sn 0 s0)) (sn s0) p) → (∀ p, i ≤ p → z p = dgt (ch_pr sn 0 s0) p) → hl_H g (hm_A sz L) s.heap L (mf g d f0 n mm sm kn mk r3 r5 r7 r8 r10 r11 r12 r13 r14 r15 r16 r17 r18 r19 r20 z r22 r23) H locs → lv_has ls 7 [(5, .int (nI i)), (4, .int (nI (dg_car (dgt (ch_pr sn 0 s0)) (sn s0) i))), (3, .int (nI s0)), (0, .ref (d 0)), (1, .int q1), (2, .int (nI k))] → W p l e { frames := 1, cells := 0, slots := 0, locals := 30 } s m #[.ref (d 0), .int q1, .int (nI k)] below meth c H locs 0 0 (MQ below (va_Qi (fun r u => r = dg_at (dgt (ch_pr sn 0 n / k)) 24 q1 ∧ ∃ x, u = (L, mf g d f0 n mm sm kn mk r3 r5 r7 r8 r10 r11 r12 r13 r14 r15 r16 r17 r18 r19 r20 x r22 r23)) (hm_B g sz L) (hm_A sz L)) #[.ref (d 0), .int q1, .int (nI k)] s 0 0 (hm_A sz L)) (F0 m 44 ls []) := by
    intro s0 hs0 kk t
    have hb0 := hsb s0 hs0
    induction t with
    | zero => intros; omega
    | succ t ih =>
      intro i z H locs ls hk2 hin hz1 hz2 hh hl
      have hci := dg_car_lt (dgt (ch_pr sn 0 s0)) (sn s0) (by omega) (fun i => dgt_lt _ i) i
      refine lv_iload X.1 X.2.1 d_M_digitOf_44 (lv_at hl 0 rfl) ?_
      refine lv_bipush (v := nI 40) X.1 X.2.1 d_M_digitOf_46 (by decide) ?_
      refine hn_ige (tgt := 94) X (by omega) (by omega) d_M_digitOf_48 (by decide) (fun hc => ?_) (fun hc => ?_)
      · have e1 : ch_pr sn 0 (s0 + 1) = ch_pr sn 0 s0 * sn s0 := by rw [ch_pr_last, Nat.zero_add]
        have hh := md_nrm_21 (x := dgt (ch_pr sn 0 (s0 + 1))) hd hh (fun p hp => by rw [hz1 p (by omega), dgt_mul, e1])
        refine lv_iinc (v := nI (s0 + 1)) (lv' := [(3, .int (nI (s0 + 1))), (5, .int (nI i)), (4, .int (nI (dg_car (dgt (ch_pr sn 0 s0)) (sn s0) i))), (0, .ref (d 0)), (1, .int q1), (2, .int (nI k))]) X.1 X.2.1 d_M_digitOf_94 hl (k := 2) rfl (hn_inc _) (by decide) rfl (fun ls hl => ?_)
        refine lv_goto (tgt := 30) X.1 X.2.1 d_M_digitOf_97 (by decide) ?_
        exact kk H locs ls hh (lv_sub hl [0, 3, 4, 5] rfl)
      · have hi : i < 40 := hc
        have hzi := hz2 i (Nat.le_refl _)
        have hdi := dgt_lt (ch_pr sn 0 s0) i
        have hm : z i * sn s0 ≤ 9 * 24 := by rw [hzi]; exact Nat.mul_le_mul (by omega) (by omega)
        refine lv_aload_n X.1 X.2.1 d_M_digitOf_51 rfl (lv_at hl 3 rfl) ?_
        refine hl_get X hK hh (ref := "CycleGroupsModel") i_M (ci := 5) rfl 21 (by decide) w_372 rfl (md_in hd (k := 0) rfl) md_at_0 rfl d_M_digitOf_52 ?_
        refine lv_iload X.1 X.2.1 d_M_digitOf_55 (lv_at hl 0 rfl) ?_
        refine hl_iald X hK hh (md_in hd (k := 21) rfl) (md_at_21 hd) (by omega) (by decide) d_M_digitOf_57 ?_
        refine lv_aload_n X.1 X.2.1 d_M_digitOf_58 rfl (lv_at hl 3 rfl) ?_
        refine lv_iload_n X.1 X.2.1 d_M_digitOf_59 rfl (lv_at hl 2 rfl) ?_
        refine hl_calli hh (hl_runV (k := 1) X hK hh (c_M_spreadSize l g _ L d f0 hd n mm sm kn mk r3 r5 r7 r8 r10 r11 r12 r13 r14 r15 r16 r17 r18 r19 r20 z r22 r23 hn s0 (by omega) hz) wc_M_spreadSize w_515 w_5 wi_M_spreadSize ws_M_spreadSize (by decide +kernel) rfl rfl ⟨Nat.le_of_ble_eq_true rfl, Nat.le_of_ble_eq_true rfl⟩ (md_in hd (k := 0) rfl) md_at_0 rfl rfl rfl rfl (Nat.le_of_ble_eq_true rfl) hl.1 d_M_digitOf_60 ⟨Nat.le_of_ble_eq_true rfl, Nat.le_of_ble_eq_true rfl⟩) (fun r u H locs hp hh => ?_)
        obtain ⟨rfl, rfl⟩ := hp
        rw [hsn s0 hs0]
        refine hn_mul X d_M_digitOf_63 ?_
        refine lv_iload X.1 X.2.1 d_M_digitOf_64 (lv_at hl 1 rfl) ?_
        refine hn_add X d_M_digitOf_66 ?_
        refine lv_istore (lv' := [(6, .int (nI (((z i) * (sn s0)) + (dg_car (dgt (ch_pr sn 0 s0)) (sn s0) i)))), (5, .int (nI i)), (4, .int (nI (dg_car (dgt (ch_pr sn 0 s0)) (sn s0) i))), (3, .int (nI s0)), (0, .ref (d 0)), (1, .int q1), (2, .int (nI k))]) X.1 X.2.1 d_M_digitOf_67 hl (by decide) rfl (fun ls hl => ?_)
        refine lv_aload_n X.1 X.2.1 d_M_digitOf_69 rfl (lv_at hl 4 rfl) ?_
        refine hl_get X hK hh (ref := "CycleGroupsModel") i_M (ci := 5) rfl 21 (by decide) w_372 rfl (md_in hd (k := 0) rfl) md_at_0 rfl d_M_digitOf_70 ?_
        refine lv_iload X.1 X.2.1 d_M_digitOf_73 (lv_at hl 1 rfl) ?_
        refine lv_iload X.1 X.2.1 d_M_digitOf_75 (lv_at hl 0 rfl) ?_
        refine lv_bipush (v := nI 10) X.1 X.2.1 d_M_digitOf_77 (by decide) ?_
        refine hn_rem X (by omega) (by omega) (by omega) d_M_digitOf_79 ?_
        refine hl_iastN X hK hh (md_in hd (k := 21) rfl) (md_at_21 hd) (by omega) (by decide) d_M_digitOf_80 (fun H locs hh => ?_)
        have hh : hl_H g (hm_A sz L) s.heap L (mf g d f0 n mm sm kn mk r3 r5 r7 r8 r10 r11 r12 r13 r14 r15 r16 r17 r18 r19 r20 (va_up z i ((((z i) * (sn s0)) + (dg_car (dgt (ch_pr sn 0 s0)) (sn s0) i)) % 10)) r22 r23) H locs := md_set_21 hd hh
        refine lv_iload X.1 X.2.1 d_M_digitOf_81 (lv_at hl 0 rfl) ?_
        refine lv_bipush (v := nI 10) X.1 X.2.1 d_M_digitOf_83 (by decide) ?_
        refine hn_div X (by omega) (by omega) (by omega) d_M_digitOf_85 ?_
        refine lv_istore (lv' := [(4, .int (nI ((((z i) * (sn s0)) + (dg_car (dgt (ch_pr sn 0 s0)) (sn s0) i)) / 10))), (6, .int (nI (((z i) * (sn s0)) + (dg_car (dgt (ch_pr sn 0 s0)) (sn s0) i)))), (5, .int (nI i)), (3, .int (nI s0)), (0, .ref (d 0)), (1, .int q1), (2, .int (nI k))]) X.1 X.2.1 d_M_digitOf_86 hl (by decide) rfl (fun ls hl => ?_)
        refine lv_iinc (v := nI (i + 1)) (lv' := [(5, .int (nI (i + 1))), (4, .int (nI ((((z i) * (sn s0)) + (dg_car (dgt (ch_pr sn 0 s0)) (sn s0) i)) / 10))), (6, .int (nI (((z i) * (sn s0)) + (dg_car (dgt (ch_pr sn 0 s0)) (sn s0) i)))), (3, .int (nI s0)), (0, .ref (d 0)), (1, .int q1), (2, .int (nI k))]) X.1 X.2.1 d_M_digitOf_88 hl (k := 2) rfl (hn_inc _) (by decide) rfl (fun ls hl => ?_)
        refine lv_goto (tgt := 44) X.1 X.2.1 d_M_digitOf_91 (by decide) ?_
        rw [hzi] at hh hl
        refine ih (i + 1) (va_up z i (dg_mul (dgt (ch_pr sn 0 s0)) (sn s0) i)) H locs ls (by omega) (by omega) (fun p hp => ?_) (fun p hp => ?_) hh (lv_sub hl [0, 1, 3, 4, 5, 6] rfl)
        · by_cases e0 : p = i
          · rw [e0, va_up_self]
          · rw [va_up_ne _ _ e0]; exact hz1 p (by omega)
        · rw [va_up_ne _ _ (by omega)]; exact hz2 p (by omega)
  have outl : ∀ (t i : Nat) (H : Heap) (locs : List Loc) (ls : Array Slot), n + 1 ≤ i + t → i ≤ n → hl_H g (hm_A sz L) s.heap L (mf g d f0 n mm sm kn mk r3 r5 r7 r8 r10 r11 r12 r13 r14 r15 r16 r17 r18 r19 r20 (dgt (ch_pr sn 0 i)) r22 r23) H locs → lv_has ls 7 [(3, .int (nI i)), (0, .ref (d 0)), (1, .int q1), (2, .int (nI k))] → W p l e { frames := 1, cells := 0, slots := 0, locals := 30 } s m #[.ref (d 0), .int q1, .int (nI k)] below meth c H locs 0 0 (MQ below (va_Qi (fun r u => r = dg_at (dgt (ch_pr sn 0 n / k)) 24 q1 ∧ ∃ x, u = (L, mf g d f0 n mm sm kn mk r3 r5 r7 r8 r10 r11 r12 r13 r14 r15 r16 r17 r18 r19 r20 x r22 r23)) (hm_B g sz L) (hm_A sz L)) #[.ref (d 0), .int q1, .int (nI k)] s 0 0 (hm_A sz L)) (F0 m 30 ls []) := by
    intro t
    induction t with
    | zero => intros; omega
    | succ t ih =>
      intro i H locs ls hk2 hin hh hl
      refine lv_iload_n X.1 X.2.1 d_M_digitOf_30 rfl (lv_at hl 0 rfl) ?_
      refine lv_aload_n X.1 X.2.1 d_M_digitOf_31 rfl (lv_at hl 1 rfl) ?_
      refine hl_get X hK hh (ref := "CycleGroupsModel") i_M (ci := 5) rfl 0 (by decide) w_352 rfl (md_in hd (k := 0) rfl) md_at_0 rfl d_M_digitOf_32 ?_
      refine hn_ige (tgt := 100) X (by omega) (by omega) d_M_digitOf_35 (by decide) (fun hc => ?_) (fun hc => ?_)
      · have hi : i = n := by omega
        rw [hi, ← eV] at hh
        refine lv_iconst (v := nI 0) X.1 X.2.1 d_M_digitOf_100 (by decide) ?_
        refine lv_istore_n (lv' := [(3, .int (nI 0)), (0, .ref (d 0)), (1, .int q1), (2, .int (nI k))]) X.1 X.2.1 d_M_digitOf_101 rfl hl (by decide) rfl (fun ls hl => ?_)
        refine lv_bipush (v := nI 39) X.1 X.2.1 d_M_digitOf_102 (by decide) ?_
        refine lv_istore (lv' := [(4, .int (nI 39)), (3, .int (nI 0)), (0, .ref (d 0)), (1, .int q1), (2, .int (nI k))]) X.1 X.2.1 d_M_digitOf_104 hl (by decide) rfl (fun ls hl => ?_)
        exact divl 40 (dgt V) H locs ls (by omega) (fun p hp hp2 => absurd hp2 (by omega)) (fun _ _ => rfl) hh (lv_sub hl [0, 1, 2, 3, 4] rfl)
      · have hi : i < n := hc
        refine lv_iconst (v := nI 0) X.1 X.2.1 d_M_digitOf_38 (by decide) ?_
        refine lv_istore (lv' := [(4, .int (nI 0)), (3, .int (nI i)), (0, .ref (d 0)), (1, .int q1), (2, .int (nI k))]) X.1 X.2.1 d_M_digitOf_39 hl (by decide) rfl (fun ls hl => ?_)
        refine lv_iconst (v := nI 0) X.1 X.2.1 d_M_digitOf_41 (by decide) ?_
        refine lv_istore (lv' := [(5, .int (nI 0)), (4, .int (nI 0)), (3, .int (nI i)), (0, .ref (d 0)), (1, .int q1), (2, .int (nI k))]) X.1 X.2.1 d_M_digitOf_42 hl (by decide) rfl (fun ls hl => ?_)
        exact mull i hi (fun H locs ls hh hl => ih (i + 1) H locs ls (by omega) (by omega) hh hl) 41 0 _ H locs ls (by omega) (by omega) (fun p hp => absurd hp (Nat.not_lt_zero _)) (fun _ _ => rfl) hh (lv_sub hl [0, 1, 2, 3, 4, 5] rfl)
  have zerl : ∀ (t i : Nat) (y : Nat → Nat) (H : Heap) (locs : List Loc) (ls : Array Slot), 40 + 1 ≤ i + t → i ≤ 40 → (∀ p, p < i → y p = 0) → hl_H g (hm_A sz L) s.heap L (mf g d f0 n mm sm kn mk r3 r5 r7 r8 r10 r11 r12 r13 r14 r15 r16 r17 r18 r19 r20 y r22 r23) H locs → lv_has ls 7 [(3, .int (nI i)), (0, .ref (d 0)), (1, .int q1), (2, .int (nI k))] → W p l e { frames := 1, cells := 0, slots := 0, locals := 30 } s m #[.ref (d 0), .int q1, .int (nI k)] below meth c H locs 0 0 (MQ below (va_Qi (fun r u => r = dg_at (dgt (ch_pr sn 0 n / k)) 24 q1 ∧ ∃ x, u = (L, mf g d f0 n mm sm kn mk r3 r5 r7 r8 r10 r11 r12 r13 r14 r15 r16 r17 r18 r19 r20 x r22 r23)) (hm_B g sz L) (hm_A sz L)) #[.ref (d 0), .int q1, .int (nI k)] s 0 0 (hm_A sz L)) (F0 m 2 ls []) := by
    intro t
    induction t with
    | zero => intros; omega
    | succ t ih =>
      intro i y H locs ls hk2 hin hy hh hl
      refine lv_iload_n X.1 X.2.1 d_M_digitOf_2 rfl (lv_at hl 0 rfl) ?_
      refine lv_bipush (v := nI 40) X.1 X.2.1 d_M_digitOf_3 (by decide) ?_
      refine hn_ige (tgt := 21) X (by omega) (by omega) d_M_digitOf_5 (by decide) (fun hc => ?_) (fun hc => ?_)
      · skip
        refine lv_aload_n X.1 X.2.1 d_M_digitOf_21 rfl (lv_at hl 1 rfl) ?_
        refine hl_get X hK hh (ref := "CycleGroupsModel") i_M (ci := 5) rfl 21 (by decide) w_372 rfl (md_in hd (k := 0) rfl) md_at_0 rfl d_M_digitOf_22 ?_
        refine lv_iconst (v := nI 0) X.1 X.2.1 d_M_digitOf_25 (by decide) ?_
        refine lv_iconst (v := nI 1) X.1 X.2.1 d_M_digitOf_26 (by decide) ?_
        refine hl_iastN X hK hh (md_in hd (k := 21) rfl) (md_at_21 hd) (by omega) (by decide) d_M_digitOf_27 (fun H locs hh => ?_)
        have hh : hl_H g (hm_A sz L) s.heap L (mf g d f0 n mm sm kn mk r3 r5 r7 r8 r10 r11 r12 r13 r14 r15 r16 r17 r18 r19 r20 (va_up y 0 1) r22 r23) H locs := md_set_21 hd hh
        have hh := md_nrm_21 (x := dgt (ch_pr sn 0 0)) hd hh (fun p hp => by
          show va_up y 0 1 p = dgt 1 p
          rw [← dgt_one]
          by_cases e0 : p = 0
          · rw [e0, va_up_self]; rfl
          · rw [va_up_ne _ _ e0, hy p (by omega)]; exact (if_neg e0).symm)
        refine lv_iconst (v := nI 0) X.1 X.2.1 d_M_digitOf_28 (by decide) ?_
        refine lv_istore_n (lv' := [(3, .int (nI 0)), (0, .ref (d 0)), (1, .int q1), (2, .int (nI k))]) X.1 X.2.1 d_M_digitOf_29 rfl hl (by decide) rfl (fun ls hl => ?_)
        exact outl (n + 1) 0 H locs ls (by omega) (by omega) hh (lv_sub hl [0, 1, 2, 3] rfl)
      · have hi : i < 40 := hc
        refine lv_aload_n X.1 X.2.1 d_M_digitOf_8 rfl (lv_at hl 1 rfl) ?_
        refine hl_get X hK hh (ref := "CycleGroupsModel") i_M (ci := 5) rfl 21 (by decide) w_372 rfl (md_in hd (k := 0) rfl) md_at_0 rfl d_M_digitOf_9 ?_
        refine lv_iload_n X.1 X.2.1 d_M_digitOf_12 rfl (lv_at hl 0 rfl) ?_
        refine lv_iconst (v := nI 0) X.1 X.2.1 d_M_digitOf_13 (by decide) ?_
        refine hl_iastN X hK hh (md_in hd (k := 21) rfl) (md_at_21 hd) (by omega) (by decide) d_M_digitOf_14 (fun H locs hh => ?_)
        have hh : hl_H g (hm_A sz L) s.heap L (mf g d f0 n mm sm kn mk r3 r5 r7 r8 r10 r11 r12 r13 r14 r15 r16 r17 r18 r19 r20 (va_up y i 0) r22 r23) H locs := md_set_21 hd hh
        refine lv_iinc (v := nI (i + 1)) (lv' := [(3, .int (nI (i + 1))), (0, .ref (d 0)), (1, .int q1), (2, .int (nI k))]) X.1 X.2.1 d_M_digitOf_15 hl (k := 0) rfl (hn_inc _) (by decide) rfl (fun ls hl => ?_)
        refine lv_goto (tgt := 2) X.1 X.2.1 d_M_digitOf_18 (by decide) ?_
        refine ih (i + 1) (va_up y i 0) H locs ls (by omega) (by omega) (fun p hp => ?_) hh hl
        by_cases e0 : p = i
        · rw [e0, va_up_self]
        · rw [va_up_ne _ _ e0]; exact hy p (by omega)
  refine lv_iconst (v := nI 0) X.1 X.2.1 d_M_digitOf_0 (by decide) ?_
  refine lv_istore_n (lv' := [(3, .int (nI 0)), (0, .ref (d 0)), (1, .int q1), (2, .int (nI k))]) X.1 X.2.1 d_M_digitOf_1 rfl hl (by decide) rfl (fun ls hl => ?_)
  exact zerl 41 0 r21 _ _ ls (by omega) (by omega) (fun p hp => absurd hp (Nat.not_lt_zero _)) hh hl
end

