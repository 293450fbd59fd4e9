/-! The reference: undo, along, leastMoved, free, put, edgeBetween. -/
section
/-- private void undo(int i, int j) -/
theorem c_M_undo (l : Launch) (g : hl_G) (sz : Nat) (L : List Nat) (d : Nat → Nat) (f0 : Nat → va_E) (hd : md_D L d) (n mm sm kn mk : Nat) (r3 r5 r7 r8 r10 r11 r12 r13 r14 r15 r16 r17 r18 r19 r20 r21 r22 r23 : Nat → Nat) (hn : n ≤ 24) (a b : Nat) (hab : 24 * a + b < 576) (x x2 : gp_f) (hx : gp_sym (ch_D n 0) x) (hx2 : gp_inv x x2) (hr7 : fr r7 (24 * a + b) x) (hw : ∀ p, p < 24 → r18 p < 24) :
    Met l y_M_undo (hq y_M_undo b_M_undo 4 none) { frames := 0, cells := 0, slots := 0, locals := 0 } (hm_P g [.ref (d 0), .int (nI a), .int (nI b)] sz L (mf g d f0 n mm sm kn mk r3 r5 r7 r8 r10 r11 r12 r13 r14 r15 r16 r17 r18 r19 r20 r21 r22 r23)) (va_Qv (fun u => u = (L, mf g d f0 n mm sm kn mk r3 r5 r7 r8 r10 r11 r12 r13 r14 r15 r16 r17 (x2 ∘ r18) x2 r20 r21 r22 r23)) (hm_B g sz L) (hm_A sz L)) 0 0 (hm_A sz L) := by
  refine hm_ofW (by decide) (Nat.le_of_ble_eq_true rfl) ?_
  intro p e s m below meth c X hr hlk hnm hK hsz hh ls hl
  have hl : lv_has ls 4 [(0, .ref (d 0)), (1, .int (nI a)), (2, .int (nI b))] := hl
  have hxx : gp_sym (ch_D n 0) x2 := gp_sym_inv hx hx2
  have b1 : ∀ p, p < 24 → x p < 24 := fun p hp => sym_24 hx hn hp
  have b2 : ∀ p, p < 24 → x2 p < 24 := fun p hp => sym_24 hxx hn hp
  have loop2 : ∀ (t i : Nat) (y : Nat → Nat) (H : Heap) (locs : List Loc) (ls : Array Slot), 24 + 1 ≤ i + t → i ≤ 24 → (∀ p, p < i → y p = x2 (r18 p)) → (∀ p, i ≤ p → y p = r18 p) → hl_H g (hm_A sz L) s.heap L (mf g d f0 n mm sm kn mk r3 r5 r7 r8 r10 r11 r12 r13 r14 r15 r16 r17 y x2 r20 r21 r22 r23) H locs → lv_has ls 4 [(3, .int (nI i)), (0, .ref (d 0)), (1, .int (nI a)), (2, .int (nI b))] → W p l e { frames := 0, cells := 0, slots := 0, locals := 0 } s m #[.ref (d 0), .int (nI a), .int (nI b)] below meth c H locs 0 0 (MQ below (va_Qv (fun u => u = (L, mf g d f0 n mm sm kn mk r3 r5 r7 r8 r10 r11 r12 r13 r14 r15 r16 r17 (x2 ∘ r18) x2 r20 r21 r22 r23)) (hm_B g sz L) (hm_A sz L)) #[.ref (d 0), .int (nI a), .int (nI b)] s 0 0 (hm_A sz L)) (F0 m 38 ls []) := by
    intro t
    induction t with
    | zero => intros; omega
    | succ t ih =>
      intro i y H locs ls hk hin hy hy2 hh hl
      refine lv_iload_n X.1 X.2.1 d_M_undo_38 rfl (lv_at hl 0 rfl) ?_
      refine lv_bipush (v := nI 24) X.1 X.2.1 d_M_undo_39 (by decide) ?_
      refine hn_ige (tgt := 67) X (by omega) (by omega) d_M_undo_41 (by decide) (fun hc => ?_) (fun hc => ?_)
      · have hh := md_nrm_18 (x := x2 ∘ r18) hd hh (fun p hp => hy p (by omega))
        exact hm_vret X hr hlk hh rfl (Nat.le_of_ble_eq_true rfl) (Nat.le_of_ble_eq_true rfl) d_M_undo_67
      · have hi : i < 24 := hc
        have yi := hy2 i (Nat.le_refl _)
        have wi := hw i hi
        refine lv_aload_n X.1 X.2.1 d_M_undo_44 rfl (lv_at hl 1 rfl) ?_
        refine hl_get X hK hh (ref := "CycleGroupsModel") i_M (ci := 5) rfl 18 (by decide) w_369 rfl (md_in hd (k := 0) rfl) md_at_0 rfl d_M_undo_45 ?_
        refine lv_iload_n X.1 X.2.1 d_M_undo_48 rfl (lv_at hl 0 rfl) ?_
        refine lv_aload_n X.1 X.2.1 d_M_undo_49 rfl (lv_at hl 1 rfl) ?_
        refine hl_get X hK hh (ref := "CycleGroupsModel") i_M (ci := 5) rfl 19 (by decide) w_370 rfl (md_in hd (k := 0) rfl) md_at_0 rfl d_M_undo_50 ?_
        refine lv_aload_n X.1 X.2.1 d_M_undo_53 rfl (lv_at hl 1 rfl) ?_
        refine hl_get X hK hh (ref := "CycleGroupsModel") i_M (ci := 5) rfl 18 (by decide) w_369 rfl (md_in hd (k := 0) rfl) md_at_0 rfl d_M_undo_54 ?_
        refine lv_iload_n X.1 X.2.1 d_M_undo_57 rfl (lv_at hl 0 rfl) ?_
        refine hl_iald X hK hh (md_in hd (k := 18) rfl) (md_at_18 hd) (by omega) (by decide) d_M_undo_58 ?_
        refine hl_iald X hK hh (md_in hd (k := 19) rfl) (md_at_19 hd) (by omega) (by decide) d_M_undo_59 ?_
        refine hl_iastN X hK hh (md_in hd (k := 18) rfl) (md_at_18 hd) (by omega) (by decide) d_M_undo_60 (fun H locs hh => ?_)
        have hh : hl_H g (hm_A sz L) s.heap L (mf g d f0 n mm sm kn mk r3 r5 r7 r8 r10 r11 r12 r13 r14 r15 r16 r17 (va_up y i (x2 (y i))) x2 r20 r21 r22 r23) H locs := md_set_18 hd hh
        refine lv_iinc (v := nI (i + 1)) (lv' := [(3, .int (nI (i + 1))), (0, .ref (d 0)), (1, .int (nI a)), (2, .int (nI b))]) X.1 X.2.1 d_M_undo_61 hl (k := 0) rfl (hn_inc _) (by decide) rfl (fun ls hl => ?_)
        refine lv_goto (tgt := 38) X.1 X.2.1 d_M_undo_64 (by decide) ?_
        refine ih (i + 1) (va_up y i (x2 (y i))) H locs ls (by omega) (by omega) (fun p hp => ?_) (fun p hp => ?_) hh hl
        · by_cases e0 : p = i
          · rw [e0, va_up_self, yi]
          · rw [va_up_ne _ _ e0]; exact hy p (by omega)
        · rw [va_up_ne _ _ (by omega)]; exact hy2 p (by omega)
  have loop : ∀ (t i : Nat) (y : Nat → Nat) (H : Heap) (locs : List Loc) (ls : Array Slot), 24 + 1 ≤ i + t → i ≤ 24 → (∀ p, p < i → y (x p) = p) → hl_H g (hm_A sz L) s.heap L (mf g d f0 n mm sm kn mk r3 r5 r7 r8 r10 r11 r12 r13 r14 r15 r16 r17 r18 y r20 r21 r22 r23) H locs → lv_has ls 4 [(3, .int (nI i)), (0, .ref (d 0)), (1, .int (nI a)), (2, .int (nI b))] → W p l e { frames := 0, cells := 0, slots := 0, locals := 0 } s m #[.ref (d 0), .int (nI a), .int (nI b)] below meth c H locs 0 0 (MQ below (va_Qv (fun u => u = (L, mf g d f0 n mm sm kn mk r3 r5 r7 r8 r10 r11 r12 r13 r14 r15 r16 r17 (x2 ∘ r18) x2 r20 r21 r22 r23)) (hm_B g sz L) (hm_A sz L)) #[.ref (d 0), .int (nI a), .int (nI b)] s 0 0 (hm_A sz L)) (F0 m 2 ls []) := by
    intro t
    induction t with
    | zero => intros; omega
    | succ t ih =>
      intro i y H locs ls hk hin hy hh hl
      refine lv_iload_n X.1 X.2.1 d_M_undo_2 rfl (lv_at hl 0 rfl) ?_
      refine lv_bipush (v := nI 24) X.1 X.2.1 d_M_undo_3 (by decide) ?_
      refine hn_ige (tgt := 36) X (by omega) (by omega) d_M_undo_5 (by decide) (fun hc => ?_) (fun hc => ?_)
      · have hh := md_nrm_19 (x := x2) hd hh (fun q hq => by
          have := hy (x2 q) (by have := b2 q hq; omega)
          rw [hx2.1] at this
          exact this)
        refine lv_iconst (v := nI 0) X.1 X.2.1 d_M_undo_36 (by decide) ?_
        refine lv_istore_n (lv' := [(3, .int (nI 0)), (0, .ref (d 0)), (1, .int (nI a)), (2, .int (nI b))]) X.1 X.2.1 d_M_undo_37 rfl hl (by decide) rfl (fun ls hl => ?_)
        exact loop2 25 0 r18 _ _ ls (by omega) (by omega) (fun p hp => absurd hp (Nat.not_lt_zero _)) (fun _ _ => rfl) hh (lv_sub hl [0, 1, 2, 3] rfl)
      · have hi : i < 24 := hc
        have e1 := hr7 i hi
        have e2 := b1 i hi
        refine lv_aload_n X.1 X.2.1 d_M_undo_8 rfl (lv_at hl 1 rfl) ?_
        refine hl_get X hK hh (ref := "CycleGroupsModel") i_M (ci := 5) rfl 19 (by decide) w_370 rfl (md_in hd (k := 0) rfl) md_at_0 rfl d_M_undo_9 ?_
        refine lv_aload_n X.1 X.2.1 d_M_undo_12 rfl (lv_at hl 1 rfl) ?_
        refine hl_get X hK hh (ref := "CycleGroupsModel") i_M (ci := 5) rfl 7 (by decide) w_358 rfl (md_in hd (k := 0) rfl) md_at_0 rfl d_M_undo_13 ?_
        refine lv_bipush (v := nI 24) X.1 X.2.1 d_M_undo_16 (by decide) ?_
        refine lv_bipush (v := nI 24) X.1 X.2.1 d_M_undo_18 (by decide) ?_
        refine lv_iload_n X.1 X.2.1 d_M_undo_20 rfl (lv_at hl 2 rfl) ?_
        refine hn_mul X d_M_undo_21 ?_
        refine lv_iload_n X.1 X.2.1 d_M_undo_22 rfl (lv_at hl 3 rfl) ?_
        refine hn_add X d_M_undo_23 ?_
        refine hn_mul X d_M_undo_24 ?_
        refine lv_iload_n X.1 X.2.1 d_M_undo_25 rfl (lv_at hl 0 rfl) ?_
        refine hn_add X d_M_undo_26 ?_
        refine hl_iald X hK hh (md_in hd (k := 7) rfl) (md_at_7 hd) (by omega) (by decide) d_M_undo_27 ?_
        refine lv_iload_n X.1 X.2.1 d_M_undo_28 rfl (lv_at hl 0 rfl) ?_
        refine hl_iastN X hK hh (md_in hd (k := 19) rfl) (md_at_19 hd) (by omega) (by decide) d_M_undo_29 (fun H locs hh => ?_)
        have hh : hl_H g (hm_A sz L) s.heap L (mf g d f0 n mm sm kn mk r3 r5 r7 r8 r10 r11 r12 r13 r14 r15 r16 r17 r18 (va_up y (r7 ((24 * ((24 * a) + b)) + i)) i) r20 r21 r22 r23) H locs := md_set_19 hd hh
        refine lv_iinc (v := nI (i + 1)) (lv' := [(3, .int (nI (i + 1))), (0, .ref (d 0)), (1, .int (nI a)), (2, .int (nI b))]) X.1 X.2.1 d_M_undo_30 hl (k := 0) rfl (hn_inc _) (by decide) rfl (fun ls hl => ?_)
        refine lv_goto (tgt := 2) X.1 X.2.1 d_M_undo_33 (by decide) ?_
        rw [e1] at hh
        refine ih (i + 1) (va_up y (x i) i) H locs ls (by omega) (by omega) (fun p hp => ?_) hh hl
        by_cases e0 : p = i
        · rw [e0, va_up_self]
        · rw [va_up_ne _ _ (fun e3 => e0 (gp_inv_inj hx2 e3))]; exact hy p (by omega)
  refine lv_iconst (v := nI 0) X.1 X.2.1 d_M_undo_0 (by decide) ?_
  refine lv_istore_n (lv' := [(3, .int (nI 0)), (0, .ref (d 0)), (1, .int (nI a)), (2, .int (nI b))]) X.1 X.2.1 d_M_undo_1 rfl hl (by decide) rfl (fun ls hl => ?_)
  exact loop 25 0 r19 _ _ ls (by omega) (by omega) (fun p hp => absurd hp (Nat.not_lt_zero _)) hh hl

/-- private void along(int e, boolean up) -/
theorem c_M_along (l : Launch) (g : hl_G) (sz : Nat) (L : List Nat) (d : Nat → Nat) (f0 : Nat → va_E) (hd : md_D L d) (n mm sm kn mk : Nat) (r3 r5 r7 r8 r10 r11 r12 r13 r14 r15 r16 r17 r18 r19 r20 r21 r22 r23 : Nat → Nat) (hn : n ≤ 24) (a : Nat) (ha : a < 24) (B : Bool) (x t2 : gp_f) (hx : gp_sym (ch_D n 0) x) (hr13 : fr r13 a x) (hw : ∀ p, p < 24 → r18 p < 24) (hB : B = true → t2 = x) (hB2 : B = false → gp_inv x t2) :
    Met l y_M_along (hq y_M_along b_M_along 4 none) { frames := 0, cells := 0, slots := 0, locals := 0 } (hm_P g [.ref (d 0), .int (nI a), .int (hb B)] sz L (mf g d f0 n mm sm kn mk r3 r5 r7 r8 r10 r11 r12 r13 r14 r15 r16 r17 r18 r19 r20 r21 r22 r23)) (va_Qv (fun u => u = (L, mf g d f0 n mm sm kn mk r3 r5 r7 r8 r10 r11 r12 r13 r14 r15 r16 r17 (t2 ∘ r18) t2 r20 r21 r22 r23)) (hm_B g sz L) (hm_A sz L)) 0 0 (hm_A sz L) := by
  refine hm_ofW (by decide) (Nat.le_of_ble_eq_true rfl) ?_
  intro p e s m below meth c X hr hlk hnm hK hsz hh ls hl
  have hl : lv_has ls 4 [(0, .ref (d 0)), (1, .int (nI a)), (2, .int (hb B))] := hl
  have hxx : gp_sym (ch_D n 0) t2 := by
    cases B with
    | true => rw [hB rfl]; exact hx
    | false => exact gp_sym_inv hx (hB2 rfl)
  have b1 : ∀ p, p < 24 → x p < 24 := fun p hp => sym_24 hx hn hp
  have b2 : ∀ p, p < 24 → t2 p < 24 := fun p hp => sym_24 hxx hn hp
  have loop2 : ∀ (t i : Nat) (y : Nat → Nat) (H : Heap) (locs : List Loc) (ls : Array Slot), 24 + 1 ≤ i + t → i ≤ 24 → (∀ p, p < i → y p = t2 (r18 p)) → (∀ p, i ≤ p → y p = r18 p) → hl_H g (hm_A sz L) s.heap L (mf g d f0 n mm sm kn mk r3 r5 r7 r8 r10 r11 r12 r13 r14 r15 r16 r17 y t2 r20 r21 r22 r23) H locs → lv_has ls 4 [(3, .int (nI i)), (0, .ref (d 0)), (1, .int (nI a)), (2, .int (hb B))] → W p l e { frames := 0, cells := 0, slots := 0, locals := 0 } s m #[.ref (d 0), .int (nI a), .int (hb B)] below meth c H locs 0 0 (MQ below (va_Qv (fun u => u = (L, mf g d f0 n mm sm kn mk r3 r5 r7 r8 r10 r11 r12 r13 r14 r15 r16 r17 (t2 ∘ r18) t2 r20 r21 r22 r23)) (hm_B g sz L) (hm_A sz L)) #[.ref (d 0), .int (nI a), .int (hb B)] s 0 0 (hm_A sz L)) (F0 m 59 ls []) := by
    intro t
    induction t with
    | zero => intros; omega
    | succ t ih =>
      intro i y H locs ls hk hin hy hy2 hh hl
      refine lv_iload_n X.1 X.2.1 d_M_along_59 rfl (lv_at hl 0 rfl) ?_
      refine lv_bipush (v := nI 24) X.1 X.2.1 d_M_along_60 (by decide) ?_
      refine hn_ige (tgt := 88) X (by omega) (by omega) d_M_along_62 (by decide) (fun hc => ?_) (fun hc => ?_)
      · have hh := md_nrm_18 (x := t2 ∘ r18) hd hh (fun p hp => hy p (by omega))
        exact hm_vret X hr hlk hh rfl (Nat.le_of_ble_eq_true rfl) (Nat.le_of_ble_eq_true rfl) d_M_along_88
      · have hi : i < 24 := hc
        have yi := hy2 i (Nat.le_refl _)
        have wi := hw i hi
        refine lv_aload_n X.1 X.2.1 d_M_along_65 rfl (lv_at hl 1 rfl) ?_
        refine hl_get X hK hh (ref := "CycleGroupsModel") i_M (ci := 5) rfl 18 (by decide) w_369 rfl (md_in hd (k := 0) rfl) md_at_0 rfl d_M_along_66 ?_
        refine lv_iload_n X.1 X.2.1 d_M_along_69 rfl (lv_at hl 0 rfl) ?_
        refine lv_aload_n X.1 X.2.1 d_M_along_70 rfl (lv_at hl 1 rfl) ?_
        refine hl_get X hK hh (ref := "CycleGroupsModel") i_M (ci := 5) rfl 19 (by decide) w_370 rfl (md_in hd (k := 0) rfl) md_at_0 rfl d_M_along_71 ?_
        refine lv_aload_n X.1 X.2.1 d_M_along_74 rfl (lv_at hl 1 rfl) ?_
        refine hl_get X hK hh (ref := "CycleGroupsModel") i_M (ci := 5) rfl 18 (by decide) w_369 rfl (md_in hd (k := 0) rfl) md_at_0 rfl d_M_along_75 ?_
        refine lv_iload_n X.1 X.2.1 d_M_along_78 rfl (lv_at hl 0 rfl) ?_
        refine hl_iald X hK hh (md_in hd (k := 18) rfl) (md_at_18 hd) (by omega) (by decide) d_M_along_79 ?_
        refine hl_iald X hK hh (md_in hd (k := 19) rfl) (md_at_19 hd) (by omega) (by decide) d_M_along_80 ?_
        refine hl_iastN X hK hh (md_in hd (k := 18) rfl) (md_at_18 hd) (by omega) (by decide) d_M_along_81 (fun H locs hh => ?_)
        have hh : hl_H g (hm_A sz L) s.heap L (mf g d f0 n mm sm kn mk r3 r5 r7 r8 r10 r11 r12 r13 r14 r15 r16 r17 (va_up y i (t2 (y i))) t2 r20 r21 r22 r23) H locs := md_set_18 hd hh
        refine lv_iinc (v := nI (i + 1)) (lv' := [(3, .int (nI (i + 1))), (0, .ref (d 0)), (1, .int (nI a)), (2, .int (hb B))]) X.1 X.2.1 d_M_along_82 hl (k := 0) rfl (hn_inc _) (by decide) rfl (fun ls hl => ?_)
        refine lv_goto (tgt := 59) X.1 X.2.1 d_M_along_85 (by decide) ?_
        refine ih (i + 1) (va_up y i (t2 (y i))) H locs ls (by omega) (by omega) (fun p hp => ?_) (fun p hp => ?_) hh hl
        · by_cases e0 : p = i
          · rw [e0, va_up_self, yi]
          · rw [va_up_ne _ _ e0]; exact hy p (by omega)
        · rw [va_up_ne _ _ (by omega)]; exact hy2 p (by omega)
  have loop : ∀ (t i : Nat) (y : Nat → Nat) (H : Heap) (locs : List Loc) (ls : Array Slot), 24 + 1 ≤ i + t → i ≤ 24 → (∀ p, p < i → B = true → y p = t2 p) → (∀ p, p < i → B = false → y (x p) = p) → hl_H g (hm_A sz L) s.heap L (mf g d f0 n mm sm kn mk r3 r5 r7 r8 r10 r11 r12 r13 r14 r15 r16 r17 r18 y r20 r21 r22 r23) H locs → lv_has ls 4 [(3, .int (nI i)), (0, .ref (d 0)), (1, .int (nI a)), (2, .int (hb B))] → W p l e { frames := 0, cells := 0, slots := 0, locals := 0 } s m #[.ref (d 0), .int (nI a), .int (hb B)] below meth c H locs 0 0 (MQ below (va_Qv (fun u => u = (L, mf g d f0 n mm sm kn mk r3 r5 r7 r8 r10 r11 r12 r13 r14 r15 r16 r17 (t2 ∘ r18) t2 r20 r21 r22 r23)) (hm_B g sz L) (hm_A sz L)) #[.ref (d 0), .int (nI a), .int (hb B)] s 0 0 (hm_A sz L)) (F0 m 2 ls []) := by
    intro t
    induction t with
    | zero => intros; omega
    | succ t ih =>
      intro i y H locs ls hk hin hy hy2 hh hl
      refine lv_iload_n X.1 X.2.1 d_M_along_2 rfl (lv_at hl 0 rfl) ?_
      refine lv_bipush (v := nI 24) X.1 X.2.1 d_M_along_3 (by decide) ?_
      refine hn_ige (tgt := 57) X (by omega) (by omega) d_M_along_5 (by decide) (fun hc => ?_) (fun hc => ?_)
      · have hh := md_nrm_19 (x := t2) hd hh (fun q hq => by
          cases hb1 : B with
          | true => exact hy q (by omega) hb1
          | false =>
            have := hy2 (t2 q) (by have := b2 q hq; omega) hb1
            rw [(hB2 hb1).1] at this
            exact this)
        refine lv_iconst (v := nI 0) X.1 X.2.1 d_M_along_57 (by decide) ?_
        refine lv_istore_n (lv' := [(3, .int (nI 0)), (0, .ref (d 0)), (1, .int (nI a)), (2, .int (hb B))]) X.1 X.2.1 d_M_along_58 rfl hl (by decide) rfl (fun ls hl => ?_)
        exact loop2 25 0 r18 _ _ ls (by omega) (by omega) (fun p hp => absurd hp (Nat.not_lt_zero _)) (fun _ _ => rfl) hh (lv_sub hl [0, 1, 2, 3] rfl)
      · have hi : i < 24 := hc
        have e1 := hr13 i hi
        have e2 := b1 i hi
        rcases (Bool.eq_false_or_eq_true B) with hb1 | hb1
        · rw [hb1] at hl
          refine lv_aload_n X.1 X.2.1 d_M_along_8 rfl (lv_at hl 1 rfl) ?_
          refine hl_get X hK hh (ref := "CycleGroupsModel") i_M (ci := 5) rfl 19 (by decide) w_370 rfl (md_in hd (k := 0) rfl) md_at_0 rfl d_M_along_9 ?_
          refine lv_iload_n X.1 X.2.1 d_M_along_12 rfl (lv_at hl 3 rfl) ?_
          refine lv_if_eq (tgt := 20) X.1 X.2.1 d_M_along_13 (by decide) (fun hc => absurd hc (by decide)) (fun _ => ?_)
          refine lv_iload_n X.1 X.2.1 d_M_along_16 rfl (lv_at hl 0 rfl) ?_
          refine lv_goto (tgt := 31) X.1 X.2.1 d_M_along_17 (by decide) ?_
          refine lv_iload_n X.1 X.2.1 d_M_along_31 rfl (lv_at hl 3 rfl) ?_
          refine lv_if_eq (tgt := 49) X.1 X.2.1 d_M_along_32 (by decide) (fun hc => absurd hc (by decide)) (fun _ => ?_)
          refine lv_aload_n X.1 X.2.1 d_M_along_35 rfl (lv_at hl 1 rfl) ?_
          refine hl_get X hK hh (ref := "CycleGroupsModel") i_M (ci := 5) rfl 13 (by decide) w_364 rfl (md_in hd (k := 0) rfl) md_at_0 rfl d_M_along_36 ?_
          refine lv_bipush (v := nI 24) X.1 X.2.1 d_M_along_39 (by decide) ?_
          refine lv_iload_n X.1 X.2.1 d_M_along_41 rfl (lv_at hl 2 rfl) ?_
          refine hn_mul X d_M_along_42 ?_
          refine lv_iload_n X.1 X.2.1 d_M_along_43 rfl (lv_at hl 0 rfl) ?_
          refine hn_add X d_M_along_44 ?_
          refine hl_iald X hK hh (md_in hd (k := 13) rfl) (md_at_13 hd) (by omega) (by decide) d_M_along_45 ?_
          refine lv_goto (tgt := 50) X.1 X.2.1 d_M_along_46 (by decide) ?_
          refine hl_iastN X hK hh (md_in hd (k := 19) rfl) (md_at_19 hd) (by omega) (by decide) d_M_along_50 (fun H locs hh => ?_)
          have hh : hl_H g (hm_A sz L) s.heap L (mf g d f0 n mm sm kn mk r3 r5 r7 r8 r10 r11 r12 r13 r14 r15 r16 r17 r18 (va_up y i (r13 ((24 * a) + i))) r20 r21 r22 r23) H locs := md_set_19 hd hh
          refine lv_iinc (v := nI (i + 1)) (lv' := [(3, .int (nI (i + 1))), (0, .ref (d 0)), (1, .int (nI a)), (2, .int (hb true))]) X.1 X.2.1 d_M_along_51 hl (k := 0) rfl (hn_inc _) (by decide) rfl (fun ls hl => ?_)
          refine lv_goto (tgt := 2) X.1 X.2.1 d_M_along_54 (by decide) ?_
          rw [e1] at hh
          refine ih (i + 1) (va_up y i (x i)) H locs ls (by omega) (by omega) (fun p hp _ => ?_) (fun p hp h => by rw [hb1] at h; cases h) hh ?_
          · by_cases e0 : p = i
            · rw [e0, va_up_self, hB hb1]
            · rw [va_up_ne _ _ e0]; exact hy p (by omega) hb1
          · rw [hb1]; exact hl
        · rw [hb1] at hl
          refine lv_aload_n X.1 X.2.1 d_M_along_8 rfl (lv_at hl 1 rfl) ?_
          refine hl_get X hK hh (ref := "CycleGroupsModel") i_M (ci := 5) rfl 19 (by decide) w_370 rfl (md_in hd (k := 0) rfl) md_at_0 rfl d_M_along_9 ?_
          refine lv_iload_n X.1 X.2.1 d_M_along_12 rfl (lv_at hl 3 rfl) ?_
          refine lv_if_eq (tgt := 20) X.1 X.2.1 d_M_along_13 (by decide) (fun _ => ?_) (fun hc => absurd (by decide) hc)
          refine lv_aload_n X.1 X.2.1 d_M_along_20 rfl (lv_at hl 1 rfl) ?_
          refine hl_get X hK hh (ref := "CycleGroupsModel") i_M (ci := 5) rfl 13 (by decide) w_364 rfl (md_in hd (k := 0) rfl) md_at_0 rfl d_M_along_21 ?_
          refine lv_bipush (v := nI 24) X.1 X.2.1 d_M_along_24 (by decide) ?_
          refine lv_iload_n X.1 X.2.1 d_M_along_26 rfl (lv_at hl 2 rfl) ?_
          refine hn_mul X d_M_along_27 ?_
          refine lv_iload_n X.1 X.2.1 d_M_along_28 rfl (lv_at hl 0 rfl) ?_
          refine hn_add X d_M_along_29 ?_
          refine hl_iald X hK hh (md_in hd (k := 13) rfl) (md_at_13 hd) (by omega) (by decide) d_M_along_30 ?_
          refine lv_iload_n X.1 X.2.1 d_M_along_31 rfl (lv_at hl 3 rfl) ?_
          refine lv_if_eq (tgt := 49) X.1 X.2.1 d_M_along_32 (by decide) (fun _ => ?_) (fun hc => absurd (by decide) hc)
          refine lv_iload_n X.1 X.2.1 d_M_along_49 rfl (lv_at hl 0 rfl) ?_
          refine hl_iastN X hK hh (md_in hd (k := 19) rfl) (md_at_19 hd) (by omega) (by decide) d_M_along_50 (fun H locs hh => ?_)
          have hh : hl_H g (hm_A sz L) s.heap L (mf g d f0 n mm sm kn mk r3 r5 r7 r8 r10 r11 r12 r13 r14 r15 r16 r17 r18 (va_up y (r13 ((24 * a) + i)) i) r20 r21 r22 r23) H locs := md_set_19 hd hh
          refine lv_iinc (v := nI (i + 1)) (lv' := [(3, .int (nI (i + 1))), (0, .ref (d 0)), (1, .int (nI a)), (2, .int (hb false))]) X.1 X.2.1 d_M_along_51 hl (k := 0) rfl (hn_inc _) (by decide) rfl (fun ls hl => ?_)
          refine lv_goto (tgt := 2) X.1 X.2.1 d_M_along_54 (by decide) ?_
          rw [e1] at hh
          refine ih (i + 1) (va_up y (x i) i) H locs ls (by omega) (by omega) (fun p hp h => by rw [hb1] at h; cases h) (fun p hp _ => ?_) hh ?_
          · by_cases e0 : p = i
            · rw [e0, va_up_self]
            · rw [va_up_ne _ _ (fun e3 => e0 (gp_inv_inj (hB2 hb1) e3))]; exact hy2 p (by omega) hb1
          · rw [hb1]; exact hl
  refine lv_iconst (v := nI 0) X.1 X.2.1 d_M_along_0 (by decide) ?_
  refine lv_istore_n (lv' := [(3, .int (nI 0)), (0, .ref (d 0)), (1, .int (nI a)), (2, .int (hb B))]) X.1 X.2.1 d_M_along_1 rfl hl (by decide) rfl (fun ls hl => ?_)
  exact loop 25 0 r19 _ _ ls (by omega) (by omega) (fun p hp => absurd hp (Nat.not_lt_zero _)) (fun p hp => absurd hp (Nat.not_lt_zero _)) hh hl

/-- private int leastMoved() -/
theorem c_M_leastMoved (l : Launch) (g : hl_G) (sz : Nat) (L : List Nat) (d : Nat → Nat) (f0 : Nat → va_E) (hd : md_D L d) (n mm sm kn mk : Nat) (r3 r5 r7 r8 r10 r11 r12 r13 r14 r15 r16 r17 r18 r19 r20 r21 r22 r23 : Nat → Nat) (hw : ∀ p, p < 24 → r18 p < 24) (post : Int32 → List Nat × (Nat → va_E) → Prop) (hpo : ∀ r, (r = -1 ∧ ∀ p, p < 24 → r18 p = p) ∨ (∃ a, a < 24 ∧ r = nI a ∧ r18 a ≠ a ∧ ∀ p, p < a → r18 p = p) → post r (L, mf g d f0 n mm sm kn mk r3 r5 r7 r8 r10 r11 r12 r13 r14 r15 r16 r17 r18 r19 r20 r21 r22 r23)) :
    Met l y_M_leastMoved (hq y_M_leastMoved b_M_leastMoved 2 (some .int)) { frames := 0, cells := 0, slots := 0, locals := 0 } (hm_P g [.ref (d 0)] sz L (mf g d f0 n mm sm kn mk r3 r5 r7 r8 r10 r11 r12 r13 r14 r15 r16 r17 r18 r19 r20 r21 r22 r23)) (va_Qi (post) (hm_B g sz L) (hm_A sz L)) 0 0 (hm_A sz L) := by
  refine hm_ofW (by decide) (Nat.le_of_ble_eq_true rfl) ?_
  intro p e s m below meth c X hr hlk hnm hK hsz hh ls hl
  have hl : lv_has ls 2 [(0, .ref (d 0))] := hl
  have loop : ∀ (t i : Nat) (H : Heap) (locs : List Loc) (ls : Array Slot), 24 + 1 ≤ i + t → i ≤ 24 → (∀ p, p < i → r18 p = p) → hl_H g (hm_A sz L) s.heap L (mf g d f0 n mm sm kn mk r3 r5 r7 r8 r10 r11 r12 r13 r14 r15 r16 r17 r18 r19 r20 r21 r22 r23) H locs → lv_has ls 2 [(1, .int (nI i)), (0, .ref (d 0))] → W p l e { frames := 0, cells := 0, slots := 0, locals := 0 } s m #[.ref (d 0)] below meth c H locs 0 0 (MQ below (va_Qi (post) (hm_B g sz L) (hm_A sz L)) #[.ref (d 0)] s 0 0 (hm_A sz L)) (F0 m 2 ls []) := by
    intro t
    induction t with
    | zero => intros; omega
    | succ t ih =>
      intro i H locs ls hk hin hy hh hl
      refine lv_iload_n X.1 X.2.1 d_M_leastMoved_2 rfl (lv_at hl 0 rfl) ?_
      refine lv_bipush (v := nI 24) X.1 X.2.1 d_M_leastMoved_3 (by decide) ?_
      refine hn_ige (tgt := 26) X (by omega) (by omega) d_M_leastMoved_5 (by decide) (fun hc => ?_) (fun hc => ?_)
      · skip
        refine lv_iconst (v := -1) X.1 X.2.1 d_M_leastMoved_26 (by decide) ?_
        exact hm_iret X hr hlk hh (hpo _ (Or.inl ⟨rfl, fun p hp => hy p (by omega)⟩)) (Nat.le_of_ble_eq_true rfl) (Nat.le_of_ble_eq_true rfl) d_M_leastMoved_27
      · have hi : i < 24 := hc
        have wi := hw i hi
        refine lv_aload_n X.1 X.2.1 d_M_leastMoved_8 rfl (lv_at hl 1 rfl) ?_
        refine hl_get X hK hh (ref := "CycleGroupsModel") i_M (ci := 5) rfl 18 (by decide) w_369 rfl (md_in hd (k := 0) rfl) md_at_0 rfl d_M_leastMoved_9 ?_
        refine lv_iload_n X.1 X.2.1 d_M_leastMoved_12 rfl (lv_at hl 0 rfl) ?_
        refine hl_iald X hK hh (md_in hd (k := 18) rfl) (md_at_18 hd) (by omega) (by decide) d_M_leastMoved_13 ?_
        refine lv_iload_n X.1 X.2.1 d_M_leastMoved_14 rfl (lv_at hl 0 rfl) ?_
        refine hn_ieq (tgt := 20) X (by omega) (by omega) d_M_leastMoved_15 (by decide) (fun hc => ?_) (fun hc => ?_)
        · have hc2 : r18 i = i := hc
          refine lv_iinc (v := nI (i + 1)) (lv' := [(1, .int (nI (i + 1))), (0, .ref (d 0))]) X.1 X.2.1 d_M_leastMoved_20 hl (k := 0) rfl (hn_inc _) (by decide) rfl (fun ls hl => ?_)
          refine lv_goto (tgt := 2) X.1 X.2.1 d_M_leastMoved_23 (by decide) ?_
          refine ih (i + 1) H locs ls (by omega) (by omega) (fun p hp => ?_) hh hl
          by_cases e0 : p = i
          · rw [e0]; exact hc2
          · exact hy p (by omega)
        · have hc2 : ¬ r18 i = i := hc
          refine lv_iload_n X.1 X.2.1 d_M_leastMoved_18 rfl (lv_at hl 0 rfl) ?_
          exact hm_iret X hr hlk hh (hpo _ (Or.inr ⟨i, hi, rfl, hc2, hy⟩)) (Nat.le_of_ble_eq_true rfl) (Nat.le_of_ble_eq_true rfl) d_M_leastMoved_19
  refine lv_iconst (v := nI 0) X.1 X.2.1 d_M_leastMoved_0 (by decide) ?_
  refine lv_istore_n (lv' := [(1, .int (nI 0)), (0, .ref (d 0))]) X.1 X.2.1 d_M_leastMoved_1 rfl hl (by decide) rfl (fun ls hl => ?_)
  exact loop 25 0 _ _ ls (by omega) (by omega) (fun p hp => absurd hp (Nat.not_lt_zero _)) hh hl

/-- private int free() -/
theorem c_M_free (l : Launch) (g : hl_G) (sz : Nat) (L : List Nat) (d : Nat → Nat) (f0 : Nat → va_E) (hd : md_D L d) (n mm sm kn mk : Nat) (r3 r5 r7 r8 r10 r11 r12 r13 r14 r15 r16 r17 r18 r19 r20 r21 r22 r23 : Nat → Nat) (hu : ∀ e, r14 e = 0 ∨ r14 e = 1) (hs : su r14 24 < 24) (post : Int32 → List Nat × (Nat → va_E) → Prop) (hpo : ∀ e, e < 24 → r14 e = 0 → post (nI e) (L, mf g d f0 n mm sm kn mk r3 r5 r7 r8 r10 r11 r12 r13 r14 r15 r16 r17 r18 r19 r20 r21 r22 r23)) :
    Met l y_M_free (hq y_M_free b_M_free 2 (some .int)) { frames := 0, cells := 0, slots := 0, locals := 0 } (hm_P g [.ref (d 0)] sz L (mf g d f0 n mm sm kn mk r3 r5 r7 r8 r10 r11 r12 r13 r14 r15 r16 r17 r18 r19 r20 r21 r22 r23)) (va_Qi (post) (hm_B g sz L) (hm_A sz L)) 0 0 (hm_A sz L) := by
  refine hm_ofW (by decide) (Nat.le_of_ble_eq_true rfl) ?_
  intro p e s m below meth c X hr hlk hnm hK hsz hh ls hl
  have hl : lv_has ls 2 [(0, .ref (d 0))] := hl
  obtain ⟨q, hq, hq0⟩ := su_free hu 24 hs
  have loop : ∀ (t i : Nat) (H : Heap) (locs : List Loc) (ls : Array Slot), q + 1 ≤ i + t → i ≤ q → hl_H g (hm_A sz L) s.heap L (mf g d f0 n mm sm kn mk r3 r5 r7 r8 r10 r11 r12 r13 r14 r15 r16 r17 r18 r19 r20 r21 r22 r23) H locs → lv_has ls 2 [(1, .int (nI i)), (0, .ref (d 0))] → W p l e { frames := 0, cells := 0, slots := 0, locals := 0 } s m #[.ref (d 0)] below meth c H locs 0 0 (MQ below (va_Qi (post) (hm_B g sz L) (hm_A sz L)) #[.ref (d 0)] s 0 0 (hm_A sz L)) (F0 m 2 ls []) := by
    intro t
    induction t with
    | zero => intros; omega
    | succ t ih =>
      intro i H locs ls hk hin hh hl
      have ui := hu i
      refine lv_aload_n X.1 X.2.1 d_M_free_2 rfl (lv_at hl 1 rfl) ?_
      refine hl_get X hK hh (ref := "CycleGroupsModel") i_M (ci := 5) rfl 14 (by decide) w_365 rfl (md_in hd (k := 0) rfl) md_at_0 rfl d_M_free_3 ?_
      refine lv_iload_n X.1 X.2.1 d_M_free_6 rfl (lv_at hl 0 rfl) ?_
      refine hl_zald X hK hh (md_in hd (k := 14) rfl) (md_at_14 hd) (by omega) (by decide) d_M_free_7 ?_
      refine hn_zeq (tgt := 17) X (by omega) d_M_free_8 (by decide) (fun hc => ?_) (fun hc => ?_)
      · have hc : r14 i = 0 := hc
        refine lv_iload_n X.1 X.2.1 d_M_free_17 rfl (lv_at hl 0 rfl) ?_
        exact hm_iret X hr hlk hh (hpo i (by omega) hc) (Nat.le_of_ble_eq_true rfl) (Nat.le_of_ble_eq_true rfl) d_M_free_18
      · have hc : ¬ r14 i = 0 := hc
        have hne : i ≠ q := fun e0 => hc (by rw [e0]; exact hq0)
        refine lv_iinc (v := nI (i + 1)) (lv' := [(1, .int (nI (i + 1))), (0, .ref (d 0))]) X.1 X.2.1 d_M_free_11 hl (k := 0) rfl (hn_inc _) (by decide) rfl (fun ls hl => ?_)
        refine lv_goto (tgt := 2) X.1 X.2.1 d_M_free_14 (by decide) ?_
        exact ih (i + 1) H locs ls (by omega) (by omega) hh hl
  refine lv_iconst (v := nI 0) X.1 X.2.1 d_M_free_0 (by decide) ?_
  refine lv_istore_n (lv' := [(1, .int (nI 0)), (0, .ref (d 0))]) X.1 X.2.1 d_M_free_1 rfl hl (by decide) rfl (fun ls hl => ?_)
  exact loop (q + 1) 0 _ _ ls (by omega) (by omega) hh hl

/-- private void put(int a, int b) -/
theorem c_M_put (l : Launch) (g : hl_G) (sz : Nat) (L : List Nat) (d : Nat → Nat) (f0 : Nat → va_E) (hd : md_D L d) (n mm sm kn mk : Nat) (r3 r5 r7 r8 r10 r11 r12 r13 r14 r15 r16 r17 r18 r19 r20 r21 r22 r23 : Nat → Nat) (a b : Nat) (ha : a < 24) (hb0 : b < 24) (hw : ∀ p, p < 24 → r18 p < 24) (hu : ∀ e, r14 e = 0 ∨ r14 e = 1) (hs : su r14 24 < 24) (post : List Nat × (Nat → va_E) → Prop) (hpo : ∀ e, e < 24 → r14 e = 0 → post (L, mf g d f0 n mm sm kn mk r3 r5 r7 r8 r10 (va_up r11 e a) (va_up r12 e b) (fw r13 e r18 24) (va_up r14 e 1) r15 r16 r17 r18 r19 r20 r21 r22 r23)) :
    Met l y_M_put (hq y_M_put b_M_put 5 none) { frames := 0, cells := 0, slots := 0, locals := 0 } (hm_P g [.ref (d 0), .int (nI a), .int (nI b)] sz L (mf g d f0 n mm sm kn mk r3 r5 r7 r8 r10 r11 r12 r13 r14 r15 r16 r17 r18 r19 r20 r21 r22 r23)) (va_Qv (post) (hm_B g sz L) (hm_A sz L)) 0 0 (hm_A sz L) := by
  refine hm_ofW (by decide) (Nat.le_of_ble_eq_true rfl) ?_
  intro p e s m below meth c X hr hlk hnm hK hsz hh ls hl
  have hl : lv_has ls 5 [(0, .ref (d 0)), (1, .int (nI a)), (2, .int (nI b))] := hl
  obtain ⟨q, hq, hq0⟩ := su_free hu 24 hs
  have loop2 : ∀ (v : Nat), v < 24 → r14 v = 0 → ∀ (t i : Nat) (H : Heap) (locs : List Loc) (ls : Array Slot), 24 + 1 ≤ i + t → i ≤ 24 → hl_H g (hm_A sz L) s.heap L (mf g d f0 n mm sm kn mk r3 r5 r7 r8 r10 (va_up r11 v a) (va_up r12 v b) (fw r13 v r18 i) (va_up r14 v 1) r15 r16 r17 r18 r19 r20 r21 r22 r23) H locs → lv_has ls 5 [(4, .int (nI i)), (3, .int (nI v)), (0, .ref (d 0)), (1, .int (nI a)), (2, .int (nI b))] → W p l e { frames := 0, cells := 0, slots := 0, locals := 0 } s m #[.ref (d 0), .int (nI a), .int (nI b)] below meth c H locs 0 0 (MQ below (va_Qv (post) (hm_B g sz L) (hm_A sz L)) #[.ref (d 0), .int (nI a), .int (nI b)] s 0 0 (hm_A sz L)) (F0 m 41 ls []) := by
    intro v hv hv0 t
    induction t with
    | zero => intros; omega
    | succ t ih =>
      intro i H locs ls hk hin hh hl
      refine lv_iload X.1 X.2.1 d_M_put_41 (lv_at hl 0 rfl) ?_
      refine lv_bipush (v := nI 24) X.1 X.2.1 d_M_put_43 (by decide) ?_
      refine hn_ige (tgt := 73) X (by omega) (by omega) d_M_put_45 (by decide) (fun hc => ?_) (fun hc => ?_)
      · have hi : i = 24 := by omega
        rw [hi] at hh
        exact hm_vret X hr hlk hh (hpo v hv hv0) (Nat.le_of_ble_eq_true rfl) (Nat.le_of_ble_eq_true rfl) d_M_put_73
      · have hi : i < 24 := hc
        have wi := hw i hi
        refine lv_aload_n X.1 X.2.1 d_M_put_48 rfl (lv_at hl 2 rfl) ?_
        refine hl_get X hK hh (ref := "CycleGroupsModel") i_M (ci := 5) rfl 13 (by decide) w_364 rfl (md_in hd (k := 0) rfl) md_at_0 rfl d_M_put_49 ?_
        refine lv_bipush (v := nI 24) X.1 X.2.1 d_M_put_52 (by decide) ?_
        refine lv_iload_n X.1 X.2.1 d_M_put_54 rfl (lv_at hl 1 rfl) ?_
        refine hn_mul X d_M_put_55 ?_
        refine lv_iload X.1 X.2.1 d_M_put_56 (lv_at hl 0 rfl) ?_
        refine hn_add X d_M_put_58 ?_
        refine lv_aload_n X.1 X.2.1 d_M_put_59 rfl (lv_at hl 2 rfl) ?_
        refine hl_get X hK hh (ref := "CycleGroupsModel") i_M (ci := 5) rfl 18 (by decide) w_369 rfl (md_in hd (k := 0) rfl) md_at_0 rfl d_M_put_60 ?_
        refine lv_iload X.1 X.2.1 d_M_put_63 (lv_at hl 0 rfl) ?_
        refine hl_iald X hK hh (md_in hd (k := 18) rfl) (md_at_18 hd) (by omega) (by decide) d_M_put_65 ?_
        refine hl_iastN X hK hh (md_in hd (k := 13) rfl) (md_at_13 hd) (by omega) (by decide) d_M_put_66 (fun H locs hh => ?_)
        have hh : hl_H g (hm_A sz L) s.heap L (mf g d f0 n mm sm kn mk r3 r5 r7 r8 r10 (va_up r11 v a) (va_up r12 v b) (va_up (fw r13 v r18 i) ((24 * v) + i) (r18 i)) (va_up r14 v 1) r15 r16 r17 r18 r19 r20 r21 r22 r23) H locs := md_set_13 hd hh
        refine lv_iinc (v := nI (i + 1)) (lv' := [(4, .int (nI (i + 1))), (3, .int (nI v)), (0, .ref (d 0)), (1, .int (nI a)), (2, .int (nI b))]) X.1 X.2.1 d_M_put_67 hl (k := 0) rfl (hn_inc _) (by decide) rfl (fun ls hl => ?_)
        refine lv_goto (tgt := 41) X.1 X.2.1 d_M_put_70 (by decide) ?_
        rw [fw_s] at hh
        exact ih (i + 1) H locs ls (by omega) (by omega) hh hl
  have loop : ∀ (t i : Nat) (H : Heap) (locs : List Loc) (ls : Array Slot), q + 1 ≤ i + t → i ≤ q → hl_H g (hm_A sz L) s.heap L (mf g d f0 n mm sm kn mk r3 r5 r7 r8 r10 r11 r12 r13 r14 r15 r16 r17 r18 r19 r20 r21 r22 r23) H locs → lv_has ls 5 [(3, .int (nI i)), (0, .ref (d 0)), (1, .int (nI a)), (2, .int (nI b))] → W p l e { frames := 0, cells := 0, slots := 0, locals := 0 } s m #[.ref (d 0), .int (nI a), .int (nI b)] below meth c H locs 0 0 (MQ below (va_Qv (post) (hm_B g sz L) (hm_A sz L)) #[.ref (d 0), .int (nI a), .int (nI b)] s 0 0 (hm_A sz L)) (F0 m 2 ls []) := by
    intro t
    induction t with
    | zero => intros; omega
    | succ t ih =>
      intro i H locs ls hk hin hh hl
      have ui := hu i
      refine lv_aload_n X.1 X.2.1 d_M_put_2 rfl (lv_at hl 1 rfl) ?_
      refine hl_get X hK hh (ref := "CycleGroupsModel") i_M (ci := 5) rfl 14 (by decide) w_365 rfl (md_in hd (k := 0) rfl) md_at_0 rfl d_M_put_3 ?_
      refine lv_iload_n X.1 X.2.1 d_M_put_6 rfl (lv_at hl 0 rfl) ?_
      refine hl_zald X hK hh (md_in hd (k := 14) rfl) (md_at_14 hd) (by omega) (by decide) d_M_put_7 ?_
      refine hn_zeq (tgt := 17) X (by omega) d_M_put_8 (by decide) (fun hc => ?_) (fun hc => ?_)
      · have hc : r14 i = 0 := hc
        refine lv_aload_n X.1 X.2.1 d_M_put_17 rfl (lv_at hl 1 rfl) ?_
        refine hl_get X hK hh (ref := "CycleGroupsModel") i_M (ci := 5) rfl 14 (by decide) w_365 rfl (md_in hd (k := 0) rfl) md_at_0 rfl d_M_put_18 ?_
        refine lv_iload_n X.1 X.2.1 d_M_put_21 rfl (lv_at hl 0 rfl) ?_
        refine lv_iconst (v := nI 1) X.1 X.2.1 d_M_put_22 (by decide) ?_
        refine hl_zastN X hK hh (md_in hd (k := 14) rfl) (md_at_14 hd) (by omega) (by decide) (by first | exact Or.inl rfl | exact Or.inr rfl) d_M_put_23 (fun H locs hh => ?_)
        have hh : hl_H g (hm_A sz L) s.heap L (mf g d f0 n mm sm kn mk r3 r5 r7 r8 r10 r11 r12 r13 (va_up r14 i 1) r15 r16 r17 r18 r19 r20 r21 r22 r23) H locs := md_set_14 hd hh
        refine lv_aload_n X.1 X.2.1 d_M_put_24 rfl (lv_at hl 1 rfl) ?_
        refine hl_get X hK hh (ref := "CycleGroupsModel") i_M (ci := 5) rfl 11 (by decide) w_362 rfl (md_in hd (k := 0) rfl) md_at_0 rfl d_M_put_25 ?_
        refine lv_iload_n X.1 X.2.1 d_M_put_28 rfl (lv_at hl 0 rfl) ?_
        refine lv_iload_n X.1 X.2.1 d_M_put_29 rfl (lv_at hl 2 rfl) ?_
        refine hl_iastN X hK hh (md_in hd (k := 11) rfl) (md_at_11 hd) (by omega) (by decide) d_M_put_30 (fun H locs hh => ?_)
        have hh : hl_H g (hm_A sz L) s.heap L (mf g d f0 n mm sm kn mk r3 r5 r7 r8 r10 (va_up r11 i a) r12 r13 (va_up r14 i 1) r15 r16 r17 r18 r19 r20 r21 r22 r23) H locs := md_set_11 hd hh
        refine lv_aload_n X.1 X.2.1 d_M_put_31 rfl (lv_at hl 1 rfl) ?_
        refine hl_get X hK hh (ref := "CycleGroupsModel") i_M (ci := 5) rfl 12 (by decide) w_363 rfl (md_in hd (k := 0) rfl) md_at_0 rfl d_M_put_32 ?_
        refine lv_iload_n X.1 X.2.1 d_M_put_35 rfl (lv_at hl 0 rfl) ?_
        refine lv_iload_n X.1 X.2.1 d_M_put_36 rfl (lv_at hl 3 rfl) ?_
        refine hl_iastN X hK hh (md_in hd (k := 12) rfl) (md_at_12 hd) (by omega) (by decide) d_M_put_37 (fun H locs hh => ?_)
        have hh : hl_H g (hm_A sz L) s.heap L (mf g d f0 n mm sm kn mk r3 r5 r7 r8 r10 (va_up r11 i a) (va_up r12 i b) r13 (va_up r14 i 1) r15 r16 r17 r18 r19 r20 r21 r22 r23) H locs := md_set_12 hd hh
        refine lv_iconst (v := nI 0) X.1 X.2.1 d_M_put_38 (by decide) ?_
        refine lv_istore (lv' := [(4, .int (nI 0)), (3, .int (nI i)), (0, .ref (d 0)), (1, .int (nI a)), (2, .int (nI b))]) X.1 X.2.1 d_M_put_39 hl (by decide) rfl (fun ls hl => ?_)
        refine loop2 i (by omega) hc 25 0 _ _ ls (by omega) (by omega) ?_ hl
        rw [fw_0]; exact hh
      · have hc : ¬ r14 i = 0 := hc
        have hne : i ≠ q := fun e0 => hc (by rw [e0]; exact hq0)
        refine lv_iinc (v := nI (i + 1)) (lv' := [(3, .int (nI (i + 1))), (0, .ref (d 0)), (1, .int (nI a)), (2, .int (nI b))]) X.1 X.2.1 d_M_put_11 hl (k := 0) rfl (hn_inc _) (by decide) rfl (fun ls hl => ?_)
        refine lv_goto (tgt := 2) X.1 X.2.1 d_M_put_14 (by decide) ?_
        exact ih (i + 1) H locs ls (by omega) (by omega) hh hl
  refine lv_iconst (v := nI 0) X.1 X.2.1 d_M_put_0 (by decide) ?_
  refine lv_istore_n (lv' := [(3, .int (nI 0)), (0, .ref (d 0)), (1, .int (nI a)), (2, .int (nI b))]) X.1 X.2.1 d_M_put_1 rfl hl (by decide) rfl (fun ls hl => ?_)
  exact loop (q + 1) 0 _ _ ls (by omega) (by omega) hh hl

/-- private int edgeBetween(int a, int b, int but) -/
theorem c_M_edgeBetween (l : Launch) (g : hl_G) (sz : Nat) (L : List Nat) (d : Nat → Nat) (f0 : Nat → va_E) (hd : md_D L d) (n mm sm kn mk : Nat) (r3 r5 r7 r8 r10 r11 r12 r13 r14 r15 r16 r17 r18 r19 r20 r21 r22 r23 : Nat → Nat) (a b c0 v : Nat) (ha : a < 24) (hb0 : b < 24) (hc0 : c0 < 24) (hv : v < 24) (hu : ∀ e, r14 e = 0 ∨ r14 e = 1) (hlb : ∀ e, e < 24 → r14 e = 1 → r11 e < 24 ∧ r12 e < 24)
    (hv1 : r14 v = 1) (hvc : v ≠ c0) (hj : jf_J r11 r12 v a b) (hl0 : ∀ e, e < v → r14 e = 1 → e ≠ c0 → ¬ jf_J r11 r12 e a b) :
    Met l y_M_edgeBetween (hq y_M_edgeBetween b_M_edgeBetween 5 (some .int)) { frames := 0, cells := 0, slots := 0, locals := 0 } (hm_P g [.ref (d 0), .int (nI a), .int (nI b), .int (nI c0)] sz L (mf g d f0 n mm sm kn mk r3 r5 r7 r8 r10 r11 r12 r13 r14 r15 r16 r17 r18 r19 r20 r21 r22 r23)) (va_Qi (fun r u => r = nI v ∧ u = (L, mf g d f0 n mm sm kn mk r3 r5 r7 r8 r10 r11 r12 r13 r14 r15 r16 r17 r18 r19 r20 r21 r22 r23)) (hm_B g sz L) (hm_A sz L)) 0 0 (hm_A sz L) := by
  refine hm_ofW (by decide) (Nat.le_of_ble_eq_true rfl) ?_
  intro p e s m below meth c X hr hlk hnm hK hsz hh ls hl
  have hl : lv_has ls 5 [(0, .ref (d 0)), (1, .int (nI a)), (2, .int (nI b)), (3, .int (nI c0))] := hl
  have loop : ∀ (t i : Nat) (H : Heap) (locs : List Loc) (ls : Array Slot), v + 1 ≤ i + t → i ≤ v → hl_H g (hm_A sz L) s.heap L (mf g d f0 n mm sm kn mk r3 r5 r7 r8 r10 r11 r12 r13 r14 r15 r16 r17 r18 r19 r20 r21 r22 r23) H locs → lv_has ls 5 [(4, .int (nI i)), (0, .ref (d 0)), (1, .int (nI a)), (2, .int (nI b)), (3, .int (nI c0))] → W p l e { frames := 0, cells := 0, slots := 0, locals := 0 } s m #[.ref (d 0), .int (nI a), .int (nI b), .int (nI c0)] below meth c H locs 0 0 (MQ below (va_Qi (fun r u => r = nI v ∧ u = (L, mf g d f0 n mm sm kn mk r3 r5 r7 r8 r10 r11 r12 r13 r14 r15 r16 r17 r18 r19 r20 r21 r22 r23)) (hm_B g sz L) (hm_A sz L)) #[.ref (d 0), .int (nI a), .int (nI b), .int (nI c0)] s 0 0 (hm_A sz L)) (F0 m 3 ls []) := by
    intro t
    induction t with
    | zero => intros; omega
    | succ t ih =>
      intro i H locs ls hk hin hh hl
      have nx0 : i ≠ v → W p l e { frames := 0, cells := 0, slots := 0, locals := 0 } s m #[.ref (d 0), .int (nI a), .int (nI b), .int (nI c0)] below meth c H locs 0 0 (MQ below (va_Qi (fun r u => r = nI v ∧ u = (L, mf g d f0 n mm sm kn mk r3 r5 r7 r8 r10 r11 r12 r13 r14 r15 r16 r17 r18 r19 r20 r21 r22 r23)) (hm_B g sz L) (hm_A sz L)) #[.ref (d 0), .int (nI a), .int (nI b), .int (nI c0)] s 0 0 (hm_A sz L)) (F0 m 73 ls []) := by
        intro hne
        refine lv_iinc (v := nI (i + 1)) (lv' := [(4, .int (nI (i + 1))), (0, .ref (d 0)), (1, .int (nI a)), (2, .int (nI b)), (3, .int (nI c0))]) X.1 X.2.1 d_M_edgeBetween_73 hl (k := 0) rfl (hn_inc _) (by decide) rfl (fun ls hl => ?_)
        refine lv_goto (tgt := 3) X.1 X.2.1 d_M_edgeBetween_76 (by decide) ?_
        exact ih (i + 1) H locs _ (by omega) (by omega) hh hl
      have ui := hu i
      have li := hlb i (by omega)
      refine lv_iload X.1 X.2.1 d_M_edgeBetween_3 (lv_at hl 0 rfl) ?_
      refine lv_bipush (v := nI 24) X.1 X.2.1 d_M_edgeBetween_5 (by decide) ?_
      refine hn_ige (tgt := 79) X (by omega) (by omega) d_M_edgeBetween_7 (by decide) (fun hc => ?_) (fun hc => ?_)
      · omega
      refine lv_aload_n X.1 X.2.1 d_M_edgeBetween_10 rfl (lv_at hl 1 rfl) ?_
      refine hl_get X hK hh (ref := "CycleGroupsModel") i_M (ci := 5) rfl 14 (by decide) w_365 rfl (md_in hd (k := 0) rfl) md_at_0 rfl d_M_edgeBetween_11 ?_
      refine lv_iload X.1 X.2.1 d_M_edgeBetween_14 (lv_at hl 0 rfl) ?_
      refine hl_zald X hK hh (md_in hd (k := 14) rfl) (md_at_14 hd) (by omega) (by decide) d_M_edgeBetween_16 ?_
      refine hn_zeq (tgt := 73) X (by omega) d_M_edgeBetween_17 (by decide) (fun hc => ?_) (fun hc => ?_)
      · have hc : r14 i = 0 := hc
        exact nx0 (fun e0 => by rw [e0, hv1] at hc; omega)
      have hc1 : ¬ r14 i = 0 := hc
      have hc1 : r14 i = 1 := by omega
      obtain ⟨l1, l2⟩ := li hc1
      refine lv_iload X.1 X.2.1 d_M_edgeBetween_20 (lv_at hl 0 rfl) ?_
      refine lv_iload_n X.1 X.2.1 d_M_edgeBetween_22 rfl (lv_at hl 4 rfl) ?_
      refine hn_ieq (tgt := 73) X (by omega) (by omega) d_M_edgeBetween_23 (by decide) (fun hc => ?_) (fun hc => ?_)
      · have hc : i = c0 := hc
        exact nx0 (fun e0 => hvc (by omega))
      have hc2 : ¬ i = c0 := hc
      have good : jf_J r11 r12 i a b → W p l e { frames := 0, cells := 0, slots := 0, locals := 0 } s m #[.ref (d 0), .int (nI a), .int (nI b), .int (nI c0)] below meth c H locs 0 0 (MQ below (va_Qi (fun r u => r = nI v ∧ u = (L, mf g d f0 n mm sm kn mk r3 r5 r7 r8 r10 r11 r12 r13 r14 r15 r16 r17 r18 r19 r20 r21 r22 r23)) (hm_B g sz L) (hm_A sz L)) #[.ref (d 0), .int (nI a), .int (nI b), .int (nI c0)] s 0 0 (hm_A sz L)) (F0 m 70 ls []) := by
        intro h
        have ev : i = v := by
          rcases Nat.lt_or_eq_of_le hin with h1 | h1
          · exact absurd h (hl0 i h1 hc1 hc2)
          · exact h1
        subst ev
        refine lv_iload X.1 X.2.1 d_M_edgeBetween_70 (lv_at hl 0 rfl) ?_
        exact hm_iret X hr hlk hh ⟨rfl, rfl⟩ (Nat.le_of_ble_eq_true rfl) (Nat.le_of_ble_eq_true rfl) d_M_edgeBetween_72
      have bad : ¬ jf_J r11 r12 i a b → W p l e { frames := 0, cells := 0, slots := 0, locals := 0 } s m #[.ref (d 0), .int (nI a), .int (nI b), .int (nI c0)] below meth c H locs 0 0 (MQ below (va_Qi (fun r u => r = nI v ∧ u = (L, mf g d f0 n mm sm kn mk r3 r5 r7 r8 r10 r11 r12 r13 r14 r15 r16 r17 r18 r19 r20 r21 r22 r23)) (hm_B g sz L) (hm_A sz L)) #[.ref (d 0), .int (nI a), .int (nI b), .int (nI c0)] s 0 0 (hm_A sz L)) (F0 m 73 ls []) := fun h => nx0 (fun e0 => h (by rw [e0]; exact hj))
      have second : ¬ (r11 i = a ∧ r12 i = b) → W p l e { frames := 0, cells := 0, slots := 0, locals := 0 } s m #[.ref (d 0), .int (nI a), .int (nI b), .int (nI c0)] below meth c H locs 0 0 (MQ below (va_Qi (fun r u => r = nI v ∧ u = (L, mf g d f0 n mm sm kn mk r3 r5 r7 r8 r10 r11 r12 r13 r14 r15 r16 r17 r18 r19 r20 r21 r22 r23)) (hm_B g sz L) (hm_A sz L)) #[.ref (d 0), .int (nI a), .int (nI b), .int (nI c0)] s 0 0 (hm_A sz L)) (F0 m 48 ls []) := by
        intro h
        refine lv_aload_n X.1 X.2.1 d_M_edgeBetween_48 rfl (lv_at hl 1 rfl) ?_
        refine hl_get X hK hh (ref := "CycleGroupsModel") i_M (ci := 5) rfl 11 (by decide) w_362 rfl (md_in hd (k := 0) rfl) md_at_0 rfl d_M_edgeBetween_49 ?_
        refine lv_iload X.1 X.2.1 d_M_edgeBetween_52 (lv_at hl 0 rfl) ?_
        refine hl_iald X hK hh (md_in hd (k := 11) rfl) (md_at_11 hd) (by omega) (by decide) d_M_edgeBetween_54 ?_
        refine lv_iload_n X.1 X.2.1 d_M_edgeBetween_55 rfl (lv_at hl 3 rfl) ?_
        refine hn_ine (tgt := 73) X (by omega) (by omega) d_M_edgeBetween_56 (by decide) (fun hc => ?_) (fun hc => ?_)
        · have hc : ¬ r11 i = b := hc
          exact bad (fun hh2 => by rcases hh2 with q | q; exact h q; exact hc q.1)
        have hc3 : r11 i = b := hc
        refine lv_aload_n X.1 X.2.1 d_M_edgeBetween_59 rfl (lv_at hl 1 rfl) ?_
        refine hl_get X hK hh (ref := "CycleGroupsModel") i_M (ci := 5) rfl 12 (by decide) w_363 rfl (md_in hd (k := 0) rfl) md_at_0 rfl d_M_edgeBetween_60 ?_
        refine lv_iload X.1 X.2.1 d_M_edgeBetween_63 (lv_at hl 0 rfl) ?_
        refine hl_iald X hK hh (md_in hd (k := 12) rfl) (md_at_12 hd) (by omega) (by decide) d_M_edgeBetween_65 ?_
        refine lv_iload_n X.1 X.2.1 d_M_edgeBetween_66 rfl (lv_at hl 2 rfl) ?_
        refine hn_ine (tgt := 73) X (by omega) (by omega) d_M_edgeBetween_67 (by decide) (fun hc => ?_) (fun hc => ?_)
        · have hc : ¬ r12 i = a := hc
          exact bad (fun hh2 => by rcases hh2 with q | q; exact h q; exact hc q.2)
        have hc4 : r12 i = a := hc
        exact good (Or.inr ⟨hc3, hc4⟩)
      refine lv_aload_n X.1 X.2.1 d_M_edgeBetween_26 rfl (lv_at hl 1 rfl) ?_
      refine hl_get X hK hh (ref := "CycleGroupsModel") i_M (ci := 5) rfl 11 (by decide) w_362 rfl (md_in hd (k := 0) rfl) md_at_0 rfl d_M_edgeBetween_27 ?_
      refine lv_iload X.1 X.2.1 d_M_edgeBetween_30 (lv_at hl 0 rfl) ?_
      refine hl_iald X hK hh (md_in hd (k := 11) rfl) (md_at_11 hd) (by omega) (by decide) d_M_edgeBetween_32 ?_
      refine lv_iload_n X.1 X.2.1 d_M_edgeBetween_33 rfl (lv_at hl 2 rfl) ?_
      refine hn_ine (tgt := 48) X (by omega) (by omega) d_M_edgeBetween_34 (by decide) (fun hc => ?_) (fun hc => ?_)
      · have hc : ¬ r11 i = a := hc
        exact second (fun q => hc q.1)
      have hc3 : r11 i = a := hc
      refine lv_aload_n X.1 X.2.1 d_M_edgeBetween_37 rfl (lv_at hl 1 rfl) ?_
      refine hl_get X hK hh (ref := "CycleGroupsModel") i_M (ci := 5) rfl 12 (by decide) w_363 rfl (md_in hd (k := 0) rfl) md_at_0 rfl d_M_edgeBetween_38 ?_
      refine lv_iload X.1 X.2.1 d_M_edgeBetween_41 (lv_at hl 0 rfl) ?_
      refine hl_iald X hK hh (md_in hd (k := 12) rfl) (md_at_12 hd) (by omega) (by decide) d_M_edgeBetween_43 ?_
      refine lv_iload_n X.1 X.2.1 d_M_edgeBetween_44 rfl (lv_at hl 3 rfl) ?_
      refine hn_ieq (tgt := 70) X (by omega) (by omega) d_M_edgeBetween_45 (by decide) (fun hc => ?_) (fun hc => ?_)
      · have hc : r12 i = b := hc
        exact good (Or.inl ⟨hc3, hc⟩)
      have hc4 : ¬ r12 i = b := hc
      exact second (fun q => hc4 q.2)
  refine lv_iconst (v := nI 0) X.1 X.2.1 d_M_edgeBetween_0 (by decide) ?_
  refine lv_istore (lv' := [(4, .int (nI 0)), (0, .ref (d 0)), (1, .int (nI a)), (2, .int (nI b)), (3, .int (nI c0))]) X.1 X.2.1 d_M_edgeBetween_1 hl (by decide) rfl (fun ls hl => ?_)
  exact loop (v + 1) 0 _ _ _ (by omega) (by omega) hh hl

end

