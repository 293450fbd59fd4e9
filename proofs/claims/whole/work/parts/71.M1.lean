/-! The reference: the simple methods. -/
section
theorem c_M_isPlace (l : Launch) (g : hl_G) (sz : Nat) (L : List Nat) (d : Nat → Nat) (f0 : Nat → va_E) (hd : md_D L d) (n mm sm kn mk : Nat) (r3 r5 r7 r8 r10 r11 r12 r13 r14 r15 r16 r17 r18 r19 r20 r21 r22 r23 : Nat → Nat) (q : Int32) (hn : n < 2 ^ 31) :
    Met l y_M_isPlace (hq y_M_isPlace b_M_isPlace 2 (some .boolean)) { frames := 0, cells := 0, slots := 0, locals := 0 } (hm_P g [.ref (d 0), .int q] sz L (mf g d f0 n mm sm kn mk r3 r5 r7 r8 r10 r11 r12 r13 r14 r15 r16 r17 r18 r19 r20 r21 r22 r23)) (va_Qi (fun r u => r = hb (ip q n) ∧ u = (L, mf g d f0 n mm sm kn mk r3 r5 r7 r8 r10 r11 r12 r13 r14 r15 r16 r17 r18 r19 r20 r21 r22 r23)) (hm_B g sz L) (hm_A sz L)) 0 0 (hm_A sz L) := by
  refine hm_ofW (by decide) (Nat.le_of_ble_eq_true rfl) ?_
  intro p e s m below meth c X hr hlk hnm hK hsz hh ls hl
  have hl : lv_has ls 2 [(0, .ref (d 0)), (1, .int q)] := hl
  refine lv_iload_n X.1 X.2.1 d_M_isPlace_0 rfl (lv_at hl 1 rfl) ?_
  refine lv_if_lt (tgt := 16) X.1 X.2.1 d_M_isPlace_1 (by decide) (fun hc => ?_) (fun hc => ?_)
  · skip
    refine lv_iconst (v := nI 0) X.1 X.2.1 d_M_isPlace_16 (by decide) ?_
    exact hm_zret X hr hlk hh (Or.inl rfl) ⟨by rw [ip_neg hc]; rfl, rfl⟩ (Nat.le_of_ble_eq_true rfl) (Nat.le_of_ble_eq_true rfl) d_M_isPlace_17
  · rcases pk_ix q hn with h0 | h0 | ⟨j, hj, rfl⟩
    · exact absurd h0 hc
    · skip
      refine lv_iload_n X.1 X.2.1 d_M_isPlace_4 rfl (lv_at hl 1 rfl) ?_
      refine lv_aload_n X.1 X.2.1 d_M_isPlace_5 rfl (lv_at hl 0 rfl) ?_
      refine hl_get X hK hh (ref := "CycleGroupsModel") i_M (ci := 5) rfl 0 (by decide) w_352 rfl (md_in hd (k := 0) rfl) md_at_0 rfl d_M_isPlace_6 ?_
      refine lv_icmp_ge (tgt := 16) X.1 X.2.1 d_M_isPlace_9 (by decide) (fun hc => ?_) (fun hc => ?_)
      · skip
        refine lv_iconst (v := nI 0) X.1 X.2.1 d_M_isPlace_16 (by decide) ?_
        exact hm_zret X hr hlk hh (Or.inl rfl) ⟨by rw [ip_big h0]; rfl, rfl⟩ (Nat.le_of_ble_eq_true rfl) (Nat.le_of_ble_eq_true rfl) d_M_isPlace_17
      · exact absurd h0 hc
    · skip
      refine lv_iload_n X.1 X.2.1 d_M_isPlace_4 rfl (lv_at hl 1 rfl) ?_
      refine lv_aload_n X.1 X.2.1 d_M_isPlace_5 rfl (lv_at hl 0 rfl) ?_
      refine hl_get X hK hh (ref := "CycleGroupsModel") i_M (ci := 5) rfl 0 (by decide) w_352 rfl (md_in hd (k := 0) rfl) md_at_0 rfl d_M_isPlace_6 ?_
      refine hn_ige (tgt := 16) X (by omega) (by omega) d_M_isPlace_9 (by decide) (fun hc => ?_) (fun hc => ?_)
      · omega
      · skip
        refine lv_iconst (v := nI 1) X.1 X.2.1 d_M_isPlace_12 (by decide) ?_
        refine lv_goto (tgt := 17) X.1 X.2.1 d_M_isPlace_13 (by decide) ?_
        exact hm_zret X hr hlk hh (Or.inr rfl) ⟨by rw [ip_in hn hj]; rfl, rfl⟩ (Nat.le_of_ble_eq_true rfl) (Nat.le_of_ble_eq_true rfl) d_M_isPlace_17
theorem c_M_isState (l : Launch) (g : hl_G) (sz : Nat) (L : List Nat) (d : Nat → Nat) (f0 : Nat → va_E) (hd : md_D L d) (n mm sm kn mk : Nat) (r3 r5 r7 r8 r10 r11 r12 r13 r14 r15 r16 r17 r18 r19 r20 r21 r22 r23 : Nat → Nat) (q : Int32) (hn : sm < 2 ^ 31) :
    Met l y_M_isState (hq y_M_isState b_M_isState 2 (some .boolean)) { frames := 0, cells := 0, slots := 0, locals := 0 } (hm_P g [.ref (d 0), .int q] sz L (mf g d f0 n mm sm kn mk r3 r5 r7 r8 r10 r11 r12 r13 r14 r15 r16 r17 r18 r19 r20 r21 r22 r23)) (va_Qi (fun r u => r = hb (ip q sm) ∧ u = (L, mf g d f0 n mm sm kn mk r3 r5 r7 r8 r10 r11 r12 r13 r14 r15 r16 r17 r18 r19 r20 r21 r22 r23)) (hm_B g sz L) (hm_A sz L)) 0 0 (hm_A sz L) := by
  refine hm_ofW (by decide) (Nat.le_of_ble_eq_true rfl) ?_
  intro p e s m below meth c X hr hlk hnm hK hsz hh ls hl
  have hl : lv_has ls 2 [(0, .ref (d 0)), (1, .int q)] := hl
  refine lv_iload_n X.1 X.2.1 d_M_isState_0 rfl (lv_at hl 1 rfl) ?_
  refine lv_if_lt (tgt := 16) X.1 X.2.1 d_M_isState_1 (by decide) (fun hc => ?_) (fun hc => ?_)
  · skip
    refine lv_iconst (v := nI 0) X.1 X.2.1 d_M_isState_16 (by decide) ?_
    exact hm_zret X hr hlk hh (Or.inl rfl) ⟨by rw [ip_neg hc]; rfl, rfl⟩ (Nat.le_of_ble_eq_true rfl) (Nat.le_of_ble_eq_true rfl) d_M_isState_17
  · rcases pk_ix q hn with h0 | h0 | ⟨j, hj, rfl⟩
    · exact absurd h0 hc
    · skip
      refine lv_iload_n X.1 X.2.1 d_M_isState_4 rfl (lv_at hl 1 rfl) ?_
      refine lv_aload_n X.1 X.2.1 d_M_isState_5 rfl (lv_at hl 0 rfl) ?_
      refine hl_get X hK hh (ref := "CycleGroupsModel") i_M (ci := 5) rfl 4 (by decide) w_355 rfl (md_in hd (k := 0) rfl) md_at_0 rfl d_M_isState_6 ?_
      refine lv_icmp_ge (tgt := 16) X.1 X.2.1 d_M_isState_9 (by decide) (fun hc => ?_) (fun hc => ?_)
      · skip
        refine lv_iconst (v := nI 0) X.1 X.2.1 d_M_isState_16 (by decide) ?_
        exact hm_zret X hr hlk hh (Or.inl rfl) ⟨by rw [ip_big h0]; rfl, rfl⟩ (Nat.le_of_ble_eq_true rfl) (Nat.le_of_ble_eq_true rfl) d_M_isState_17
      · exact absurd h0 hc
    · skip
      refine lv_iload_n X.1 X.2.1 d_M_isState_4 rfl (lv_at hl 1 rfl) ?_
      refine lv_aload_n X.1 X.2.1 d_M_isState_5 rfl (lv_at hl 0 rfl) ?_
      refine hl_get X hK hh (ref := "CycleGroupsModel") i_M (ci := 5) rfl 4 (by decide) w_355 rfl (md_in hd (k := 0) rfl) md_at_0 rfl d_M_isState_6 ?_
      refine hn_ige (tgt := 16) X (by omega) (by omega) d_M_isState_9 (by decide) (fun hc => ?_) (fun hc => ?_)
      · omega
      · skip
        refine lv_iconst (v := nI 1) X.1 X.2.1 d_M_isState_12 (by decide) ?_
        refine lv_goto (tgt := 17) X.1 X.2.1 d_M_isState_13 (by decide) ?_
        exact hm_zret X hr hlk hh (Or.inr rfl) ⟨by rw [ip_in hn hj]; rfl, rfl⟩ (Nat.le_of_ble_eq_true rfl) (Nat.le_of_ble_eq_true rfl) d_M_isState_17

/-- a row of 24 within a longer one -/
def fr (z : Nat → Nat) (i : Nat) (σ : Nat → Nat) : Prop := ∀ p, p < 24 → z (24 * i + p) = σ p
/-- .. written: at 24 i + p for p < k stands σ -/
def fw (z : Nat → Nat) (i : Nat) (σ : Nat → Nat) (k : Nat) : Nat → Nat := fun q => if 24 * i ≤ q ∧ q < 24 * i + k then σ (q - 24 * i) else z q
theorem fw_0 (z : Nat → Nat) (i : Nat) (σ : Nat → Nat) : fw z i σ 0 = z := by
  funext q; unfold fw; rw [if_neg (by omega)]
theorem fw_s (z : Nat → Nat) (i : Nat) (σ : Nat → Nat) (k : Nat) : va_up (fw z i σ k) (24 * i + k) (σ k) = fw z i σ (k + 1) := by
  funext q
  by_cases e : q = 24 * i + k
  · rw [e, va_up_self]; unfold fw; rw [if_pos (by omega), show 24 * i + k - 24 * i = k by omega]
  · rw [va_up_ne _ _ e]; unfold fw
    by_cases h : 24 * i ≤ q ∧ q < 24 * i + k
    · rw [if_pos h, if_pos (by omega)]
    · rw [if_neg h, if_neg (by omega)]
theorem fw_in (z : Nat → Nat) (i : Nat) (σ : Nat → Nat) {k p : Nat} (hp : p < k) : fw z i σ k (24 * i + p) = σ p := by
  unfold fw; rw [if_pos (by omega), show 24 * i + p - 24 * i = p by omega]
theorem fw_rest (z : Nat → Nat) (i : Nat) (σ : Nat → Nat) {k q : Nat} (hq : ¬ (24 * i ≤ q ∧ q < 24 * i + k)) : fw z i σ k q = z q := by
  unfold fw; rw [if_neg hq]
theorem fw_out (z : Nat → Nat) (i : Nat) (σ : Nat → Nat) {k j p : Nat} (hk : k ≤ 24) (hp : p < 24) (hj : j ≠ i) : fw z i σ k (24 * j + p) = z (24 * j + p) :=
  fw_rest z i σ (by omega)
theorem fr_fw (z : Nat → Nat) (i : Nat) (σ : Nat → Nat) : fr (fw z i σ 24) i σ := fun p hp => fw_in z i σ hp
theorem fr_fo {z : Nat → Nat} {i j : Nat} {σ τ : Nat → Nat} (h : fr z j τ) (hj : j ≠ i) : fr (fw z i σ 24) j τ := fun p hp => (fw_out z i σ (Nat.le_refl _) hp hj).trans (h p hp)

/-- int move() -/
theorem c_M_move (l : Launch) (g : hl_G) (sz : Nat) (L : List Nat) (d : Nat → Nat) (f0 : Nat → va_E) (hd : md_D L d) (n mm sm kn mk : Nat) (r3 r5 r7 r8 r10 r11 r12 r13 r14 r15 r16 r17 r18 r19 r20 r21 r22 r23 : Nat → Nat) (hmm : mm ≤ 10) (post : Int32 → List Nat × (Nat → va_E) → Prop) (hpo : (mm = 10 → post (-1) (L, mf g d f0 n mm sm kn mk r3 r5 r7 r8 r10 r11 r12 r13 r14 r15 r16 r17 r18 r19 r20 r21 r22 r23)) ∧ (mm < 10 → post (nI mm) (L, mf g d f0 n (mm + 1) sm kn mk (fw r3 mm id 24) r5 r7 r8 r10 r11 r12 r13 r14 r15 r16 r17 r18 r19 r20 r21 r22 r23))) :
    Met l y_M_move (hq y_M_move b_M_move 2 (some .int)) { frames := 0, cells := 0, slots := 0, locals := 0 } (hm_P g [.ref (d 0)] sz L (mf g d f0 n mm sm kn mk r3 r5 r7 r8 r10 r11 r12 r13 r14 r15 r16 r17 r18 r19 r20 r21 r22 r23)) (va_Qi (post) (hm_B g sz L) (hm_A sz L)) 0 0 (hm_A sz L) := by
  refine hm_ofW (by decide) (Nat.le_of_ble_eq_true rfl) ?_
  intro p e s m below meth c X hr hlk hnm hK hsz hh ls hl
  have hl : lv_has ls 2 [(0, .ref (d 0))] := hl
  refine lv_aload_n X.1 X.2.1 d_M_move_0 rfl (lv_at hl 0 rfl) ?_
  refine lv_iconst (v := nI 0) X.1 X.2.1 d_M_move_1 (by decide) ?_
  refine hl_put X hK hh (ref := "CycleGroupsModel") i_M t_M t_M_ok n_M (ci := 5) rfl 1 (by decide) w_351 rfl rfl (md_in hd (k := 0) rfl) md_at_0 (by first | rfl | decide) (by first | rfl | decide) (Nat.le_of_ble_eq_true rfl) d_M_move_2 (fun H locs hh => ?_)
  have hh : hl_H g (hm_A sz L) s.heap L (mf g d f0 n mm sm kn mk r3 r5 r7 r8 r10 r11 r12 r13 r14 r15 r16 r17 r18 r19 r20 r21 r22 r23) H locs := md_set_0 hh
  refine lv_aload_n X.1 X.2.1 d_M_move_5 rfl (lv_at hl 0 rfl) ?_
  refine hl_get X hK hh (ref := "CycleGroupsModel") i_M (ci := 5) rfl 2 (by decide) w_353 rfl (md_in hd (k := 0) rfl) md_at_0 rfl d_M_move_6 ?_
  refine lv_bipush (v := nI 10) X.1 X.2.1 d_M_move_9 (by decide) ?_
  refine hn_ine (tgt := 16) X (by omega) (by omega) d_M_move_11 (by decide) (fun hc => ?_) (fun hc => ?_)
  · have hlt : mm < 10 := by omega
    have loop : ∀ (t i : Nat) (H : Heap) (locs : List Loc) (ls : Array Slot), 24 + 1 ≤ i + t → i ≤ 24 → hl_H g (hm_A sz L) s.heap L (mf g d f0 n mm sm kn mk (fw r3 mm id i) r5 r7 r8 r10 r11 r12 r13 r14 r15 r16 r17 r18 r19 r20 r21 r22 r23) H locs → lv_has ls 2 [(1, .int (nI i)), (0, .ref (d 0))] → W p l e { frames := 0, cells := 0, slots := 0, locals := 0 } s m #[.ref (d 0)] below meth c H locs 0 0 (MQ below (va_Qi (post) (hm_B g sz L) (hm_A sz L)) #[.ref (d 0)] s 0 0 (hm_A sz L)) (F0 m 18 ls []) := by
      intro t
      induction t with
      | zero => intros; omega
      | succ t ih =>
        intro i H locs ls hk hin hh hl
        refine lv_iload_n X.1 X.2.1 d_M_move_18 rfl (lv_at hl 0 rfl) ?_
        refine lv_bipush (v := nI 24) X.1 X.2.1 d_M_move_19 (by decide) ?_
        refine hn_ige (tgt := 45) X (by omega) (by omega) d_M_move_21 (by decide) (fun hc => ?_) (fun hc => ?_)
        · have hi : i = 24 := by omega
          subst hi
          refine lv_aload_n X.1 X.2.1 d_M_move_45 rfl (lv_at hl 1 rfl) ?_
          refine lv_dup X.1 X.2.1 d_M_move_46 rfl ?_
          refine hl_get X hK hh (ref := "CycleGroupsModel") i_M (ci := 5) rfl 2 (by decide) w_353 rfl (md_in hd (k := 0) rfl) md_at_0 rfl d_M_move_47 ?_
          refine lv_iconst (v := nI 1) X.1 X.2.1 d_M_move_50 (by decide) ?_
          refine hn_add X d_M_move_51 ?_
          refine hl_put X hK hh (ref := "CycleGroupsModel") i_M t_M t_M_ok n_M (ci := 5) rfl 2 (by decide) w_353 rfl rfl (md_in hd (k := 0) rfl) md_at_0 (by first | rfl | decide) (by first | rfl | decide) (Nat.le_of_ble_eq_true rfl) d_M_move_52 (fun H locs hh => ?_)
          have hh : hl_H g (hm_A sz L) s.heap L (mf g d f0 n (mm + 1) sm kn mk (fw r3 mm id 24) r5 r7 r8 r10 r11 r12 r13 r14 r15 r16 r17 r18 r19 r20 r21 r22 r23) H locs := md_set_0 hh
          refine lv_aload_n X.1 X.2.1 d_M_move_55 rfl (lv_at hl 1 rfl) ?_
          refine hl_get X hK hh (ref := "CycleGroupsModel") i_M (ci := 5) rfl 2 (by decide) w_353 rfl (md_in hd (k := 0) rfl) md_at_0 rfl d_M_move_56 ?_
          refine lv_iconst (v := nI 1) X.1 X.2.1 d_M_move_59 (by decide) ?_
          refine hn_sub X (by omega) d_M_move_60 ?_
          exact hm_iret X hr hlk hh (hpo.2 hlt) (Nat.le_of_ble_eq_true rfl) (Nat.le_of_ble_eq_true rfl) d_M_move_61
        · have hi : i < 24 := hc
          refine lv_aload_n X.1 X.2.1 d_M_move_24 rfl (lv_at hl 1 rfl) ?_
          refine hl_get X hK hh (ref := "CycleGroupsModel") i_M (ci := 5) rfl 3 (by decide) w_354 rfl (md_in hd (k := 0) rfl) md_at_0 rfl d_M_move_25 ?_
          refine lv_bipush (v := nI 24) X.1 X.2.1 d_M_move_28 (by decide) ?_
          refine lv_aload_n X.1 X.2.1 d_M_move_30 rfl (lv_at hl 1 rfl) ?_
          refine hl_get X hK hh (ref := "CycleGroupsModel") i_M (ci := 5) rfl 2 (by decide) w_353 rfl (md_in hd (k := 0) rfl) md_at_0 rfl d_M_move_31 ?_
          refine hn_mul X d_M_move_34 ?_
          refine lv_iload_n X.1 X.2.1 d_M_move_35 rfl (lv_at hl 0 rfl) ?_
          refine hn_add X d_M_move_36 ?_
          refine lv_iload_n X.1 X.2.1 d_M_move_37 rfl (lv_at hl 0 rfl) ?_
          refine hl_iastN X hK hh (md_in hd (k := 3) rfl) (md_at_3 hd) (by omega) (by decide) d_M_move_38 (fun H locs hh => ?_)
          have hh : hl_H g (hm_A sz L) s.heap L (mf g d f0 n mm sm kn mk (va_up (fw r3 mm id i) ((24 * mm) + i) i) r5 r7 r8 r10 r11 r12 r13 r14 r15 r16 r17 r18 r19 r20 r21 r22 r23) H locs := md_set_3 hd hh
          refine lv_iinc (v := nI (i + 1)) (lv' := [(1, .int (nI (i + 1))), (0, .ref (d 0))]) X.1 X.2.1 d_M_move_39 hl (k := 0) rfl (hn_inc _) (by decide) rfl (fun ls hl => ?_)
          refine lv_goto (tgt := 18) X.1 X.2.1 d_M_move_42 (by decide) ?_
          have e1 : va_up (fw r3 mm id i) (24 * mm + i) i = fw r3 mm id (i + 1) := fw_s r3 mm id i
          rw [e1] at hh
          exact ih (i + 1) H locs ls (by omega) (by omega) hh hl
    refine lv_iconst (v := nI 0) X.1 X.2.1 d_M_move_16 (by decide) ?_
    refine lv_istore_n (lv' := [(1, .int (nI 0)), (0, .ref (d 0))]) X.1 X.2.1 d_M_move_17 rfl hl (by decide) rfl (fun ls hl => ?_)
    rw [← fw_0 r3 mm id] at hh
    exact loop 25 0 _ _ ls (by omega) (by omega) hh hl
  · have hlt : mm = 10 := hc
    refine lv_iconst (v := -1) X.1 X.2.1 d_M_move_14 (by decide) ?_
    exact hm_iret X hr hlk hh (hpo.1 hlt) (Nat.le_of_ble_eq_true rfl) (Nat.le_of_ble_eq_true rfl) d_M_move_15
end

