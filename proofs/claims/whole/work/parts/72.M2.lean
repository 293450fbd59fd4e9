/-! The reference: state, cycle, apply, exchange, scramble, image. -/
section

section
variable {p : Program} {l : Launch} {e : Env} {R : Room} {s : State} {m : MethodId} {args : Array Value} {below : List Frame} {meth : Method} {c : Code} {H : Heap} {locs : List Loc} {cells slots : Nat} {Q : State → Prop}
variable {cc : ByteArray} {pc nL : Nat} {ls : Array Slot} {rest st : List Value} {own : String}
theorem hn_ladd {x y : Nat} (X : CallFix p m c cc nL s args tg own) (hdg : decode cc pc = .ok (.ladd, 1))
    (k : W p l e R s m args below meth c H locs cells slots Q (F0 m (pc + 1) ls (.long (lN (x + y)) :: rest))) : W p l e R s m args below meth c H locs cells slots Q (F0 m pc ls (.long (lN y) :: .long (lN x) :: rest)) :=
  lv_ladd X.1 X.2.1 hdg (by rw [lN_add]; exact k)
end
/-- int state() -/
theorem c_M_state (l : Launch) (g : hl_G) (sz : Nat) (L : List Nat) (d : Nat → Nat) (f0 : Nat → va_E) (hd : md_D L d) (n mm sm kn mk : Nat) (r3 r5 r7 r8 r10 r11 r12 r13 r14 r15 r16 r17 r18 r19 r20 r21 r22 r23 : Nat → Nat) (hmm : sm ≤ 20) (post : Int32 → List Nat × (Nat → va_E) → Prop) (hpo : (sm = 20 → post (-1) (L, mf g d f0 n mm sm kn mk r3 r5 r7 r8 r10 r11 r12 r13 r14 r15 r16 r17 r18 r19 r20 r21 r22 r23)) ∧ (sm < 20 → post (nI sm) (L, mf g d f0 n mm (sm + 1) kn mk r3 (fw r5 sm id 24) r7 r8 r10 r11 r12 r13 r14 r15 r16 r17 r18 r19 r20 r21 r22 r23))) :
    Met l y_M_state (hq y_M_state b_M_state 2 (some .int)) { frames := 0, cells := 0, slots := 0, locals := 0 } (hm_P g [.ref (d 0)] sz L (mf g d f0 n mm sm kn mk r3 r5 r7 r8 r10 r11 r12 r13 r14 r15 r16 r17 r18 r19 r20 r21 r22 r23)) (va_Qi (post) (hm_B g sz L) (hm_A sz L)) 0 0 (hm_A sz L) := by
  refine hm_ofW (by decide) (Nat.le_of_ble_eq_true rfl) ?_
  intro p e s m below meth c X hr hlk hnm hK hsz hh ls hl
  have hl : lv_has ls 2 [(0, .ref (d 0))] := hl
  refine lv_aload_n X.1 X.2.1 d_M_state_0 rfl (lv_at hl 0 rfl) ?_
  refine lv_iconst (v := nI 0) X.1 X.2.1 d_M_state_1 (by decide) ?_
  refine hl_put X hK hh (ref := "CycleGroupsModel") i_M t_M t_M_ok n_M (ci := 5) rfl 1 (by decide) w_351 rfl rfl (md_in hd (k := 0) rfl) md_at_0 (by first | rfl | decide) (by first | rfl | decide) (Nat.le_of_ble_eq_true rfl) d_M_state_2 (fun H locs hh => ?_)
  have hh : hl_H g (hm_A sz L) s.heap L (mf g d f0 n mm sm kn mk r3 r5 r7 r8 r10 r11 r12 r13 r14 r15 r16 r17 r18 r19 r20 r21 r22 r23) H locs := md_set_0 hh
  refine lv_aload_n X.1 X.2.1 d_M_state_5 rfl (lv_at hl 0 rfl) ?_
  refine hl_get X hK hh (ref := "CycleGroupsModel") i_M (ci := 5) rfl 4 (by decide) w_355 rfl (md_in hd (k := 0) rfl) md_at_0 rfl d_M_state_6 ?_
  refine lv_bipush (v := nI 20) X.1 X.2.1 d_M_state_9 (by decide) ?_
  refine hn_ine (tgt := 16) X (by omega) (by omega) d_M_state_11 (by decide) (fun hc => ?_) (fun hc => ?_)
  · have hlt : sm < 20 := by omega
    have loop : ∀ (t i : Nat) (H : Heap) (locs : List Loc) (ls : Array Slot), 24 + 1 ≤ i + t → i ≤ 24 → hl_H g (hm_A sz L) s.heap L (mf g d f0 n mm sm kn mk r3 (fw r5 sm id i) r7 r8 r10 r11 r12 r13 r14 r15 r16 r17 r18 r19 r20 r21 r22 r23) H locs → lv_has ls 2 [(1, .int (nI i)), (0, .ref (d 0))] → W p l e { frames := 0, cells := 0, slots := 0, locals := 0 } s m #[.ref (d 0)] below meth c H locs 0 0 (MQ below (va_Qi (post) (hm_B g sz L) (hm_A sz L)) #[.ref (d 0)] s 0 0 (hm_A sz L)) (F0 m 18 ls []) := by
      intro t
      induction t with
      | zero => intros; omega
      | succ t ih =>
        intro i H locs ls hk hin hh hl
        refine lv_iload_n X.1 X.2.1 d_M_state_18 rfl (lv_at hl 0 rfl) ?_
        refine lv_bipush (v := nI 24) X.1 X.2.1 d_M_state_19 (by decide) ?_
        refine hn_ige (tgt := 45) X (by omega) (by omega) d_M_state_21 (by decide) (fun hc => ?_) (fun hc => ?_)
        · have hi : i = 24 := by omega
          subst hi
          refine lv_aload_n X.1 X.2.1 d_M_state_45 rfl (lv_at hl 1 rfl) ?_
          refine lv_dup X.1 X.2.1 d_M_state_46 rfl ?_
          refine hl_get X hK hh (ref := "CycleGroupsModel") i_M (ci := 5) rfl 4 (by decide) w_355 rfl (md_in hd (k := 0) rfl) md_at_0 rfl d_M_state_47 ?_
          refine lv_iconst (v := nI 1) X.1 X.2.1 d_M_state_50 (by decide) ?_
          refine hn_add X d_M_state_51 ?_
          refine hl_put X hK hh (ref := "CycleGroupsModel") i_M t_M t_M_ok n_M (ci := 5) rfl 4 (by decide) w_355 rfl rfl (md_in hd (k := 0) rfl) md_at_0 (by first | rfl | decide) (by first | rfl | decide) (Nat.le_of_ble_eq_true rfl) d_M_state_52 (fun H locs hh => ?_)
          have hh : hl_H g (hm_A sz L) s.heap L (mf g d f0 n mm (sm + 1) kn mk r3 (fw r5 sm id 24) r7 r8 r10 r11 r12 r13 r14 r15 r16 r17 r18 r19 r20 r21 r22 r23) H locs := md_set_0 hh
          refine lv_aload_n X.1 X.2.1 d_M_state_55 rfl (lv_at hl 1 rfl) ?_
          refine hl_get X hK hh (ref := "CycleGroupsModel") i_M (ci := 5) rfl 4 (by decide) w_355 rfl (md_in hd (k := 0) rfl) md_at_0 rfl d_M_state_56 ?_
          refine lv_iconst (v := nI 1) X.1 X.2.1 d_M_state_59 (by decide) ?_
          refine hn_sub X (by omega) d_M_state_60 ?_
          exact hm_iret X hr hlk hh (hpo.2 hlt) (Nat.le_of_ble_eq_true rfl) (Nat.le_of_ble_eq_true rfl) d_M_state_61
        · have hi : i < 24 := hc
          refine lv_aload_n X.1 X.2.1 d_M_state_24 rfl (lv_at hl 1 rfl) ?_
          refine hl_get X hK hh (ref := "CycleGroupsModel") i_M (ci := 5) rfl 5 (by decide) w_356 rfl (md_in hd (k := 0) rfl) md_at_0 rfl d_M_state_25 ?_
          refine lv_bipush (v := nI 24) X.1 X.2.1 d_M_state_28 (by decide) ?_
          refine lv_aload_n X.1 X.2.1 d_M_state_30 rfl (lv_at hl 1 rfl) ?_
          refine hl_get X hK hh (ref := "CycleGroupsModel") i_M (ci := 5) rfl 4 (by decide) w_355 rfl (md_in hd (k := 0) rfl) md_at_0 rfl d_M_state_31 ?_
          refine hn_mul X d_M_state_34 ?_
          refine lv_iload_n X.1 X.2.1 d_M_state_35 rfl (lv_at hl 0 rfl) ?_
          refine hn_add X d_M_state_36 ?_
          refine lv_iload_n X.1 X.2.1 d_M_state_37 rfl (lv_at hl 0 rfl) ?_
          refine hl_iastN X hK hh (md_in hd (k := 5) rfl) (md_at_5 hd) (by omega) (by decide) d_M_state_38 (fun H locs hh => ?_)
          have hh : hl_H g (hm_A sz L) s.heap L (mf g d f0 n mm sm kn mk r3 (va_up (fw r5 sm id i) ((24 * sm) + i) i) r7 r8 r10 r11 r12 r13 r14 r15 r16 r17 r18 r19 r20 r21 r22 r23) H locs := md_set_5 hd hh
          refine lv_iinc (v := nI (i + 1)) (lv' := [(1, .int (nI (i + 1))), (0, .ref (d 0))]) X.1 X.2.1 d_M_state_39 hl (k := 0) rfl (hn_inc _) (by decide) rfl (fun ls hl => ?_)
          refine lv_goto (tgt := 18) X.1 X.2.1 d_M_state_42 (by decide) ?_
          have e1 : va_up (fw r5 sm id i) (24 * sm + i) i = fw r5 sm id (i + 1) := fw_s r5 sm id i
          rw [e1] at hh
          exact ih (i + 1) H locs ls (by omega) (by omega) hh hl
    refine lv_iconst (v := nI 0) X.1 X.2.1 d_M_state_16 (by decide) ?_
    refine lv_istore_n (lv' := [(1, .int (nI 0)), (0, .ref (d 0))]) X.1 X.2.1 d_M_state_17 rfl hl (by decide) rfl (fun ls hl => ?_)
    rw [← fw_0 r5 sm id] at hh
    exact loop 25 0 _ _ ls (by omega) (by omega) hh hl
  · have hlt : sm = 20 := hc
    refine lv_iconst (v := -1) X.1 X.2.1 d_M_state_14 (by decide) ?_
    exact hm_iret X hr hlk hh (hpo.1 hlt) (Nat.le_of_ble_eq_true rfl) (Nat.le_of_ble_eq_true rfl) d_M_state_15

theorem cy_fl {z σ : Nat → Nat} {j a c : Nat} (hz : fr z j σ) (hc : σ c = c) (ha : a < 24) (hc2 : c < 24) (hac : a ≠ c) : va_up (va_up z (24 * j + c) (z (24 * j + a))) (24 * j + a) c = fw z j (σ ∘ gp_sw a c) 24 := by
  funext q
  by_cases e1 : q = 24 * j + a
  · rw [e1, va_up_self, fw_in _ _ _ ha]; show c = σ (gp_sw a c a); rw [gp_sw_a, hc]
  · rw [va_up_ne _ _ e1]
    by_cases e2 : q = 24 * j + c
    · rw [e2, va_up_self, fw_in _ _ _ hc2, hz a ha]; show σ a = σ (gp_sw a c c); rw [gp_sw_b]
    · rw [va_up_ne _ _ e2]
      by_cases h : 24 * j ≤ q ∧ q < 24 * j + 24
      · obtain ⟨k, rfl⟩ : ∃ k, q = 24 * j + k := ⟨q - 24 * j, by omega⟩
        rw [fw_in _ _ _ (by omega), hz k (by omega)]
        show σ k = σ (gp_sw a c k)
        rw [gp_sw_n (by omega) (by omega)]
      · rw [fw_rest _ _ _ h]
theorem fw_self {z σ : Nat → Nat} {j : Nat} (hz : fr z j σ) (k : Nat) (hk : k ≤ 24) : fw z j σ k = z := by
  funext q
  by_cases h : 24 * j ≤ q ∧ q < 24 * j + k
  · obtain ⟨i, rfl⟩ : ∃ i, q = 24 * j + i := ⟨q - 24 * j, by omega⟩
    rw [fw_in _ _ _ (by omega), hz i (by omega)]
  · rw [fw_rest _ _ _ h]
theorem fw_fw (z : Nat → Nat) (j : Nat) (σ τ : Nat → Nat) : fw (fw z j σ 24) j τ 24 = fw z j τ 24 := by
  funext q
  by_cases h : 24 * j ≤ q ∧ q < 24 * j + 24
  · obtain ⟨i, rfl⟩ : ∃ i, q = 24 * j + i := ⟨q - 24 * j, by omega⟩
    rw [fw_in _ _ _ (by omega), fw_in _ _ _ (by omega)]
  · rw [fw_rest _ _ _ h, fw_rest _ _ _ h, fw_rest _ _ _ h]
/-- places out of n stay: a row is written when those below n are -/
theorem fw_n {z σ τ : Nat → Nat} {j n : Nat} (hz : fr z j σ) (hn : n ≤ 24) (h : ∀ p, n ≤ p → τ p = σ p) : fw z j τ n = fw z j τ 24 := by
  funext q
  by_cases h1 : 24 * j ≤ q ∧ q < 24 * j + 24
  · obtain ⟨i, rfl⟩ : ∃ i, q = 24 * j + i := ⟨q - 24 * j, by omega⟩
    rw [fw_in _ _ _ (k := 24) (by omega)]
    by_cases h2 : i < n
    · rw [fw_in _ _ _ h2]
    · rw [fw_rest _ _ _ (by omega), hz i (by omega), h i (by omega)]
  · rw [fw_rest _ _ _ h1, fw_rest _ _ _ (by omega)]
theorem sym_out {n p : Nat} {σ : Nat → Nat} (h : gp_sym (ch_D n 0) σ) (hp : n ≤ p) : σ p = p := h.2 p (fun hm => by have := (ch_D_mem.1 hm).2; omega)
theorem sym_24 {n p : Nat} {σ : Nat → Nat} (h : gp_sym (ch_D n 0) σ) (hn : n ≤ 24) (hp : p < 24) : σ p < 24 := by
  by_cases h1 : p < n
  · have := lk_sym_lt h h1; omega
  · rw [sym_out h (by omega)]; exact hp

/-- boolean cycle(int m, int from, int to) -/
theorem c_M_cycle (l : Launch) (g : hl_G) (sz : Nat) (L : List Nat) (d : Nat → Nat) (f0 : Nat → va_E) (hd : md_D L d) (n mm sm kn mk : Nat) (r3 r5 r7 r8 r10 r11 r12 r13 r14 r15 r16 r17 r18 r19 r20 r21 r22 r23 : Nat → Nat) (mv st : Nat → Nat → Nat) (hW : cg_W n mm sm mv st) (h3 : ∀ i, i < mm → fr r3 i (mv i)) (h5 : ∀ j, j < sm → fr r5 j (st j)) (q1 q2 q3 : Int32) (post : Int32 → List Nat × (Nat → va_E) → Prop) (hpo : ∀ r f1, ((ip q1 mm = false ∨ ip q2 n = false ∨ ip q3 n = false ∨ q2 = q3 ∨ (∃ j c, j < mm ∧ c < n ∧ q1 = nI j ∧ q3 = nI c ∧ mv j c ≠ c)) ∧ r = nI 0 ∧ f1 = mf g d f0 n mm sm kn mk r3 r5 r7 r8 r10 r11 r12 r13 r14 r15 r16 r17 r18 r19 r20 r21 r22 r23) ∨ (∃ j a c, j < mm ∧ a < n ∧ c < n ∧ a ≠ c ∧ mv j c = c ∧ q1 = nI j ∧ q2 = nI a ∧ q3 = nI c ∧ r = nI 1 ∧ f1 = mf g d f0 n mm sm 0 mk (fw r3 j (mv j ∘ gp_sw a c) 24) r5 r7 r8 r10 r11 r12 r13 r14 r15 r16 r17 r18 r19 r20 r21 r22 r23) → post r (L, f1)) :
    Met l y_M_cycle (hq y_M_cycle b_M_cycle 4 (some .boolean)) { frames := 1, cells := 0, slots := 0, locals := 30 } (hm_P g [.ref (d 0), .int q1, .int q2, .int q3] sz L (mf g d f0 n mm sm kn mk r3 r5 r7 r8 r10 r11 r12 r13 r14 r15 r16 r17 r18 r19 r20 r21 r22 r23)) (va_Qi (post) (hm_B g sz L) (hm_A sz L)) 0 0 (hm_A sz L) := by
  refine hm_ofW (by decide) (Nat.le_of_ble_eq_true rfl) ?_
  intro p e s m below meth c X hr hlk hnm hK hsz hh ls hl
  have hl : lv_has ls 4 [(0, .ref (d 0)), (1, .int q1), (2, .int q2), (3, .int q3)] := hl
  obtain ⟨hn0, hn, hmm, hsm, hmv, hst⟩ := id hW
  rcases pk_ix q1 (n := mm) (by omega) with h1 | h1 | ⟨j, hj, rfl⟩
  · skip
    refine lv_aload_n X.1 X.2.1 d_M_cycle_0 rfl (lv_at hl 0 rfl) ?_
    refine lv_iconst (v := nI 0) X.1 X.2.1 d_M_cycle_1 (by decide) ?_
    refine hl_put X hK hh (ref := "CycleGroupsModel") i_M t_M t_M_ok n_M (ci := 5) rfl 1 (by decide) w_351 rfl rfl (md_in hd (k := 0) rfl) md_at_0 (by first | rfl | decide) (by first | rfl | decide) (Nat.le_of_ble_eq_true rfl) d_M_cycle_2 (fun H locs hh => ?_)
    have hh : hl_H g (hm_A sz L) s.heap L (mf g d f0 n mm sm kn mk r3 r5 r7 r8 r10 r11 r12 r13 r14 r15 r16 r17 r18 r19 r20 r21 r22 r23) H locs := md_set_0 hh
    refine lv_iload_n X.1 X.2.1 d_M_cycle_5 rfl (lv_at hl 1 rfl) ?_
    refine lv_if_lt (tgt := 53) X.1 X.2.1 d_M_cycle_6 (by decide) (fun hc => ?_) (fun hc => ?_)
    · skip
      refine lv_iconst (v := nI 0) X.1 X.2.1 d_M_cycle_53 (by decide) ?_
      exact hm_zret X hr hlk hh (Or.inl rfl) (hpo _ _ (Or.inl ⟨Or.inl (ip_neg h1), rfl, rfl⟩)) (Nat.le_of_ble_eq_true rfl) (Nat.le_of_ble_eq_true rfl) d_M_cycle_54
    · exact absurd h1 hc
  · skip
    refine lv_aload_n X.1 X.2.1 d_M_cycle_0 rfl (lv_at hl 0 rfl) ?_
    refine lv_iconst (v := nI 0) X.1 X.2.1 d_M_cycle_1 (by decide) ?_
    refine hl_put X hK hh (ref := "CycleGroupsModel") i_M t_M t_M_ok n_M (ci := 5) rfl 1 (by decide) w_351 rfl rfl (md_in hd (k := 0) rfl) md_at_0 (by first | rfl | decide) (by first | rfl | decide) (Nat.le_of_ble_eq_true rfl) d_M_cycle_2 (fun H locs hh => ?_)
    have hh : hl_H g (hm_A sz L) s.heap L (mf g d f0 n mm sm kn mk r3 r5 r7 r8 r10 r11 r12 r13 r14 r15 r16 r17 r18 r19 r20 r21 r22 r23) H locs := md_set_0 hh
    refine lv_iload_n X.1 X.2.1 d_M_cycle_5 rfl (lv_at hl 1 rfl) ?_
    refine lv_if_lt (tgt := 53) X.1 X.2.1 d_M_cycle_6 (by decide) (fun hc => ?_) (fun hc => ?_)
    · skip
      refine lv_iconst (v := nI 0) X.1 X.2.1 d_M_cycle_53 (by decide) ?_
      exact hm_zret X hr hlk hh (Or.inl rfl) (hpo _ _ (Or.inl ⟨Or.inl (ip_big h1), rfl, rfl⟩)) (Nat.le_of_ble_eq_true rfl) (Nat.le_of_ble_eq_true rfl) d_M_cycle_54
    refine lv_iload_n X.1 X.2.1 d_M_cycle_9 rfl (lv_at hl 1 rfl) ?_
    refine lv_aload_n X.1 X.2.1 d_M_cycle_10 rfl (lv_at hl 0 rfl) ?_
    refine hl_get X hK hh (ref := "CycleGroupsModel") i_M (ci := 5) rfl 2 (by decide) w_353 rfl (md_in hd (k := 0) rfl) md_at_0 rfl d_M_cycle_11 ?_
    refine lv_icmp_ge (tgt := 53) X.1 X.2.1 d_M_cycle_14 (by decide) (fun hc => ?_) (fun hc => ?_)
    · skip
      refine lv_iconst (v := nI 0) X.1 X.2.1 d_M_cycle_53 (by decide) ?_
      exact hm_zret X hr hlk hh (Or.inl rfl) (hpo _ _ (Or.inl ⟨Or.inl (ip_big h1), rfl, rfl⟩)) (Nat.le_of_ble_eq_true rfl) (Nat.le_of_ble_eq_true rfl) d_M_cycle_54
    · exact absurd h1 hc
  · skip
    refine lv_aload_n X.1 X.2.1 d_M_cycle_0 rfl (lv_at hl 0 rfl) ?_
    refine lv_iconst (v := nI 0) X.1 X.2.1 d_M_cycle_1 (by decide) ?_
    refine hl_put X hK hh (ref := "CycleGroupsModel") i_M t_M t_M_ok n_M (ci := 5) rfl 1 (by decide) w_351 rfl rfl (md_in hd (k := 0) rfl) md_at_0 (by first | rfl | decide) (by first | rfl | decide) (Nat.le_of_ble_eq_true rfl) d_M_cycle_2 (fun H locs hh => ?_)
    have hh : hl_H g (hm_A sz L) s.heap L (mf g d f0 n mm sm kn mk r3 r5 r7 r8 r10 r11 r12 r13 r14 r15 r16 r17 r18 r19 r20 r21 r22 r23) H locs := md_set_0 hh
    refine lv_iload_n X.1 X.2.1 d_M_cycle_5 rfl (lv_at hl 1 rfl) ?_
    refine lv_if_lt (tgt := 53) X.1 X.2.1 d_M_cycle_6 (by decide) (fun hc => ?_) (fun hc => ?_)
    · exact absurd hc (nI_pos (by omega))
    refine lv_iload_n X.1 X.2.1 d_M_cycle_9 rfl (lv_at hl 1 rfl) ?_
    refine lv_aload_n X.1 X.2.1 d_M_cycle_10 rfl (lv_at hl 0 rfl) ?_
    refine hl_get X hK hh (ref := "CycleGroupsModel") i_M (ci := 5) rfl 2 (by decide) w_353 rfl (md_in hd (k := 0) rfl) md_at_0 rfl d_M_cycle_11 ?_
    refine hn_ige (tgt := 53) X (by omega) (by omega) d_M_cycle_14 (by decide) (fun hc => ?_) (fun hc => ?_)
    · omega
    rcases ip_cases q2 (n := n) (by omega) with h2 | ⟨a, ha, rfl⟩
    · skip
      refine lv_aload_n X.1 X.2.1 d_M_cycle_17 rfl (lv_at hl 0 rfl) ?_
      refine lv_iload_n X.1 X.2.1 d_M_cycle_18 rfl (lv_at hl 2 rfl) ?_
      refine hl_calli hh (hl_runV (k := 1) X hK hh (c_M_isPlace l g _ L d _ hd _ _ _ _ _ _ _ _ _ _ _ _ _ _ _ _ _ _ _ _ _ _ _ q2 (by omega)) wc_M_isPlace w_433 w_5 wi_M_isPlace ws_M_isPlace (by decide +kernel) rfl rfl ⟨Nat.le_of_ble_eq_true rfl, Nat.le_of_ble_eq_true rfl⟩ (md_in hd (k := 0) rfl) md_at_0 rfl rfl rfl rfl (Nat.le_of_ble_eq_true rfl) hl.1 d_M_cycle_19 ⟨Nat.le_of_ble_eq_true rfl, Nat.le_of_ble_eq_true rfl⟩) (fun r u H locs hp hh => ?_)
      obtain ⟨hr1, rfl⟩ := hp
      rw [h2] at hr1
      subst hr1
      refine lv_if_eq (tgt := 53) X.1 X.2.1 d_M_cycle_22 (by decide) (fun _ => ?_) (fun hc => absurd (by decide) hc)
      refine lv_iconst (v := nI 0) X.1 X.2.1 d_M_cycle_53 (by decide) ?_
      exact hm_zret X hr hlk hh (Or.inl rfl) (hpo _ _ (Or.inl ⟨Or.inr (Or.inl h2), rfl, rfl⟩)) (Nat.le_of_ble_eq_true rfl) (Nat.le_of_ble_eq_true rfl) d_M_cycle_54
    · have h2 := ip_in (by omega : n < 2 ^ 31) ha
      rcases ip_cases q3 (n := n) (by omega) with h4 | ⟨k, hk, rfl⟩
      · skip
        refine lv_aload_n X.1 X.2.1 d_M_cycle_17 rfl (lv_at hl 0 rfl) ?_
        refine lv_iload_n X.1 X.2.1 d_M_cycle_18 rfl (lv_at hl 2 rfl) ?_
        refine hl_calli hh (hl_runV (k := 1) X hK hh (c_M_isPlace l g _ L d _ hd _ _ _ _ _ _ _ _ _ _ _ _ _ _ _ _ _ _ _ _ _ _ _ (nI a) (by omega)) wc_M_isPlace w_433 w_5 wi_M_isPlace ws_M_isPlace (by decide +kernel) rfl rfl ⟨Nat.le_of_ble_eq_true rfl, Nat.le_of_ble_eq_true rfl⟩ (md_in hd (k := 0) rfl) md_at_0 rfl rfl rfl rfl (Nat.le_of_ble_eq_true rfl) hl.1 d_M_cycle_19 ⟨Nat.le_of_ble_eq_true rfl, Nat.le_of_ble_eq_true rfl⟩) (fun r u H locs hp hh => ?_)
        obtain ⟨hr1, rfl⟩ := hp
        rw [h2] at hr1
        subst hr1
        refine lv_if_eq (tgt := 53) X.1 X.2.1 d_M_cycle_22 (by decide) (fun hc => absurd hc (by decide)) (fun _ => ?_)
        refine lv_aload_n X.1 X.2.1 d_M_cycle_25 rfl (lv_at hl 0 rfl) ?_
        refine lv_iload_n X.1 X.2.1 d_M_cycle_26 rfl (lv_at hl 3 rfl) ?_
        refine hl_calli hh (hl_runV (k := 1) X hK hh (c_M_isPlace l g _ L d _ hd _ _ _ _ _ _ _ _ _ _ _ _ _ _ _ _ _ _ _ _ _ _ _ q3 (by omega)) wc_M_isPlace w_433 w_5 wi_M_isPlace ws_M_isPlace (by decide +kernel) rfl rfl ⟨Nat.le_of_ble_eq_true rfl, Nat.le_of_ble_eq_true rfl⟩ (md_in hd (k := 0) rfl) md_at_0 rfl rfl rfl rfl (Nat.le_of_ble_eq_true rfl) hl.1 d_M_cycle_27 ⟨Nat.le_of_ble_eq_true rfl, Nat.le_of_ble_eq_true rfl⟩) (fun r u H locs hp hh => ?_)
        obtain ⟨hr1, rfl⟩ := hp
        rw [h4] at hr1
        subst hr1
        refine lv_if_eq (tgt := 53) X.1 X.2.1 d_M_cycle_30 (by decide) (fun _ => ?_) (fun hc => absurd (by decide) hc)
        refine lv_iconst (v := nI 0) X.1 X.2.1 d_M_cycle_53 (by decide) ?_
        exact hm_zret X hr hlk hh (Or.inl rfl) (hpo _ _ (Or.inl ⟨Or.inr (Or.inr (Or.inl h4)), rfl, rfl⟩)) (Nat.le_of_ble_eq_true rfl) (Nat.le_of_ble_eq_true rfl) d_M_cycle_54
      · have h4 := ip_in (by omega : n < 2 ^ 31) hk
        have z1 := h3 j hj k (by omega)
        have z2 := h3 j hj a (by omega)
        have y1 := lk_sym_lt (hmv j hj) hk
        have y2 := lk_sym_lt (hmv j hj) ha
        refine lv_aload_n X.1 X.2.1 d_M_cycle_17 rfl (lv_at hl 0 rfl) ?_
        refine lv_iload_n X.1 X.2.1 d_M_cycle_18 rfl (lv_at hl 2 rfl) ?_
        refine hl_calli hh (hl_runV (k := 1) X hK hh (c_M_isPlace l g _ L d _ hd _ _ _ _ _ _ _ _ _ _ _ _ _ _ _ _ _ _ _ _ _ _ _ (nI a) (by omega)) wc_M_isPlace w_433 w_5 wi_M_isPlace ws_M_isPlace (by decide +kernel) rfl rfl ⟨Nat.le_of_ble_eq_true rfl, Nat.le_of_ble_eq_true rfl⟩ (md_in hd (k := 0) rfl) md_at_0 rfl rfl rfl rfl (Nat.le_of_ble_eq_true rfl) hl.1 d_M_cycle_19 ⟨Nat.le_of_ble_eq_true rfl, Nat.le_of_ble_eq_true rfl⟩) (fun r u H locs hp hh => ?_)
        obtain ⟨hr1, rfl⟩ := hp
        rw [h2] at hr1
        subst hr1
        refine lv_if_eq (tgt := 53) X.1 X.2.1 d_M_cycle_22 (by decide) (fun hc => absurd hc (by decide)) (fun _ => ?_)
        refine lv_aload_n X.1 X.2.1 d_M_cycle_25 rfl (lv_at hl 0 rfl) ?_
        refine lv_iload_n X.1 X.2.1 d_M_cycle_26 rfl (lv_at hl 3 rfl) ?_
        refine hl_calli hh (hl_runV (k := 1) X hK hh (c_M_isPlace l g _ L d _ hd _ _ _ _ _ _ _ _ _ _ _ _ _ _ _ _ _ _ _ _ _ _ _ (nI k) (by omega)) wc_M_isPlace w_433 w_5 wi_M_isPlace ws_M_isPlace (by decide +kernel) rfl rfl ⟨Nat.le_of_ble_eq_true rfl, Nat.le_of_ble_eq_true rfl⟩ (md_in hd (k := 0) rfl) md_at_0 rfl rfl rfl rfl (Nat.le_of_ble_eq_true rfl) hl.1 d_M_cycle_27 ⟨Nat.le_of_ble_eq_true rfl, Nat.le_of_ble_eq_true rfl⟩) (fun r u H locs hp hh => ?_)
        obtain ⟨hr1, rfl⟩ := hp
        rw [h4] at hr1
        subst hr1
        refine lv_if_eq (tgt := 53) X.1 X.2.1 d_M_cycle_30 (by decide) (fun hc => absurd hc (by decide)) (fun _ => ?_)
        refine lv_iload_n X.1 X.2.1 d_M_cycle_33 rfl (lv_at hl 2 rfl) ?_
        refine lv_iload_n X.1 X.2.1 d_M_cycle_34 rfl (lv_at hl 3 rfl) ?_
        refine hn_ieq (tgt := 53) X (by omega) (by omega) d_M_cycle_35 (by decide) (fun hc => ?_) (fun hc => ?_)
        · have hc : a = k := hc
          refine lv_iconst (v := nI 0) X.1 X.2.1 d_M_cycle_53 (by decide) ?_
          exact hm_zret X hr hlk hh (Or.inl rfl) (hpo _ _ (Or.inl ⟨Or.inr (Or.inr (Or.inr (Or.inl (by rw [hc])))), rfl, rfl⟩)) (Nat.le_of_ble_eq_true rfl) (Nat.le_of_ble_eq_true rfl) d_M_cycle_54
        · have hne : a ≠ k := hc
          refine lv_aload_n X.1 X.2.1 d_M_cycle_38 rfl (lv_at hl 0 rfl) ?_
          refine hl_get X hK hh (ref := "CycleGroupsModel") i_M (ci := 5) rfl 3 (by decide) w_354 rfl (md_in hd (k := 0) rfl) md_at_0 rfl d_M_cycle_39 ?_
          refine lv_bipush (v := nI 24) X.1 X.2.1 d_M_cycle_42 (by decide) ?_
          refine lv_iload_n X.1 X.2.1 d_M_cycle_44 rfl (lv_at hl 1 rfl) ?_
          refine hn_mul X d_M_cycle_45 ?_
          refine lv_iload_n X.1 X.2.1 d_M_cycle_46 rfl (lv_at hl 3 rfl) ?_
          refine hn_add X d_M_cycle_47 ?_
          refine hl_iald X hK hh (md_in hd (k := 3) rfl) (md_at_3 hd) (by omega) (by decide) d_M_cycle_48 ?_
          refine lv_iload_n X.1 X.2.1 d_M_cycle_49 rfl (lv_at hl 3 rfl) ?_
          refine hn_ieq (tgt := 55) X (by omega) (by omega) d_M_cycle_50 (by decide) (fun hc => ?_) (fun hc => ?_)
          · have hfx : r3 (24 * j + k) = k := hc
            rw [z1] at hfx
            refine lv_aload_n X.1 X.2.1 d_M_cycle_55 rfl (lv_at hl 0 rfl) ?_
            refine hl_get X hK hh (ref := "CycleGroupsModel") i_M (ci := 5) rfl 3 (by decide) w_354 rfl (md_in hd (k := 0) rfl) md_at_0 rfl d_M_cycle_56 ?_
            refine lv_bipush (v := nI 24) X.1 X.2.1 d_M_cycle_59 (by decide) ?_
            refine lv_iload_n X.1 X.2.1 d_M_cycle_61 rfl (lv_at hl 1 rfl) ?_
            refine hn_mul X d_M_cycle_62 ?_
            refine lv_iload_n X.1 X.2.1 d_M_cycle_63 rfl (lv_at hl 3 rfl) ?_
            refine hn_add X d_M_cycle_64 ?_
            refine lv_aload_n X.1 X.2.1 d_M_cycle_65 rfl (lv_at hl 0 rfl) ?_
            refine hl_get X hK hh (ref := "CycleGroupsModel") i_M (ci := 5) rfl 3 (by decide) w_354 rfl (md_in hd (k := 0) rfl) md_at_0 rfl d_M_cycle_66 ?_
            refine lv_bipush (v := nI 24) X.1 X.2.1 d_M_cycle_69 (by decide) ?_
            refine lv_iload_n X.1 X.2.1 d_M_cycle_71 rfl (lv_at hl 1 rfl) ?_
            refine hn_mul X d_M_cycle_72 ?_
            refine lv_iload_n X.1 X.2.1 d_M_cycle_73 rfl (lv_at hl 2 rfl) ?_
            refine hn_add X d_M_cycle_74 ?_
            refine hl_iald X hK hh (md_in hd (k := 3) rfl) (md_at_3 hd) (by omega) (by decide) d_M_cycle_75 ?_
            refine hl_iastN X hK hh (md_in hd (k := 3) rfl) (md_at_3 hd) (by omega) (by decide) d_M_cycle_76 (fun H locs hh => ?_)
            have hh : hl_H g (hm_A sz L) s.heap L (mf g d f0 n mm sm kn mk (va_up r3 ((24 * j) + k) (r3 ((24 * j) + a))) r5 r7 r8 r10 r11 r12 r13 r14 r15 r16 r17 r18 r19 r20 r21 r22 r23) H locs := md_set_3 hd hh
            refine lv_aload_n X.1 X.2.1 d_M_cycle_77 rfl (lv_at hl 0 rfl) ?_
            refine hl_get X hK hh (ref := "CycleGroupsModel") i_M (ci := 5) rfl 3 (by decide) w_354 rfl (md_in hd (k := 0) rfl) md_at_0 rfl d_M_cycle_78 ?_
            refine lv_bipush (v := nI 24) X.1 X.2.1 d_M_cycle_81 (by decide) ?_
            refine lv_iload_n X.1 X.2.1 d_M_cycle_83 rfl (lv_at hl 1 rfl) ?_
            refine hn_mul X d_M_cycle_84 ?_
            refine lv_iload_n X.1 X.2.1 d_M_cycle_85 rfl (lv_at hl 2 rfl) ?_
            refine hn_add X d_M_cycle_86 ?_
            refine lv_iload_n X.1 X.2.1 d_M_cycle_87 rfl (lv_at hl 3 rfl) ?_
            refine hl_iastN X hK hh (md_in hd (k := 3) rfl) (md_at_3 hd) (by omega) (by decide) d_M_cycle_88 (fun H locs hh => ?_)
            have hh : hl_H g (hm_A sz L) s.heap L (mf g d f0 n mm sm kn mk (va_up (va_up r3 ((24 * j) + k) (r3 ((24 * j) + a))) ((24 * j) + a) k) r5 r7 r8 r10 r11 r12 r13 r14 r15 r16 r17 r18 r19 r20 r21 r22 r23) H locs := md_set_3 hd hh
            refine lv_aload_n X.1 X.2.1 d_M_cycle_89 rfl (lv_at hl 0 rfl) ?_
            refine lv_iconst (v := nI 0) X.1 X.2.1 d_M_cycle_90 (by decide) ?_
            refine hl_put X hK hh (ref := "CycleGroupsModel") i_M t_M t_M_ok n_M (ci := 5) rfl 6 (by decide) w_357 rfl rfl (md_in hd (k := 0) rfl) md_at_0 (by first | rfl | decide) (by first | rfl | decide) (Nat.le_of_ble_eq_true rfl) d_M_cycle_91 (fun H locs hh => ?_)
            have hh : hl_H g (hm_A sz L) s.heap L (mf g d f0 n mm sm 0 mk (va_up (va_up r3 ((24 * j) + k) (r3 ((24 * j) + a))) ((24 * j) + a) k) r5 r7 r8 r10 r11 r12 r13 r14 r15 r16 r17 r18 r19 r20 r21 r22 r23) H locs := md_set_0 hh
            refine lv_iconst (v := nI 1) X.1 X.2.1 d_M_cycle_94 (by decide) ?_
            have e1 := cy_fl (h3 j hj) hfx (show a < 24 by omega) (show k < 24 by omega) hne
            rw [e1] at hh
            exact hm_zret X hr hlk hh (Or.inr rfl) (hpo _ _ (Or.inr ⟨j, a, k, hj, ha, hk, hne, hfx, rfl, rfl, rfl, rfl, rfl⟩)) (Nat.le_of_ble_eq_true rfl) (Nat.le_of_ble_eq_true rfl) d_M_cycle_95
          · have hfx : ¬ r3 (24 * j + k) = k := hc
            rw [z1] at hfx
            refine lv_iconst (v := nI 0) X.1 X.2.1 d_M_cycle_53 (by decide) ?_
            exact hm_zret X hr hlk hh (Or.inl rfl) (hpo _ _ (Or.inl ⟨Or.inr (Or.inr (Or.inr (Or.inr ⟨j, k, hj, hk, rfl, rfl, hfx⟩))), rfl, rfl⟩)) (Nat.le_of_ble_eq_true rfl) (Nat.le_of_ble_eq_true rfl) d_M_cycle_54

/-- private void applyMove(int s, int m) -/
theorem c_M_applyMove (l : Launch) (g : hl_G) (sz : Nat) (L : List Nat) (d : Nat → Nat) (f0 : Nat → va_E) (hd : md_D L d) (n mm sm kn mk : Nat) (r3 r5 r7 r8 r10 r11 r12 r13 r14 r15 r16 r17 r18 r19 r20 r21 r22 r23 : Nat → Nat) (hn : n ≤ 24) (σ μ : Nat → Nat) (j k : Nat) (hj : j < 20) (hk : k < 10) (h5 : fr r5 j σ) (h3 : fr r3 k μ) (hσ : gp_sym (ch_D n 0) σ) (hμ : gp_sym (ch_D n 0) μ) :
    Met l y_M_applyMove (hq y_M_applyMove b_M_applyMove 4 none) { frames := 0, cells := 0, slots := 0, locals := 0 } (hm_P g [.ref (d 0), .int (nI j), .int (nI k)] sz L (mf g d f0 n mm sm kn mk r3 r5 r7 r8 r10 r11 r12 r13 r14 r15 r16 r17 r18 r19 r20 r21 r22 r23)) (va_Qv (fun u => u = (L, mf g d f0 n mm sm kn mk r3 (fw r5 j (μ ∘ σ) 24) r7 r8 r10 r11 r12 r13 r14 r15 r16 r17 r18 r19 r20 r21 r22 r23)) (hm_B g sz L) (hm_A sz L)) 0 0 (hm_A sz L) := by
  refine hm_ofW (by decide) (Nat.le_of_ble_eq_true rfl) ?_
  intro p e s m below meth c X hr hlk hnm hK hsz hh ls hl
  have hl : lv_has ls 4 [(0, .ref (d 0)), (1, .int (nI j)), (2, .int (nI k))] := hl
  have loop : ∀ (t i : Nat) (H : Heap) (locs : List Loc) (ls : Array Slot), n + 1 ≤ i + t → i ≤ n → hl_H g (hm_A sz L) s.heap L (mf g d f0 n mm sm kn mk r3 (fw r5 j (μ ∘ σ) i) r7 r8 r10 r11 r12 r13 r14 r15 r16 r17 r18 r19 r20 r21 r22 r23) H locs → lv_has ls 4 [(3, .int (nI i)), (0, .ref (d 0)), (1, .int (nI j)), (2, .int (nI k))] → W p l e { frames := 0, cells := 0, slots := 0, locals := 0 } s m #[.ref (d 0), .int (nI j), .int (nI k)] below meth c H locs 0 0 (MQ below (va_Qv (fun u => u = (L, mf g d f0 n mm sm kn mk r3 (fw r5 j (μ ∘ σ) 24) r7 r8 r10 r11 r12 r13 r14 r15 r16 r17 r18 r19 r20 r21 r22 r23)) (hm_B g sz L) (hm_A sz L)) #[.ref (d 0), .int (nI j), .int (nI k)] s 0 0 (hm_A sz L)) (F0 m 2 ls []) := by
    intro t
    induction t with
    | zero => intros; omega
    | succ t ih =>
      intro i H locs ls hk2 hin hh hl
      refine lv_iload_n X.1 X.2.1 d_M_applyMove_2 rfl (lv_at hl 0 rfl) ?_
      refine lv_aload_n X.1 X.2.1 d_M_applyMove_3 rfl (lv_at hl 1 rfl) ?_
      refine hl_get X hK hh (ref := "CycleGroupsModel") i_M (ci := 5) rfl 0 (by decide) w_352 rfl (md_in hd (k := 0) rfl) md_at_0 rfl d_M_applyMove_4 ?_
      refine hn_ige (tgt := 48) X (by omega) (by omega) d_M_applyMove_7 (by decide) (fun hc => ?_) (fun hc => ?_)
      · have hi : i = n := by omega
        rw [hi, fw_n h5 hn (fun p hp => by show μ (σ p) = σ p; rw [sym_out hσ hp, sym_out hμ hp])] at hh
        exact hm_vret X hr hlk hh rfl (Nat.le_of_ble_eq_true rfl) (Nat.le_of_ble_eq_true rfl) d_M_applyMove_48
      · have hi : i < n := hc
        have e1 : fw r5 j (μ ∘ σ) i (24 * j + i) = σ i := by rw [fw_rest _ _ _ (by omega)]; exact h5 i (by omega)
        have e2 := lk_sym_lt hσ hi
        refine lv_aload_n X.1 X.2.1 d_M_applyMove_10 rfl (lv_at hl 1 rfl) ?_
        refine hl_get X hK hh (ref := "CycleGroupsModel") i_M (ci := 5) rfl 5 (by decide) w_356 rfl (md_in hd (k := 0) rfl) md_at_0 rfl d_M_applyMove_11 ?_
        refine lv_bipush (v := nI 24) X.1 X.2.1 d_M_applyMove_14 (by decide) ?_
        refine lv_iload_n X.1 X.2.1 d_M_applyMove_16 rfl (lv_at hl 2 rfl) ?_
        refine hn_mul X d_M_applyMove_17 ?_
        refine lv_iload_n X.1 X.2.1 d_M_applyMove_18 rfl (lv_at hl 0 rfl) ?_
        refine hn_add X d_M_applyMove_19 ?_
        refine lv_aload_n X.1 X.2.1 d_M_applyMove_20 rfl (lv_at hl 1 rfl) ?_
        refine hl_get X hK hh (ref := "CycleGroupsModel") i_M (ci := 5) rfl 3 (by decide) w_354 rfl (md_in hd (k := 0) rfl) md_at_0 rfl d_M_applyMove_21 ?_
        refine lv_bipush (v := nI 24) X.1 X.2.1 d_M_applyMove_24 (by decide) ?_
        refine lv_iload_n X.1 X.2.1 d_M_applyMove_26 rfl (lv_at hl 3 rfl) ?_
        refine hn_mul X d_M_applyMove_27 ?_
        refine lv_aload_n X.1 X.2.1 d_M_applyMove_28 rfl (lv_at hl 1 rfl) ?_
        refine hl_get X hK hh (ref := "CycleGroupsModel") i_M (ci := 5) rfl 5 (by decide) w_356 rfl (md_in hd (k := 0) rfl) md_at_0 rfl d_M_applyMove_29 ?_
        refine lv_bipush (v := nI 24) X.1 X.2.1 d_M_applyMove_32 (by decide) ?_
        refine lv_iload_n X.1 X.2.1 d_M_applyMove_34 rfl (lv_at hl 2 rfl) ?_
        refine hn_mul X d_M_applyMove_35 ?_
        refine lv_iload_n X.1 X.2.1 d_M_applyMove_36 rfl (lv_at hl 0 rfl) ?_
        refine hn_add X d_M_applyMove_37 ?_
        refine hl_iald X hK hh (md_in hd (k := 5) rfl) (md_at_5 hd) (by omega) (by decide) d_M_applyMove_38 ?_
        refine hn_add X d_M_applyMove_39 ?_
        refine hl_iald X hK hh (md_in hd (k := 3) rfl) (md_at_3 hd) (by omega) (by decide) d_M_applyMove_40 ?_
        refine hl_iastN X hK hh (md_in hd (k := 5) rfl) (md_at_5 hd) (by omega) (by decide) d_M_applyMove_41 (fun H locs hh => ?_)
        have hh : hl_H g (hm_A sz L) s.heap L (mf g d f0 n mm sm kn mk r3 (va_up (fw r5 j (μ ∘ σ) i) ((24 * j) + i) (r3 ((24 * k) + ((fw r5 j (μ ∘ σ) i) ((24 * j) + i))))) r7 r8 r10 r11 r12 r13 r14 r15 r16 r17 r18 r19 r20 r21 r22 r23) H locs := md_set_5 hd hh
        refine lv_iinc (v := nI (i + 1)) (lv' := [(3, .int (nI (i + 1))), (0, .ref (d 0)), (1, .int (nI j)), (2, .int (nI k))]) X.1 X.2.1 d_M_applyMove_42 hl (k := 0) rfl (hn_inc _) (by decide) rfl (fun ls hl => ?_)
        refine lv_goto (tgt := 2) X.1 X.2.1 d_M_applyMove_45 (by decide) ?_
        have e3 : va_up (fw r5 j (μ ∘ σ) i) (24 * j + i) (r3 (24 * k + fw r5 j (μ ∘ σ) i (24 * j + i))) = fw r5 j (μ ∘ σ) (i + 1) := by
          rw [e1, h3 _ (by omega)]; exact fw_s r5 j (μ ∘ σ) i
        rw [e3] at hh
        exact ih (i + 1) H locs ls (by omega) (by omega) hh hl
  refine lv_iconst (v := nI 0) X.1 X.2.1 d_M_applyMove_0 (by decide) ?_
  refine lv_istore_n (lv' := [(3, .int (nI 0)), (0, .ref (d 0)), (1, .int (nI j)), (2, .int (nI k))]) X.1 X.2.1 d_M_applyMove_1 rfl hl (by decide) rfl (fun ls hl => ?_)
  rw [← fw_0 r5 j (μ ∘ σ)] at hh
  exact loop (n + 1) 0 _ _ ls (by omega) (by omega) hh hl

/-- boolean apply(int s, int m) -/
theorem c_M_apply (l : Launch) (g : hl_G) (sz : Nat) (L : List Nat) (d : Nat → Nat) (f0 : Nat → va_E) (hd : md_D L d) (n mm sm kn mk : Nat) (r3 r5 r7 r8 r10 r11 r12 r13 r14 r15 r16 r17 r18 r19 r20 r21 r22 r23 : Nat → Nat) (mv st : Nat → Nat → Nat) (hW : cg_W n mm sm mv st) (h3 : ∀ i, i < mm → fr r3 i (mv i)) (h5 : ∀ j, j < sm → fr r5 j (st j)) (q1 q2 : Int32) (post : Int32 → List Nat × (Nat → va_E) → Prop) (hpo : ∀ r f1, ((ip q1 sm = false ∨ ip q2 mm = false) ∧ r = nI 0 ∧ f1 = mf g d f0 n mm sm kn mk r3 r5 r7 r8 r10 r11 r12 r13 r14 r15 r16 r17 r18 r19 r20 r21 r22 r23) ∨ (∃ j k, j < sm ∧ k < mm ∧ q1 = nI j ∧ q2 = nI k ∧ r = nI 1 ∧ f1 = mf g d f0 n mm sm kn mk r3 (fw r5 j (mv k ∘ st j) 24) r7 r8 r10 r11 r12 r13 r14 r15 r16 r17 r18 r19 r20 r21 r22 r23) → post r (L, f1)) :
    Met l y_M_apply (hq y_M_apply b_M_apply 3 (some .boolean)) { frames := 1, cells := 0, slots := 0, locals := 30 } (hm_P g [.ref (d 0), .int q1, .int q2] sz L (mf g d f0 n mm sm kn mk r3 r5 r7 r8 r10 r11 r12 r13 r14 r15 r16 r17 r18 r19 r20 r21 r22 r23)) (va_Qi (post) (hm_B g sz L) (hm_A sz L)) 0 0 (hm_A sz L) := by
  refine hm_ofW (by decide) (Nat.le_of_ble_eq_true rfl) ?_
  intro p e s m below meth c X hr hlk hnm hK hsz hh ls hl
  have hl : lv_has ls 3 [(0, .ref (d 0)), (1, .int q1), (2, .int q2)] := hl
  obtain ⟨hn0, hn, hmm, hsm, hmv, hst⟩ := id hW
  rcases ip_cases q1 (n := sm) (by omega) with h1 | ⟨j, hj, rfl⟩
  · skip
    refine lv_aload_n X.1 X.2.1 d_M_apply_0 rfl (lv_at hl 0 rfl) ?_
    refine lv_iconst (v := nI 0) X.1 X.2.1 d_M_apply_1 (by decide) ?_
    refine hl_put X hK hh (ref := "CycleGroupsModel") i_M t_M t_M_ok n_M (ci := 5) rfl 1 (by decide) w_351 rfl rfl (md_in hd (k := 0) rfl) md_at_0 (by first | rfl | decide) (by first | rfl | decide) (Nat.le_of_ble_eq_true rfl) d_M_apply_2 (fun H locs hh => ?_)
    have hh : hl_H g (hm_A sz L) s.heap L (mf g d f0 n mm sm kn mk r3 r5 r7 r8 r10 r11 r12 r13 r14 r15 r16 r17 r18 r19 r20 r21 r22 r23) H locs := md_set_0 hh
    refine lv_aload_n X.1 X.2.1 d_M_apply_5 rfl (lv_at hl 0 rfl) ?_
    refine lv_iload_n X.1 X.2.1 d_M_apply_6 rfl (lv_at hl 1 rfl) ?_
    refine hl_calli hh (hl_runV (k := 1) X hK hh (c_M_isState l g _ L d _ hd _ _ _ _ _ _ _ _ _ _ _ _ _ _ _ _ _ _ _ _ _ _ _ q1 (by omega)) wc_M_isState w_445 w_5 wi_M_isState ws_M_isState (by decide +kernel) rfl rfl ⟨Nat.le_of_ble_eq_true rfl, Nat.le_of_ble_eq_true rfl⟩ (md_in hd (k := 0) rfl) md_at_0 rfl rfl rfl rfl (Nat.le_of_ble_eq_true rfl) hl.1 d_M_apply_7 ⟨Nat.le_of_ble_eq_true rfl, Nat.le_of_ble_eq_true rfl⟩) (fun r u H locs hp hh => ?_)
    obtain ⟨hr1, rfl⟩ := hp
    rw [h1] at hr1
    subst hr1
    refine lv_if_eq (tgt := 25) X.1 X.2.1 d_M_apply_10 (by decide) (fun _ => ?_) (fun hc => absurd (by decide) hc)
    refine lv_iconst (v := nI 0) X.1 X.2.1 d_M_apply_25 (by decide) ?_
    exact hm_zret X hr hlk hh (Or.inl rfl) (hpo _ _ (Or.inl ⟨Or.inl h1, rfl, rfl⟩)) (Nat.le_of_ble_eq_true rfl) (Nat.le_of_ble_eq_true rfl) d_M_apply_26
  · have h1 := ip_in (by omega : sm < 2 ^ 31) hj
    rcases pk_ix q2 (n := mm) (by omega) with h2 | h2 | ⟨k, hk, rfl⟩
    · skip
      refine lv_aload_n X.1 X.2.1 d_M_apply_0 rfl (lv_at hl 0 rfl) ?_
      refine lv_iconst (v := nI 0) X.1 X.2.1 d_M_apply_1 (by decide) ?_
      refine hl_put X hK hh (ref := "CycleGroupsModel") i_M t_M t_M_ok n_M (ci := 5) rfl 1 (by decide) w_351 rfl rfl (md_in hd (k := 0) rfl) md_at_0 (by first | rfl | decide) (by first | rfl | decide) (Nat.le_of_ble_eq_true rfl) d_M_apply_2 (fun H locs hh => ?_)
      have hh : hl_H g (hm_A sz L) s.heap L (mf g d f0 n mm sm kn mk r3 r5 r7 r8 r10 r11 r12 r13 r14 r15 r16 r17 r18 r19 r20 r21 r22 r23) H locs := md_set_0 hh
      refine lv_aload_n X.1 X.2.1 d_M_apply_5 rfl (lv_at hl 0 rfl) ?_
      refine lv_iload_n X.1 X.2.1 d_M_apply_6 rfl (lv_at hl 1 rfl) ?_
      refine hl_calli hh (hl_runV (k := 1) X hK hh (c_M_isState l g _ L d _ hd _ _ _ _ _ _ _ _ _ _ _ _ _ _ _ _ _ _ _ _ _ _ _ (nI j) (by omega)) wc_M_isState w_445 w_5 wi_M_isState ws_M_isState (by decide +kernel) rfl rfl ⟨Nat.le_of_ble_eq_true rfl, Nat.le_of_ble_eq_true rfl⟩ (md_in hd (k := 0) rfl) md_at_0 rfl rfl rfl rfl (Nat.le_of_ble_eq_true rfl) hl.1 d_M_apply_7 ⟨Nat.le_of_ble_eq_true rfl, Nat.le_of_ble_eq_true rfl⟩) (fun r u H locs hp hh => ?_)
      obtain ⟨hr1, rfl⟩ := hp
      rw [h1] at hr1
      subst hr1
      refine lv_if_eq (tgt := 25) X.1 X.2.1 d_M_apply_10 (by decide) (fun hc => absurd hc (by decide)) (fun _ => ?_)
      refine lv_iload_n X.1 X.2.1 d_M_apply_13 rfl (lv_at hl 2 rfl) ?_
      refine lv_if_lt (tgt := 25) X.1 X.2.1 d_M_apply_14 (by decide) (fun hc => ?_) (fun hc => ?_)
      · skip
        refine lv_iconst (v := nI 0) X.1 X.2.1 d_M_apply_25 (by decide) ?_
        exact hm_zret X hr hlk hh (Or.inl rfl) (hpo _ _ (Or.inl ⟨Or.inr (ip_neg h2), rfl, rfl⟩)) (Nat.le_of_ble_eq_true rfl) (Nat.le_of_ble_eq_true rfl) d_M_apply_26
      · exact absurd h2 hc
    · skip
      refine lv_aload_n X.1 X.2.1 d_M_apply_0 rfl (lv_at hl 0 rfl) ?_
      refine lv_iconst (v := nI 0) X.1 X.2.1 d_M_apply_1 (by decide) ?_
      refine hl_put X hK hh (ref := "CycleGroupsModel") i_M t_M t_M_ok n_M (ci := 5) rfl 1 (by decide) w_351 rfl rfl (md_in hd (k := 0) rfl) md_at_0 (by first | rfl | decide) (by first | rfl | decide) (Nat.le_of_ble_eq_true rfl) d_M_apply_2 (fun H locs hh => ?_)
      have hh : hl_H g (hm_A sz L) s.heap L (mf g d f0 n mm sm kn mk r3 r5 r7 r8 r10 r11 r12 r13 r14 r15 r16 r17 r18 r19 r20 r21 r22 r23) H locs := md_set_0 hh
      refine lv_aload_n X.1 X.2.1 d_M_apply_5 rfl (lv_at hl 0 rfl) ?_
      refine lv_iload_n X.1 X.2.1 d_M_apply_6 rfl (lv_at hl 1 rfl) ?_
      refine hl_calli hh (hl_runV (k := 1) X hK hh (c_M_isState l g _ L d _ hd _ _ _ _ _ _ _ _ _ _ _ _ _ _ _ _ _ _ _ _ _ _ _ (nI j) (by omega)) wc_M_isState w_445 w_5 wi_M_isState ws_M_isState (by decide +kernel) rfl rfl ⟨Nat.le_of_ble_eq_true rfl, Nat.le_of_ble_eq_true rfl⟩ (md_in hd (k := 0) rfl) md_at_0 rfl rfl rfl rfl (Nat.le_of_ble_eq_true rfl) hl.1 d_M_apply_7 ⟨Nat.le_of_ble_eq_true rfl, Nat.le_of_ble_eq_true rfl⟩) (fun r u H locs hp hh => ?_)
      obtain ⟨hr1, rfl⟩ := hp
      rw [h1] at hr1
      subst hr1
      refine lv_if_eq (tgt := 25) X.1 X.2.1 d_M_apply_10 (by decide) (fun hc => absurd hc (by decide)) (fun _ => ?_)
      refine lv_iload_n X.1 X.2.1 d_M_apply_13 rfl (lv_at hl 2 rfl) ?_
      refine lv_if_lt (tgt := 25) X.1 X.2.1 d_M_apply_14 (by decide) (fun hc => ?_) (fun hc => ?_)
      · skip
        refine lv_iconst (v := nI 0) X.1 X.2.1 d_M_apply_25 (by decide) ?_
        exact hm_zret X hr hlk hh (Or.inl rfl) (hpo _ _ (Or.inl ⟨Or.inr (ip_big h2), rfl, rfl⟩)) (Nat.le_of_ble_eq_true rfl) (Nat.le_of_ble_eq_true rfl) d_M_apply_26
      refine lv_iload_n X.1 X.2.1 d_M_apply_17 rfl (lv_at hl 2 rfl) ?_
      refine lv_aload_n X.1 X.2.1 d_M_apply_18 rfl (lv_at hl 0 rfl) ?_
      refine hl_get X hK hh (ref := "CycleGroupsModel") i_M (ci := 5) rfl 2 (by decide) w_353 rfl (md_in hd (k := 0) rfl) md_at_0 rfl d_M_apply_19 ?_
      refine lv_icmp_lt (tgt := 27) X.1 X.2.1 d_M_apply_22 (by decide) (fun hc => ?_) (fun hc => ?_)
      · exact absurd (Int32.lt_of_lt_of_le hc h2) (Int32.lt_irrefl)
      · skip
        refine lv_iconst (v := nI 0) X.1 X.2.1 d_M_apply_25 (by decide) ?_
        exact hm_zret X hr hlk hh (Or.inl rfl) (hpo _ _ (Or.inl ⟨Or.inr (ip_big h2), rfl, rfl⟩)) (Nat.le_of_ble_eq_true rfl) (Nat.le_of_ble_eq_true rfl) d_M_apply_26
    · skip
      refine lv_aload_n X.1 X.2.1 d_M_apply_0 rfl (lv_at hl 0 rfl) ?_
      refine lv_iconst (v := nI 0) X.1 X.2.1 d_M_apply_1 (by decide) ?_
      refine hl_put X hK hh (ref := "CycleGroupsModel") i_M t_M t_M_ok n_M (ci := 5) rfl 1 (by decide) w_351 rfl rfl (md_in hd (k := 0) rfl) md_at_0 (by first | rfl | decide) (by first | rfl | decide) (Nat.le_of_ble_eq_true rfl) d_M_apply_2 (fun H locs hh => ?_)
      have hh : hl_H g (hm_A sz L) s.heap L (mf g d f0 n mm sm kn mk r3 r5 r7 r8 r10 r11 r12 r13 r14 r15 r16 r17 r18 r19 r20 r21 r22 r23) H locs := md_set_0 hh
      refine lv_aload_n X.1 X.2.1 d_M_apply_5 rfl (lv_at hl 0 rfl) ?_
      refine lv_iload_n X.1 X.2.1 d_M_apply_6 rfl (lv_at hl 1 rfl) ?_
      refine hl_calli hh (hl_runV (k := 1) X hK hh (c_M_isState l g _ L d _ hd _ _ _ _ _ _ _ _ _ _ _ _ _ _ _ _ _ _ _ _ _ _ _ (nI j) (by omega)) wc_M_isState w_445 w_5 wi_M_isState ws_M_isState (by decide +kernel) rfl rfl ⟨Nat.le_of_ble_eq_true rfl, Nat.le_of_ble_eq_true rfl⟩ (md_in hd (k := 0) rfl) md_at_0 rfl rfl rfl rfl (Nat.le_of_ble_eq_true rfl) hl.1 d_M_apply_7 ⟨Nat.le_of_ble_eq_true rfl, Nat.le_of_ble_eq_true rfl⟩) (fun r u H locs hp hh => ?_)
      obtain ⟨hr1, rfl⟩ := hp
      rw [h1] at hr1
      subst hr1
      refine lv_if_eq (tgt := 25) X.1 X.2.1 d_M_apply_10 (by decide) (fun hc => absurd hc (by decide)) (fun _ => ?_)
      refine lv_iload_n X.1 X.2.1 d_M_apply_13 rfl (lv_at hl 2 rfl) ?_
      refine lv_if_lt (tgt := 25) X.1 X.2.1 d_M_apply_14 (by decide) (fun hc => ?_) (fun hc => ?_)
      · exact absurd hc (nI_pos (by omega))
      refine lv_iload_n X.1 X.2.1 d_M_apply_17 rfl (lv_at hl 2 rfl) ?_
      refine lv_aload_n X.1 X.2.1 d_M_apply_18 rfl (lv_at hl 0 rfl) ?_
      refine hl_get X hK hh (ref := "CycleGroupsModel") i_M (ci := 5) rfl 2 (by decide) w_353 rfl (md_in hd (k := 0) rfl) md_at_0 rfl d_M_apply_19 ?_
      refine hn_ilt (tgt := 27) X (by omega) (by omega) d_M_apply_22 (by decide) (fun hc => ?_) (fun hc => ?_)
      · skip
        refine lv_aload_n X.1 X.2.1 d_M_apply_27 rfl (lv_at hl 0 rfl) ?_
        refine lv_iload_n X.1 X.2.1 d_M_apply_28 rfl (lv_at hl 1 rfl) ?_
        refine lv_iload_n X.1 X.2.1 d_M_apply_29 rfl (lv_at hl 2 rfl) ?_
        refine hl_callv hh (hl_runV (k := 2) X hK hh (c_M_applyMove l g _ L d f0 hd n mm sm kn mk r3 r5 r7 r8 r10 r11 r12 r13 r14 r15 r16 r17 r18 r19 r20 r21 r22 r23 hn (st j) (mv k) j k (by omega) (by omega) (h5 j hj) (h3 k hk) (hst j hj) (hmv k hk)) wc_M_applyMove w_449 w_5 wi_M_applyMove ws_M_applyMove (by decide +kernel) rfl rfl ⟨Nat.le_of_ble_eq_true rfl, Nat.le_of_ble_eq_true rfl⟩ (md_in hd (k := 0) rfl) md_at_0 rfl rfl rfl rfl (Nat.le_of_ble_eq_true rfl) hl.1 d_M_apply_30 ⟨Nat.le_of_ble_eq_true rfl, Nat.le_of_ble_eq_true rfl⟩) (fun u H locs hp hh => ?_)
        subst hp
        refine lv_iconst (v := nI 1) X.1 X.2.1 d_M_apply_33 (by decide) ?_
        exact hm_zret X hr hlk hh (Or.inr rfl) (hpo _ _ (Or.inr ⟨j, k, hj, hk, rfl, rfl, rfl, rfl⟩)) (Nat.le_of_ble_eq_true rfl) (Nat.le_of_ble_eq_true rfl) d_M_apply_34
      · omega

/-- boolean exchange(int s, int a, int b) -/
theorem c_M_exchange (l : Launch) (g : hl_G) (sz : Nat) (L : List Nat) (d : Nat → Nat) (f0 : Nat → va_E) (hd : md_D L d) (n mm sm kn mk : Nat) (r3 r5 r7 r8 r10 r11 r12 r13 r14 r15 r16 r17 r18 r19 r20 r21 r22 r23 : Nat → Nat) (mv st : Nat → Nat → Nat) (hW : cg_W n mm sm mv st) (h3 : ∀ i, i < mm → fr r3 i (mv i)) (h5 : ∀ j, j < sm → fr r5 j (st j)) (q1 q2 q3 : Int32) (post : Int32 → List Nat × (Nat → va_E) → Prop) (hpo : ∀ r f1, ((ip q1 sm = false ∨ ip q2 n = false ∨ ip q3 n = false ∨ q2 = q3) ∧ r = nI 0 ∧ f1 = mf g d f0 n mm sm kn mk r3 r5 r7 r8 r10 r11 r12 r13 r14 r15 r16 r17 r18 r19 r20 r21 r22 r23) ∨ (∃ j a c, j < sm ∧ a < n ∧ c < n ∧ a ≠ c ∧ q1 = nI j ∧ q2 = nI a ∧ q3 = nI c ∧ r = nI 1 ∧ f1 = mf g d f0 n mm sm kn mk r3 (fw r5 j (gp_sw a c ∘ st j) 24) r7 r8 r10 r11 r12 r13 r14 r15 r16 r17 r18 r19 r20 r21 r22 r23) → post r (L, f1)) :
    Met l y_M_exchange (hq y_M_exchange b_M_exchange 6 (some .boolean)) { frames := 1, cells := 0, slots := 0, locals := 30 } (hm_P g [.ref (d 0), .int q1, .int q2, .int q3] sz L (mf g d f0 n mm sm kn mk r3 r5 r7 r8 r10 r11 r12 r13 r14 r15 r16 r17 r18 r19 r20 r21 r22 r23)) (va_Qi (post) (hm_B g sz L) (hm_A sz L)) 0 0 (hm_A sz L) := by
  refine hm_ofW (by decide) (Nat.le_of_ble_eq_true rfl) ?_
  intro p e s m below meth c X hr hlk hnm hK hsz hh ls hl
  have hl : lv_has ls 6 [(0, .ref (d 0)), (1, .int q1), (2, .int q2), (3, .int q3)] := hl
  obtain ⟨hn0, hn, hmm, hsm, hmv, hst⟩ := id hW
  rcases ip_cases q1 (n := sm) (by omega) with h1 | ⟨j, hj, rfl⟩
  · skip
    refine lv_aload_n X.1 X.2.1 d_M_exchange_0 rfl (lv_at hl 0 rfl) ?_
    refine lv_iconst (v := nI 0) X.1 X.2.1 d_M_exchange_1 (by decide) ?_
    refine hl_put X hK hh (ref := "CycleGroupsModel") i_M t_M t_M_ok n_M (ci := 5) rfl 1 (by decide) w_351 rfl rfl (md_in hd (k := 0) rfl) md_at_0 (by first | rfl | decide) (by first | rfl | decide) (Nat.le_of_ble_eq_true rfl) d_M_exchange_2 (fun H locs hh => ?_)
    have hh : hl_H g (hm_A sz L) s.heap L (mf g d f0 n mm sm kn mk r3 r5 r7 r8 r10 r11 r12 r13 r14 r15 r16 r17 r18 r19 r20 r21 r22 r23) H locs := md_set_0 hh
    refine lv_aload_n X.1 X.2.1 d_M_exchange_5 rfl (lv_at hl 0 rfl) ?_
    refine lv_iload_n X.1 X.2.1 d_M_exchange_6 rfl (lv_at hl 1 rfl) ?_
    refine hl_calli hh (hl_runV (k := 1) X hK hh (c_M_isState l g _ L d _ hd _ _ _ _ _ _ _ _ _ _ _ _ _ _ _ _ _ _ _ _ _ _ _ q1 (by omega)) wc_M_isState w_445 w_5 wi_M_isState ws_M_isState (by decide +kernel) rfl rfl ⟨Nat.le_of_ble_eq_true rfl, Nat.le_of_ble_eq_true rfl⟩ (md_in hd (k := 0) rfl) md_at_0 rfl rfl rfl rfl (Nat.le_of_ble_eq_true rfl) hl.1 d_M_exchange_7 ⟨Nat.le_of_ble_eq_true rfl, Nat.le_of_ble_eq_true rfl⟩) (fun r u H locs hp hh => ?_)
    obtain ⟨hr1, rfl⟩ := hp
    rw [h1] at hr1
    subst hr1
    refine lv_if_eq (tgt := 34) X.1 X.2.1 d_M_exchange_10 (by decide) (fun _ => ?_) (fun hc => absurd (by decide) hc)
    refine lv_iconst (v := nI 0) X.1 X.2.1 d_M_exchange_34 (by decide) ?_
    exact hm_zret X hr hlk hh (Or.inl rfl) (hpo _ _ (Or.inl ⟨Or.inl h1, rfl, rfl⟩)) (Nat.le_of_ble_eq_true rfl) (Nat.le_of_ble_eq_true rfl) d_M_exchange_35
  · have h1 := ip_in (by omega : sm < 2 ^ 31) hj
    rcases ip_cases q2 (n := n) (by omega) with h2 | ⟨a, ha, rfl⟩
    · skip
      refine lv_aload_n X.1 X.2.1 d_M_exchange_0 rfl (lv_at hl 0 rfl) ?_
      refine lv_iconst (v := nI 0) X.1 X.2.1 d_M_exchange_1 (by decide) ?_
      refine hl_put X hK hh (ref := "CycleGroupsModel") i_M t_M t_M_ok n_M (ci := 5) rfl 1 (by decide) w_351 rfl rfl (md_in hd (k := 0) rfl) md_at_0 (by first | rfl | decide) (by first | rfl | decide) (Nat.le_of_ble_eq_true rfl) d_M_exchange_2 (fun H locs hh => ?_)
      have hh : hl_H g (hm_A sz L) s.heap L (mf g d f0 n mm sm kn mk r3 r5 r7 r8 r10 r11 r12 r13 r14 r15 r16 r17 r18 r19 r20 r21 r22 r23) H locs := md_set_0 hh
      refine lv_aload_n X.1 X.2.1 d_M_exchange_5 rfl (lv_at hl 0 rfl) ?_
      refine lv_iload_n X.1 X.2.1 d_M_exchange_6 rfl (lv_at hl 1 rfl) ?_
      refine hl_calli hh (hl_runV (k := 1) X hK hh (c_M_isState l g _ L d _ hd _ _ _ _ _ _ _ _ _ _ _ _ _ _ _ _ _ _ _ _ _ _ _ (nI j) (by omega)) wc_M_isState w_445 w_5 wi_M_isState ws_M_isState (by decide +kernel) rfl rfl ⟨Nat.le_of_ble_eq_true rfl, Nat.le_of_ble_eq_true rfl⟩ (md_in hd (k := 0) rfl) md_at_0 rfl rfl rfl rfl (Nat.le_of_ble_eq_true rfl) hl.1 d_M_exchange_7 ⟨Nat.le_of_ble_eq_true rfl, Nat.le_of_ble_eq_true rfl⟩) (fun r u H locs hp hh => ?_)
      obtain ⟨hr1, rfl⟩ := hp
      rw [h1] at hr1
      subst hr1
      refine lv_if_eq (tgt := 34) X.1 X.2.1 d_M_exchange_10 (by decide) (fun hc => absurd hc (by decide)) (fun _ => ?_)
      refine lv_aload_n X.1 X.2.1 d_M_exchange_13 rfl (lv_at hl 0 rfl) ?_
      refine lv_iload_n X.1 X.2.1 d_M_exchange_14 rfl (lv_at hl 2 rfl) ?_
      refine hl_calli hh (hl_runV (k := 1) X hK hh (c_M_isPlace l g _ L d _ hd _ _ _ _ _ _ _ _ _ _ _ _ _ _ _ _ _ _ _ _ _ _ _ q2 (by omega)) wc_M_isPlace w_433 w_5 wi_M_isPlace ws_M_isPlace (by decide +kernel) rfl rfl ⟨Nat.le_of_ble_eq_true rfl, Nat.le_of_ble_eq_true rfl⟩ (md_in hd (k := 0) rfl) md_at_0 rfl rfl rfl rfl (Nat.le_of_ble_eq_true rfl) hl.1 d_M_exchange_15 ⟨Nat.le_of_ble_eq_true rfl, Nat.le_of_ble_eq_true rfl⟩) (fun r u H locs hp hh => ?_)
      obtain ⟨hr1, rfl⟩ := hp
      rw [h2] at hr1
      subst hr1
      refine lv_if_eq (tgt := 34) X.1 X.2.1 d_M_exchange_18 (by decide) (fun _ => ?_) (fun hc => absurd (by decide) hc)
      refine lv_iconst (v := nI 0) X.1 X.2.1 d_M_exchange_34 (by decide) ?_
      exact hm_zret X hr hlk hh (Or.inl rfl) (hpo _ _ (Or.inl ⟨Or.inr (Or.inl h2), rfl, rfl⟩)) (Nat.le_of_ble_eq_true rfl) (Nat.le_of_ble_eq_true rfl) d_M_exchange_35
    · have h2 := ip_in (by omega : n < 2 ^ 31) ha
      rcases ip_cases q3 (n := n) (by omega) with h4 | ⟨k, hk, rfl⟩
      · skip
        refine lv_aload_n X.1 X.2.1 d_M_exchange_0 rfl (lv_at hl 0 rfl) ?_
        refine lv_iconst (v := nI 0) X.1 X.2.1 d_M_exchange_1 (by decide) ?_
        refine hl_put X hK hh (ref := "CycleGroupsModel") i_M t_M t_M_ok n_M (ci := 5) rfl 1 (by decide) w_351 rfl rfl (md_in hd (k := 0) rfl) md_at_0 (by first | rfl | decide) (by first | rfl | decide) (Nat.le_of_ble_eq_true rfl) d_M_exchange_2 (fun H locs hh => ?_)
        have hh : hl_H g (hm_A sz L) s.heap L (mf g d f0 n mm sm kn mk r3 r5 r7 r8 r10 r11 r12 r13 r14 r15 r16 r17 r18 r19 r20 r21 r22 r23) H locs := md_set_0 hh
        refine lv_aload_n X.1 X.2.1 d_M_exchange_5 rfl (lv_at hl 0 rfl) ?_
        refine lv_iload_n X.1 X.2.1 d_M_exchange_6 rfl (lv_at hl 1 rfl) ?_
        refine hl_calli hh (hl_runV (k := 1) X hK hh (c_M_isState l g _ L d _ hd _ _ _ _ _ _ _ _ _ _ _ _ _ _ _ _ _ _ _ _ _ _ _ (nI j) (by omega)) wc_M_isState w_445 w_5 wi_M_isState ws_M_isState (by decide +kernel) rfl rfl ⟨Nat.le_of_ble_eq_true rfl, Nat.le_of_ble_eq_true rfl⟩ (md_in hd (k := 0) rfl) md_at_0 rfl rfl rfl rfl (Nat.le_of_ble_eq_true rfl) hl.1 d_M_exchange_7 ⟨Nat.le_of_ble_eq_true rfl, Nat.le_of_ble_eq_true rfl⟩) (fun r u H locs hp hh => ?_)
        obtain ⟨hr1, rfl⟩ := hp
        rw [h1] at hr1
        subst hr1
        refine lv_if_eq (tgt := 34) X.1 X.2.1 d_M_exchange_10 (by decide) (fun hc => absurd hc (by decide)) (fun _ => ?_)
        refine lv_aload_n X.1 X.2.1 d_M_exchange_13 rfl (lv_at hl 0 rfl) ?_
        refine lv_iload_n X.1 X.2.1 d_M_exchange_14 rfl (lv_at hl 2 rfl) ?_
        refine hl_calli hh (hl_runV (k := 1) X hK hh (c_M_isPlace l g _ L d _ hd _ _ _ _ _ _ _ _ _ _ _ _ _ _ _ _ _ _ _ _ _ _ _ (nI a) (by omega)) wc_M_isPlace w_433 w_5 wi_M_isPlace ws_M_isPlace (by decide +kernel) rfl rfl ⟨Nat.le_of_ble_eq_true rfl, Nat.le_of_ble_eq_true rfl⟩ (md_in hd (k := 0) rfl) md_at_0 rfl rfl rfl rfl (Nat.le_of_ble_eq_true rfl) hl.1 d_M_exchange_15 ⟨Nat.le_of_ble_eq_true rfl, Nat.le_of_ble_eq_true rfl⟩) (fun r u H locs hp hh => ?_)
        obtain ⟨hr1, rfl⟩ := hp
        rw [h2] at hr1
        subst hr1
        refine lv_if_eq (tgt := 34) X.1 X.2.1 d_M_exchange_18 (by decide) (fun hc => absurd hc (by decide)) (fun _ => ?_)
        refine lv_aload_n X.1 X.2.1 d_M_exchange_21 rfl (lv_at hl 0 rfl) ?_
        refine lv_iload_n X.1 X.2.1 d_M_exchange_22 rfl (lv_at hl 3 rfl) ?_
        refine hl_calli hh (hl_runV (k := 1) X hK hh (c_M_isPlace l g _ L d _ hd _ _ _ _ _ _ _ _ _ _ _ _ _ _ _ _ _ _ _ _ _ _ _ q3 (by omega)) wc_M_isPlace w_433 w_5 wi_M_isPlace ws_M_isPlace (by decide +kernel) rfl rfl ⟨Nat.le_of_ble_eq_true rfl, Nat.le_of_ble_eq_true rfl⟩ (md_in hd (k := 0) rfl) md_at_0 rfl rfl rfl rfl (Nat.le_of_ble_eq_true rfl) hl.1 d_M_exchange_23 ⟨Nat.le_of_ble_eq_true rfl, Nat.le_of_ble_eq_true rfl⟩) (fun r u H locs hp hh => ?_)
        obtain ⟨hr1, rfl⟩ := hp
        rw [h4] at hr1
        subst hr1
        refine lv_if_eq (tgt := 34) X.1 X.2.1 d_M_exchange_26 (by decide) (fun _ => ?_) (fun hc => absurd (by decide) hc)
        refine lv_iconst (v := nI 0) X.1 X.2.1 d_M_exchange_34 (by decide) ?_
        exact hm_zret X hr hlk hh (Or.inl rfl) (hpo _ _ (Or.inl ⟨Or.inr (Or.inr (Or.inl h4)), rfl, rfl⟩)) (Nat.le_of_ble_eq_true rfl) (Nat.le_of_ble_eq_true rfl) d_M_exchange_35
      · have h4 := ip_in (by omega : n < 2 ^ 31) hk
        refine lv_aload_n X.1 X.2.1 d_M_exchange_0 rfl (lv_at hl 0 rfl) ?_
        refine lv_iconst (v := nI 0) X.1 X.2.1 d_M_exchange_1 (by decide) ?_
        refine hl_put X hK hh (ref := "CycleGroupsModel") i_M t_M t_M_ok n_M (ci := 5) rfl 1 (by decide) w_351 rfl rfl (md_in hd (k := 0) rfl) md_at_0 (by first | rfl | decide) (by first | rfl | decide) (Nat.le_of_ble_eq_true rfl) d_M_exchange_2 (fun H locs hh => ?_)
        have hh : hl_H g (hm_A sz L) s.heap L (mf g d f0 n mm sm kn mk r3 r5 r7 r8 r10 r11 r12 r13 r14 r15 r16 r17 r18 r19 r20 r21 r22 r23) H locs := md_set_0 hh
        refine lv_aload_n X.1 X.2.1 d_M_exchange_5 rfl (lv_at hl 0 rfl) ?_
        refine lv_iload_n X.1 X.2.1 d_M_exchange_6 rfl (lv_at hl 1 rfl) ?_
        refine hl_calli hh (hl_runV (k := 1) X hK hh (c_M_isState l g _ L d _ hd _ _ _ _ _ _ _ _ _ _ _ _ _ _ _ _ _ _ _ _ _ _ _ (nI j) (by omega)) wc_M_isState w_445 w_5 wi_M_isState ws_M_isState (by decide +kernel) rfl rfl ⟨Nat.le_of_ble_eq_true rfl, Nat.le_of_ble_eq_true rfl⟩ (md_in hd (k := 0) rfl) md_at_0 rfl rfl rfl rfl (Nat.le_of_ble_eq_true rfl) hl.1 d_M_exchange_7 ⟨Nat.le_of_ble_eq_true rfl, Nat.le_of_ble_eq_true rfl⟩) (fun r u H locs hp hh => ?_)
        obtain ⟨hr1, rfl⟩ := hp
        rw [h1] at hr1
        subst hr1
        refine lv_if_eq (tgt := 34) X.1 X.2.1 d_M_exchange_10 (by decide) (fun hc => absurd hc (by decide)) (fun _ => ?_)
        refine lv_aload_n X.1 X.2.1 d_M_exchange_13 rfl (lv_at hl 0 rfl) ?_
        refine lv_iload_n X.1 X.2.1 d_M_exchange_14 rfl (lv_at hl 2 rfl) ?_
        refine hl_calli hh (hl_runV (k := 1) X hK hh (c_M_isPlace l g _ L d _ hd _ _ _ _ _ _ _ _ _ _ _ _ _ _ _ _ _ _ _ _ _ _ _ (nI a) (by omega)) wc_M_isPlace w_433 w_5 wi_M_isPlace ws_M_isPlace (by decide +kernel) rfl rfl ⟨Nat.le_of_ble_eq_true rfl, Nat.le_of_ble_eq_true rfl⟩ (md_in hd (k := 0) rfl) md_at_0 rfl rfl rfl rfl (Nat.le_of_ble_eq_true rfl) hl.1 d_M_exchange_15 ⟨Nat.le_of_ble_eq_true rfl, Nat.le_of_ble_eq_true rfl⟩) (fun r u H locs hp hh => ?_)
        obtain ⟨hr1, rfl⟩ := hp
        rw [h2] at hr1
        subst hr1
        refine lv_if_eq (tgt := 34) X.1 X.2.1 d_M_exchange_18 (by decide) (fun hc => absurd hc (by decide)) (fun _ => ?_)
        refine lv_aload_n X.1 X.2.1 d_M_exchange_21 rfl (lv_at hl 0 rfl) ?_
        refine lv_iload_n X.1 X.2.1 d_M_exchange_22 rfl (lv_at hl 3 rfl) ?_
        refine hl_calli hh (hl_runV (k := 1) X hK hh (c_M_isPlace l g _ L d _ hd _ _ _ _ _ _ _ _ _ _ _ _ _ _ _ _ _ _ _ _ _ _ _ (nI k) (by omega)) wc_M_isPlace w_433 w_5 wi_M_isPlace ws_M_isPlace (by decide +kernel) rfl rfl ⟨Nat.le_of_ble_eq_true rfl, Nat.le_of_ble_eq_true rfl⟩ (md_in hd (k := 0) rfl) md_at_0 rfl rfl rfl rfl (Nat.le_of_ble_eq_true rfl) hl.1 d_M_exchange_23 ⟨Nat.le_of_ble_eq_true rfl, Nat.le_of_ble_eq_true rfl⟩) (fun r u H locs hp hh => ?_)
        obtain ⟨hr1, rfl⟩ := hp
        rw [h4] at hr1
        subst hr1
        refine lv_if_eq (tgt := 34) X.1 X.2.1 d_M_exchange_26 (by decide) (fun hc => absurd hc (by decide)) (fun _ => ?_)
        refine lv_iload_n X.1 X.2.1 d_M_exchange_29 rfl (lv_at hl 2 rfl) ?_
        refine lv_iload_n X.1 X.2.1 d_M_exchange_30 rfl (lv_at hl 3 rfl) ?_
        refine hn_ine (tgt := 36) X (by omega) (by omega) d_M_exchange_31 (by decide) (fun hc => ?_) (fun hc => ?_)
        · have hne : a ≠ k := hc
          have hsw := gp_sw_sym (ch_D_mem.2 ⟨Nat.zero_le _, ha⟩) (ch_D_mem.2 ⟨Nat.zero_le _, hk⟩)
          have loop : ∀ (t i : Nat) (H : Heap) (locs : List Loc) (ls : Array Slot), n + 1 ≤ i + t → i ≤ n → hl_H g (hm_A sz L) s.heap L (mf g d f0 n mm sm kn mk r3 (fw r5 j (gp_sw a k ∘ st j) i) r7 r8 r10 r11 r12 r13 r14 r15 r16 r17 r18 r19 r20 r21 r22 r23) H locs → lv_has ls 6 [(4, .int (nI i)), (0, .ref (d 0)), (1, .int (nI j)), (2, .int (nI a)), (3, .int (nI k))] → W p l e { frames := 1, cells := 0, slots := 0, locals := 30 } s m #[.ref (d 0), .int (nI j), .int (nI a), .int (nI k)] below meth c H locs 0 0 (MQ below (va_Qi (post) (hm_B g sz L) (hm_A sz L)) #[.ref (d 0), .int (nI j), .int (nI a), .int (nI k)] s 0 0 (hm_A sz L)) (F0 m 39 ls []) := by
            intro t
            induction t with
            | zero => intros; omega
            | succ t ih =>
              intro i H locs ls hk2 hin hh hl
              refine lv_iload X.1 X.2.1 d_M_exchange_39 (lv_at hl 0 rfl) ?_
              refine lv_aload_n X.1 X.2.1 d_M_exchange_41 rfl (lv_at hl 1 rfl) ?_
              refine hl_get X hK hh (ref := "CycleGroupsModel") i_M (ci := 5) rfl 0 (by decide) w_352 rfl (md_in hd (k := 0) rfl) md_at_0 rfl d_M_exchange_42 ?_
              refine hn_ige (tgt := 102) X (by omega) (by omega) d_M_exchange_45 (by decide) (fun hc => ?_) (fun hc => ?_)
              · have hi : i = n := by omega
                rw [hi, fw_n (h5 j hj) hn (fun p hp => by show gp_sw a k (st j p) = st j p; rw [sym_out (hst j hj) hp, gp_sw_n (by omega) (by omega)])] at hh
                refine lv_iconst (v := nI 1) X.1 X.2.1 d_M_exchange_102 (by decide) ?_
                exact hm_zret X hr hlk hh (Or.inr rfl) (hpo _ _ (Or.inr ⟨j, a, k, hj, ha, hk, hne, rfl, rfl, rfl, rfl, rfl⟩)) (Nat.le_of_ble_eq_true rfl) (Nat.le_of_ble_eq_true rfl) d_M_exchange_103
              · have hi : i < n := hc
                have e1 : fw r5 j (gp_sw a k ∘ st j) i (24 * j + i) = st j i := by rw [fw_rest _ _ _ (by omega)]; exact h5 j hj i (by omega)
                have e2 := lk_sym_lt (hst j hj) hi
                have fin : ∀ v, v = gp_sw a k (st j i) → va_up (fw r5 j (gp_sw a k ∘ st j) i) (24 * j + i) v = fw r5 j (gp_sw a k ∘ st j) (i + 1) := fun v hv => by rw [hv]; exact fw_s r5 j (gp_sw a k ∘ st j) i
                refine lv_aload_n X.1 X.2.1 d_M_exchange_48 rfl (lv_at hl 1 rfl) ?_
                refine hl_get X hK hh (ref := "CycleGroupsModel") i_M (ci := 5) rfl 5 (by decide) w_356 rfl (md_in hd (k := 0) rfl) md_at_0 rfl d_M_exchange_49 ?_
                refine lv_bipush (v := nI 24) X.1 X.2.1 d_M_exchange_52 (by decide) ?_
                refine lv_iload_n X.1 X.2.1 d_M_exchange_54 rfl (lv_at hl 2 rfl) ?_
                refine hn_mul X d_M_exchange_55 ?_
                refine lv_iload X.1 X.2.1 d_M_exchange_56 (lv_at hl 0 rfl) ?_
                refine hn_add X d_M_exchange_58 ?_
                refine hl_iald X hK hh (md_in hd (k := 5) rfl) (md_at_5 hd) (by omega) (by decide) d_M_exchange_59 ?_
                refine lv_istore (lv' := [(5, .int (nI ((fw r5 j (gp_sw a k ∘ st j) i) ((24 * j) + i)))), (4, .int (nI i)), (0, .ref (d 0)), (1, .int (nI j)), (2, .int (nI a)), (3, .int (nI k))]) X.1 X.2.1 d_M_exchange_60 hl (by decide) rfl (fun ls hl => ?_)
                refine lv_aload_n X.1 X.2.1 d_M_exchange_62 rfl (lv_at hl 2 rfl) ?_
                refine hl_get X hK hh (ref := "CycleGroupsModel") i_M (ci := 5) rfl 5 (by decide) w_356 rfl (md_in hd (k := 0) rfl) md_at_0 rfl d_M_exchange_63 ?_
                refine lv_bipush (v := nI 24) X.1 X.2.1 d_M_exchange_66 (by decide) ?_
                refine lv_iload_n X.1 X.2.1 d_M_exchange_68 rfl (lv_at hl 3 rfl) ?_
                refine hn_mul X d_M_exchange_69 ?_
                refine lv_iload X.1 X.2.1 d_M_exchange_70 (lv_at hl 1 rfl) ?_
                refine hn_add X d_M_exchange_72 ?_
                refine lv_iload X.1 X.2.1 d_M_exchange_73 (lv_at hl 0 rfl) ?_
                refine lv_iload_n X.1 X.2.1 d_M_exchange_75 rfl (lv_at hl 4 rfl) ?_
                refine hn_ine (tgt := 83) X (by omega) (by omega) d_M_exchange_76 (by decide) (fun hc => ?_) (fun hc => ?_)
                · have hc1 : ¬ fw r5 j (gp_sw a k ∘ st j) i (24 * j + i) = a := hc
                  rw [e1] at hc1
                  refine lv_iload X.1 X.2.1 d_M_exchange_83 (lv_at hl 0 rfl) ?_
                  refine lv_iload_n X.1 X.2.1 d_M_exchange_85 rfl (lv_at hl 5 rfl) ?_
                  refine hn_ine (tgt := 93) X (by omega) (by omega) d_M_exchange_86 (by decide) (fun hc => ?_) (fun hc => ?_)
                  · have hc2 : ¬ fw r5 j (gp_sw a k ∘ st j) i (24 * j + i) = k := hc
                    rw [e1] at hc2
                    refine lv_iload X.1 X.2.1 d_M_exchange_93 (lv_at hl 0 rfl) ?_
                    refine hl_iastN X hK hh (md_in hd (k := 5) rfl) (md_at_5 hd) (by omega) (by decide) d_M_exchange_95 (fun H locs hh => ?_)
                    have hh : hl_H g (hm_A sz L) s.heap L (mf g d f0 n mm sm kn mk r3 (va_up (fw r5 j (gp_sw a k ∘ st j) i) ((24 * j) + i) ((fw r5 j (gp_sw a k ∘ st j) i) ((24 * j) + i))) r7 r8 r10 r11 r12 r13 r14 r15 r16 r17 r18 r19 r20 r21 r22 r23) H locs := md_set_5 hd hh
                    refine lv_iinc (v := nI (i + 1)) (lv' := [(4, .int (nI (i + 1))), (5, .int (nI ((fw r5 j (gp_sw a k ∘ st j) i) ((24 * j) + i)))), (0, .ref (d 0)), (1, .int (nI j)), (2, .int (nI a)), (3, .int (nI k))]) X.1 X.2.1 d_M_exchange_96 hl (k := 1) rfl (hn_inc _) (by decide) rfl (fun ls hl => ?_)
                    refine lv_goto (tgt := 39) X.1 X.2.1 d_M_exchange_99 (by decide) ?_
                    rw [fin _ (by rw [e1, gp_sw_n hc1 hc2])] at hh
                    exact ih (i + 1) H locs ls (by omega) (by omega) hh (lv_sub hl [0, 2, 3, 4, 5] rfl)
                  · have hc2 : fw r5 j (gp_sw a k ∘ st j) i (24 * j + i) = k := hc
                    rw [e1] at hc2
                    refine lv_iload_n X.1 X.2.1 d_M_exchange_89 rfl (lv_at hl 4 rfl) ?_
                    refine lv_goto (tgt := 95) X.1 X.2.1 d_M_exchange_90 (by decide) ?_
                    refine hl_iastN X hK hh (md_in hd (k := 5) rfl) (md_at_5 hd) (by omega) (by decide) d_M_exchange_95 (fun H locs hh => ?_)
                    have hh : hl_H g (hm_A sz L) s.heap L (mf g d f0 n mm sm kn mk r3 (va_up (fw r5 j (gp_sw a k ∘ st j) i) ((24 * j) + i) a) r7 r8 r10 r11 r12 r13 r14 r15 r16 r17 r18 r19 r20 r21 r22 r23) H locs := md_set_5 hd hh
                    refine lv_iinc (v := nI (i + 1)) (lv' := [(4, .int (nI (i + 1))), (5, .int (nI ((fw r5 j (gp_sw a k ∘ st j) i) ((24 * j) + i)))), (0, .ref (d 0)), (1, .int (nI j)), (2, .int (nI a)), (3, .int (nI k))]) X.1 X.2.1 d_M_exchange_96 hl (k := 1) rfl (hn_inc _) (by decide) rfl (fun ls hl => ?_)
                    refine lv_goto (tgt := 39) X.1 X.2.1 d_M_exchange_99 (by decide) ?_
                    rw [fin _ (by rw [hc2, gp_sw_b])] at hh
                    exact ih (i + 1) H locs ls (by omega) (by omega) hh (lv_sub hl [0, 2, 3, 4, 5] rfl)
                · have hc1 : fw r5 j (gp_sw a k ∘ st j) i (24 * j + i) = a := hc
                  rw [e1] at hc1
                  refine lv_iload_n X.1 X.2.1 d_M_exchange_79 rfl (lv_at hl 5 rfl) ?_
                  refine lv_goto (tgt := 95) X.1 X.2.1 d_M_exchange_80 (by decide) ?_
                  refine hl_iastN X hK hh (md_in hd (k := 5) rfl) (md_at_5 hd) (by omega) (by decide) d_M_exchange_95 (fun H locs hh => ?_)
                  have hh : hl_H g (hm_A sz L) s.heap L (mf g d f0 n mm sm kn mk r3 (va_up (fw r5 j (gp_sw a k ∘ st j) i) ((24 * j) + i) k) r7 r8 r10 r11 r12 r13 r14 r15 r16 r17 r18 r19 r20 r21 r22 r23) H locs := md_set_5 hd hh
                  refine lv_iinc (v := nI (i + 1)) (lv' := [(4, .int (nI (i + 1))), (5, .int (nI ((fw r5 j (gp_sw a k ∘ st j) i) ((24 * j) + i)))), (0, .ref (d 0)), (1, .int (nI j)), (2, .int (nI a)), (3, .int (nI k))]) X.1 X.2.1 d_M_exchange_96 hl (k := 1) rfl (hn_inc _) (by decide) rfl (fun ls hl => ?_)
                  refine lv_goto (tgt := 39) X.1 X.2.1 d_M_exchange_99 (by decide) ?_
                  rw [fin _ (by rw [hc1, gp_sw_a])] at hh
                  exact ih (i + 1) H locs ls (by omega) (by omega) hh (lv_sub hl [0, 2, 3, 4, 5] rfl)
          refine lv_iconst (v := nI 0) X.1 X.2.1 d_M_exchange_36 (by decide) ?_
          refine lv_istore (lv' := [(4, .int (nI 0)), (0, .ref (d 0)), (1, .int (nI j)), (2, .int (nI a)), (3, .int (nI k))]) X.1 X.2.1 d_M_exchange_37 hl (by decide) rfl (fun ls hl => ?_)
          rw [← fw_0 r5 j (gp_sw a k ∘ st j)] at hh
          exact loop (n + 1) 0 _ _ ls (by omega) (by omega) hh hl
        · have hc2 : a = k := hc
          refine lv_iconst (v := nI 0) X.1 X.2.1 d_M_exchange_34 (by decide) ?_
          exact hm_zret X hr hlk hh (Or.inl rfl) (hpo _ _ (Or.inl ⟨Or.inr (Or.inr (Or.inr (by rw [hc2]))), rfl, rfl⟩)) (Nat.le_of_ble_eq_true rfl) (Nat.le_of_ble_eq_true rfl) d_M_exchange_35

/-- boolean scramble(int s, long seed, int n) -/
theorem c_M_scramble (l : Launch) (g : hl_G) (sz : Nat) (L : List Nat) (d : Nat → Nat) (f0 : Nat → va_E) (hd : md_D L d) (n mm sm kn mk : Nat) (r3 r5 r7 r8 r10 r11 r12 r13 r14 r15 r16 r17 r18 r19 r20 r21 r22 r23 : Nat → Nat) (mv st : Nat → Nat → Nat) (hW : cg_W n mm sm mv st) (h3 : ∀ i, i < mm → fr r3 i (mv i)) (h5 : ∀ j, j < sm → fr r5 j (st j)) (q1 q3 : Int32) (x0 : Int64) (post : Int32 → List Nat × (Nat → va_E) → Prop) (hpo : ∀ r f1, ((ip q1 sm = false ∨ mm = 0 ∨ ip q3 1001 = false) ∧ r = nI 0 ∧ f1 = mf g d f0 n mm sm kn mk r3 r5 r7 r8 r10 r11 r12 r13 r14 r15 r16 r17 r18 r19 r20 r21 r22 r23) ∨ (∃ j k, j < sm ∧ 0 < mm ∧ k ≤ 1000 ∧ q1 = nI j ∧ q3 = nI k ∧ r = nI 1 ∧ f1 = mf g d f0 n mm sm kn mk r3 (fw r5 j (sc_r mm mv k x0 (st j)) 24) r7 r8 r10 r11 r12 r13 r14 r15 r16 r17 r18 r19 r20 r21 r22 r23) → post r (L, f1)) :
    Met l y_M_scramble (hq y_M_scramble b_M_scramble 8 (some .boolean)) { frames := 1, cells := 0, slots := 0, locals := 30 } (hm_P g [.ref (d 0), .int q1, .long x0, .int q3] sz L (mf g d f0 n mm sm kn mk r3 r5 r7 r8 r10 r11 r12 r13 r14 r15 r16 r17 r18 r19 r20 r21 r22 r23)) (va_Qi (post) (hm_B g sz L) (hm_A sz L)) 0 0 (hm_A sz L) := by
  refine hm_ofW (by decide) (Nat.le_of_ble_eq_true rfl) ?_
  intro p e s m below meth c X hr hlk hnm hK hsz hh ls hl
  have hl : lv_has ls 8 [(0, .ref (d 0)), (1, .int q1), (2, .long x0), (4, .int q3)] := hl
  obtain ⟨hn0, hn, hmm, hsm, hmv, hst⟩ := id hW
  rcases ip_cases q1 (n := sm) (by omega) with h1 | ⟨j, hj, rfl⟩
  · skip
    refine lv_aload_n X.1 X.2.1 d_M_scramble_0 rfl (lv_at hl 0 rfl) ?_
    refine lv_iconst (v := nI 0) X.1 X.2.1 d_M_scramble_1 (by decide) ?_
    refine hl_put X hK hh (ref := "CycleGroupsModel") i_M t_M t_M_ok n_M (ci := 5) rfl 1 (by decide) w_351 rfl rfl (md_in hd (k := 0) rfl) md_at_0 (by first | rfl | decide) (by first | rfl | decide) (Nat.le_of_ble_eq_true rfl) d_M_scramble_2 (fun H locs hh => ?_)
    have hh : hl_H g (hm_A sz L) s.heap L (mf g d f0 n mm sm kn mk r3 r5 r7 r8 r10 r11 r12 r13 r14 r15 r16 r17 r18 r19 r20 r21 r22 r23) H locs := md_set_0 hh
    refine lv_aload_n X.1 X.2.1 d_M_scramble_5 rfl (lv_at hl 0 rfl) ?_
    refine lv_iload_n X.1 X.2.1 d_M_scramble_6 rfl (lv_at hl 1 rfl) ?_
    refine hl_calli hh (hl_runV (k := 1) X hK hh (c_M_isState l g _ L d _ hd _ _ _ _ _ _ _ _ _ _ _ _ _ _ _ _ _ _ _ _ _ _ _ q1 (by omega)) wc_M_isState w_445 w_5 wi_M_isState ws_M_isState (by decide +kernel) rfl rfl ⟨Nat.le_of_ble_eq_true rfl, Nat.le_of_ble_eq_true rfl⟩ (md_in hd (k := 0) rfl) md_at_0 rfl rfl rfl rfl (Nat.le_of_ble_eq_true rfl) hl.1 d_M_scramble_7 ⟨Nat.le_of_ble_eq_true rfl, Nat.le_of_ble_eq_true rfl⟩) (fun r u H locs hp hh => ?_)
    obtain ⟨hr1, rfl⟩ := hp
    rw [h1] at hr1
    subst hr1
    refine lv_if_eq (tgt := 33) X.1 X.2.1 d_M_scramble_10 (by decide) (fun _ => ?_) (fun hc => absurd (by decide) hc)
    refine lv_iconst (v := nI 0) X.1 X.2.1 d_M_scramble_33 (by decide) ?_
    exact hm_zret X hr hlk hh (Or.inl rfl) (hpo _ _ (Or.inl ⟨Or.inl h1, rfl, rfl⟩)) (Nat.le_of_ble_eq_true rfl) (Nat.le_of_ble_eq_true rfl) d_M_scramble_34
  · have h1 := ip_in (by omega : sm < 2 ^ 31) hj
    refine lv_aload_n X.1 X.2.1 d_M_scramble_0 rfl (lv_at hl 0 rfl) ?_
    refine lv_iconst (v := nI 0) X.1 X.2.1 d_M_scramble_1 (by decide) ?_
    refine hl_put X hK hh (ref := "CycleGroupsModel") i_M t_M t_M_ok n_M (ci := 5) rfl 1 (by decide) w_351 rfl rfl (md_in hd (k := 0) rfl) md_at_0 (by first | rfl | decide) (by first | rfl | decide) (Nat.le_of_ble_eq_true rfl) d_M_scramble_2 (fun H locs hh => ?_)
    have hh : hl_H g (hm_A sz L) s.heap L (mf g d f0 n mm sm kn mk r3 r5 r7 r8 r10 r11 r12 r13 r14 r15 r16 r17 r18 r19 r20 r21 r22 r23) H locs := md_set_0 hh
    refine lv_aload_n X.1 X.2.1 d_M_scramble_5 rfl (lv_at hl 0 rfl) ?_
    refine lv_iload_n X.1 X.2.1 d_M_scramble_6 rfl (lv_at hl 1 rfl) ?_
    refine hl_calli hh (hl_runV (k := 1) X hK hh (c_M_isState l g _ L d _ hd _ _ _ _ _ _ _ _ _ _ _ _ _ _ _ _ _ _ _ _ _ _ _ (nI j) (by omega)) wc_M_isState w_445 w_5 wi_M_isState ws_M_isState (by decide +kernel) rfl rfl ⟨Nat.le_of_ble_eq_true rfl, Nat.le_of_ble_eq_true rfl⟩ (md_in hd (k := 0) rfl) md_at_0 rfl rfl rfl rfl (Nat.le_of_ble_eq_true rfl) hl.1 d_M_scramble_7 ⟨Nat.le_of_ble_eq_true rfl, Nat.le_of_ble_eq_true rfl⟩) (fun r u H locs hp hh => ?_)
    obtain ⟨hr1, rfl⟩ := hp
    rw [h1] at hr1
    subst hr1
    refine lv_if_eq (tgt := 33) X.1 X.2.1 d_M_scramble_10 (by decide) (fun hc => absurd hc (by decide)) (fun _ => ?_)
    refine lv_aload_n X.1 X.2.1 d_M_scramble_13 rfl (lv_at hl 0 rfl) ?_
    refine hl_get X hK hh (ref := "CycleGroupsModel") i_M (ci := 5) rfl 2 (by decide) w_353 rfl (md_in hd (k := 0) rfl) md_at_0 rfl d_M_scramble_14 ?_
    refine hn_zeq (tgt := 33) X (by omega) d_M_scramble_17 (by decide) (fun hc => ?_) (fun hc => ?_)
    · have hm0 : mm = 0 := hc
      refine lv_iconst (v := nI 0) X.1 X.2.1 d_M_scramble_33 (by decide) ?_
      exact hm_zret X hr hlk hh (Or.inl rfl) (hpo _ _ (Or.inl ⟨Or.inr (Or.inl hm0), rfl, rfl⟩)) (Nat.le_of_ble_eq_true rfl) (Nat.le_of_ble_eq_true rfl) d_M_scramble_34
    have hm0 : 0 < mm := Nat.pos_of_ne_zero hc
    rcases pk_ix q3 (n := 1001) (by decide) with h3q | h3q | ⟨k, hk, rfl⟩
    · skip
      refine lv_iload X.1 X.2.1 d_M_scramble_20 (lv_at hl 3 rfl) ?_
      refine lv_if_lt (tgt := 33) X.1 X.2.1 d_M_scramble_22 (by decide) (fun hc => ?_) (fun hc => ?_)
      · skip
        refine lv_iconst (v := nI 0) X.1 X.2.1 d_M_scramble_33 (by decide) ?_
        exact hm_zret X hr hlk hh (Or.inl rfl) (hpo _ _ (Or.inl ⟨Or.inr (Or.inr (ip_neg h3q)), rfl, rfl⟩)) (Nat.le_of_ble_eq_true rfl) (Nat.le_of_ble_eq_true rfl) d_M_scramble_34
      · exact absurd h3q hc
    · skip
      refine lv_iload X.1 X.2.1 d_M_scramble_20 (lv_at hl 3 rfl) ?_
      refine lv_if_lt (tgt := 33) X.1 X.2.1 d_M_scramble_22 (by decide) (fun hc => ?_) (fun hc => ?_)
      · skip
        refine lv_iconst (v := nI 0) X.1 X.2.1 d_M_scramble_33 (by decide) ?_
        exact hm_zret X hr hlk hh (Or.inl rfl) (hpo _ _ (Or.inl ⟨Or.inr (Or.inr (ip_big h3q)), rfl, rfl⟩)) (Nat.le_of_ble_eq_true rfl) (Nat.le_of_ble_eq_true rfl) d_M_scramble_34
      refine lv_iload X.1 X.2.1 d_M_scramble_25 (lv_at hl 3 rfl) ?_
      refine lv_sipush (v := nI 1000) X.1 X.2.1 d_M_scramble_27 (by decide) ?_
      refine lv_icmp_le (tgt := 35) X.1 X.2.1 d_M_scramble_30 (by decide) (fun hc => ?_) (fun hc => ?_)
      · exact absurd (Int32.le_trans h3q hc) (by decide)
      · skip
        refine lv_iconst (v := nI 0) X.1 X.2.1 d_M_scramble_33 (by decide) ?_
        exact hm_zret X hr hlk hh (Or.inl rfl) (hpo _ _ (Or.inl ⟨Or.inr (Or.inr (ip_big h3q)), rfl, rfl⟩)) (Nat.le_of_ble_eq_true rfl) (Nat.le_of_ble_eq_true rfl) d_M_scramble_34
    · skip
      have loop : ∀ (t i : Nat) (x : Int64) (σ : Nat → Nat) (H : Heap) (locs : List Loc) (ls : Array Slot), k + 1 ≤ i + t → i ≤ k → gp_sym (ch_D n 0) σ → sc_r mm mv (k - i) x σ = sc_r mm mv k x0 (st j) → hl_H g (hm_A sz L) s.heap L (mf g d f0 n mm sm kn mk r3 (fw r5 j σ 24) r7 r8 r10 r11 r12 r13 r14 r15 r16 r17 r18 r19 r20 r21 r22 r23) H locs → lv_has ls 8 [(7, .int (nI i)), (5, .long x), (0, .ref (d 0)), (1, .int (nI j)), (2, .long x0), (4, .int (nI k))] → W p l e { frames := 1, cells := 0, slots := 0, locals := 30 } s m #[.ref (d 0), .int (nI j), .long x0, .int (nI k)] below meth c H locs 0 0 (MQ below (va_Qi (post) (hm_B g sz L) (hm_A sz L)) #[.ref (d 0), .int (nI j), .long x0, .int (nI k)] s 0 0 (hm_A sz L)) (F0 m 41 ls []) := by
        intro t
        induction t with
        | zero => intros; omega
        | succ t ih =>
          intro i x σ H locs ls hk2 hin hσ he hh hl
          refine lv_iload X.1 X.2.1 d_M_scramble_41 (lv_at hl 0 rfl) ?_
          refine lv_iload X.1 X.2.1 d_M_scramble_43 (lv_at hl 5 rfl) ?_
          refine hn_ige (tgt := 83) X (by omega) (by omega) d_M_scramble_45 (by decide) (fun hc => ?_) (fun hc => ?_)
          · have hik : k - i = 0 := by omega
            rw [hik] at he
            have he : σ = _ := he
            rw [he] at hh
            refine lv_iconst (v := nI 1) X.1 X.2.1 d_M_scramble_83 (by decide) ?_
            exact hm_zret X hr hlk hh (Or.inr rfl) (hpo _ _ (Or.inr ⟨j, k, hj, hm0, by omega, rfl, rfl, rfl, rfl⟩)) (Nat.le_of_ble_eq_true rfl) (Nat.le_of_ble_eq_true rfl) d_M_scramble_84
          · have hik : i < k := hc
            have hck := Nat.mod_lt (sc_k (sc_x x)) hm0
            have hkl := sc_k_lt (sc_x x)
            obtain ⟨ck, eck⟩ : ∃ y : Nat, y = sc_k (sc_x x) % mm := ⟨_, rfl⟩
            refine lv_ldc2 (v := 6364136223846793005) X.1 X.2.1 X.2.2.2.1 (X.2.2.2.2 _ w_461) d_M_scramble_48 ?_
            refine lv_lload X.1 X.2.1 d_M_scramble_51 (lv_at hl 1 rfl) ?_
            refine lv_lmul X.1 X.2.1 d_M_scramble_53 ?_
            refine lv_ldc2 (v := 1442695040888963407) X.1 X.2.1 X.2.2.2.1 (X.2.2.2.2 _ w_462) d_M_scramble_54 ?_
            refine lv_ladd X.1 X.2.1 d_M_scramble_57 ?_
            refine lv_lstore (lv' := [(5, .long ((6364136223846793005 * x) + 1442695040888963407)), (7, .int (nI i)), (0, .ref (d 0)), (1, .int (nI j)), (2, .long x0), (4, .int (nI k))]) X.1 X.2.1 d_M_scramble_58 hl (by decide) rfl (fun ls hl => ?_)
            refine lv_aload_n X.1 X.2.1 d_M_scramble_60 rfl (lv_at hl 2 rfl) ?_
            refine lv_iload_n X.1 X.2.1 d_M_scramble_61 rfl (lv_at hl 3 rfl) ?_
            refine lv_lload X.1 X.2.1 d_M_scramble_62 (lv_at hl 0 rfl) ?_
            refine lv_bipush (v := nI 33) X.1 X.2.1 d_M_scramble_64 (by decide) ?_
            refine lv_lushr X.1 X.2.1 d_M_scramble_66 (sc_v (sc_x x)) ?_
            refine lv_aload_n X.1 X.2.1 d_M_scramble_67 rfl (lv_at hl 2 rfl) ?_
            refine hl_get X hK hh (ref := "CycleGroupsModel") i_M (ci := 5) rfl 2 (by decide) w_353 rfl (md_in hd (k := 0) rfl) md_at_0 rfl d_M_scramble_68 ?_
            refine hn_i2l X (by omega) d_M_scramble_71 ?_
            refine hn_lrem X (by omega) (by omega) (by omega) d_M_scramble_72 ?_
            refine lv_l2i X.1 X.2.1 d_M_scramble_73 (lN_i _) ?_
            rw [← eck]
            rw [← eck] at hck
            refine hl_callv hh (hl_runV (k := 2) X hK hh (c_M_applyMove l g _ L d f0 hd n mm sm kn mk r3 (fw r5 j σ 24) r7 r8 r10 r11 r12 r13 r14 r15 r16 r17 r18 r19 r20 r21 r22 r23 hn σ (mv ck) j ck (by omega) (by omega) (fr_fw _ _ _) (h3 ck hck) hσ (hmv ck hck)) wc_M_applyMove w_449 w_5 wi_M_applyMove ws_M_applyMove (by decide +kernel) rfl rfl ⟨Nat.le_of_ble_eq_true rfl, Nat.le_of_ble_eq_true rfl⟩ (md_in hd (k := 0) rfl) md_at_0 rfl rfl rfl rfl (Nat.le_of_ble_eq_true rfl) hl.1 d_M_scramble_74 ⟨Nat.le_of_ble_eq_true rfl, Nat.le_of_ble_eq_true rfl⟩) (fun u H locs hp hh => ?_)
            subst hp
            have hh : hl_H g (hm_A sz L) s.heap L (mf g d f0 n mm sm kn mk r3 (fw (fw r5 j σ 24) j (mv ck ∘ σ) 24) r7 r8 r10 r11 r12 r13 r14 r15 r16 r17 r18 r19 r20 r21 r22 r23) H locs := hh
            rw [fw_fw] at hh
            refine lv_iinc (v := nI (i + 1)) (lv' := [(7, .int (nI (i + 1))), (5, .long ((6364136223846793005 * x) + 1442695040888963407)), (0, .ref (d 0)), (1, .int (nI j)), (2, .long x0), (4, .int (nI k))]) X.1 X.2.1 d_M_scramble_77 hl (k := 1) rfl (hn_inc _) (by decide) rfl (fun ls hl => ?_)
            refine lv_goto (tgt := 41) X.1 X.2.1 d_M_scramble_80 (by decide) ?_
            refine ih (i + 1) (sc_x x) (mv ck ∘ σ) H locs ls (by omega) (by omega) ((gp_sym_sg _).2.1 _ _ (hmv ck (by omega)) hσ) ?_ hh (lv_sub hl [0, 1, 2, 3, 4, 5] rfl)
            rw [← he, show k - i = (k - (i + 1)) + 1 by omega, eck]; rfl
      refine lv_iload X.1 X.2.1 d_M_scramble_20 (lv_at hl 3 rfl) ?_
      refine lv_if_lt (tgt := 33) X.1 X.2.1 d_M_scramble_22 (by decide) (fun hc => ?_) (fun hc => ?_)
      · exact absurd hc (nI_pos (by omega))
      refine lv_iload X.1 X.2.1 d_M_scramble_25 (lv_at hl 3 rfl) ?_
      refine lv_sipush (v := nI 1000) X.1 X.2.1 d_M_scramble_27 (by decide) ?_
      refine hn_ile (tgt := 35) X (by omega) (by omega) d_M_scramble_30 (by decide) (fun hc => ?_) (fun hc => ?_)
      · skip
        refine lv_lload_n X.1 X.2.1 d_M_scramble_35 rfl (lv_at hl 2 rfl) ?_
        refine lv_lstore (lv' := [(5, .long x0), (0, .ref (d 0)), (1, .int (nI j)), (2, .long x0), (4, .int (nI k))]) X.1 X.2.1 d_M_scramble_36 hl (by decide) rfl (fun ls hl => ?_)
        refine lv_iconst (v := nI 0) X.1 X.2.1 d_M_scramble_38 (by decide) ?_
        refine lv_istore (lv' := [(7, .int (nI 0)), (5, .long x0), (0, .ref (d 0)), (1, .int (nI j)), (2, .long x0), (4, .int (nI k))]) X.1 X.2.1 d_M_scramble_39 hl (by decide) rfl (fun ls hl => ?_)
        rw [← fw_self (h5 j hj) 24 (Nat.le_refl _)] at hh
        exact loop (k + 1) 0 x0 (st j) _ _ ls (by omega) (by omega) (hst j hj) rfl hh (lv_sub hl [0, 1, 2, 3, 4, 5] rfl)
      · omega

/-- int image(int s, int p) -/
theorem c_M_image (l : Launch) (g : hl_G) (sz : Nat) (L : List Nat) (d : Nat → Nat) (f0 : Nat → va_E) (hd : md_D L d) (n mm sm kn mk : Nat) (r3 r5 r7 r8 r10 r11 r12 r13 r14 r15 r16 r17 r18 r19 r20 r21 r22 r23 : Nat → Nat) (mv st : Nat → Nat → Nat) (hW : cg_W n mm sm mv st) (h3 : ∀ i, i < mm → fr r3 i (mv i)) (h5 : ∀ j, j < sm → fr r5 j (st j)) (q1 q2 : Int32) (post : Int32 → List Nat × (Nat → va_E) → Prop) (hpo : ∀ r, ((ip q1 sm = false ∨ ip q2 n = false) ∧ r = -1) ∨ (∃ j k, j < sm ∧ k < n ∧ q1 = nI j ∧ q2 = nI k ∧ r = nI (st j k)) → post r (L, mf g d f0 n mm sm kn mk r3 r5 r7 r8 r10 r11 r12 r13 r14 r15 r16 r17 r18 r19 r20 r21 r22 r23)) :
    Met l y_M_image (hq y_M_image b_M_image 3 (some .int)) { frames := 1, cells := 0, slots := 0, locals := 30 } (hm_P g [.ref (d 0), .int q1, .int q2] sz L (mf g d f0 n mm sm kn mk r3 r5 r7 r8 r10 r11 r12 r13 r14 r15 r16 r17 r18 r19 r20 r21 r22 r23)) (va_Qi (post) (hm_B g sz L) (hm_A sz L)) 0 0 (hm_A sz L) := by
  refine hm_ofW (by decide) (Nat.le_of_ble_eq_true rfl) ?_
  intro p e s m below meth c X hr hlk hnm hK hsz hh ls hl
  have hl : lv_has ls 3 [(0, .ref (d 0)), (1, .int q1), (2, .int q2)] := hl
  obtain ⟨hn0, hn, hmm, hsm, hmv, hst⟩ := id hW
  rcases ip_cases q1 (n := sm) (by omega) with h1 | ⟨j, hj, rfl⟩
  · skip
    refine lv_aload_n X.1 X.2.1 d_M_image_0 rfl (lv_at hl 0 rfl) ?_
    refine lv_iconst (v := nI 0) X.1 X.2.1 d_M_image_1 (by decide) ?_
    refine hl_put X hK hh (ref := "CycleGroupsModel") i_M t_M t_M_ok n_M (ci := 5) rfl 1 (by decide) w_351 rfl rfl (md_in hd (k := 0) rfl) md_at_0 (by first | rfl | decide) (by first | rfl | decide) (Nat.le_of_ble_eq_true rfl) d_M_image_2 (fun H locs hh => ?_)
    have hh : hl_H g (hm_A sz L) s.heap L (mf g d f0 n mm sm kn mk r3 r5 r7 r8 r10 r11 r12 r13 r14 r15 r16 r17 r18 r19 r20 r21 r22 r23) H locs := md_set_0 hh
    refine lv_aload_n X.1 X.2.1 d_M_image_5 rfl (lv_at hl 0 rfl) ?_
    refine lv_iload_n X.1 X.2.1 d_M_image_6 rfl (lv_at hl 1 rfl) ?_
    refine hl_calli hh (hl_runV (k := 1) X hK hh (c_M_isState l g _ L d _ hd _ _ _ _ _ _ _ _ _ _ _ _ _ _ _ _ _ _ _ _ _ _ _ q1 (by omega)) wc_M_isState w_445 w_5 wi_M_isState ws_M_isState (by decide +kernel) rfl rfl ⟨Nat.le_of_ble_eq_true rfl, Nat.le_of_ble_eq_true rfl⟩ (md_in hd (k := 0) rfl) md_at_0 rfl rfl rfl rfl (Nat.le_of_ble_eq_true rfl) hl.1 d_M_image_7 ⟨Nat.le_of_ble_eq_true rfl, Nat.le_of_ble_eq_true rfl⟩) (fun r u H locs hp hh => ?_)
    obtain ⟨hr1, rfl⟩ := hp
    rw [h1] at hr1
    subst hr1
    refine lv_if_eq (tgt := 35) X.1 X.2.1 d_M_image_10 (by decide) (fun _ => ?_) (fun hc => absurd (by decide) hc)
    refine lv_iconst (v := -1) X.1 X.2.1 d_M_image_35 (by decide) ?_
    exact hm_iret X hr hlk hh (hpo _ (Or.inl ⟨Or.inl h1, rfl⟩)) (Nat.le_of_ble_eq_true rfl) (Nat.le_of_ble_eq_true rfl) d_M_image_36
  · have h1 := ip_in (by omega : sm < 2 ^ 31) hj
    rcases ip_cases q2 (n := n) (by omega) with h2 | ⟨k, hk, rfl⟩
    · skip
      refine lv_aload_n X.1 X.2.1 d_M_image_0 rfl (lv_at hl 0 rfl) ?_
      refine lv_iconst (v := nI 0) X.1 X.2.1 d_M_image_1 (by decide) ?_
      refine hl_put X hK hh (ref := "CycleGroupsModel") i_M t_M t_M_ok n_M (ci := 5) rfl 1 (by decide) w_351 rfl rfl (md_in hd (k := 0) rfl) md_at_0 (by first | rfl | decide) (by first | rfl | decide) (Nat.le_of_ble_eq_true rfl) d_M_image_2 (fun H locs hh => ?_)
      have hh : hl_H g (hm_A sz L) s.heap L (mf g d f0 n mm sm kn mk r3 r5 r7 r8 r10 r11 r12 r13 r14 r15 r16 r17 r18 r19 r20 r21 r22 r23) H locs := md_set_0 hh
      refine lv_aload_n X.1 X.2.1 d_M_image_5 rfl (lv_at hl 0 rfl) ?_
      refine lv_iload_n X.1 X.2.1 d_M_image_6 rfl (lv_at hl 1 rfl) ?_
      refine hl_calli hh (hl_runV (k := 1) X hK hh (c_M_isState l g _ L d _ hd _ _ _ _ _ _ _ _ _ _ _ _ _ _ _ _ _ _ _ _ _ _ _ (nI j) (by omega)) wc_M_isState w_445 w_5 wi_M_isState ws_M_isState (by decide +kernel) rfl rfl ⟨Nat.le_of_ble_eq_true rfl, Nat.le_of_ble_eq_true rfl⟩ (md_in hd (k := 0) rfl) md_at_0 rfl rfl rfl rfl (Nat.le_of_ble_eq_true rfl) hl.1 d_M_image_7 ⟨Nat.le_of_ble_eq_true rfl, Nat.le_of_ble_eq_true rfl⟩) (fun r u H locs hp hh => ?_)
      obtain ⟨hr1, rfl⟩ := hp
      rw [h1] at hr1
      subst hr1
      refine lv_if_eq (tgt := 35) X.1 X.2.1 d_M_image_10 (by decide) (fun hc => absurd hc (by decide)) (fun _ => ?_)
      refine lv_aload_n X.1 X.2.1 d_M_image_13 rfl (lv_at hl 0 rfl) ?_
      refine lv_iload_n X.1 X.2.1 d_M_image_14 rfl (lv_at hl 2 rfl) ?_
      refine hl_calli hh (hl_runV (k := 1) X hK hh (c_M_isPlace l g _ L d _ hd _ _ _ _ _ _ _ _ _ _ _ _ _ _ _ _ _ _ _ _ _ _ _ q2 (by omega)) wc_M_isPlace w_433 w_5 wi_M_isPlace ws_M_isPlace (by decide +kernel) rfl rfl ⟨Nat.le_of_ble_eq_true rfl, Nat.le_of_ble_eq_true rfl⟩ (md_in hd (k := 0) rfl) md_at_0 rfl rfl rfl rfl (Nat.le_of_ble_eq_true rfl) hl.1 d_M_image_15 ⟨Nat.le_of_ble_eq_true rfl, Nat.le_of_ble_eq_true rfl⟩) (fun r u H locs hp hh => ?_)
      obtain ⟨hr1, rfl⟩ := hp
      rw [h2] at hr1
      subst hr1
      refine lv_if_eq (tgt := 35) X.1 X.2.1 d_M_image_18 (by decide) (fun _ => ?_) (fun hc => absurd (by decide) hc)
      refine lv_iconst (v := -1) X.1 X.2.1 d_M_image_35 (by decide) ?_
      exact hm_iret X hr hlk hh (hpo _ (Or.inl ⟨Or.inr h2, rfl⟩)) (Nat.le_of_ble_eq_true rfl) (Nat.le_of_ble_eq_true rfl) d_M_image_36
    · have h2 := ip_in (by omega : n < 2 ^ 31) hk
      refine lv_aload_n X.1 X.2.1 d_M_image_0 rfl (lv_at hl 0 rfl) ?_
      refine lv_iconst (v := nI 0) X.1 X.2.1 d_M_image_1 (by decide) ?_
      refine hl_put X hK hh (ref := "CycleGroupsModel") i_M t_M t_M_ok n_M (ci := 5) rfl 1 (by decide) w_351 rfl rfl (md_in hd (k := 0) rfl) md_at_0 (by first | rfl | decide) (by first | rfl | decide) (Nat.le_of_ble_eq_true rfl) d_M_image_2 (fun H locs hh => ?_)
      have hh : hl_H g (hm_A sz L) s.heap L (mf g d f0 n mm sm kn mk r3 r5 r7 r8 r10 r11 r12 r13 r14 r15 r16 r17 r18 r19 r20 r21 r22 r23) H locs := md_set_0 hh
      refine lv_aload_n X.1 X.2.1 d_M_image_5 rfl (lv_at hl 0 rfl) ?_
      refine lv_iload_n X.1 X.2.1 d_M_image_6 rfl (lv_at hl 1 rfl) ?_
      refine hl_calli hh (hl_runV (k := 1) X hK hh (c_M_isState l g _ L d _ hd _ _ _ _ _ _ _ _ _ _ _ _ _ _ _ _ _ _ _ _ _ _ _ (nI j) (by omega)) wc_M_isState w_445 w_5 wi_M_isState ws_M_isState (by decide +kernel) rfl rfl ⟨Nat.le_of_ble_eq_true rfl, Nat.le_of_ble_eq_true rfl⟩ (md_in hd (k := 0) rfl) md_at_0 rfl rfl rfl rfl (Nat.le_of_ble_eq_true rfl) hl.1 d_M_image_7 ⟨Nat.le_of_ble_eq_true rfl, Nat.le_of_ble_eq_true rfl⟩) (fun r u H locs hp hh => ?_)
      obtain ⟨hr1, rfl⟩ := hp
      rw [h1] at hr1
      subst hr1
      refine lv_if_eq (tgt := 35) X.1 X.2.1 d_M_image_10 (by decide) (fun hc => absurd hc (by decide)) (fun _ => ?_)
      refine lv_aload_n X.1 X.2.1 d_M_image_13 rfl (lv_at hl 0 rfl) ?_
      refine lv_iload_n X.1 X.2.1 d_M_image_14 rfl (lv_at hl 2 rfl) ?_
      refine hl_calli hh (hl_runV (k := 1) X hK hh (c_M_isPlace l g _ L d _ hd _ _ _ _ _ _ _ _ _ _ _ _ _ _ _ _ _ _ _ _ _ _ _ (nI k) (by omega)) wc_M_isPlace w_433 w_5 wi_M_isPlace ws_M_isPlace (by decide +kernel) rfl rfl ⟨Nat.le_of_ble_eq_true rfl, Nat.le_of_ble_eq_true rfl⟩ (md_in hd (k := 0) rfl) md_at_0 rfl rfl rfl rfl (Nat.le_of_ble_eq_true rfl) hl.1 d_M_image_15 ⟨Nat.le_of_ble_eq_true rfl, Nat.le_of_ble_eq_true rfl⟩) (fun r u H locs hp hh => ?_)
      obtain ⟨hr1, rfl⟩ := hp
      rw [h2] at hr1
      subst hr1
      refine lv_if_eq (tgt := 35) X.1 X.2.1 d_M_image_18 (by decide) (fun hc => absurd hc (by decide)) (fun _ => ?_)
      refine lv_aload_n X.1 X.2.1 d_M_image_21 rfl (lv_at hl 0 rfl) ?_
      refine hl_get X hK hh (ref := "CycleGroupsModel") i_M (ci := 5) rfl 5 (by decide) w_356 rfl (md_in hd (k := 0) rfl) md_at_0 rfl d_M_image_22 ?_
      refine lv_bipush (v := nI 24) X.1 X.2.1 d_M_image_25 (by decide) ?_
      refine lv_iload_n X.1 X.2.1 d_M_image_27 rfl (lv_at hl 1 rfl) ?_
      refine hn_mul X d_M_image_28 ?_
      refine lv_iload_n X.1 X.2.1 d_M_image_29 rfl (lv_at hl 2 rfl) ?_
      refine hn_add X d_M_image_30 ?_
      refine hl_iald X hK hh (md_in hd (k := 5) rfl) (md_at_5 hd) (by omega) (by decide) d_M_image_31 ?_
      refine lv_goto (tgt := 36) X.1 X.2.1 d_M_image_32 (by decide) ?_
      exact hm_iret X hr hlk hh (hpo _ (Or.inr ⟨j, k, hj, hk, rfl, rfl, by rw [h5 j hj k (by omega)]⟩)) (Nat.le_of_ble_eq_true rfl) (Nat.le_of_ble_eq_true rfl) d_M_image_36
end

