/-! CycleGroups: its constructor once more, with what its fields hold. -/
section
/-- CycleGroups(int places) -/
theorem c_C_init0 (l : Launch) (g : hl_G) (sz : Nat) (L : List Nat) (f : Nat → va_E) (T : Nat → Nat) (x n : Nat) (q0 : Int32) (hx : x ∈ L) (hfx : f x = .inr (0, [.int 0, .null, .int 0, .null, .int 0, .null, .null, .null, .int 0])) (hTx : T x = 0) (hn : plR q0 n) :
    Met l y_C_init (hq y_C_init b_C_init 2 none) { frames := 2, cells := 36, slots := 800, locals := 60 } (hm_P g [.ref x, .int q0] sz L f) (va_Qv (fun u => ∃ (L1 : List Nat) (f1 : Nat → va_E) (T1 : Nat → Nat) (b : Nat → Nat) (mv st : Nat → Nat → Nat), u = (L1, f1) ∧ (∀ q, q ∈ L → q ∈ L1 ∧ T1 q = T q) ∧ (∀ q, q ∈ L → q ≠ x → f1 q = f q) ∧ b 0 = x ∧ cg_B g L1 f1 T1 b n 0 0 mv st (fun _ => 0) (fun _ => 0) .null 0) (hm_B g sz L) (hm_A sz L)) 36 800 (hm_A sz L) := by
  have hn1 := (plR_bd hn).1
  have hn2 := (plR_bd hn).2
  refine hm_ofW (by decide) (Nat.le_of_ble_eq_true rfl) ?_
  intro p e s m below meth c X hr hlk hnm hK hsz hh ls hl
  have hl : lv_has ls 2 [(0, .ref x), (1, .int q0)] := hl
  have hpx : x ∈ L ∧ f x = .inr (0, [.int 0, .null, .int 0, .null, .int 0, .null, .null, .null, .int 0]) := ⟨hx, hfx⟩
  refine lv_aload_n X.1 X.2.1 d_C_init_0 rfl (lv_at hl 0 rfl) ?_
  refine hl_objI X w_15 hl.1 (Nat.le_of_ble_eq_true rfl) (Nat.le_of_ble_eq_true rfl) d_C_init_1 ?_
  refine lv_aload_n X.1 X.2.1 d_C_init_4 rfl (lv_at hl 0 rfl) ?_
  refine lv_iconst (v := nI 1) X.1 X.2.1 d_C_init_5 (by decide) ?_
  refine lv_bipush (v := nI 24) X.1 X.2.1 d_C_init_6 (by decide) ?_
  refine lv_iload_n X.1 X.2.1 d_C_init_8 rfl (lv_at hl 1 rfl) ?_
  refine hl_imin X w_18 hl.1 (Nat.le_of_ble_eq_true rfl) (Nat.le_of_ble_eq_true rfl) (Nat.le_of_ble_eq_true rfl) (Nat.le_of_ble_eq_true rfl) d_C_init_9 ?_
  refine hl_imax X w_21 hl.1 (Nat.le_of_ble_eq_true rfl) (Nat.le_of_ble_eq_true rfl) (Nat.le_of_ble_eq_true rfl) (Nat.le_of_ble_eq_true rfl) d_C_init_12 ?_
  rw [plR_c hn]
  refine hl_putF X hK hh hnm (ref := "CycleGroups") i_C t_C t_C_ok n_C (ci := 0) rfl 0 (by decide) w_47 rfl rfl rfl hpx.1 hpx.2 (by first | rfl | decide) (by first | rfl | decide) (Nat.le_of_ble_eq_true rfl) d_C_init_15 (fun H locs hh => ?_)
  obtain ⟨f1, hf1⟩ : ∃ x9 : Nat → va_E, x9 = va_up f x (.inr (0, [.int (nI n), .null, .int 0, .null, .int 0, .null, .null, .null, .int 0])) := ⟨_, rfl⟩
  have hh : hl_H g (hm_A sz L) s.heap L f1 H locs := by rw [hf1]; exact hh
  have hpx1 : x ∈ L ∧ f1 x = .inr (0, [.int (nI n), .null, .int 0, .null, .int 0, .null, .null, .null, .int 0]) := ⟨hpx.1, by rw [hf1, va_up_self]⟩
  refine lv_aload_n X.1 X.2.1 d_C_init_18 rfl (lv_at hl 0 rfl) ?_
  refine lv_bipush (v := nI 10) X.1 X.2.1 d_C_init_19 (by decide) ?_
  refine lv_aload_n X.1 X.2.1 d_C_init_21 rfl (lv_at hl 0 rfl) ?_
  refine hl_get X hK hh (ref := "CycleGroups") i_C (ci := 0) rfl 0 (by decide) w_47 rfl hpx1.1 hpx1.2 rfl d_C_init_22 ?_
  refine hl_mna X hK hh (n := 10) (k := n) (by omega) (by omega) w_24 (by show 0 + (1 + 10) ≤ 36; omega) (by show 0 + (10 + 10 * n) ≤ 800; omega) d_C_init_25 (fun q1 r1 H hi1 hr1 hq1 hh => ?_)
  obtain ⟨L2, hL2⟩ : ∃ x9 : List Nat, x9 = (L ++ (List.range 10).map r1) ++ [q1] := ⟨_, rfl⟩
  obtain ⟨f2, hf2⟩ : ∃ x9 : Nat → va_E, x9 = va_up (vr_up f1 ((List.range 10).map r1) (hl_row g n (fun _ => 0))) q1 (hl_grd g 10 (fun j0 => if j0 < 10 then some (r1 j0) else none)) := ⟨_, rfl⟩
  have hh : hl_H g (hm_A sz L) s.heap L2 f2 H locs := by rw [hL2, hf2]; exact hh
  have ne_hpx_oA : x ≠ q1 := fun e0 => hq1 (by rw [← e0]; exact List.mem_append_left _ hpx1.1)
  have ne_hpx_rA : ∀ j, j < 10 → x ≠ r1 j := fun j hj e0 => hr1 j hj (by rw [← e0]; exact hpx1.1)
  have E2 : hl_ext L f1 L2 f2 := by rw [hL2, hf2]; exact hl_ext_mna hr1 hq1
  have hpx2 := (⟨(E2 _ hpx1.1).1, (E2 _ hpx1.1).2.trans hpx1.2⟩ : x ∈ L2 ∧ f2 x = _)
  have oA2 : q1 ∈ L2 ∧ f2 q1 = hl_grd g 10 (fun j0 => if j0 < 10 then some (r1 j0) else none) := ⟨by rw [hL2]; exact List.mem_append_right _ (List.mem_singleton.2 rfl), by rw [hf2, va_up_self]⟩
  have rA2 : ∀ j, j < 10 → r1 j ∈ L2 ∧ f2 (r1 j) = hl_row g n (fun _ => 0) := fun j hj => by rw [hL2, hf2]; exact hl_mna_row hj hq1
  have ne_rA_oA : ∀ j, j < 10 → r1 j ≠ q1 := fun j hj e0 => hq1 (by rw [← e0]; exact List.mem_append_right _ (List.mem_map.2 ⟨j, List.mem_range.2 hj, rfl⟩))
  refine hl_putF X hK hh hnm (ref := "CycleGroups") i_C t_C t_C_ok n_C (ci := 0) rfl 1 (by decide) w_48 rfl rfl rfl hpx2.1 hpx2.2 (by first | rfl | decide) (by first | rfl | decide) (Nat.le_of_ble_eq_true rfl) d_C_init_29 (fun H locs hh => ?_)
  obtain ⟨f3, hf3⟩ : ∃ x9 : Nat → va_E, x9 = va_up f2 x (.inr (0, [.int (nI n), .ref q1, .int 0, .null, .int 0, .null, .null, .null, .int 0])) := ⟨_, rfl⟩
  have hh : hl_H g (hm_A sz L) s.heap L2 f3 H locs := by rw [hf3]; exact hh
  have oA3 := (⟨oA2.1, (congrFun hf3 q1).trans ((va_up_ne _ _ (Ne.symm ne_hpx_oA)).trans oA2.2)⟩ : q1 ∈ L2 ∧ f3 q1 = _)
  have rA3 := fun j (hj : j < 10) => (⟨(rA2 j hj).1, (congrFun hf3 (r1 j)).trans ((va_up_ne _ _ (Ne.symm (ne_hpx_rA j hj))).trans (rA2 j hj).2)⟩ : r1 j ∈ L2 ∧ f3 (r1 j) = _)
  have hpx3 : x ∈ L2 ∧ f3 x = .inr (0, [.int (nI n), .ref q1, .int 0, .null, .int 0, .null, .null, .null, .int 0]) := ⟨hpx2.1, by rw [hf3, va_up_self]⟩
  refine lv_aload_n X.1 X.2.1 d_C_init_32 rfl (lv_at hl 0 rfl) ?_
  refine lv_bipush (v := nI 20) X.1 X.2.1 d_C_init_33 (by decide) ?_
  refine lv_aload_n X.1 X.2.1 d_C_init_35 rfl (lv_at hl 0 rfl) ?_
  refine hl_get X hK hh (ref := "CycleGroups") i_C (ci := 0) rfl 0 (by decide) w_47 rfl hpx3.1 hpx3.2 rfl d_C_init_36 ?_
  refine hl_mna X hK hh (n := 20) (k := n) (by omega) (by omega) w_24 (by show 0 + 1 + 10 + (1 + 20) ≤ 36; omega) (by show 0 + 10 + 10 * n + (20 + 20 * n) ≤ 800; omega) d_C_init_39 (fun q2 r2 H hi2 hr2 hq2 hh => ?_)
  obtain ⟨L4, hL4⟩ : ∃ x9 : List Nat, x9 = (L2 ++ (List.range 20).map r2) ++ [q2] := ⟨_, rfl⟩
  obtain ⟨f4, hf4⟩ : ∃ x9 : Nat → va_E, x9 = va_up (vr_up f3 ((List.range 20).map r2) (hl_row g n (fun _ => 0))) q2 (hl_grd g 20 (fun j0 => if j0 < 20 then some (r2 j0) else none)) := ⟨_, rfl⟩
  have hh : hl_H g (hm_A sz L) s.heap L4 f4 H locs := by rw [hL4, hf4]; exact hh
  have ne_hpx_oB : x ≠ q2 := fun e0 => hq2 (by rw [← e0]; exact List.mem_append_left _ hpx3.1)
  have ne_hpx_rB : ∀ j, j < 20 → x ≠ r2 j := fun j hj e0 => hr2 j hj (by rw [← e0]; exact hpx3.1)
  have ne_oA_oB : q1 ≠ q2 := fun e0 => hq2 (by rw [← e0]; exact List.mem_append_left _ oA3.1)
  have ne_oA_rB : ∀ j, j < 20 → q1 ≠ r2 j := fun j hj e0 => hr2 j hj (by rw [← e0]; exact oA3.1)
  have ne_rA_oB : ∀ j, j < 10 → r1 j ≠ q2 := fun j hj e0 => hq2 (by rw [← e0]; exact List.mem_append_left _ (rA3 j hj).1)
  have ne_rA_rB : ∀ j, j < 10 → ∀ j2, j2 < 20 → r1 j ≠ r2 j2 := fun j hj j2 hj2 e0 => hr2 j2 hj2 (by rw [← e0]; exact (rA3 j hj).1)
  have E4 : hl_ext L2 f3 L4 f4 := by rw [hL4, hf4]; exact hl_ext_mna hr2 hq2
  have hpx4 := (⟨(E4 _ hpx3.1).1, (E4 _ hpx3.1).2.trans hpx3.2⟩ : x ∈ L4 ∧ f4 x = _)
  have oA4 := (⟨(E4 _ oA3.1).1, (E4 _ oA3.1).2.trans oA3.2⟩ : q1 ∈ L4 ∧ f4 q1 = _)
  have rA4 := fun j (hj : j < 10) => (⟨(E4 _ (rA3 j hj).1).1, (E4 _ (rA3 j hj).1).2.trans (rA3 j hj).2⟩ : r1 j ∈ L4 ∧ f4 (r1 j) = _)
  have oB4 : q2 ∈ L4 ∧ f4 q2 = hl_grd g 20 (fun j0 => if j0 < 20 then some (r2 j0) else none) := ⟨by rw [hL4]; exact List.mem_append_right _ (List.mem_singleton.2 rfl), by rw [hf4, va_up_self]⟩
  have rB4 : ∀ j, j < 20 → r2 j ∈ L4 ∧ f4 (r2 j) = hl_row g n (fun _ => 0) := fun j hj => by rw [hL4, hf4]; exact hl_mna_row hj hq2
  have ne_rB_oB : ∀ j, j < 20 → r2 j ≠ q2 := fun j hj e0 => hq2 (by rw [← e0]; exact List.mem_append_right _ (List.mem_map.2 ⟨j, List.mem_range.2 hj, rfl⟩))
  refine hl_putF X hK hh hnm (ref := "CycleGroups") i_C t_C t_C_ok n_C (ci := 0) rfl 3 (by decide) w_50 rfl rfl rfl hpx4.1 hpx4.2 (by first | rfl | decide) (by first | rfl | decide) (Nat.le_of_ble_eq_true rfl) d_C_init_43 (fun H locs hh => ?_)
  obtain ⟨f5, hf5⟩ : ∃ x9 : Nat → va_E, x9 = va_up f4 x (.inr (0, [.int (nI n), .ref q1, .int 0, .ref q2, .int 0, .null, .null, .null, .int 0])) := ⟨_, rfl⟩
  have hh : hl_H g (hm_A sz L) s.heap L4 f5 H locs := by rw [hf5]; exact hh
  have oA5 := (⟨oA4.1, (congrFun hf5 q1).trans ((va_up_ne _ _ (Ne.symm ne_hpx_oA)).trans oA4.2)⟩ : q1 ∈ L4 ∧ f5 q1 = _)
  have oB5 := (⟨oB4.1, (congrFun hf5 q2).trans ((va_up_ne _ _ (Ne.symm ne_hpx_oB)).trans oB4.2)⟩ : q2 ∈ L4 ∧ f5 q2 = _)
  have rA5 := fun j (hj : j < 10) => (⟨(rA4 j hj).1, (congrFun hf5 (r1 j)).trans ((va_up_ne _ _ (Ne.symm (ne_hpx_rA j hj))).trans (rA4 j hj).2)⟩ : r1 j ∈ L4 ∧ f5 (r1 j) = _)
  have rB5 := fun j (hj : j < 20) => (⟨(rB4 j hj).1, (congrFun hf5 (r2 j)).trans ((va_up_ne _ _ (Ne.symm (ne_hpx_rB j hj))).trans (rB4 j hj).2)⟩ : r2 j ∈ L4 ∧ f5 (r2 j) = _)
  have hpx5 : x ∈ L4 ∧ f5 x = .inr (0, [.int (nI n), .ref q1, .int 0, .ref q2, .int 0, .null, .null, .null, .int 0]) := ⟨hpx4.1, by rw [hf5, va_up_self]⟩
  refine lv_aload_n X.1 X.2.1 d_C_init_46 rfl (lv_at hl 0 rfl) ?_
  refine hl_new X hK hh i_P t_P t_P_ok w_26 (by decide +kernel) (by decide +kernel) (ci := 4) rfl (fs := [.null]) (fun j hj => by rcases (show j = 0 by omega) with rfl; rfl) (by show 0 + 1 + 10 + 1 + 20 + 1 ≤ 36; omega) (by show 0 + 10 + 10 * n + 20 + 20 * n + 1 ≤ 800; omega) d_C_init_47 (fun q3 H hq3 hh => ?_)
  obtain ⟨L6, hL6⟩ : ∃ x9 : List Nat, x9 = L4 ++ [q3] := ⟨_, rfl⟩
  obtain ⟨f6, hf6⟩ : ∃ x9 : Nat → va_E, x9 = va_up f5 q3 (.inr (4, [.null])) := ⟨_, rfl⟩
  have hh : hl_H g (hm_A sz L) s.heap L6 f6 H locs := by rw [hL6, hf6]; exact hh
  have ne_hpx_oC : x ≠ q3 := fun e0 => hq3 (e0 ▸ hpx5.1)
  have ne_oA_oC : q1 ≠ q3 := fun e0 => hq3 (e0 ▸ oA5.1)
  have ne_oB_oC : q2 ≠ q3 := fun e0 => hq3 (e0 ▸ oB5.1)
  have ne_rA_oC : ∀ j, j < 10 → r1 j ≠ q3 := fun j hj e0 => hq3 (e0 ▸ (rA5 j hj).1)
  have ne_rB_oC : ∀ j, j < 20 → r2 j ≠ q3 := fun j hj e0 => hq3 (e0 ▸ (rB5 j hj).1)
  have E6 : hl_ext L4 f5 L6 f6 := by rw [hL6, hf6]; exact hl_ext_new hq3
  have hpx6 := (⟨(E6 _ hpx5.1).1, (E6 _ hpx5.1).2.trans hpx5.2⟩ : x ∈ L6 ∧ f6 x = _)
  have oA6 := (⟨(E6 _ oA5.1).1, (E6 _ oA5.1).2.trans oA5.2⟩ : q1 ∈ L6 ∧ f6 q1 = _)
  have oB6 := (⟨(E6 _ oB5.1).1, (E6 _ oB5.1).2.trans oB5.2⟩ : q2 ∈ L6 ∧ f6 q2 = _)
  have rA6 := fun j (hj : j < 10) => (⟨(E6 _ (rA5 j hj).1).1, (E6 _ (rA5 j hj).1).2.trans (rA5 j hj).2⟩ : r1 j ∈ L6 ∧ f6 (r1 j) = _)
  have rB6 := fun j (hj : j < 20) => (⟨(E6 _ (rB5 j hj).1).1, (E6 _ (rB5 j hj).1).2.trans (rB5 j hj).2⟩ : r2 j ∈ L6 ∧ f6 (r2 j) = _)
  have oC6 : q3 ∈ L6 ∧ f6 q3 = .inr (4, [.null]) := ⟨by rw [hL6]; exact List.mem_append_right _ (List.mem_singleton.2 rfl), by rw [hf6, va_up_self]⟩
  refine lv_dup X.1 X.2.1 d_C_init_50 rfl ?_
  refine lv_aload_n X.1 X.2.1 d_C_init_51 rfl (lv_at hl 0 rfl) ?_
  refine hl_get X hK hh (ref := "CycleGroups") i_C (ci := 0) rfl 0 (by decide) w_47 rfl hpx6.1 hpx6.2 rfl d_C_init_52 ?_
  refine hl_callv hh (hl_runI (k := 1) X hK hh (c_P_init l g _ L6 f6 q3 n .null oC6.1 oC6.2 (by omega)) wc_P_init w_28 w_3 wi_P_init rfl (by decide +kernel) rfl rfl ⟨Nat.le_of_ble_eq_true rfl, Nat.le_of_ble_eq_true rfl⟩ rfl rfl (Nat.le_of_ble_eq_true rfl) hl.1 d_C_init_55 ⟨by show 0 + 1 + 10 + 1 + 20 + 1 + 1 ≤ 36; omega, by show 0 + 10 + 10 * n + 20 + 20 * n + 1 + 24 ≤ 800; omega⟩) (fun u H locs hp hh => ?_)
  obtain ⟨q4, hq4, rfl⟩ := hp
  obtain ⟨L7, hL7⟩ : ∃ x9 : List Nat, x9 = L6 ++ [q4] := ⟨_, rfl⟩
  obtain ⟨f7, hf7⟩ : ∃ x9 : Nat → va_E, x9 = va_up f6 q4 (hl_nat g n (fun _ => 0)) := ⟨_, rfl⟩
  have ne_hpx_oD : x ≠ q4 := fun e0 => hq4 (e0 ▸ hpx6.1)
  have ne_oA_oD : q1 ≠ q4 := fun e0 => hq4 (e0 ▸ oA6.1)
  have ne_oB_oD : q2 ≠ q4 := fun e0 => hq4 (e0 ▸ oB6.1)
  have ne_oC_oD : q3 ≠ q4 := fun e0 => hq4 (e0 ▸ oC6.1)
  have ne_rA_oD : ∀ j, j < 10 → r1 j ≠ q4 := fun j hj e0 => hq4 (e0 ▸ (rA6 j hj).1)
  have ne_rB_oD : ∀ j, j < 20 → r2 j ≠ q4 := fun j hj e0 => hq4 (e0 ▸ (rB6 j hj).1)
  have E7 : hl_ext L6 f6 L7 f7 := by rw [hL7, hf7]; exact hl_ext_new hq4
  have hpx7 := (⟨(E7 _ hpx6.1).1, (E7 _ hpx6.1).2.trans hpx6.2⟩ : x ∈ L7 ∧ f7 x = _)
  have oA7 := (⟨(E7 _ oA6.1).1, (E7 _ oA6.1).2.trans oA6.2⟩ : q1 ∈ L7 ∧ f7 q1 = _)
  have oB7 := (⟨(E7 _ oB6.1).1, (E7 _ oB6.1).2.trans oB6.2⟩ : q2 ∈ L7 ∧ f7 q2 = _)
  have oC7 := (⟨(E7 _ oC6.1).1, (E7 _ oC6.1).2.trans oC6.2⟩ : q3 ∈ L7 ∧ f7 q3 = _)
  have rA7 := fun j (hj : j < 10) => (⟨(E7 _ (rA6 j hj).1).1, (E7 _ (rA6 j hj).1).2.trans (rA6 j hj).2⟩ : r1 j ∈ L7 ∧ f7 (r1 j) = _)
  have rB7 := fun j (hj : j < 20) => (⟨(E7 _ (rB6 j hj).1).1, (E7 _ (rB6 j hj).1).2.trans (rB6 j hj).2⟩ : r2 j ∈ L7 ∧ f7 (r2 j) = _)
  have oD7 : q4 ∈ L7 ∧ f7 q4 = hl_nat g n (fun _ => 0) := ⟨by rw [hL7]; exact List.mem_append_right _ (List.mem_singleton.2 rfl), by rw [hf7, va_up_self]⟩
  obtain ⟨f8, hf8⟩ : ∃ x9 : Nat → va_E, x9 = va_up f7 q3 (.inr (4, [.ref q4])) := ⟨_, rfl⟩
  have hh : hl_H g (hm_A sz L) s.heap L7 f8 H locs := by rw [hf8, hL7, hf7]; exact hh
  have hpx8 := (⟨hpx7.1, (congrFun hf8 x).trans ((va_up_ne _ _ ne_hpx_oC).trans hpx7.2)⟩ : x ∈ L7 ∧ f8 x = _)
  have oA8 := (⟨oA7.1, (congrFun hf8 q1).trans ((va_up_ne _ _ ne_oA_oC).trans oA7.2)⟩ : q1 ∈ L7 ∧ f8 q1 = _)
  have oB8 := (⟨oB7.1, (congrFun hf8 q2).trans ((va_up_ne _ _ ne_oB_oC).trans oB7.2)⟩ : q2 ∈ L7 ∧ f8 q2 = _)
  have oD8 := (⟨oD7.1, (congrFun hf8 q4).trans ((va_up_ne _ _ (Ne.symm ne_oC_oD)).trans oD7.2)⟩ : q4 ∈ L7 ∧ f8 q4 = _)
  have rA8 := fun j (hj : j < 10) => (⟨(rA7 j hj).1, (congrFun hf8 (r1 j)).trans ((va_up_ne _ _ (ne_rA_oC j hj)).trans (rA7 j hj).2)⟩ : r1 j ∈ L7 ∧ f8 (r1 j) = _)
  have rB8 := fun j (hj : j < 20) => (⟨(rB7 j hj).1, (congrFun hf8 (r2 j)).trans ((va_up_ne _ _ (ne_rB_oC j hj)).trans (rB7 j hj).2)⟩ : r2 j ∈ L7 ∧ f8 (r2 j) = _)
  have oC8 : q3 ∈ L7 ∧ f8 q3 = .inr (4, [.ref q4]) := ⟨oC7.1, by rw [hf8, va_up_self]⟩
  refine hl_putF X hK hh hnm (ref := "CycleGroups") i_C t_C t_C_ok n_C (ci := 0) rfl 5 (by decide) w_52 rfl rfl rfl hpx8.1 hpx8.2 (by first | rfl | decide) (by first | rfl | decide) (Nat.le_of_ble_eq_true rfl) d_C_init_58 (fun H locs hh => ?_)
  obtain ⟨f9, hf9⟩ : ∃ x9 : Nat → va_E, x9 = va_up f8 x (.inr (0, [.int (nI n), .ref q1, .int 0, .ref q2, .int 0, .ref q3, .null, .null, .int 0])) := ⟨_, rfl⟩
  have hh : hl_H g (hm_A sz L) s.heap L7 f9 H locs := by rw [hf9]; exact hh
  have oA9 := (⟨oA8.1, (congrFun hf9 q1).trans ((va_up_ne _ _ (Ne.symm ne_hpx_oA)).trans oA8.2)⟩ : q1 ∈ L7 ∧ f9 q1 = _)
  have oB9 := (⟨oB8.1, (congrFun hf9 q2).trans ((va_up_ne _ _ (Ne.symm ne_hpx_oB)).trans oB8.2)⟩ : q2 ∈ L7 ∧ f9 q2 = _)
  have oC9 := (⟨oC8.1, (congrFun hf9 q3).trans ((va_up_ne _ _ (Ne.symm ne_hpx_oC)).trans oC8.2)⟩ : q3 ∈ L7 ∧ f9 q3 = _)
  have oD9 := (⟨oD8.1, (congrFun hf9 q4).trans ((va_up_ne _ _ (Ne.symm ne_hpx_oD)).trans oD8.2)⟩ : q4 ∈ L7 ∧ f9 q4 = _)
  have rA9 := fun j (hj : j < 10) => (⟨(rA8 j hj).1, (congrFun hf9 (r1 j)).trans ((va_up_ne _ _ (Ne.symm (ne_hpx_rA j hj))).trans (rA8 j hj).2)⟩ : r1 j ∈ L7 ∧ f9 (r1 j) = _)
  have rB9 := fun j (hj : j < 20) => (⟨(rB8 j hj).1, (congrFun hf9 (r2 j)).trans ((va_up_ne _ _ (Ne.symm (ne_hpx_rB j hj))).trans (rB8 j hj).2)⟩ : r2 j ∈ L7 ∧ f9 (r2 j) = _)
  have hpx9 : x ∈ L7 ∧ f9 x = .inr (0, [.int (nI n), .ref q1, .int 0, .ref q2, .int 0, .ref q3, .null, .null, .int 0]) := ⟨hpx8.1, by rw [hf9, va_up_self]⟩
  refine lv_aload_n X.1 X.2.1 d_C_init_61 rfl (lv_at hl 0 rfl) ?_
  refine hl_new X hK hh i_D t_D t_D_ok w_37 (by decide +kernel) (by decide +kernel) (ci := 2) rfl (fs := [.null]) (fun j hj => by rcases (show j = 0 by omega) with rfl; rfl) (by show 0 + 1 + 10 + 1 + 20 + 1 + 1 + 1 ≤ 36; omega) (by show 0 + 10 + 10 * n + 20 + 20 * n + 1 + 24 + 1 ≤ 800; omega) d_C_init_62 (fun q5 H hq5 hh => ?_)
  obtain ⟨L10, hL10⟩ : ∃ x9 : List Nat, x9 = L7 ++ [q5] := ⟨_, rfl⟩
  obtain ⟨f10, hf10⟩ : ∃ x9 : Nat → va_E, x9 = va_up f9 q5 (.inr (2, [.null])) := ⟨_, rfl⟩
  have hh : hl_H g (hm_A sz L) s.heap L10 f10 H locs := by rw [hL10, hf10]; exact hh
  have ne_hpx_oE : x ≠ q5 := fun e0 => hq5 (e0 ▸ hpx9.1)
  have ne_oA_oE : q1 ≠ q5 := fun e0 => hq5 (e0 ▸ oA9.1)
  have ne_oB_oE : q2 ≠ q5 := fun e0 => hq5 (e0 ▸ oB9.1)
  have ne_oC_oE : q3 ≠ q5 := fun e0 => hq5 (e0 ▸ oC9.1)
  have ne_oD_oE : q4 ≠ q5 := fun e0 => hq5 (e0 ▸ oD9.1)
  have ne_rA_oE : ∀ j, j < 10 → r1 j ≠ q5 := fun j hj e0 => hq5 (e0 ▸ (rA9 j hj).1)
  have ne_rB_oE : ∀ j, j < 20 → r2 j ≠ q5 := fun j hj e0 => hq5 (e0 ▸ (rB9 j hj).1)
  have E10 : hl_ext L7 f9 L10 f10 := by rw [hL10, hf10]; exact hl_ext_new hq5
  have hpx10 := (⟨(E10 _ hpx9.1).1, (E10 _ hpx9.1).2.trans hpx9.2⟩ : x ∈ L10 ∧ f10 x = _)
  have oA10 := (⟨(E10 _ oA9.1).1, (E10 _ oA9.1).2.trans oA9.2⟩ : q1 ∈ L10 ∧ f10 q1 = _)
  have oB10 := (⟨(E10 _ oB9.1).1, (E10 _ oB9.1).2.trans oB9.2⟩ : q2 ∈ L10 ∧ f10 q2 = _)
  have oC10 := (⟨(E10 _ oC9.1).1, (E10 _ oC9.1).2.trans oC9.2⟩ : q3 ∈ L10 ∧ f10 q3 = _)
  have oD10 := (⟨(E10 _ oD9.1).1, (E10 _ oD9.1).2.trans oD9.2⟩ : q4 ∈ L10 ∧ f10 q4 = _)
  have rA10 := fun j (hj : j < 10) => (⟨(E10 _ (rA9 j hj).1).1, (E10 _ (rA9 j hj).1).2.trans (rA9 j hj).2⟩ : r1 j ∈ L10 ∧ f10 (r1 j) = _)
  have rB10 := fun j (hj : j < 20) => (⟨(E10 _ (rB9 j hj).1).1, (E10 _ (rB9 j hj).1).2.trans (rB9 j hj).2⟩ : r2 j ∈ L10 ∧ f10 (r2 j) = _)
  have oE10 : q5 ∈ L10 ∧ f10 q5 = .inr (2, [.null]) := ⟨by rw [hL10]; exact List.mem_append_right _ (List.mem_singleton.2 rfl), by rw [hf10, va_up_self]⟩
  refine lv_dup X.1 X.2.1 d_C_init_65 rfl ?_
  refine hl_callv hh (hl_runI (k := 0) X hK hh (c_D_init l g _ L10 f10 q5 .null oE10.1 oE10.2) wc_D_init w_39 w_4 wi_D_init rfl (by decide +kernel) rfl rfl ⟨Nat.le_of_ble_eq_true rfl, Nat.le_of_ble_eq_true rfl⟩ rfl rfl (Nat.le_of_ble_eq_true rfl) hl.1 d_C_init_66 ⟨by show 0 + 1 + 10 + 1 + 20 + 1 + 1 + 1 + 1 ≤ 36; omega, by show 0 + 10 + 10 * n + 20 + 20 * n + 1 + 24 + 1 + 24 ≤ 800; omega⟩) (fun u H locs hp hh => ?_)
  obtain ⟨q6, hq6, rfl⟩ := hp
  obtain ⟨L11, hL11⟩ : ∃ x9 : List Nat, x9 = L10 ++ [q6] := ⟨_, rfl⟩
  obtain ⟨f11, hf11⟩ : ∃ x9 : Nat → va_E, x9 = va_up f10 q6 (hl_nat g 24 (fun _ => 0)) := ⟨_, rfl⟩
  have ne_hpx_oF : x ≠ q6 := fun e0 => hq6 (e0 ▸ hpx10.1)
  have ne_oA_oF : q1 ≠ q6 := fun e0 => hq6 (e0 ▸ oA10.1)
  have ne_oB_oF : q2 ≠ q6 := fun e0 => hq6 (e0 ▸ oB10.1)
  have ne_oC_oF : q3 ≠ q6 := fun e0 => hq6 (e0 ▸ oC10.1)
  have ne_oD_oF : q4 ≠ q6 := fun e0 => hq6 (e0 ▸ oD10.1)
  have ne_oE_oF : q5 ≠ q6 := fun e0 => hq6 (e0 ▸ oE10.1)
  have ne_rA_oF : ∀ j, j < 10 → r1 j ≠ q6 := fun j hj e0 => hq6 (e0 ▸ (rA10 j hj).1)
  have ne_rB_oF : ∀ j, j < 20 → r2 j ≠ q6 := fun j hj e0 => hq6 (e0 ▸ (rB10 j hj).1)
  have E11 : hl_ext L10 f10 L11 f11 := by rw [hL11, hf11]; exact hl_ext_new hq6
  have hpx11 := (⟨(E11 _ hpx10.1).1, (E11 _ hpx10.1).2.trans hpx10.2⟩ : x ∈ L11 ∧ f11 x = _)
  have oA11 := (⟨(E11 _ oA10.1).1, (E11 _ oA10.1).2.trans oA10.2⟩ : q1 ∈ L11 ∧ f11 q1 = _)
  have oB11 := (⟨(E11 _ oB10.1).1, (E11 _ oB10.1).2.trans oB10.2⟩ : q2 ∈ L11 ∧ f11 q2 = _)
  have oC11 := (⟨(E11 _ oC10.1).1, (E11 _ oC10.1).2.trans oC10.2⟩ : q3 ∈ L11 ∧ f11 q3 = _)
  have oD11 := (⟨(E11 _ oD10.1).1, (E11 _ oD10.1).2.trans oD10.2⟩ : q4 ∈ L11 ∧ f11 q4 = _)
  have oE11 := (⟨(E11 _ oE10.1).1, (E11 _ oE10.1).2.trans oE10.2⟩ : q5 ∈ L11 ∧ f11 q5 = _)
  have rA11 := fun j (hj : j < 10) => (⟨(E11 _ (rA10 j hj).1).1, (E11 _ (rA10 j hj).1).2.trans (rA10 j hj).2⟩ : r1 j ∈ L11 ∧ f11 (r1 j) = _)
  have rB11 := fun j (hj : j < 20) => (⟨(E11 _ (rB10 j hj).1).1, (E11 _ (rB10 j hj).1).2.trans (rB10 j hj).2⟩ : r2 j ∈ L11 ∧ f11 (r2 j) = _)
  have oF11 : q6 ∈ L11 ∧ f11 q6 = hl_nat g 24 (fun _ => 0) := ⟨by rw [hL11]; exact List.mem_append_right _ (List.mem_singleton.2 rfl), by rw [hf11, va_up_self]⟩
  obtain ⟨f12, hf12⟩ : ∃ x9 : Nat → va_E, x9 = va_up f11 q5 (.inr (2, [.ref q6])) := ⟨_, rfl⟩
  have hh : hl_H g (hm_A sz L) s.heap L11 f12 H locs := by rw [hf12, hL11, hf11]; exact hh
  have hpx12 := (⟨hpx11.1, (congrFun hf12 x).trans ((va_up_ne _ _ ne_hpx_oE).trans hpx11.2)⟩ : x ∈ L11 ∧ f12 x = _)
  have oA12 := (⟨oA11.1, (congrFun hf12 q1).trans ((va_up_ne _ _ ne_oA_oE).trans oA11.2)⟩ : q1 ∈ L11 ∧ f12 q1 = _)
  have oB12 := (⟨oB11.1, (congrFun hf12 q2).trans ((va_up_ne _ _ ne_oB_oE).trans oB11.2)⟩ : q2 ∈ L11 ∧ f12 q2 = _)
  have oC12 := (⟨oC11.1, (congrFun hf12 q3).trans ((va_up_ne _ _ ne_oC_oE).trans oC11.2)⟩ : q3 ∈ L11 ∧ f12 q3 = _)
  have oD12 := (⟨oD11.1, (congrFun hf12 q4).trans ((va_up_ne _ _ ne_oD_oE).trans oD11.2)⟩ : q4 ∈ L11 ∧ f12 q4 = _)
  have oF12 := (⟨oF11.1, (congrFun hf12 q6).trans ((va_up_ne _ _ (Ne.symm ne_oE_oF)).trans oF11.2)⟩ : q6 ∈ L11 ∧ f12 q6 = _)
  have rA12 := fun j (hj : j < 10) => (⟨(rA11 j hj).1, (congrFun hf12 (r1 j)).trans ((va_up_ne _ _ (ne_rA_oE j hj)).trans (rA11 j hj).2)⟩ : r1 j ∈ L11 ∧ f12 (r1 j) = _)
  have rB12 := fun j (hj : j < 20) => (⟨(rB11 j hj).1, (congrFun hf12 (r2 j)).trans ((va_up_ne _ _ (ne_rB_oE j hj)).trans (rB11 j hj).2)⟩ : r2 j ∈ L11 ∧ f12 (r2 j) = _)
  have oE12 : q5 ∈ L11 ∧ f12 q5 = .inr (2, [.ref q6]) := ⟨oE11.1, by rw [hf12, va_up_self]⟩
  refine hl_putF X hK hh hnm (ref := "CycleGroups") i_C t_C t_C_ok n_C (ci := 0) rfl 6 (by decide) w_53 rfl rfl rfl hpx12.1 hpx12.2 (by first | rfl | decide) (by first | rfl | decide) (Nat.le_of_ble_eq_true rfl) d_C_init_69 (fun H locs hh => ?_)
  obtain ⟨f13, hf13⟩ : ∃ x9 : Nat → va_E, x9 = va_up f12 x (.inr (0, [.int (nI n), .ref q1, .int 0, .ref q2, .int 0, .ref q3, .ref q5, .null, .int 0])) := ⟨_, rfl⟩
  have hh : hl_H g (hm_A sz L) s.heap L11 f13 H locs := by rw [hf13]; exact hh
  have oA13 := (⟨oA12.1, (congrFun hf13 q1).trans ((va_up_ne _ _ (Ne.symm ne_hpx_oA)).trans oA12.2)⟩ : q1 ∈ L11 ∧ f13 q1 = _)
  have oB13 := (⟨oB12.1, (congrFun hf13 q2).trans ((va_up_ne _ _ (Ne.symm ne_hpx_oB)).trans oB12.2)⟩ : q2 ∈ L11 ∧ f13 q2 = _)
  have oC13 := (⟨oC12.1, (congrFun hf13 q3).trans ((va_up_ne _ _ (Ne.symm ne_hpx_oC)).trans oC12.2)⟩ : q3 ∈ L11 ∧ f13 q3 = _)
  have oD13 := (⟨oD12.1, (congrFun hf13 q4).trans ((va_up_ne _ _ (Ne.symm ne_hpx_oD)).trans oD12.2)⟩ : q4 ∈ L11 ∧ f13 q4 = _)
  have oE13 := (⟨oE12.1, (congrFun hf13 q5).trans ((va_up_ne _ _ (Ne.symm ne_hpx_oE)).trans oE12.2)⟩ : q5 ∈ L11 ∧ f13 q5 = _)
  have oF13 := (⟨oF12.1, (congrFun hf13 q6).trans ((va_up_ne _ _ (Ne.symm ne_hpx_oF)).trans oF12.2)⟩ : q6 ∈ L11 ∧ f13 q6 = _)
  have rA13 := fun j (hj : j < 10) => (⟨(rA12 j hj).1, (congrFun hf13 (r1 j)).trans ((va_up_ne _ _ (Ne.symm (ne_hpx_rA j hj))).trans (rA12 j hj).2)⟩ : r1 j ∈ L11 ∧ f13 (r1 j) = _)
  have rB13 := fun j (hj : j < 20) => (⟨(rB12 j hj).1, (congrFun hf13 (r2 j)).trans ((va_up_ne _ _ (Ne.symm (ne_hpx_rB j hj))).trans (rB12 j hj).2)⟩ : r2 j ∈ L11 ∧ f13 (r2 j) = _)
  have hpx13 : x ∈ L11 ∧ f13 x = .inr (0, [.int (nI n), .ref q1, .int 0, .ref q2, .int 0, .ref q3, .ref q5, .null, .int 0]) := ⟨hpx12.1, by rw [hf13, va_up_self]⟩
  obtain ⟨b, hb⟩ : ∃ b : Nat → Nat, b = fun t => if t = 0 then x else if t = 1 then q1 else if t = 2 then q2 else if t = 3 then q3 else if t = 4 then q4 else if t = 5 then q5 else if t = 6 then q6 else if t < 20 then r1 (t - 10) else r2 (t - 20) := ⟨_, rfl⟩
  have b0 : b 0 = x := by rw [hb]; rfl
  have b1 : b 1 = q1 := by rw [hb]; rfl
  have b2 : b 2 = q2 := by rw [hb]; rfl
  have b3 : b 3 = q3 := by rw [hb]; rfl
  have b4 : b 4 = q4 := by rw [hb]; rfl
  have b5 : b 5 = q5 := by rw [hb]; rfl
  have b6 : b 6 = q6 := by rw [hb]; rfl
  have b7 : ∀ i, i < 10 → b (10 + i) = r1 i := fun i hi => by
    rw [hb]
    simp only []
    rw [if_neg (by omega), if_neg (by omega), if_neg (by omega), if_neg (by omega), if_neg (by omega), if_neg (by omega), if_neg (by omega), if_pos (by omega), show 10 + i - 10 = i by omega]
  have b8 : ∀ i, i < 20 → b (20 + i) = r2 i := fun i hi => by
    rw [hb]
    simp only []
    rw [if_neg (by omega), if_neg (by omega), if_neg (by omega), if_neg (by omega), if_neg (by omega), if_neg (by omega), if_neg (by omega), if_neg (by omega), show 20 + i - 20 = i by omega]
  have m2 : ∀ q, q ∈ L → q ∈ L2 := fun q h => (E2 q (h)).1
  have m4 : ∀ q, q ∈ L → q ∈ L4 := fun q h => (E4 q (m2 q h)).1
  have m6 : ∀ q, q ∈ L → q ∈ L6 := fun q h => (E6 q (m4 q h)).1
  have m7 : ∀ q, q ∈ L → q ∈ L7 := fun q h => (E7 q (m6 q h)).1
  have m10 : ∀ q, q ∈ L → q ∈ L10 := fun q h => (E10 q (m7 q h)).1
  have m11 : ∀ q, q ∈ L → q ∈ L11 := fun q h => (E11 q (m10 q h)).1
  have x1 : ∀ q, q ∈ L → q ≠ q1 := fun q h e0 => hq1 (by rw [← e0]; exact List.mem_append_left _ h)
  have y1 : ∀ q, q ∈ L → ∀ j, j < 10 → r1 j ≠ q := fun q h j hj e0 => hr1 j hj (by rw [e0]; exact h)
  have x2 : ∀ q, q ∈ L → q ≠ q2 := fun q h e0 => hq2 (by rw [← e0]; exact List.mem_append_left _ (m2 q h))
  have y2 : ∀ q, q ∈ L → ∀ j, j < 20 → r2 j ≠ q := fun q h j hj e0 => hr2 j hj (by rw [e0]; exact m2 q h)
  have x3 : ∀ q, q ∈ L → q ≠ q3 := fun q h e0 => hq3 (e0 ▸ m4 q h)
  have x4 : ∀ q, q ∈ L → q ≠ q4 := fun q h e0 => hq4 (e0 ▸ m6 q h)
  have x5 : ∀ q, q ∈ L → q ≠ q5 := fun q h e0 => hq5 (e0 ▸ m7 q h)
  have x6 : ∀ q, q ∈ L → q ≠ q6 := fun q h e0 => hq6 (e0 ▸ m10 q h)
  let T0 : Nat → Nat := va_up (va_up (va_up (va_up (va_up (va_up T q1 1) q2 2) q3 3) q4 4) q5 5) q6 6
  let T1 : Nat → Nat := tg_rows (tg_rows T0 r1 10 10) r2 20 20
  have hT1 : ∀ q, (∀ j, j < 20 → r2 j ≠ q) → (∀ j, j < 10 → r1 j ≠ q) → T1 q = T0 q := fun q h1 h2 => (tg_rows_out h1).trans (tg_rows_out h2)
  have hTL : ∀ q, q ∈ L → T1 q = T q := fun q h => by
    rw [hT1 q (y2 q h) (y1 q h)]
    show va_up (va_up (va_up (va_up (va_up (va_up T q1 _) q2 _) q3 _) q4 _) q5 _) q6 _ q = T q
    rw [va_up_ne _ _ (x6 q h), va_up_ne _ _ (x5 q h), va_up_ne _ _ (x4 q h), va_up_ne _ _ (x3 q h), va_up_ne _ _ (x2 q h), va_up_ne _ _ (x1 q h)]
  have tt1 : T1 q1 = 1 := by
    rw [hT1 q1 (fun j hj => Ne.symm (ne_oA_rB j hj)) ne_rA_oA]
    show va_up (va_up (va_up (va_up (va_up (va_up T q1 _) q2 _) q3 _) q4 _) q5 _) q6 _ q1 = 1
    rw [va_up_ne _ _ ne_oA_oF, va_up_ne _ _ ne_oA_oE, va_up_ne _ _ ne_oA_oD, va_up_ne _ _ ne_oA_oC, va_up_ne _ _ ne_oA_oB, va_up_self]
  have tt2 : T1 q2 = 2 := by
    rw [hT1 q2 ne_rB_oB ne_rA_oB]
    show va_up (va_up (va_up (va_up (va_up (va_up T q1 _) q2 _) q3 _) q4 _) q5 _) q6 _ q2 = 2
    rw [va_up_ne _ _ ne_oB_oF, va_up_ne _ _ ne_oB_oE, va_up_ne _ _ ne_oB_oD, va_up_ne _ _ ne_oB_oC, va_up_self]
  have tt3 : T1 q3 = 3 := by
    rw [hT1 q3 ne_rB_oC ne_rA_oC]
    show va_up (va_up (va_up (va_up (va_up (va_up T q1 _) q2 _) q3 _) q4 _) q5 _) q6 _ q3 = 3
    rw [va_up_ne _ _ ne_oC_oF, va_up_ne _ _ ne_oC_oE, va_up_ne _ _ ne_oC_oD, va_up_self]
  have tt4 : T1 q4 = 4 := by
    rw [hT1 q4 ne_rB_oD ne_rA_oD]
    show va_up (va_up (va_up (va_up (va_up (va_up T q1 _) q2 _) q3 _) q4 _) q5 _) q6 _ q4 = 4
    rw [va_up_ne _ _ ne_oD_oF, va_up_ne _ _ ne_oD_oE, va_up_self]
  have tt5 : T1 q5 = 5 := by
    rw [hT1 q5 ne_rB_oE ne_rA_oE]
    show va_up (va_up (va_up (va_up (va_up (va_up T q1 _) q2 _) q3 _) q4 _) q5 _) q6 _ q5 = 5
    rw [va_up_ne _ _ ne_oE_oF, va_up_self]
  have tt6 : T1 q6 = 6 := by
    rw [hT1 q6 ne_rB_oF ne_rA_oF]
    show va_up (va_up (va_up (va_up (va_up (va_up T q1 _) q2 _) q3 _) q4 _) q5 _) q6 _ q6 = 6
    rw [va_up_self]
  have tt7 : ∀ i, i < 10 → T1 (r1 i) = 10 + i := fun i hi => (tg_rows_out (fun j2 hj2 => Ne.symm (ne_rA_rB i hi j2 hj2))).trans (tg_rows_in hi1 hi)
  have tt8 : ∀ i, i < 20 → T1 (r2 i) = 20 + i := fun i hi => tg_rows_in hi2 hi
  refine hm_vret X hr hlk hh ⟨L11, f13, T1, b, fun _ _ => 0, fun _ _ => 0, rfl, fun q h => ⟨m11 q h, hTL q h⟩, fun q h hqx => ?_, b0, ⟨fun t ht => ?_, ?_, ?_, ?_, ?_, ?_, ?_, ?_, ?_, ?_⟩⟩ (by show 0 + 1 + 10 + 1 + 20 + 1 + 1 + 1 + 1 ≤ 36; omega) (by show 0 + 10 + 10 * n + 20 + 20 * n + 1 + 24 + 1 + 24 ≤ 800; omega) d_C_init_72
  · skip
    rw [hf13, hf12, hf11, hf10, hf9, hf8, hf7, hf6, hf5, hf4, hf3, hf2, hf1]
    have v1 : ∀ (F : Nat → va_E) (y : va_E), vr_up F ((List.range 10).map r1) y q = F q := fun F y => vr_up_ne (fun hm => by obtain ⟨i, hi, e0⟩ := List.mem_map.1 hm; exact y1 q h i (List.mem_range.1 hi) e0)
    have v2 : ∀ (F : Nat → va_E) (y : va_E), vr_up F ((List.range 20).map r2) y q = F q := fun F y => vr_up_ne (fun hm => by obtain ⟨i, hi, e0⟩ := List.mem_map.1 hm; exact y2 q h i (List.mem_range.1 hi) e0)
    simp only [va_up_ne _ _ hqx, va_up_ne _ _ (x1 q h), va_up_ne _ _ (x2 q h), va_up_ne _ _ (x3 q h), va_up_ne _ _ (x4 q h), va_up_ne _ _ (x5 q h), va_up_ne _ _ (x6 q h), v1, v2]
  · rcases (show t = 0 ∨ t = 1 ∨ t = 2 ∨ t = 3 ∨ t = 4 ∨ t = 5 ∨ t = 6 ∨ (10 ≤ t ∧ t < 20) ∨ (20 ≤ t ∧ t < 40) by omega) with rfl | rfl | rfl | rfl | rfl | rfl | rfl | h | h
    · rw [b0]; exact ⟨hpx13.1, (hTL x hx).trans hTx⟩
    · rw [b1]; exact ⟨oA13.1, tt1⟩
    · rw [b2]; exact ⟨oB13.1, tt2⟩
    · rw [b3]; exact ⟨oC13.1, tt3⟩
    · rw [b4]; exact ⟨oD13.1, tt4⟩
    · rw [b5]; exact ⟨oE13.1, tt5⟩
    · rw [b6]; exact ⟨oF13.1, tt6⟩
    · obtain ⟨i, rfl⟩ : ∃ i, t = 10 + i := ⟨t - 10, by omega⟩
      rw [b7 i (by omega)]; exact ⟨(rA13 i (by omega)).1, tt7 i (by omega)⟩
    · obtain ⟨i, rfl⟩ : ∃ i, t = 20 + i := ⟨t - 20, by omega⟩
      rw [b8 i (by omega)]; exact ⟨(rB13 i (by omega)).1, tt8 i (by omega)⟩
  · rw [b0, b1, b2, b3, b5]; exact hpx13.2
  · rw [b1, oA13.2]
    congr 4
    funext i
    by_cases h : i < 10
    · rw [if_pos h, if_pos h, b7 i h]
    · rw [if_neg h, if_neg h]
  · rw [b2, oB13.2]
    congr 4
    funext i
    by_cases h : i < 20
    · rw [if_pos h, if_pos h, b8 i h]
    · rw [if_neg h, if_neg h]
  · rw [b3, b4]; exact oC13.2
  · rw [b4]; exact oD13.2
  · rw [b5, b6]; exact oE13.2
  · rw [b6]; exact oF13.2
  · intro i hi
    rw [b7 i hi]; exact (rA13 i hi).2
  · intro i hi
    rw [b8 i hi]; exact (rB13 i hi).2
end

