/-! The reference: its constructor. -/
section
theorem mi_step {g : hl_G} {A : Nat → Prop} {H0 H : Heap} {L : List Nat} {G : Nat → va_E} {x q : Nat} {o c : va_E} {locs : List Loc} (hx : x ∈ L) (hq : q ∉ L)
    (h : hl_H g A H0 (L ++ [q]) (va_up (va_up G x o) q c) H locs) : hl_H g A H0 (L ++ [q]) (va_up (va_up G q c) x o) H locs := by
  have hne : x ≠ q := fun e => hq (e ▸ hx)
  have e : va_up (va_up G x o) q c = va_up (va_up G q c) x o := by
    funext a
    by_cases h1 : a = q
    · subst h1
      rw [va_up_self, va_up_ne _ _ (Ne.symm hne), va_up_self]
    · by_cases h2 : a = x
      · subst h2
        rw [va_up_ne _ _ h1, va_up_self, va_up_self]
      · rw [va_up_ne _ _ h1, va_up_ne _ _ h2, va_up_ne _ _ h2, va_up_ne _ _ h1]
  rw [e] at h
  exact h
theorem mi_i (g : hl_G) (n : Nat) : hl_row g n (fun _ => 0) = hl_nat g n (fun _ => 0) := rfl
theorem mi_z (g : hl_G) (n : Nat) : hl_zow g n (fun _ => 0) = hl_zat g n (fun _ => 0) := rfl
theorem mi_b (g : hl_G) : hl_row g 24 (fun _ => 0) = hl_byr g (fun _ => 1) := by
  have e : (0 : Int32) = nI 1 + (-1) := by decide
  show hl_row g 24 (fun _ => 0) = hl_row g 24 (fun _ => nI 1 + (-1))
  rw [← e]

/-- CycleGroupsModel(int n) -/
theorem c_M_init (l : Launch) (g : hl_G) (sz : Nat) (L : List Nat) (f : Nat → va_E) (T : Nat → Nat) (x n : Nat) (q0 : Int32) (hx : x ∈ L) (hfx : f x = .inr (5, [.int 0, .int 0, .int 0, .null, .int 0, .null, .int 0, .null, .null, .int 0, .null, .null, .null, .null, .null, .null, .null, .null, .null, .null, .null, .null, .null, .null])) (hTx : T x = 20000) (hn : plR q0 n) :
    Met l y_M_init (hq y_M_init b_M_init 2 none) { frames := 2, cells := 18, slots := 17128, locals := 60 } (hm_P g [.ref x, .int q0] sz L f) (va_Qv (fun u => ∃ (L1 : List Nat) (T1 : Nat → Nat) (d : Nat → Nat), u = (L1, mf g d f n 0 0 0 0 (fun _ => 0) (fun _ => 0) (fun _ => 0) (fun _ => 0) (fun _ => 0) (fun _ => 0) (fun _ => 0) (fun _ => 0) (fun _ => 0) (fun _ => 0) (fun _ => 1) (fun _ => 0) (fun _ => 0) (fun _ => 0) (fun _ => 0) (fun _ => 0) (fun _ => 0) (fun _ => 0)) ∧ (∀ q, q ∈ L → q ∈ L1 ∧ T1 q = T q) ∧ d 0 = x ∧ ∀ k, md_i k = true → d k ∈ L1 ∧ T1 (d k) = 20000 + k) (hm_B g sz L) (hm_A sz L)) 18 17128 (hm_A sz L) := by
  have hn1 := (plR_bd hn).1
  have hn2 := (plR_bd hn).2
  refine hm_ofW (by decide) (Nat.le_of_ble_eq_true rfl) ?_
  intro p e s m below meth c X hr hlk hnm hK hsz hh ls hl
  have hl : lv_has ls 2 [(0, .ref x), (1, .int q0)] := hl
  have hh : hl_H g (hm_A sz L) s.heap L (va_up f x (.inr (5, [.int 0, .int 0, .int 0, .null, .int 0, .null, .int 0, .null, .null, .int 0, .null, .null, .null, .null, .null, .null, .null, .null, .null, .null, .null, .null, .null, .null]))) s.heap [] := by
    have e : va_up f x (.inr (5, [.int 0, .int 0, .int 0, .null, .int 0, .null, .int 0, .null, .null, .int 0, .null, .null, .null, .null, .null, .null, .null, .null, .null, .null, .null, .null, .null, .null])) = f := by
      funext a
      by_cases h : a = x
      · rw [h, va_up_self, hfx]
      · rw [va_up_ne _ _ h]
    rw [e]; exact hh
  refine lv_aload_n X.1 X.2.1 d_M_init_0 rfl (lv_at hl 0 rfl) ?_
  refine hl_objI X w_350 hl.1 (Nat.le_of_ble_eq_true rfl) (Nat.le_of_ble_eq_true rfl) d_M_init_1 ?_
  refine lv_aload_n X.1 X.2.1 d_M_init_4 rfl (lv_at hl 0 rfl) ?_
  refine lv_sipush (v := nI 240) X.1 X.2.1 d_M_init_5 (by decide) ?_
  refine hl_newI X hK hh (by decide) (Nat.le_of_ble_eq_true rfl) (Nat.le_of_ble_eq_true rfl) d_M_init_8 (fun q3 H hq3 hh => ?_)
  have hh := mi_step hx hq3 hh
  have hx3 : x ∈ (L ++ [q3]) := List.mem_append_left _ hx
  refine hl_putF X hK hh hnm (ref := "CycleGroupsModel") i_M t_M t_M_ok n_M (ci := 5) rfl 3 (by decide) w_354 rfl rfl rfl hx3 (va_up_self ..) (by first | rfl | decide) (by first | rfl | decide) (Nat.le_of_ble_eq_true rfl) d_M_init_10 (fun H locs hh => ?_)
  rw [hr_uu] at hh
  have hh : hl_H g (hm_A sz L) s.heap (L ++ [q3]) (va_up (va_up f q3 (hl_row g 240 (fun _ => 0))) x (.inr (5, [.int 0, .int 0, .int 0, .ref q3, .int 0, .null, .int 0, .null, .null, .int 0, .null, .null, .null, .null, .null, .null, .null, .null, .null, .null, .null, .null, .null, .null]))) H locs := hh
  refine lv_aload_n X.1 X.2.1 d_M_init_13 rfl (lv_at hl 0 rfl) ?_
  refine lv_sipush (v := nI 480) X.1 X.2.1 d_M_init_14 (by decide) ?_
  refine hl_newI X hK hh (by decide) (Nat.le_of_ble_eq_true rfl) (Nat.le_of_ble_eq_true rfl) d_M_init_17 (fun q5 H hq5 hh => ?_)
  have hh := mi_step hx3 hq5 hh
  have hx5 : x ∈ ((L ++ [q3]) ++ [q5]) := List.mem_append_left _ hx3
  refine hl_putF X hK hh hnm (ref := "CycleGroupsModel") i_M t_M t_M_ok n_M (ci := 5) rfl 5 (by decide) w_356 rfl rfl rfl hx5 (va_up_self ..) (by first | rfl | decide) (by first | rfl | decide) (Nat.le_of_ble_eq_true rfl) d_M_init_19 (fun H locs hh => ?_)
  rw [hr_uu] at hh
  have hh : hl_H g (hm_A sz L) s.heap ((L ++ [q3]) ++ [q5]) (va_up (va_up (va_up f q3 (hl_row g 240 (fun _ => 0))) q5 (hl_row g 480 (fun _ => 0))) x (.inr (5, [.int 0, .int 0, .int 0, .ref q3, .int 0, .ref q5, .int 0, .null, .null, .int 0, .null, .null, .null, .null, .null, .null, .null, .null, .null, .null, .null, .null, .null, .null]))) H locs := hh
  refine lv_aload_n X.1 X.2.1 d_M_init_22 rfl (lv_at hl 0 rfl) ?_
  refine lv_sipush (v := nI 13824) X.1 X.2.1 d_M_init_23 (by decide) ?_
  refine hl_newI X hK hh (by decide) (Nat.le_of_ble_eq_true rfl) (Nat.le_of_ble_eq_true rfl) d_M_init_26 (fun q7 H hq7 hh => ?_)
  have hh := mi_step hx5 hq7 hh
  have hx7 : x ∈ (((L ++ [q3]) ++ [q5]) ++ [q7]) := List.mem_append_left _ hx5
  refine hl_putF X hK hh hnm (ref := "CycleGroupsModel") i_M t_M t_M_ok n_M (ci := 5) rfl 7 (by decide) w_358 rfl rfl rfl hx7 (va_up_self ..) (by first | rfl | decide) (by first | rfl | decide) (Nat.le_of_ble_eq_true rfl) d_M_init_28 (fun H locs hh => ?_)
  rw [hr_uu] at hh
  have hh : hl_H g (hm_A sz L) s.heap (((L ++ [q3]) ++ [q5]) ++ [q7]) (va_up (va_up (va_up (va_up f q3 (hl_row g 240 (fun _ => 0))) q5 (hl_row g 480 (fun _ => 0))) q7 (hl_row g 13824 (fun _ => 0))) x (.inr (5, [.int 0, .int 0, .int 0, .ref q3, .int 0, .ref q5, .int 0, .ref q7, .null, .int 0, .null, .null, .null, .null, .null, .null, .null, .null, .null, .null, .null, .null, .null, .null]))) H locs := hh
  refine lv_aload_n X.1 X.2.1 d_M_init_31 rfl (lv_at hl 0 rfl) ?_
  refine lv_sipush (v := nI 576) X.1 X.2.1 d_M_init_32 (by decide) ?_
  refine hl_newZ X hK hh (by decide) (Nat.le_of_ble_eq_true rfl) (Nat.le_of_ble_eq_true rfl) d_M_init_35 (fun q8 H hq8 hh => ?_)
  have hh := mi_step hx7 hq8 hh
  have hx8 : x ∈ ((((L ++ [q3]) ++ [q5]) ++ [q7]) ++ [q8]) := List.mem_append_left _ hx7
  refine hl_putF X hK hh hnm (ref := "CycleGroupsModel") i_M t_M t_M_ok n_M (ci := 5) rfl 8 (by decide) w_359 rfl rfl rfl hx8 (va_up_self ..) (by first | rfl | decide) (by first | rfl | decide) (Nat.le_of_ble_eq_true rfl) d_M_init_37 (fun H locs hh => ?_)
  rw [hr_uu] at hh
  have hh : hl_H g (hm_A sz L) s.heap ((((L ++ [q3]) ++ [q5]) ++ [q7]) ++ [q8]) (va_up (va_up (va_up (va_up (va_up f q3 (hl_row g 240 (fun _ => 0))) q5 (hl_row g 480 (fun _ => 0))) q7 (hl_row g 13824 (fun _ => 0))) q8 (hl_zow g 576 (fun _ => 0))) x (.inr (5, [.int 0, .int 0, .int 0, .ref q3, .int 0, .ref q5, .int 0, .ref q7, .ref q8, .int 0, .null, .null, .null, .null, .null, .null, .null, .null, .null, .null, .null, .null, .null, .null]))) H locs := hh
  refine lv_aload_n X.1 X.2.1 d_M_init_40 rfl (lv_at hl 0 rfl) ?_
  refine lv_sipush (v := nI 576) X.1 X.2.1 d_M_init_41 (by decide) ?_
  refine hl_newI X hK hh (by decide) (Nat.le_of_ble_eq_true rfl) (Nat.le_of_ble_eq_true rfl) d_M_init_44 (fun q10 H hq10 hh => ?_)
  have hh := mi_step hx8 hq10 hh
  have hx10 : x ∈ (((((L ++ [q3]) ++ [q5]) ++ [q7]) ++ [q8]) ++ [q10]) := List.mem_append_left _ hx8
  refine hl_putF X hK hh hnm (ref := "CycleGroupsModel") i_M t_M t_M_ok n_M (ci := 5) rfl 10 (by decide) w_361 rfl rfl rfl hx10 (va_up_self ..) (by first | rfl | decide) (by first | rfl | decide) (Nat.le_of_ble_eq_true rfl) d_M_init_46 (fun H locs hh => ?_)
  rw [hr_uu] at hh
  have hh : hl_H g (hm_A sz L) s.heap (((((L ++ [q3]) ++ [q5]) ++ [q7]) ++ [q8]) ++ [q10]) (va_up (va_up (va_up (va_up (va_up (va_up f q3 (hl_row g 240 (fun _ => 0))) q5 (hl_row g 480 (fun _ => 0))) q7 (hl_row g 13824 (fun _ => 0))) q8 (hl_zow g 576 (fun _ => 0))) q10 (hl_row g 576 (fun _ => 0))) x (.inr (5, [.int 0, .int 0, .int 0, .ref q3, .int 0, .ref q5, .int 0, .ref q7, .ref q8, .int 0, .ref q10, .null, .null, .null, .null, .null, .null, .null, .null, .null, .null, .null, .null, .null]))) H locs := hh
  refine lv_aload_n X.1 X.2.1 d_M_init_49 rfl (lv_at hl 0 rfl) ?_
  refine lv_bipush (v := nI 24) X.1 X.2.1 d_M_init_50 (by decide) ?_
  refine hl_newI X hK hh (by decide) (Nat.le_of_ble_eq_true rfl) (Nat.le_of_ble_eq_true rfl) d_M_init_52 (fun q11 H hq11 hh => ?_)
  have hh := mi_step hx10 hq11 hh
  have hx11 : x ∈ ((((((L ++ [q3]) ++ [q5]) ++ [q7]) ++ [q8]) ++ [q10]) ++ [q11]) := List.mem_append_left _ hx10
  refine hl_putF X hK hh hnm (ref := "CycleGroupsModel") i_M t_M t_M_ok n_M (ci := 5) rfl 11 (by decide) w_362 rfl rfl rfl hx11 (va_up_self ..) (by first | rfl | decide) (by first | rfl | decide) (Nat.le_of_ble_eq_true rfl) d_M_init_54 (fun H locs hh => ?_)
  rw [hr_uu] at hh
  have hh : hl_H g (hm_A sz L) s.heap ((((((L ++ [q3]) ++ [q5]) ++ [q7]) ++ [q8]) ++ [q10]) ++ [q11]) (va_up (va_up (va_up (va_up (va_up (va_up (va_up f q3 (hl_row g 240 (fun _ => 0))) q5 (hl_row g 480 (fun _ => 0))) q7 (hl_row g 13824 (fun _ => 0))) q8 (hl_zow g 576 (fun _ => 0))) q10 (hl_row g 576 (fun _ => 0))) q11 (hl_row g 24 (fun _ => 0))) x (.inr (5, [.int 0, .int 0, .int 0, .ref q3, .int 0, .ref q5, .int 0, .ref q7, .ref q8, .int 0, .ref q10, .ref q11, .null, .null, .null, .null, .null, .null, .null, .null, .null, .null, .null, .null]))) H locs := hh
  refine lv_aload_n X.1 X.2.1 d_M_init_57 rfl (lv_at hl 0 rfl) ?_
  refine lv_bipush (v := nI 24) X.1 X.2.1 d_M_init_58 (by decide) ?_
  refine hl_newI X hK hh (by decide) (Nat.le_of_ble_eq_true rfl) (Nat.le_of_ble_eq_true rfl) d_M_init_60 (fun q12 H hq12 hh => ?_)
  have hh := mi_step hx11 hq12 hh
  have hx12 : x ∈ (((((((L ++ [q3]) ++ [q5]) ++ [q7]) ++ [q8]) ++ [q10]) ++ [q11]) ++ [q12]) := List.mem_append_left _ hx11
  refine hl_putF X hK hh hnm (ref := "CycleGroupsModel") i_M t_M t_M_ok n_M (ci := 5) rfl 12 (by decide) w_363 rfl rfl rfl hx12 (va_up_self ..) (by first | rfl | decide) (by first | rfl | decide) (Nat.le_of_ble_eq_true rfl) d_M_init_62 (fun H locs hh => ?_)
  rw [hr_uu] at hh
  have hh : hl_H g (hm_A sz L) s.heap (((((((L ++ [q3]) ++ [q5]) ++ [q7]) ++ [q8]) ++ [q10]) ++ [q11]) ++ [q12]) (va_up (va_up (va_up (va_up (va_up (va_up (va_up (va_up f q3 (hl_row g 240 (fun _ => 0))) q5 (hl_row g 480 (fun _ => 0))) q7 (hl_row g 13824 (fun _ => 0))) q8 (hl_zow g 576 (fun _ => 0))) q10 (hl_row g 576 (fun _ => 0))) q11 (hl_row g 24 (fun _ => 0))) q12 (hl_row g 24 (fun _ => 0))) x (.inr (5, [.int 0, .int 0, .int 0, .ref q3, .int 0, .ref q5, .int 0, .ref q7, .ref q8, .int 0, .ref q10, .ref q11, .ref q12, .null, .null, .null, .null, .null, .null, .null, .null, .null, .null, .null]))) H locs := hh
  refine lv_aload_n X.1 X.2.1 d_M_init_65 rfl (lv_at hl 0 rfl) ?_
  refine lv_sipush (v := nI 576) X.1 X.2.1 d_M_init_66 (by decide) ?_
  refine hl_newI X hK hh (by decide) (Nat.le_of_ble_eq_true rfl) (Nat.le_of_ble_eq_true rfl) d_M_init_69 (fun q13 H hq13 hh => ?_)
  have hh := mi_step hx12 hq13 hh
  have hx13 : x ∈ ((((((((L ++ [q3]) ++ [q5]) ++ [q7]) ++ [q8]) ++ [q10]) ++ [q11]) ++ [q12]) ++ [q13]) := List.mem_append_left _ hx12
  refine hl_putF X hK hh hnm (ref := "CycleGroupsModel") i_M t_M t_M_ok n_M (ci := 5) rfl 13 (by decide) w_364 rfl rfl rfl hx13 (va_up_self ..) (by first | rfl | decide) (by first | rfl | decide) (Nat.le_of_ble_eq_true rfl) d_M_init_71 (fun H locs hh => ?_)
  rw [hr_uu] at hh
  have hh : hl_H g (hm_A sz L) s.heap ((((((((L ++ [q3]) ++ [q5]) ++ [q7]) ++ [q8]) ++ [q10]) ++ [q11]) ++ [q12]) ++ [q13]) (va_up (va_up (va_up (va_up (va_up (va_up (va_up (va_up (va_up f q3 (hl_row g 240 (fun _ => 0))) q5 (hl_row g 480 (fun _ => 0))) q7 (hl_row g 13824 (fun _ => 0))) q8 (hl_zow g 576 (fun _ => 0))) q10 (hl_row g 576 (fun _ => 0))) q11 (hl_row g 24 (fun _ => 0))) q12 (hl_row g 24 (fun _ => 0))) q13 (hl_row g 576 (fun _ => 0))) x (.inr (5, [.int 0, .int 0, .int 0, .ref q3, .int 0, .ref q5, .int 0, .ref q7, .ref q8, .int 0, .ref q10, .ref q11, .ref q12, .ref q13, .null, .null, .null, .null, .null, .null, .null, .null, .null, .null]))) H locs := hh
  refine lv_aload_n X.1 X.2.1 d_M_init_74 rfl (lv_at hl 0 rfl) ?_
  refine lv_bipush (v := nI 24) X.1 X.2.1 d_M_init_75 (by decide) ?_
  refine hl_newZ X hK hh (by decide) (Nat.le_of_ble_eq_true rfl) (Nat.le_of_ble_eq_true rfl) d_M_init_77 (fun q14 H hq14 hh => ?_)
  have hh := mi_step hx13 hq14 hh
  have hx14 : x ∈ (((((((((L ++ [q3]) ++ [q5]) ++ [q7]) ++ [q8]) ++ [q10]) ++ [q11]) ++ [q12]) ++ [q13]) ++ [q14]) := List.mem_append_left _ hx13
  refine hl_putF X hK hh hnm (ref := "CycleGroupsModel") i_M t_M t_M_ok n_M (ci := 5) rfl 14 (by decide) w_365 rfl rfl rfl hx14 (va_up_self ..) (by first | rfl | decide) (by first | rfl | decide) (Nat.le_of_ble_eq_true rfl) d_M_init_79 (fun H locs hh => ?_)
  rw [hr_uu] at hh
  have hh : hl_H g (hm_A sz L) s.heap (((((((((L ++ [q3]) ++ [q5]) ++ [q7]) ++ [q8]) ++ [q10]) ++ [q11]) ++ [q12]) ++ [q13]) ++ [q14]) (va_up (va_up (va_up (va_up (va_up (va_up (va_up (va_up (va_up (va_up f q3 (hl_row g 240 (fun _ => 0))) q5 (hl_row g 480 (fun _ => 0))) q7 (hl_row g 13824 (fun _ => 0))) q8 (hl_zow g 576 (fun _ => 0))) q10 (hl_row g 576 (fun _ => 0))) q11 (hl_row g 24 (fun _ => 0))) q12 (hl_row g 24 (fun _ => 0))) q13 (hl_row g 576 (fun _ => 0))) q14 (hl_zow g 24 (fun _ => 0))) x (.inr (5, [.int 0, .int 0, .int 0, .ref q3, .int 0, .ref q5, .int 0, .ref q7, .ref q8, .int 0, .ref q10, .ref q11, .ref q12, .ref q13, .ref q14, .null, .null, .null, .null, .null, .null, .null, .null, .null]))) H locs := hh
  refine lv_aload_n X.1 X.2.1 d_M_init_82 rfl (lv_at hl 0 rfl) ?_
  refine lv_bipush (v := nI 24) X.1 X.2.1 d_M_init_83 (by decide) ?_
  refine hl_newI X hK hh (by decide) (Nat.le_of_ble_eq_true rfl) (Nat.le_of_ble_eq_true rfl) d_M_init_85 (fun q15 H hq15 hh => ?_)
  have hh := mi_step hx14 hq15 hh
  have hx15 : x ∈ ((((((((((L ++ [q3]) ++ [q5]) ++ [q7]) ++ [q8]) ++ [q10]) ++ [q11]) ++ [q12]) ++ [q13]) ++ [q14]) ++ [q15]) := List.mem_append_left _ hx14
  refine hl_putF X hK hh hnm (ref := "CycleGroupsModel") i_M t_M t_M_ok n_M (ci := 5) rfl 15 (by decide) w_366 rfl rfl rfl hx15 (va_up_self ..) (by first | rfl | decide) (by first | rfl | decide) (Nat.le_of_ble_eq_true rfl) d_M_init_87 (fun H locs hh => ?_)
  rw [hr_uu] at hh
  have hh : hl_H g (hm_A sz L) s.heap ((((((((((L ++ [q3]) ++ [q5]) ++ [q7]) ++ [q8]) ++ [q10]) ++ [q11]) ++ [q12]) ++ [q13]) ++ [q14]) ++ [q15]) (va_up (va_up (va_up (va_up (va_up (va_up (va_up (va_up (va_up (va_up (va_up f q3 (hl_row g 240 (fun _ => 0))) q5 (hl_row g 480 (fun _ => 0))) q7 (hl_row g 13824 (fun _ => 0))) q8 (hl_zow g 576 (fun _ => 0))) q10 (hl_row g 576 (fun _ => 0))) q11 (hl_row g 24 (fun _ => 0))) q12 (hl_row g 24 (fun _ => 0))) q13 (hl_row g 576 (fun _ => 0))) q14 (hl_zow g 24 (fun _ => 0))) q15 (hl_row g 24 (fun _ => 0))) x (.inr (5, [.int 0, .int 0, .int 0, .ref q3, .int 0, .ref q5, .int 0, .ref q7, .ref q8, .int 0, .ref q10, .ref q11, .ref q12, .ref q13, .ref q14, .ref q15, .null, .null, .null, .null, .null, .null, .null, .null]))) H locs := hh
  refine lv_aload_n X.1 X.2.1 d_M_init_90 rfl (lv_at hl 0 rfl) ?_
  refine lv_bipush (v := nI 24) X.1 X.2.1 d_M_init_91 (by decide) ?_
  refine hl_newI X hK hh (by decide) (Nat.le_of_ble_eq_true rfl) (Nat.le_of_ble_eq_true rfl) d_M_init_93 (fun q16 H hq16 hh => ?_)
  have hh := mi_step hx15 hq16 hh
  have hx16 : x ∈ (((((((((((L ++ [q3]) ++ [q5]) ++ [q7]) ++ [q8]) ++ [q10]) ++ [q11]) ++ [q12]) ++ [q13]) ++ [q14]) ++ [q15]) ++ [q16]) := List.mem_append_left _ hx15
  refine hl_putF X hK hh hnm (ref := "CycleGroupsModel") i_M t_M t_M_ok n_M (ci := 5) rfl 16 (by decide) w_367 rfl rfl rfl hx16 (va_up_self ..) (by first | rfl | decide) (by first | rfl | decide) (Nat.le_of_ble_eq_true rfl) d_M_init_95 (fun H locs hh => ?_)
  rw [hr_uu] at hh
  have hh : hl_H g (hm_A sz L) s.heap (((((((((((L ++ [q3]) ++ [q5]) ++ [q7]) ++ [q8]) ++ [q10]) ++ [q11]) ++ [q12]) ++ [q13]) ++ [q14]) ++ [q15]) ++ [q16]) (va_up (va_up (va_up (va_up (va_up (va_up (va_up (va_up (va_up (va_up (va_up (va_up f q3 (hl_row g 240 (fun _ => 0))) q5 (hl_row g 480 (fun _ => 0))) q7 (hl_row g 13824 (fun _ => 0))) q8 (hl_zow g 576 (fun _ => 0))) q10 (hl_row g 576 (fun _ => 0))) q11 (hl_row g 24 (fun _ => 0))) q12 (hl_row g 24 (fun _ => 0))) q13 (hl_row g 576 (fun _ => 0))) q14 (hl_zow g 24 (fun _ => 0))) q15 (hl_row g 24 (fun _ => 0))) q16 (hl_row g 24 (fun _ => 0))) x (.inr (5, [.int 0, .int 0, .int 0, .ref q3, .int 0, .ref q5, .int 0, .ref q7, .ref q8, .int 0, .ref q10, .ref q11, .ref q12, .ref q13, .ref q14, .ref q15, .ref q16, .null, .null, .null, .null, .null, .null, .null]))) H locs := hh
  refine lv_aload_n X.1 X.2.1 d_M_init_98 rfl (lv_at hl 0 rfl) ?_
  refine lv_bipush (v := nI 24) X.1 X.2.1 d_M_init_99 (by decide) ?_
  refine hl_newZ X hK hh (by decide) (Nat.le_of_ble_eq_true rfl) (Nat.le_of_ble_eq_true rfl) d_M_init_101 (fun q17 H hq17 hh => ?_)
  have hh := mi_step hx16 hq17 hh
  have hx17 : x ∈ ((((((((((((L ++ [q3]) ++ [q5]) ++ [q7]) ++ [q8]) ++ [q10]) ++ [q11]) ++ [q12]) ++ [q13]) ++ [q14]) ++ [q15]) ++ [q16]) ++ [q17]) := List.mem_append_left _ hx16
  refine hl_putF X hK hh hnm (ref := "CycleGroupsModel") i_M t_M t_M_ok n_M (ci := 5) rfl 17 (by decide) w_368 rfl rfl rfl hx17 (va_up_self ..) (by first | rfl | decide) (by first | rfl | decide) (Nat.le_of_ble_eq_true rfl) d_M_init_103 (fun H locs hh => ?_)
  rw [hr_uu] at hh
  have hh : hl_H g (hm_A sz L) s.heap ((((((((((((L ++ [q3]) ++ [q5]) ++ [q7]) ++ [q8]) ++ [q10]) ++ [q11]) ++ [q12]) ++ [q13]) ++ [q14]) ++ [q15]) ++ [q16]) ++ [q17]) (va_up (va_up (va_up (va_up (va_up (va_up (va_up (va_up (va_up (va_up (va_up (va_up (va_up f q3 (hl_row g 240 (fun _ => 0))) q5 (hl_row g 480 (fun _ => 0))) q7 (hl_row g 13824 (fun _ => 0))) q8 (hl_zow g 576 (fun _ => 0))) q10 (hl_row g 576 (fun _ => 0))) q11 (hl_row g 24 (fun _ => 0))) q12 (hl_row g 24 (fun _ => 0))) q13 (hl_row g 576 (fun _ => 0))) q14 (hl_zow g 24 (fun _ => 0))) q15 (hl_row g 24 (fun _ => 0))) q16 (hl_row g 24 (fun _ => 0))) q17 (hl_zow g 24 (fun _ => 0))) x (.inr (5, [.int 0, .int 0, .int 0, .ref q3, .int 0, .ref q5, .int 0, .ref q7, .ref q8, .int 0, .ref q10, .ref q11, .ref q12, .ref q13, .ref q14, .ref q15, .ref q16, .ref q17, .null, .null, .null, .null, .null, .null]))) H locs := hh
  refine lv_aload_n X.1 X.2.1 d_M_init_106 rfl (lv_at hl 0 rfl) ?_
  refine lv_bipush (v := nI 24) X.1 X.2.1 d_M_init_107 (by decide) ?_
  refine hl_newI X hK hh (by decide) (Nat.le_of_ble_eq_true rfl) (Nat.le_of_ble_eq_true rfl) d_M_init_109 (fun q18 H hq18 hh => ?_)
  have hh := mi_step hx17 hq18 hh
  have hx18 : x ∈ (((((((((((((L ++ [q3]) ++ [q5]) ++ [q7]) ++ [q8]) ++ [q10]) ++ [q11]) ++ [q12]) ++ [q13]) ++ [q14]) ++ [q15]) ++ [q16]) ++ [q17]) ++ [q18]) := List.mem_append_left _ hx17
  refine hl_putF X hK hh hnm (ref := "CycleGroupsModel") i_M t_M t_M_ok n_M (ci := 5) rfl 18 (by decide) w_369 rfl rfl rfl hx18 (va_up_self ..) (by first | rfl | decide) (by first | rfl | decide) (Nat.le_of_ble_eq_true rfl) d_M_init_111 (fun H locs hh => ?_)
  rw [hr_uu] at hh
  have hh : hl_H g (hm_A sz L) s.heap (((((((((((((L ++ [q3]) ++ [q5]) ++ [q7]) ++ [q8]) ++ [q10]) ++ [q11]) ++ [q12]) ++ [q13]) ++ [q14]) ++ [q15]) ++ [q16]) ++ [q17]) ++ [q18]) (va_up (va_up (va_up (va_up (va_up (va_up (va_up (va_up (va_up (va_up (va_up (va_up (va_up (va_up f q3 (hl_row g 240 (fun _ => 0))) q5 (hl_row g 480 (fun _ => 0))) q7 (hl_row g 13824 (fun _ => 0))) q8 (hl_zow g 576 (fun _ => 0))) q10 (hl_row g 576 (fun _ => 0))) q11 (hl_row g 24 (fun _ => 0))) q12 (hl_row g 24 (fun _ => 0))) q13 (hl_row g 576 (fun _ => 0))) q14 (hl_zow g 24 (fun _ => 0))) q15 (hl_row g 24 (fun _ => 0))) q16 (hl_row g 24 (fun _ => 0))) q17 (hl_zow g 24 (fun _ => 0))) q18 (hl_row g 24 (fun _ => 0))) x (.inr (5, [.int 0, .int 0, .int 0, .ref q3, .int 0, .ref q5, .int 0, .ref q7, .ref q8, .int 0, .ref q10, .ref q11, .ref q12, .ref q13, .ref q14, .ref q15, .ref q16, .ref q17, .ref q18, .null, .null, .null, .null, .null]))) H locs := hh
  refine lv_aload_n X.1 X.2.1 d_M_init_114 rfl (lv_at hl 0 rfl) ?_
  refine lv_bipush (v := nI 24) X.1 X.2.1 d_M_init_115 (by decide) ?_
  refine hl_newI X hK hh (by decide) (Nat.le_of_ble_eq_true rfl) (Nat.le_of_ble_eq_true rfl) d_M_init_117 (fun q19 H hq19 hh => ?_)
  have hh := mi_step hx18 hq19 hh
  have hx19 : x ∈ ((((((((((((((L ++ [q3]) ++ [q5]) ++ [q7]) ++ [q8]) ++ [q10]) ++ [q11]) ++ [q12]) ++ [q13]) ++ [q14]) ++ [q15]) ++ [q16]) ++ [q17]) ++ [q18]) ++ [q19]) := List.mem_append_left _ hx18
  refine hl_putF X hK hh hnm (ref := "CycleGroupsModel") i_M t_M t_M_ok n_M (ci := 5) rfl 19 (by decide) w_370 rfl rfl rfl hx19 (va_up_self ..) (by first | rfl | decide) (by first | rfl | decide) (Nat.le_of_ble_eq_true rfl) d_M_init_119 (fun H locs hh => ?_)
  rw [hr_uu] at hh
  have hh : hl_H g (hm_A sz L) s.heap ((((((((((((((L ++ [q3]) ++ [q5]) ++ [q7]) ++ [q8]) ++ [q10]) ++ [q11]) ++ [q12]) ++ [q13]) ++ [q14]) ++ [q15]) ++ [q16]) ++ [q17]) ++ [q18]) ++ [q19]) (va_up (va_up (va_up (va_up (va_up (va_up (va_up (va_up (va_up (va_up (va_up (va_up (va_up (va_up (va_up f q3 (hl_row g 240 (fun _ => 0))) q5 (hl_row g 480 (fun _ => 0))) q7 (hl_row g 13824 (fun _ => 0))) q8 (hl_zow g 576 (fun _ => 0))) q10 (hl_row g 576 (fun _ => 0))) q11 (hl_row g 24 (fun _ => 0))) q12 (hl_row g 24 (fun _ => 0))) q13 (hl_row g 576 (fun _ => 0))) q14 (hl_zow g 24 (fun _ => 0))) q15 (hl_row g 24 (fun _ => 0))) q16 (hl_row g 24 (fun _ => 0))) q17 (hl_zow g 24 (fun _ => 0))) q18 (hl_row g 24 (fun _ => 0))) q19 (hl_row g 24 (fun _ => 0))) x (.inr (5, [.int 0, .int 0, .int 0, .ref q3, .int 0, .ref q5, .int 0, .ref q7, .ref q8, .int 0, .ref q10, .ref q11, .ref q12, .ref q13, .ref q14, .ref q15, .ref q16, .ref q17, .ref q18, .ref q19, .null, .null, .null, .null]))) H locs := hh
  refine lv_aload_n X.1 X.2.1 d_M_init_122 rfl (lv_at hl 0 rfl) ?_
  refine lv_bipush (v := nI 24) X.1 X.2.1 d_M_init_123 (by decide) ?_
  refine hl_newI X hK hh (by decide) (Nat.le_of_ble_eq_true rfl) (Nat.le_of_ble_eq_true rfl) d_M_init_125 (fun q20 H hq20 hh => ?_)
  have hh := mi_step hx19 hq20 hh
  have hx20 : x ∈ (((((((((((((((L ++ [q3]) ++ [q5]) ++ [q7]) ++ [q8]) ++ [q10]) ++ [q11]) ++ [q12]) ++ [q13]) ++ [q14]) ++ [q15]) ++ [q16]) ++ [q17]) ++ [q18]) ++ [q19]) ++ [q20]) := List.mem_append_left _ hx19
  refine hl_putF X hK hh hnm (ref := "CycleGroupsModel") i_M t_M t_M_ok n_M (ci := 5) rfl 20 (by decide) w_371 rfl rfl rfl hx20 (va_up_self ..) (by first | rfl | decide) (by first | rfl | decide) (Nat.le_of_ble_eq_true rfl) d_M_init_127 (fun H locs hh => ?_)
  rw [hr_uu] at hh
  have hh : hl_H g (hm_A sz L) s.heap (((((((((((((((L ++ [q3]) ++ [q5]) ++ [q7]) ++ [q8]) ++ [q10]) ++ [q11]) ++ [q12]) ++ [q13]) ++ [q14]) ++ [q15]) ++ [q16]) ++ [q17]) ++ [q18]) ++ [q19]) ++ [q20]) (va_up (va_up (va_up (va_up (va_up (va_up (va_up (va_up (va_up (va_up (va_up (va_up (va_up (va_up (va_up (va_up f q3 (hl_row g 240 (fun _ => 0))) q5 (hl_row g 480 (fun _ => 0))) q7 (hl_row g 13824 (fun _ => 0))) q8 (hl_zow g 576 (fun _ => 0))) q10 (hl_row g 576 (fun _ => 0))) q11 (hl_row g 24 (fun _ => 0))) q12 (hl_row g 24 (fun _ => 0))) q13 (hl_row g 576 (fun _ => 0))) q14 (hl_zow g 24 (fun _ => 0))) q15 (hl_row g 24 (fun _ => 0))) q16 (hl_row g 24 (fun _ => 0))) q17 (hl_zow g 24 (fun _ => 0))) q18 (hl_row g 24 (fun _ => 0))) q19 (hl_row g 24 (fun _ => 0))) q20 (hl_row g 24 (fun _ => 0))) x (.inr (5, [.int 0, .int 0, .int 0, .ref q3, .int 0, .ref q5, .int 0, .ref q7, .ref q8, .int 0, .ref q10, .ref q11, .ref q12, .ref q13, .ref q14, .ref q15, .ref q16, .ref q17, .ref q18, .ref q19, .ref q20, .null, .null, .null]))) H locs := hh
  refine lv_aload_n X.1 X.2.1 d_M_init_130 rfl (lv_at hl 0 rfl) ?_
  refine lv_bipush (v := nI 40) X.1 X.2.1 d_M_init_131 (by decide) ?_
  refine hl_newI X hK hh (by decide) (Nat.le_of_ble_eq_true rfl) (Nat.le_of_ble_eq_true rfl) d_M_init_133 (fun q21 H hq21 hh => ?_)
  have hh := mi_step hx20 hq21 hh
  have hx21 : x ∈ ((((((((((((((((L ++ [q3]) ++ [q5]) ++ [q7]) ++ [q8]) ++ [q10]) ++ [q11]) ++ [q12]) ++ [q13]) ++ [q14]) ++ [q15]) ++ [q16]) ++ [q17]) ++ [q18]) ++ [q19]) ++ [q20]) ++ [q21]) := List.mem_append_left _ hx20
  refine hl_putF X hK hh hnm (ref := "CycleGroupsModel") i_M t_M t_M_ok n_M (ci := 5) rfl 21 (by decide) w_372 rfl rfl rfl hx21 (va_up_self ..) (by first | rfl | decide) (by first | rfl | decide) (Nat.le_of_ble_eq_true rfl) d_M_init_135 (fun H locs hh => ?_)
  rw [hr_uu] at hh
  have hh : hl_H g (hm_A sz L) s.heap ((((((((((((((((L ++ [q3]) ++ [q5]) ++ [q7]) ++ [q8]) ++ [q10]) ++ [q11]) ++ [q12]) ++ [q13]) ++ [q14]) ++ [q15]) ++ [q16]) ++ [q17]) ++ [q18]) ++ [q19]) ++ [q20]) ++ [q21]) (va_up (va_up (va_up (va_up (va_up (va_up (va_up (va_up (va_up (va_up (va_up (va_up (va_up (va_up (va_up (va_up (va_up f q3 (hl_row g 240 (fun _ => 0))) q5 (hl_row g 480 (fun _ => 0))) q7 (hl_row g 13824 (fun _ => 0))) q8 (hl_zow g 576 (fun _ => 0))) q10 (hl_row g 576 (fun _ => 0))) q11 (hl_row g 24 (fun _ => 0))) q12 (hl_row g 24 (fun _ => 0))) q13 (hl_row g 576 (fun _ => 0))) q14 (hl_zow g 24 (fun _ => 0))) q15 (hl_row g 24 (fun _ => 0))) q16 (hl_row g 24 (fun _ => 0))) q17 (hl_zow g 24 (fun _ => 0))) q18 (hl_row g 24 (fun _ => 0))) q19 (hl_row g 24 (fun _ => 0))) q20 (hl_row g 24 (fun _ => 0))) q21 (hl_row g 40 (fun _ => 0))) x (.inr (5, [.int 0, .int 0, .int 0, .ref q3, .int 0, .ref q5, .int 0, .ref q7, .ref q8, .int 0, .ref q10, .ref q11, .ref q12, .ref q13, .ref q14, .ref q15, .ref q16, .ref q17, .ref q18, .ref q19, .ref q20, .ref q21, .null, .null]))) H locs := hh
  refine lv_aload_n X.1 X.2.1 d_M_init_138 rfl (lv_at hl 0 rfl) ?_
  refine lv_bipush (v := nI 24) X.1 X.2.1 d_M_init_139 (by decide) ?_
  refine hl_newI X hK hh (by decide) (Nat.le_of_ble_eq_true rfl) (Nat.le_of_ble_eq_true rfl) d_M_init_141 (fun q22 H hq22 hh => ?_)
  have hh := mi_step hx21 hq22 hh
  have hx22 : x ∈ (((((((((((((((((L ++ [q3]) ++ [q5]) ++ [q7]) ++ [q8]) ++ [q10]) ++ [q11]) ++ [q12]) ++ [q13]) ++ [q14]) ++ [q15]) ++ [q16]) ++ [q17]) ++ [q18]) ++ [q19]) ++ [q20]) ++ [q21]) ++ [q22]) := List.mem_append_left _ hx21
  refine hl_putF X hK hh hnm (ref := "CycleGroupsModel") i_M t_M t_M_ok n_M (ci := 5) rfl 22 (by decide) w_373 rfl rfl rfl hx22 (va_up_self ..) (by first | rfl | decide) (by first | rfl | decide) (Nat.le_of_ble_eq_true rfl) d_M_init_143 (fun H locs hh => ?_)
  rw [hr_uu] at hh
  have hh : hl_H g (hm_A sz L) s.heap (((((((((((((((((L ++ [q3]) ++ [q5]) ++ [q7]) ++ [q8]) ++ [q10]) ++ [q11]) ++ [q12]) ++ [q13]) ++ [q14]) ++ [q15]) ++ [q16]) ++ [q17]) ++ [q18]) ++ [q19]) ++ [q20]) ++ [q21]) ++ [q22]) (va_up (va_up (va_up (va_up (va_up (va_up (va_up (va_up (va_up (va_up (va_up (va_up (va_up (va_up (va_up (va_up (va_up (va_up f q3 (hl_row g 240 (fun _ => 0))) q5 (hl_row g 480 (fun _ => 0))) q7 (hl_row g 13824 (fun _ => 0))) q8 (hl_zow g 576 (fun _ => 0))) q10 (hl_row g 576 (fun _ => 0))) q11 (hl_row g 24 (fun _ => 0))) q12 (hl_row g 24 (fun _ => 0))) q13 (hl_row g 576 (fun _ => 0))) q14 (hl_zow g 24 (fun _ => 0))) q15 (hl_row g 24 (fun _ => 0))) q16 (hl_row g 24 (fun _ => 0))) q17 (hl_zow g 24 (fun _ => 0))) q18 (hl_row g 24 (fun _ => 0))) q19 (hl_row g 24 (fun _ => 0))) q20 (hl_row g 24 (fun _ => 0))) q21 (hl_row g 40 (fun _ => 0))) q22 (hl_row g 24 (fun _ => 0))) x (.inr (5, [.int 0, .int 0, .int 0, .ref q3, .int 0, .ref q5, .int 0, .ref q7, .ref q8, .int 0, .ref q10, .ref q11, .ref q12, .ref q13, .ref q14, .ref q15, .ref q16, .ref q17, .ref q18, .ref q19, .ref q20, .ref q21, .ref q22, .null]))) H locs := hh
  refine lv_aload_n X.1 X.2.1 d_M_init_146 rfl (lv_at hl 0 rfl) ?_
  refine lv_sipush (v := nI 576) X.1 X.2.1 d_M_init_147 (by decide) ?_
  refine hl_newI X hK hh (by decide) (Nat.le_of_ble_eq_true rfl) (Nat.le_of_ble_eq_true rfl) d_M_init_150 (fun q23 H hq23 hh => ?_)
  have hh := mi_step hx22 hq23 hh
  have hx23 : x ∈ ((((((((((((((((((L ++ [q3]) ++ [q5]) ++ [q7]) ++ [q8]) ++ [q10]) ++ [q11]) ++ [q12]) ++ [q13]) ++ [q14]) ++ [q15]) ++ [q16]) ++ [q17]) ++ [q18]) ++ [q19]) ++ [q20]) ++ [q21]) ++ [q22]) ++ [q23]) := List.mem_append_left _ hx22
  refine hl_putF X hK hh hnm (ref := "CycleGroupsModel") i_M t_M t_M_ok n_M (ci := 5) rfl 23 (by decide) w_374 rfl rfl rfl hx23 (va_up_self ..) (by first | rfl | decide) (by first | rfl | decide) (Nat.le_of_ble_eq_true rfl) d_M_init_152 (fun H locs hh => ?_)
  rw [hr_uu] at hh
  have hh : hl_H g (hm_A sz L) s.heap ((((((((((((((((((L ++ [q3]) ++ [q5]) ++ [q7]) ++ [q8]) ++ [q10]) ++ [q11]) ++ [q12]) ++ [q13]) ++ [q14]) ++ [q15]) ++ [q16]) ++ [q17]) ++ [q18]) ++ [q19]) ++ [q20]) ++ [q21]) ++ [q22]) ++ [q23]) (va_up (va_up (va_up (va_up (va_up (va_up (va_up (va_up (va_up (va_up (va_up (va_up (va_up (va_up (va_up (va_up (va_up (va_up (va_up f q3 (hl_row g 240 (fun _ => 0))) q5 (hl_row g 480 (fun _ => 0))) q7 (hl_row g 13824 (fun _ => 0))) q8 (hl_zow g 576 (fun _ => 0))) q10 (hl_row g 576 (fun _ => 0))) q11 (hl_row g 24 (fun _ => 0))) q12 (hl_row g 24 (fun _ => 0))) q13 (hl_row g 576 (fun _ => 0))) q14 (hl_zow g 24 (fun _ => 0))) q15 (hl_row g 24 (fun _ => 0))) q16 (hl_row g 24 (fun _ => 0))) q17 (hl_zow g 24 (fun _ => 0))) q18 (hl_row g 24 (fun _ => 0))) q19 (hl_row g 24 (fun _ => 0))) q20 (hl_row g 24 (fun _ => 0))) q21 (hl_row g 40 (fun _ => 0))) q22 (hl_row g 24 (fun _ => 0))) q23 (hl_row g 576 (fun _ => 0))) x (.inr (5, [.int 0, .int 0, .int 0, .ref q3, .int 0, .ref q5, .int 0, .ref q7, .ref q8, .int 0, .ref q10, .ref q11, .ref q12, .ref q13, .ref q14, .ref q15, .ref q16, .ref q17, .ref q18, .ref q19, .ref q20, .ref q21, .ref q22, .ref q23]))) H locs := hh
  refine lv_aload_n X.1 X.2.1 d_M_init_155 rfl (lv_at hl 0 rfl) ?_
  refine lv_iload_n X.1 X.2.1 d_M_init_156 rfl (lv_at hl 1 rfl) ?_
  refine lv_iconst (v := nI 1) X.1 X.2.1 d_M_init_157 (by decide) ?_
  have fin : ∀ (v : Int32), v = nI n → ∀ (ls : Array Slot), lv_has ls 2 [(0, .ref x), (1, .int q0)] → W p l e { frames := 2, cells := 18, slots := 17128, locals := 60 } s m #[.ref x, .int q0] below meth c H locs (0 + 1 + 1 + 1 + 1 + 1 + 1 + 1 + 1 + 1 + 1 + 1 + 1 + 1 + 1 + 1 + 1 + 1 + 1) (0 + 240 + 480 + 13824 + 576 + 576 + 24 + 24 + 576 + 24 + 24 + 24 + 24 + 24 + 24 + 24 + 40 + 24 + 576) (MQ below (va_Qv (fun u => ∃ (L1 : List Nat) (T1 : Nat → Nat) (d : Nat → Nat), u = (L1, mf g d f n 0 0 0 0 (fun _ => 0) (fun _ => 0) (fun _ => 0) (fun _ => 0) (fun _ => 0) (fun _ => 0) (fun _ => 0) (fun _ => 0) (fun _ => 0) (fun _ => 0) (fun _ => 1) (fun _ => 0) (fun _ => 0) (fun _ => 0) (fun _ => 0) (fun _ => 0) (fun _ => 0) (fun _ => 0)) ∧ (∀ q, q ∈ L → q ∈ L1 ∧ T1 q = T q) ∧ d 0 = x ∧ ∀ k, md_i k = true → d k ∈ L1 ∧ T1 (d k) = 20000 + k) (hm_B g sz L) (hm_A sz L)) #[.ref x, .int q0] s 18 17128 (hm_A sz L)) (F0 m 177 ls [.int v, .ref x]) := by
    intro v hv ls hl
    subst hv
    refine hl_putF X hK hh hnm (ref := "CycleGroupsModel") i_M t_M t_M_ok n_M (ci := 5) rfl 0 (by decide) w_352 rfl rfl rfl hx23 (va_up_self ..) (by first | rfl | decide) (by first | rfl | decide) (Nat.le_of_ble_eq_true rfl) d_M_init_177 (fun H locs hh => ?_)
    rw [hr_uu] at hh
    have hh : hl_H g (hm_A sz L) s.heap ((((((((((((((((((L ++ [q3]) ++ [q5]) ++ [q7]) ++ [q8]) ++ [q10]) ++ [q11]) ++ [q12]) ++ [q13]) ++ [q14]) ++ [q15]) ++ [q16]) ++ [q17]) ++ [q18]) ++ [q19]) ++ [q20]) ++ [q21]) ++ [q22]) ++ [q23]) (va_up (va_up (va_up (va_up (va_up (va_up (va_up (va_up (va_up (va_up (va_up (va_up (va_up (va_up (va_up (va_up (va_up (va_up (va_up f q3 (hl_row g 240 (fun _ => 0))) q5 (hl_row g 480 (fun _ => 0))) q7 (hl_row g 13824 (fun _ => 0))) q8 (hl_zow g 576 (fun _ => 0))) q10 (hl_row g 576 (fun _ => 0))) q11 (hl_row g 24 (fun _ => 0))) q12 (hl_row g 24 (fun _ => 0))) q13 (hl_row g 576 (fun _ => 0))) q14 (hl_zow g 24 (fun _ => 0))) q15 (hl_row g 24 (fun _ => 0))) q16 (hl_row g 24 (fun _ => 0))) q17 (hl_zow g 24 (fun _ => 0))) q18 (hl_row g 24 (fun _ => 0))) q19 (hl_row g 24 (fun _ => 0))) q20 (hl_row g 24 (fun _ => 0))) q21 (hl_row g 40 (fun _ => 0))) q22 (hl_row g 24 (fun _ => 0))) q23 (hl_row g 576 (fun _ => 0))) x (.inr (5, [.int (nI n), .int 0, .int 0, .ref q3, .int 0, .ref q5, .int 0, .ref q7, .ref q8, .int 0, .ref q10, .ref q11, .ref q12, .ref q13, .ref q14, .ref q15, .ref q16, .ref q17, .ref q18, .ref q19, .ref q20, .ref q21, .ref q22, .ref q23]))) H locs := hh
    obtain ⟨d, hd⟩ : ∃ d : Nat → Nat, d = fun t => if t = 0 then x else if t = 3 then q3 else if t = 5 then q5 else if t = 7 then q7 else if t = 8 then q8 else if t = 10 then q10 else if t = 11 then q11 else if t = 12 then q12 else if t = 13 then q13 else if t = 14 then q14 else if t = 15 then q15 else if t = 16 then q16 else if t = 17 then q17 else if t = 18 then q18 else if t = 19 then q19 else if t = 20 then q20 else if t = 21 then q21 else if t = 22 then q22 else q23 := ⟨_, rfl⟩
    have d0 : d 0 = x := by rw [hd]; rfl
    have d3 : d 3 = q3 := by rw [hd]; rfl
    have d5 : d 5 = q5 := by rw [hd]; rfl
    have d7 : d 7 = q7 := by rw [hd]; rfl
    have d8 : d 8 = q8 := by rw [hd]; rfl
    have d10 : d 10 = q10 := by rw [hd]; rfl
    have d11 : d 11 = q11 := by rw [hd]; rfl
    have d12 : d 12 = q12 := by rw [hd]; rfl
    have d13 : d 13 = q13 := by rw [hd]; rfl
    have d14 : d 14 = q14 := by rw [hd]; rfl
    have d15 : d 15 = q15 := by rw [hd]; rfl
    have d16 : d 16 = q16 := by rw [hd]; rfl
    have d17 : d 17 = q17 := by rw [hd]; rfl
    have d18 : d 18 = q18 := by rw [hd]; rfl
    have d19 : d 19 = q19 := by rw [hd]; rfl
    have d20 : d 20 = q20 := by rw [hd]; rfl
    have d21 : d 21 = q21 := by rw [hd]; rfl
    have d22 : d 22 = q22 := by rw [hd]; rfl
    have d23 : d 23 = q23 := by rw [hd]; rfl
    have mL3 : ∀ a, a ∈ L → a ∈ L := fun a ha => ha
    have mL5 : ∀ a, a ∈ L → a ∈ (L ++ [q3]) := fun a ha => List.mem_append_left _ (mL3 a ha)
    have mL7 : ∀ a, a ∈ L → a ∈ ((L ++ [q3]) ++ [q5]) := fun a ha => List.mem_append_left _ (mL5 a ha)
    have mL8 : ∀ a, a ∈ L → a ∈ (((L ++ [q3]) ++ [q5]) ++ [q7]) := fun a ha => List.mem_append_left _ (mL7 a ha)
    have mL10 : ∀ a, a ∈ L → a ∈ ((((L ++ [q3]) ++ [q5]) ++ [q7]) ++ [q8]) := fun a ha => List.mem_append_left _ (mL8 a ha)
    have mL11 : ∀ a, a ∈ L → a ∈ (((((L ++ [q3]) ++ [q5]) ++ [q7]) ++ [q8]) ++ [q10]) := fun a ha => List.mem_append_left _ (mL10 a ha)
    have mL12 : ∀ a, a ∈ L → a ∈ ((((((L ++ [q3]) ++ [q5]) ++ [q7]) ++ [q8]) ++ [q10]) ++ [q11]) := fun a ha => List.mem_append_left _ (mL11 a ha)
    have mL13 : ∀ a, a ∈ L → a ∈ (((((((L ++ [q3]) ++ [q5]) ++ [q7]) ++ [q8]) ++ [q10]) ++ [q11]) ++ [q12]) := fun a ha => List.mem_append_left _ (mL12 a ha)
    have mL14 : ∀ a, a ∈ L → a ∈ ((((((((L ++ [q3]) ++ [q5]) ++ [q7]) ++ [q8]) ++ [q10]) ++ [q11]) ++ [q12]) ++ [q13]) := fun a ha => List.mem_append_left _ (mL13 a ha)
    have mL15 : ∀ a, a ∈ L → a ∈ (((((((((L ++ [q3]) ++ [q5]) ++ [q7]) ++ [q8]) ++ [q10]) ++ [q11]) ++ [q12]) ++ [q13]) ++ [q14]) := fun a ha => List.mem_append_left _ (mL14 a ha)
    have mL16 : ∀ a, a ∈ L → a ∈ ((((((((((L ++ [q3]) ++ [q5]) ++ [q7]) ++ [q8]) ++ [q10]) ++ [q11]) ++ [q12]) ++ [q13]) ++ [q14]) ++ [q15]) := fun a ha => List.mem_append_left _ (mL15 a ha)
    have mL17 : ∀ a, a ∈ L → a ∈ (((((((((((L ++ [q3]) ++ [q5]) ++ [q7]) ++ [q8]) ++ [q10]) ++ [q11]) ++ [q12]) ++ [q13]) ++ [q14]) ++ [q15]) ++ [q16]) := fun a ha => List.mem_append_left _ (mL16 a ha)
    have mL18 : ∀ a, a ∈ L → a ∈ ((((((((((((L ++ [q3]) ++ [q5]) ++ [q7]) ++ [q8]) ++ [q10]) ++ [q11]) ++ [q12]) ++ [q13]) ++ [q14]) ++ [q15]) ++ [q16]) ++ [q17]) := fun a ha => List.mem_append_left _ (mL17 a ha)
    have mL19 : ∀ a, a ∈ L → a ∈ (((((((((((((L ++ [q3]) ++ [q5]) ++ [q7]) ++ [q8]) ++ [q10]) ++ [q11]) ++ [q12]) ++ [q13]) ++ [q14]) ++ [q15]) ++ [q16]) ++ [q17]) ++ [q18]) := fun a ha => List.mem_append_left _ (mL18 a ha)
    have mL20 : ∀ a, a ∈ L → a ∈ ((((((((((((((L ++ [q3]) ++ [q5]) ++ [q7]) ++ [q8]) ++ [q10]) ++ [q11]) ++ [q12]) ++ [q13]) ++ [q14]) ++ [q15]) ++ [q16]) ++ [q17]) ++ [q18]) ++ [q19]) := fun a ha => List.mem_append_left _ (mL19 a ha)
    have mL21 : ∀ a, a ∈ L → a ∈ (((((((((((((((L ++ [q3]) ++ [q5]) ++ [q7]) ++ [q8]) ++ [q10]) ++ [q11]) ++ [q12]) ++ [q13]) ++ [q14]) ++ [q15]) ++ [q16]) ++ [q17]) ++ [q18]) ++ [q19]) ++ [q20]) := fun a ha => List.mem_append_left _ (mL20 a ha)
    have mL22 : ∀ a, a ∈ L → a ∈ ((((((((((((((((L ++ [q3]) ++ [q5]) ++ [q7]) ++ [q8]) ++ [q10]) ++ [q11]) ++ [q12]) ++ [q13]) ++ [q14]) ++ [q15]) ++ [q16]) ++ [q17]) ++ [q18]) ++ [q19]) ++ [q20]) ++ [q21]) := fun a ha => List.mem_append_left _ (mL21 a ha)
    have mL23 : ∀ a, a ∈ L → a ∈ (((((((((((((((((L ++ [q3]) ++ [q5]) ++ [q7]) ++ [q8]) ++ [q10]) ++ [q11]) ++ [q12]) ++ [q13]) ++ [q14]) ++ [q15]) ++ [q16]) ++ [q17]) ++ [q18]) ++ [q19]) ++ [q20]) ++ [q21]) ++ [q22]) := fun a ha => List.mem_append_left _ (mL22 a ha)
    have nL3 : ∀ a, a ∈ L → a ≠ q3 := fun a ha e0 => hq3 (e0 ▸ mL3 a ha)
    have nL5 : ∀ a, a ∈ L → a ≠ q5 := fun a ha e0 => hq5 (e0 ▸ mL5 a ha)
    have nL7 : ∀ a, a ∈ L → a ≠ q7 := fun a ha e0 => hq7 (e0 ▸ mL7 a ha)
    have nL8 : ∀ a, a ∈ L → a ≠ q8 := fun a ha e0 => hq8 (e0 ▸ mL8 a ha)
    have nL10 : ∀ a, a ∈ L → a ≠ q10 := fun a ha e0 => hq10 (e0 ▸ mL10 a ha)
    have nL11 : ∀ a, a ∈ L → a ≠ q11 := fun a ha e0 => hq11 (e0 ▸ mL11 a ha)
    have nL12 : ∀ a, a ∈ L → a ≠ q12 := fun a ha e0 => hq12 (e0 ▸ mL12 a ha)
    have nL13 : ∀ a, a ∈ L → a ≠ q13 := fun a ha e0 => hq13 (e0 ▸ mL13 a ha)
    have nL14 : ∀ a, a ∈ L → a ≠ q14 := fun a ha e0 => hq14 (e0 ▸ mL14 a ha)
    have nL15 : ∀ a, a ∈ L → a ≠ q15 := fun a ha e0 => hq15 (e0 ▸ mL15 a ha)
    have nL16 : ∀ a, a ∈ L → a ≠ q16 := fun a ha e0 => hq16 (e0 ▸ mL16 a ha)
    have nL17 : ∀ a, a ∈ L → a ≠ q17 := fun a ha e0 => hq17 (e0 ▸ mL17 a ha)
    have nL18 : ∀ a, a ∈ L → a ≠ q18 := fun a ha e0 => hq18 (e0 ▸ mL18 a ha)
    have nL19 : ∀ a, a ∈ L → a ≠ q19 := fun a ha e0 => hq19 (e0 ▸ mL19 a ha)
    have nL20 : ∀ a, a ∈ L → a ≠ q20 := fun a ha e0 => hq20 (e0 ▸ mL20 a ha)
    have nL21 : ∀ a, a ∈ L → a ≠ q21 := fun a ha e0 => hq21 (e0 ▸ mL21 a ha)
    have nL22 : ∀ a, a ∈ L → a ≠ q22 := fun a ha e0 => hq22 (e0 ▸ mL22 a ha)
    have nL23 : ∀ a, a ∈ L → a ≠ q23 := fun a ha e0 => hq23 (e0 ▸ mL23 a ha)
    have ne3_5 : q3 ≠ q5 := fun e0 => hq5 (e0 ▸ List.mem_append_right _ (List.mem_singleton.2 rfl))
    have ne3_7 : q3 ≠ q7 := fun e0 => hq7 (e0 ▸ List.mem_append_left _ (List.mem_append_right _ (List.mem_singleton.2 rfl)))
    have ne3_8 : q3 ≠ q8 := fun e0 => hq8 (e0 ▸ List.mem_append_left _ (List.mem_append_left _ (List.mem_append_right _ (List.mem_singleton.2 rfl))))
    have ne3_10 : q3 ≠ q10 := fun e0 => hq10 (e0 ▸ List.mem_append_left _ (List.mem_append_left _ (List.mem_append_left _ (List.mem_append_right _ (List.mem_singleton.2 rfl)))))
    have ne3_11 : q3 ≠ q11 := fun e0 => hq11 (e0 ▸ List.mem_append_left _ (List.mem_append_left _ (List.mem_append_left _ (List.mem_append_left _ (List.mem_append_right _ (List.mem_singleton.2 rfl))))))
    have ne3_12 : q3 ≠ q12 := fun e0 => hq12 (e0 ▸ List.mem_append_left _ (List.mem_append_left _ (List.mem_append_left _ (List.mem_append_left _ (List.mem_append_left _ (List.mem_append_right _ (List.mem_singleton.2 rfl)))))))
    have ne3_13 : q3 ≠ q13 := fun e0 => hq13 (e0 ▸ List.mem_append_left _ (List.mem_append_left _ (List.mem_append_left _ (List.mem_append_left _ (List.mem_append_left _ (List.mem_append_left _ (List.mem_append_right _ (List.mem_singleton.2 rfl))))))))
    have ne3_14 : q3 ≠ q14 := fun e0 => hq14 (e0 ▸ List.mem_append_left _ (List.mem_append_left _ (List.mem_append_left _ (List.mem_append_left _ (List.mem_append_left _ (List.mem_append_left _ (List.mem_append_left _ (List.mem_append_right _ (List.mem_singleton.2 rfl)))))))))
    have ne3_15 : q3 ≠ q15 := fun e0 => hq15 (e0 ▸ List.mem_append_left _ (List.mem_append_left _ (List.mem_append_left _ (List.mem_append_left _ (List.mem_append_left _ (List.mem_append_left _ (List.mem_append_left _ (List.mem_append_left _ (List.mem_append_right _ (List.mem_singleton.2 rfl))))))))))
    have ne3_16 : q3 ≠ q16 := fun e0 => hq16 (e0 ▸ List.mem_append_left _ (List.mem_append_left _ (List.mem_append_left _ (List.mem_append_left _ (List.mem_append_left _ (List.mem_append_left _ (List.mem_append_left _ (List.mem_append_left _ (List.mem_append_left _ (List.mem_append_right _ (List.mem_singleton.2 rfl)))))))))))
    have ne3_17 : q3 ≠ q17 := fun e0 => hq17 (e0 ▸ List.mem_append_left _ (List.mem_append_left _ (List.mem_append_left _ (List.mem_append_left _ (List.mem_append_left _ (List.mem_append_left _ (List.mem_append_left _ (List.mem_append_left _ (List.mem_append_left _ (List.mem_append_left _ (List.mem_append_right _ (List.mem_singleton.2 rfl))))))))))))
    have ne3_18 : q3 ≠ q18 := fun e0 => hq18 (e0 ▸ List.mem_append_left _ (List.mem_append_left _ (List.mem_append_left _ (List.mem_append_left _ (List.mem_append_left _ (List.mem_append_left _ (List.mem_append_left _ (List.mem_append_left _ (List.mem_append_left _ (List.mem_append_left _ (List.mem_append_left _ (List.mem_append_right _ (List.mem_singleton.2 rfl)))))))))))))
    have ne3_19 : q3 ≠ q19 := fun e0 => hq19 (e0 ▸ List.mem_append_left _ (List.mem_append_left _ (List.mem_append_left _ (List.mem_append_left _ (List.mem_append_left _ (List.mem_append_left _ (List.mem_append_left _ (List.mem_append_left _ (List.mem_append_left _ (List.mem_append_left _ (List.mem_append_left _ (List.mem_append_left _ (List.mem_append_right _ (List.mem_singleton.2 rfl))))))))))))))
    have ne3_20 : q3 ≠ q20 := fun e0 => hq20 (e0 ▸ List.mem_append_left _ (List.mem_append_left _ (List.mem_append_left _ (List.mem_append_left _ (List.mem_append_left _ (List.mem_append_left _ (List.mem_append_left _ (List.mem_append_left _ (List.mem_append_left _ (List.mem_append_left _ (List.mem_append_left _ (List.mem_append_left _ (List.mem_append_left _ (List.mem_append_right _ (List.mem_singleton.2 rfl)))))))))))))))
    have ne3_21 : q3 ≠ q21 := fun e0 => hq21 (e0 ▸ List.mem_append_left _ (List.mem_append_left _ (List.mem_append_left _ (List.mem_append_left _ (List.mem_append_left _ (List.mem_append_left _ (List.mem_append_left _ (List.mem_append_left _ (List.mem_append_left _ (List.mem_append_left _ (List.mem_append_left _ (List.mem_append_left _ (List.mem_append_left _ (List.mem_append_left _ (List.mem_append_right _ (List.mem_singleton.2 rfl))))))))))))))))
    have ne3_22 : q3 ≠ q22 := fun e0 => hq22 (e0 ▸ List.mem_append_left _ (List.mem_append_left _ (List.mem_append_left _ (List.mem_append_left _ (List.mem_append_left _ (List.mem_append_left _ (List.mem_append_left _ (List.mem_append_left _ (List.mem_append_left _ (List.mem_append_left _ (List.mem_append_left _ (List.mem_append_left _ (List.mem_append_left _ (List.mem_append_left _ (List.mem_append_left _ (List.mem_append_right _ (List.mem_singleton.2 rfl)))))))))))))))))
    have ne3_23 : q3 ≠ q23 := fun e0 => hq23 (e0 ▸ List.mem_append_left _ (List.mem_append_left _ (List.mem_append_left _ (List.mem_append_left _ (List.mem_append_left _ (List.mem_append_left _ (List.mem_append_left _ (List.mem_append_left _ (List.mem_append_left _ (List.mem_append_left _ (List.mem_append_left _ (List.mem_append_left _ (List.mem_append_left _ (List.mem_append_left _ (List.mem_append_left _ (List.mem_append_left _ (List.mem_append_right _ (List.mem_singleton.2 rfl))))))))))))))))))
    have ne5_7 : q5 ≠ q7 := fun e0 => hq7 (e0 ▸ List.mem_append_right _ (List.mem_singleton.2 rfl))
    have ne5_8 : q5 ≠ q8 := fun e0 => hq8 (e0 ▸ List.mem_append_left _ (List.mem_append_right _ (List.mem_singleton.2 rfl)))
    have ne5_10 : q5 ≠ q10 := fun e0 => hq10 (e0 ▸ List.mem_append_left _ (List.mem_append_left _ (List.mem_append_right _ (List.mem_singleton.2 rfl))))
    have ne5_11 : q5 ≠ q11 := fun e0 => hq11 (e0 ▸ List.mem_append_left _ (List.mem_append_left _ (List.mem_append_left _ (List.mem_append_right _ (List.mem_singleton.2 rfl)))))
    have ne5_12 : q5 ≠ q12 := fun e0 => hq12 (e0 ▸ List.mem_append_left _ (List.mem_append_left _ (List.mem_append_left _ (List.mem_append_left _ (List.mem_append_right _ (List.mem_singleton.2 rfl))))))
    have ne5_13 : q5 ≠ q13 := fun e0 => hq13 (e0 ▸ List.mem_append_left _ (List.mem_append_left _ (List.mem_append_left _ (List.mem_append_left _ (List.mem_append_left _ (List.mem_append_right _ (List.mem_singleton.2 rfl)))))))
    have ne5_14 : q5 ≠ q14 := fun e0 => hq14 (e0 ▸ List.mem_append_left _ (List.mem_append_left _ (List.mem_append_left _ (List.mem_append_left _ (List.mem_append_left _ (List.mem_append_left _ (List.mem_append_right _ (List.mem_singleton.2 rfl))))))))
    have ne5_15 : q5 ≠ q15 := fun e0 => hq15 (e0 ▸ List.mem_append_left _ (List.mem_append_left _ (List.mem_append_left _ (List.mem_append_left _ (List.mem_append_left _ (List.mem_append_left _ (List.mem_append_left _ (List.mem_append_right _ (List.mem_singleton.2 rfl)))))))))
    have ne5_16 : q5 ≠ q16 := fun e0 => hq16 (e0 ▸ List.mem_append_left _ (List.mem_append_left _ (List.mem_append_left _ (List.mem_append_left _ (List.mem_append_left _ (List.mem_append_left _ (List.mem_append_left _ (List.mem_append_left _ (List.mem_append_right _ (List.mem_singleton.2 rfl))))))))))
    have ne5_17 : q5 ≠ q17 := fun e0 => hq17 (e0 ▸ List.mem_append_left _ (List.mem_append_left _ (List.mem_append_left _ (List.mem_append_left _ (List.mem_append_left _ (List.mem_append_left _ (List.mem_append_left _ (List.mem_append_left _ (List.mem_append_left _ (List.mem_append_right _ (List.mem_singleton.2 rfl)))))))))))
    have ne5_18 : q5 ≠ q18 := fun e0 => hq18 (e0 ▸ List.mem_append_left _ (List.mem_append_left _ (List.mem_append_left _ (List.mem_append_left _ (List.mem_append_left _ (List.mem_append_left _ (List.mem_append_left _ (List.mem_append_left _ (List.mem_append_left _ (List.mem_append_left _ (List.mem_append_right _ (List.mem_singleton.2 rfl))))))))))))
    have ne5_19 : q5 ≠ q19 := fun e0 => hq19 (e0 ▸ List.mem_append_left _ (List.mem_append_left _ (List.mem_append_left _ (List.mem_append_left _ (List.mem_append_left _ (List.mem_append_left _ (List.mem_append_left _ (List.mem_append_left _ (List.mem_append_left _ (List.mem_append_left _ (List.mem_append_left _ (List.mem_append_right _ (List.mem_singleton.2 rfl)))))))))))))
    have ne5_20 : q5 ≠ q20 := fun e0 => hq20 (e0 ▸ List.mem_append_left _ (List.mem_append_left _ (List.mem_append_left _ (List.mem_append_left _ (List.mem_append_left _ (List.mem_append_left _ (List.mem_append_left _ (List.mem_append_left _ (List.mem_append_left _ (List.mem_append_left _ (List.mem_append_left _ (List.mem_append_left _ (List.mem_append_right _ (List.mem_singleton.2 rfl))))))))))))))
    have ne5_21 : q5 ≠ q21 := fun e0 => hq21 (e0 ▸ List.mem_append_left _ (List.mem_append_left _ (List.mem_append_left _ (List.mem_append_left _ (List.mem_append_left _ (List.mem_append_left _ (List.mem_append_left _ (List.mem_append_left _ (List.mem_append_left _ (List.mem_append_left _ (List.mem_append_left _ (List.mem_append_left _ (List.mem_append_left _ (List.mem_append_right _ (List.mem_singleton.2 rfl)))))))))))))))
    have ne5_22 : q5 ≠ q22 := fun e0 => hq22 (e0 ▸ List.mem_append_left _ (List.mem_append_left _ (List.mem_append_left _ (List.mem_append_left _ (List.mem_append_left _ (List.mem_append_left _ (List.mem_append_left _ (List.mem_append_left _ (List.mem_append_left _ (List.mem_append_left _ (List.mem_append_left _ (List.mem_append_left _ (List.mem_append_left _ (List.mem_append_left _ (List.mem_append_right _ (List.mem_singleton.2 rfl))))))))))))))))
    have ne5_23 : q5 ≠ q23 := fun e0 => hq23 (e0 ▸ List.mem_append_left _ (List.mem_append_left _ (List.mem_append_left _ (List.mem_append_left _ (List.mem_append_left _ (List.mem_append_left _ (List.mem_append_left _ (List.mem_append_left _ (List.mem_append_left _ (List.mem_append_left _ (List.mem_append_left _ (List.mem_append_left _ (List.mem_append_left _ (List.mem_append_left _ (List.mem_append_left _ (List.mem_append_right _ (List.mem_singleton.2 rfl)))))))))))))))))
    have ne7_8 : q7 ≠ q8 := fun e0 => hq8 (e0 ▸ List.mem_append_right _ (List.mem_singleton.2 rfl))
    have ne7_10 : q7 ≠ q10 := fun e0 => hq10 (e0 ▸ List.mem_append_left _ (List.mem_append_right _ (List.mem_singleton.2 rfl)))
    have ne7_11 : q7 ≠ q11 := fun e0 => hq11 (e0 ▸ List.mem_append_left _ (List.mem_append_left _ (List.mem_append_right _ (List.mem_singleton.2 rfl))))
    have ne7_12 : q7 ≠ q12 := fun e0 => hq12 (e0 ▸ List.mem_append_left _ (List.mem_append_left _ (List.mem_append_left _ (List.mem_append_right _ (List.mem_singleton.2 rfl)))))
    have ne7_13 : q7 ≠ q13 := fun e0 => hq13 (e0 ▸ List.mem_append_left _ (List.mem_append_left _ (List.mem_append_left _ (List.mem_append_left _ (List.mem_append_right _ (List.mem_singleton.2 rfl))))))
    have ne7_14 : q7 ≠ q14 := fun e0 => hq14 (e0 ▸ List.mem_append_left _ (List.mem_append_left _ (List.mem_append_left _ (List.mem_append_left _ (List.mem_append_left _ (List.mem_append_right _ (List.mem_singleton.2 rfl)))))))
    have ne7_15 : q7 ≠ q15 := fun e0 => hq15 (e0 ▸ List.mem_append_left _ (List.mem_append_left _ (List.mem_append_left _ (List.mem_append_left _ (List.mem_append_left _ (List.mem_append_left _ (List.mem_append_right _ (List.mem_singleton.2 rfl))))))))
    have ne7_16 : q7 ≠ q16 := fun e0 => hq16 (e0 ▸ List.mem_append_left _ (List.mem_append_left _ (List.mem_append_left _ (List.mem_append_left _ (List.mem_append_left _ (List.mem_append_left _ (List.mem_append_left _ (List.mem_append_right _ (List.mem_singleton.2 rfl)))))))))
    have ne7_17 : q7 ≠ q17 := fun e0 => hq17 (e0 ▸ List.mem_append_left _ (List.mem_append_left _ (List.mem_append_left _ (List.mem_append_left _ (List.mem_append_left _ (List.mem_append_left _ (List.mem_append_left _ (List.mem_append_left _ (List.mem_append_right _ (List.mem_singleton.2 rfl))))))))))
    have ne7_18 : q7 ≠ q18 := fun e0 => hq18 (e0 ▸ List.mem_append_left _ (List.mem_append_left _ (List.mem_append_left _ (List.mem_append_left _ (List.mem_append_left _ (List.mem_append_left _ (List.mem_append_left _ (List.mem_append_left _ (List.mem_append_left _ (List.mem_append_right _ (List.mem_singleton.2 rfl)))))))))))
    have ne7_19 : q7 ≠ q19 := fun e0 => hq19 (e0 ▸ List.mem_append_left _ (List.mem_append_left _ (List.mem_append_left _ (List.mem_append_left _ (List.mem_append_left _ (List.mem_append_left _ (List.mem_append_left _ (List.mem_append_left _ (List.mem_append_left _ (List.mem_append_left _ (List.mem_append_right _ (List.mem_singleton.2 rfl))))))))))))
    have ne7_20 : q7 ≠ q20 := fun e0 => hq20 (e0 ▸ List.mem_append_left _ (List.mem_append_left _ (List.mem_append_left _ (List.mem_append_left _ (List.mem_append_left _ (List.mem_append_left _ (List.mem_append_left _ (List.mem_append_left _ (List.mem_append_left _ (List.mem_append_left _ (List.mem_append_left _ (List.mem_append_right _ (List.mem_singleton.2 rfl)))))))))))))
    have ne7_21 : q7 ≠ q21 := fun e0 => hq21 (e0 ▸ List.mem_append_left _ (List.mem_append_left _ (List.mem_append_left _ (List.mem_append_left _ (List.mem_append_left _ (List.mem_append_left _ (List.mem_append_left _ (List.mem_append_left _ (List.mem_append_left _ (List.mem_append_left _ (List.mem_append_left _ (List.mem_append_left _ (List.mem_append_right _ (List.mem_singleton.2 rfl))))))))))))))
    have ne7_22 : q7 ≠ q22 := fun e0 => hq22 (e0 ▸ List.mem_append_left _ (List.mem_append_left _ (List.mem_append_left _ (List.mem_append_left _ (List.mem_append_left _ (List.mem_append_left _ (List.mem_append_left _ (List.mem_append_left _ (List.mem_append_left _ (List.mem_append_left _ (List.mem_append_left _ (List.mem_append_left _ (List.mem_append_left _ (List.mem_append_right _ (List.mem_singleton.2 rfl)))))))))))))))
    have ne7_23 : q7 ≠ q23 := fun e0 => hq23 (e0 ▸ List.mem_append_left _ (List.mem_append_left _ (List.mem_append_left _ (List.mem_append_left _ (List.mem_append_left _ (List.mem_append_left _ (List.mem_append_left _ (List.mem_append_left _ (List.mem_append_left _ (List.mem_append_left _ (List.mem_append_left _ (List.mem_append_left _ (List.mem_append_left _ (List.mem_append_left _ (List.mem_append_right _ (List.mem_singleton.2 rfl))))))))))))))))
    have ne8_10 : q8 ≠ q10 := fun e0 => hq10 (e0 ▸ List.mem_append_right _ (List.mem_singleton.2 rfl))
    have ne8_11 : q8 ≠ q11 := fun e0 => hq11 (e0 ▸ List.mem_append_left _ (List.mem_append_right _ (List.mem_singleton.2 rfl)))
    have ne8_12 : q8 ≠ q12 := fun e0 => hq12 (e0 ▸ List.mem_append_left _ (List.mem_append_left _ (List.mem_append_right _ (List.mem_singleton.2 rfl))))
    have ne8_13 : q8 ≠ q13 := fun e0 => hq13 (e0 ▸ List.mem_append_left _ (List.mem_append_left _ (List.mem_append_left _ (List.mem_append_right _ (List.mem_singleton.2 rfl)))))
    have ne8_14 : q8 ≠ q14 := fun e0 => hq14 (e0 ▸ List.mem_append_left _ (List.mem_append_left _ (List.mem_append_left _ (List.mem_append_left _ (List.mem_append_right _ (List.mem_singleton.2 rfl))))))
    have ne8_15 : q8 ≠ q15 := fun e0 => hq15 (e0 ▸ List.mem_append_left _ (List.mem_append_left _ (List.mem_append_left _ (List.mem_append_left _ (List.mem_append_left _ (List.mem_append_right _ (List.mem_singleton.2 rfl)))))))
    have ne8_16 : q8 ≠ q16 := fun e0 => hq16 (e0 ▸ List.mem_append_left _ (List.mem_append_left _ (List.mem_append_left _ (List.mem_append_left _ (List.mem_append_left _ (List.mem_append_left _ (List.mem_append_right _ (List.mem_singleton.2 rfl))))))))
    have ne8_17 : q8 ≠ q17 := fun e0 => hq17 (e0 ▸ List.mem_append_left _ (List.mem_append_left _ (List.mem_append_left _ (List.mem_append_left _ (List.mem_append_left _ (List.mem_append_left _ (List.mem_append_left _ (List.mem_append_right _ (List.mem_singleton.2 rfl)))))))))
    have ne8_18 : q8 ≠ q18 := fun e0 => hq18 (e0 ▸ List.mem_append_left _ (List.mem_append_left _ (List.mem_append_left _ (List.mem_append_left _ (List.mem_append_left _ (List.mem_append_left _ (List.mem_append_left _ (List.mem_append_left _ (List.mem_append_right _ (List.mem_singleton.2 rfl))))))))))
    have ne8_19 : q8 ≠ q19 := fun e0 => hq19 (e0 ▸ List.mem_append_left _ (List.mem_append_left _ (List.mem_append_left _ (List.mem_append_left _ (List.mem_append_left _ (List.mem_append_left _ (List.mem_append_left _ (List.mem_append_left _ (List.mem_append_left _ (List.mem_append_right _ (List.mem_singleton.2 rfl)))))))))))
    have ne8_20 : q8 ≠ q20 := fun e0 => hq20 (e0 ▸ List.mem_append_left _ (List.mem_append_left _ (List.mem_append_left _ (List.mem_append_left _ (List.mem_append_left _ (List.mem_append_left _ (List.mem_append_left _ (List.mem_append_left _ (List.mem_append_left _ (List.mem_append_left _ (List.mem_append_right _ (List.mem_singleton.2 rfl))))))))))))
    have ne8_21 : q8 ≠ q21 := fun e0 => hq21 (e0 ▸ List.mem_append_left _ (List.mem_append_left _ (List.mem_append_left _ (List.mem_append_left _ (List.mem_append_left _ (List.mem_append_left _ (List.mem_append_left _ (List.mem_append_left _ (List.mem_append_left _ (List.mem_append_left _ (List.mem_append_left _ (List.mem_append_right _ (List.mem_singleton.2 rfl)))))))))))))
    have ne8_22 : q8 ≠ q22 := fun e0 => hq22 (e0 ▸ List.mem_append_left _ (List.mem_append_left _ (List.mem_append_left _ (List.mem_append_left _ (List.mem_append_left _ (List.mem_append_left _ (List.mem_append_left _ (List.mem_append_left _ (List.mem_append_left _ (List.mem_append_left _ (List.mem_append_left _ (List.mem_append_left _ (List.mem_append_right _ (List.mem_singleton.2 rfl))))))))))))))
    have ne8_23 : q8 ≠ q23 := fun e0 => hq23 (e0 ▸ List.mem_append_left _ (List.mem_append_left _ (List.mem_append_left _ (List.mem_append_left _ (List.mem_append_left _ (List.mem_append_left _ (List.mem_append_left _ (List.mem_append_left _ (List.mem_append_left _ (List.mem_append_left _ (List.mem_append_left _ (List.mem_append_left _ (List.mem_append_left _ (List.mem_append_right _ (List.mem_singleton.2 rfl)))))))))))))))
    have ne10_11 : q10 ≠ q11 := fun e0 => hq11 (e0 ▸ List.mem_append_right _ (List.mem_singleton.2 rfl))
    have ne10_12 : q10 ≠ q12 := fun e0 => hq12 (e0 ▸ List.mem_append_left _ (List.mem_append_right _ (List.mem_singleton.2 rfl)))
    have ne10_13 : q10 ≠ q13 := fun e0 => hq13 (e0 ▸ List.mem_append_left _ (List.mem_append_left _ (List.mem_append_right _ (List.mem_singleton.2 rfl))))
    have ne10_14 : q10 ≠ q14 := fun e0 => hq14 (e0 ▸ List.mem_append_left _ (List.mem_append_left _ (List.mem_append_left _ (List.mem_append_right _ (List.mem_singleton.2 rfl)))))
    have ne10_15 : q10 ≠ q15 := fun e0 => hq15 (e0 ▸ List.mem_append_left _ (List.mem_append_left _ (List.mem_append_left _ (List.mem_append_left _ (List.mem_append_right _ (List.mem_singleton.2 rfl))))))
    have ne10_16 : q10 ≠ q16 := fun e0 => hq16 (e0 ▸ List.mem_append_left _ (List.mem_append_left _ (List.mem_append_left _ (List.mem_append_left _ (List.mem_append_left _ (List.mem_append_right _ (List.mem_singleton.2 rfl)))))))
    have ne10_17 : q10 ≠ q17 := fun e0 => hq17 (e0 ▸ List.mem_append_left _ (List.mem_append_left _ (List.mem_append_left _ (List.mem_append_left _ (List.mem_append_left _ (List.mem_append_left _ (List.mem_append_right _ (List.mem_singleton.2 rfl))))))))
    have ne10_18 : q10 ≠ q18 := fun e0 => hq18 (e0 ▸ List.mem_append_left _ (List.mem_append_left _ (List.mem_append_left _ (List.mem_append_left _ (List.mem_append_left _ (List.mem_append_left _ (List.mem_append_left _ (List.mem_append_right _ (List.mem_singleton.2 rfl)))))))))
    have ne10_19 : q10 ≠ q19 := fun e0 => hq19 (e0 ▸ List.mem_append_left _ (List.mem_append_left _ (List.mem_append_left _ (List.mem_append_left _ (List.mem_append_left _ (List.mem_append_left _ (List.mem_append_left _ (List.mem_append_left _ (List.mem_append_right _ (List.mem_singleton.2 rfl))))))))))
    have ne10_20 : q10 ≠ q20 := fun e0 => hq20 (e0 ▸ List.mem_append_left _ (List.mem_append_left _ (List.mem_append_left _ (List.mem_append_left _ (List.mem_append_left _ (List.mem_append_left _ (List.mem_append_left _ (List.mem_append_left _ (List.mem_append_left _ (List.mem_append_right _ (List.mem_singleton.2 rfl)))))))))))
    have ne10_21 : q10 ≠ q21 := fun e0 => hq21 (e0 ▸ List.mem_append_left _ (List.mem_append_left _ (List.mem_append_left _ (List.mem_append_left _ (List.mem_append_left _ (List.mem_append_left _ (List.mem_append_left _ (List.mem_append_left _ (List.mem_append_left _ (List.mem_append_left _ (List.mem_append_right _ (List.mem_singleton.2 rfl))))))))))))
    have ne10_22 : q10 ≠ q22 := fun e0 => hq22 (e0 ▸ List.mem_append_left _ (List.mem_append_left _ (List.mem_append_left _ (List.mem_append_left _ (List.mem_append_left _ (List.mem_append_left _ (List.mem_append_left _ (List.mem_append_left _ (List.mem_append_left _ (List.mem_append_left _ (List.mem_append_left _ (List.mem_append_right _ (List.mem_singleton.2 rfl)))))))))))))
    have ne10_23 : q10 ≠ q23 := fun e0 => hq23 (e0 ▸ List.mem_append_left _ (List.mem_append_left _ (List.mem_append_left _ (List.mem_append_left _ (List.mem_append_left _ (List.mem_append_left _ (List.mem_append_left _ (List.mem_append_left _ (List.mem_append_left _ (List.mem_append_left _ (List.mem_append_left _ (List.mem_append_left _ (List.mem_append_right _ (List.mem_singleton.2 rfl))))))))))))))
    have ne11_12 : q11 ≠ q12 := fun e0 => hq12 (e0 ▸ List.mem_append_right _ (List.mem_singleton.2 rfl))
    have ne11_13 : q11 ≠ q13 := fun e0 => hq13 (e0 ▸ List.mem_append_left _ (List.mem_append_right _ (List.mem_singleton.2 rfl)))
    have ne11_14 : q11 ≠ q14 := fun e0 => hq14 (e0 ▸ List.mem_append_left _ (List.mem_append_left _ (List.mem_append_right _ (List.mem_singleton.2 rfl))))
    have ne11_15 : q11 ≠ q15 := fun e0 => hq15 (e0 ▸ List.mem_append_left _ (List.mem_append_left _ (List.mem_append_left _ (List.mem_append_right _ (List.mem_singleton.2 rfl)))))
    have ne11_16 : q11 ≠ q16 := fun e0 => hq16 (e0 ▸ List.mem_append_left _ (List.mem_append_left _ (List.mem_append_left _ (List.mem_append_left _ (List.mem_append_right _ (List.mem_singleton.2 rfl))))))
    have ne11_17 : q11 ≠ q17 := fun e0 => hq17 (e0 ▸ List.mem_append_left _ (List.mem_append_left _ (List.mem_append_left _ (List.mem_append_left _ (List.mem_append_left _ (List.mem_append_right _ (List.mem_singleton.2 rfl)))))))
    have ne11_18 : q11 ≠ q18 := fun e0 => hq18 (e0 ▸ List.mem_append_left _ (List.mem_append_left _ (List.mem_append_left _ (List.mem_append_left _ (List.mem_append_left _ (List.mem_append_left _ (List.mem_append_right _ (List.mem_singleton.2 rfl))))))))
    have ne11_19 : q11 ≠ q19 := fun e0 => hq19 (e0 ▸ List.mem_append_left _ (List.mem_append_left _ (List.mem_append_left _ (List.mem_append_left _ (List.mem_append_left _ (List.mem_append_left _ (List.mem_append_left _ (List.mem_append_right _ (List.mem_singleton.2 rfl)))))))))
    have ne11_20 : q11 ≠ q20 := fun e0 => hq20 (e0 ▸ List.mem_append_left _ (List.mem_append_left _ (List.mem_append_left _ (List.mem_append_left _ (List.mem_append_left _ (List.mem_append_left _ (List.mem_append_left _ (List.mem_append_left _ (List.mem_append_right _ (List.mem_singleton.2 rfl))))))))))
    have ne11_21 : q11 ≠ q21 := fun e0 => hq21 (e0 ▸ List.mem_append_left _ (List.mem_append_left _ (List.mem_append_left _ (List.mem_append_left _ (List.mem_append_left _ (List.mem_append_left _ (List.mem_append_left _ (List.mem_append_left _ (List.mem_append_left _ (List.mem_append_right _ (List.mem_singleton.2 rfl)))))))))))
    have ne11_22 : q11 ≠ q22 := fun e0 => hq22 (e0 ▸ List.mem_append_left _ (List.mem_append_left _ (List.mem_append_left _ (List.mem_append_left _ (List.mem_append_left _ (List.mem_append_left _ (List.mem_append_left _ (List.mem_append_left _ (List.mem_append_left _ (List.mem_append_left _ (List.mem_append_right _ (List.mem_singleton.2 rfl))))))))))))
    have ne11_23 : q11 ≠ q23 := fun e0 => hq23 (e0 ▸ List.mem_append_left _ (List.mem_append_left _ (List.mem_append_left _ (List.mem_append_left _ (List.mem_append_left _ (List.mem_append_left _ (List.mem_append_left _ (List.mem_append_left _ (List.mem_append_left _ (List.mem_append_left _ (List.mem_append_left _ (List.mem_append_right _ (List.mem_singleton.2 rfl)))))))))))))
    have ne12_13 : q12 ≠ q13 := fun e0 => hq13 (e0 ▸ List.mem_append_right _ (List.mem_singleton.2 rfl))
    have ne12_14 : q12 ≠ q14 := fun e0 => hq14 (e0 ▸ List.mem_append_left _ (List.mem_append_right _ (List.mem_singleton.2 rfl)))
    have ne12_15 : q12 ≠ q15 := fun e0 => hq15 (e0 ▸ List.mem_append_left _ (List.mem_append_left _ (List.mem_append_right _ (List.mem_singleton.2 rfl))))
    have ne12_16 : q12 ≠ q16 := fun e0 => hq16 (e0 ▸ List.mem_append_left _ (List.mem_append_left _ (List.mem_append_left _ (List.mem_append_right _ (List.mem_singleton.2 rfl)))))
    have ne12_17 : q12 ≠ q17 := fun e0 => hq17 (e0 ▸ List.mem_append_left _ (List.mem_append_left _ (List.mem_append_left _ (List.mem_append_left _ (List.mem_append_right _ (List.mem_singleton.2 rfl))))))
    have ne12_18 : q12 ≠ q18 := fun e0 => hq18 (e0 ▸ List.mem_append_left _ (List.mem_append_left _ (List.mem_append_left _ (List.mem_append_left _ (List.mem_append_left _ (List.mem_append_right _ (List.mem_singleton.2 rfl)))))))
    have ne12_19 : q12 ≠ q19 := fun e0 => hq19 (e0 ▸ List.mem_append_left _ (List.mem_append_left _ (List.mem_append_left _ (List.mem_append_left _ (List.mem_append_left _ (List.mem_append_left _ (List.mem_append_right _ (List.mem_singleton.2 rfl))))))))
    have ne12_20 : q12 ≠ q20 := fun e0 => hq20 (e0 ▸ List.mem_append_left _ (List.mem_append_left _ (List.mem_append_left _ (List.mem_append_left _ (List.mem_append_left _ (List.mem_append_left _ (List.mem_append_left _ (List.mem_append_right _ (List.mem_singleton.2 rfl)))))))))
    have ne12_21 : q12 ≠ q21 := fun e0 => hq21 (e0 ▸ List.mem_append_left _ (List.mem_append_left _ (List.mem_append_left _ (List.mem_append_left _ (List.mem_append_left _ (List.mem_append_left _ (List.mem_append_left _ (List.mem_append_left _ (List.mem_append_right _ (List.mem_singleton.2 rfl))))))))))
    have ne12_22 : q12 ≠ q22 := fun e0 => hq22 (e0 ▸ List.mem_append_left _ (List.mem_append_left _ (List.mem_append_left _ (List.mem_append_left _ (List.mem_append_left _ (List.mem_append_left _ (List.mem_append_left _ (List.mem_append_left _ (List.mem_append_left _ (List.mem_append_right _ (List.mem_singleton.2 rfl)))))))))))
    have ne12_23 : q12 ≠ q23 := fun e0 => hq23 (e0 ▸ List.mem_append_left _ (List.mem_append_left _ (List.mem_append_left _ (List.mem_append_left _ (List.mem_append_left _ (List.mem_append_left _ (List.mem_append_left _ (List.mem_append_left _ (List.mem_append_left _ (List.mem_append_left _ (List.mem_append_right _ (List.mem_singleton.2 rfl))))))))))))
    have ne13_14 : q13 ≠ q14 := fun e0 => hq14 (e0 ▸ List.mem_append_right _ (List.mem_singleton.2 rfl))
    have ne13_15 : q13 ≠ q15 := fun e0 => hq15 (e0 ▸ List.mem_append_left _ (List.mem_append_right _ (List.mem_singleton.2 rfl)))
    have ne13_16 : q13 ≠ q16 := fun e0 => hq16 (e0 ▸ List.mem_append_left _ (List.mem_append_left _ (List.mem_append_right _ (List.mem_singleton.2 rfl))))
    have ne13_17 : q13 ≠ q17 := fun e0 => hq17 (e0 ▸ List.mem_append_left _ (List.mem_append_left _ (List.mem_append_left _ (List.mem_append_right _ (List.mem_singleton.2 rfl)))))
    have ne13_18 : q13 ≠ q18 := fun e0 => hq18 (e0 ▸ List.mem_append_left _ (List.mem_append_left _ (List.mem_append_left _ (List.mem_append_left _ (List.mem_append_right _ (List.mem_singleton.2 rfl))))))
    have ne13_19 : q13 ≠ q19 := fun e0 => hq19 (e0 ▸ List.mem_append_left _ (List.mem_append_left _ (List.mem_append_left _ (List.mem_append_left _ (List.mem_append_left _ (List.mem_append_right _ (List.mem_singleton.2 rfl)))))))
    have ne13_20 : q13 ≠ q20 := fun e0 => hq20 (e0 ▸ List.mem_append_left _ (List.mem_append_left _ (List.mem_append_left _ (List.mem_append_left _ (List.mem_append_left _ (List.mem_append_left _ (List.mem_append_right _ (List.mem_singleton.2 rfl))))))))
    have ne13_21 : q13 ≠ q21 := fun e0 => hq21 (e0 ▸ List.mem_append_left _ (List.mem_append_left _ (List.mem_append_left _ (List.mem_append_left _ (List.mem_append_left _ (List.mem_append_left _ (List.mem_append_left _ (List.mem_append_right _ (List.mem_singleton.2 rfl)))))))))
    have ne13_22 : q13 ≠ q22 := fun e0 => hq22 (e0 ▸ List.mem_append_left _ (List.mem_append_left _ (List.mem_append_left _ (List.mem_append_left _ (List.mem_append_left _ (List.mem_append_left _ (List.mem_append_left _ (List.mem_append_left _ (List.mem_append_right _ (List.mem_singleton.2 rfl))))))))))
    have ne13_23 : q13 ≠ q23 := fun e0 => hq23 (e0 ▸ List.mem_append_left _ (List.mem_append_left _ (List.mem_append_left _ (List.mem_append_left _ (List.mem_append_left _ (List.mem_append_left _ (List.mem_append_left _ (List.mem_append_left _ (List.mem_append_left _ (List.mem_append_right _ (List.mem_singleton.2 rfl)))))))))))
    have ne14_15 : q14 ≠ q15 := fun e0 => hq15 (e0 ▸ List.mem_append_right _ (List.mem_singleton.2 rfl))
    have ne14_16 : q14 ≠ q16 := fun e0 => hq16 (e0 ▸ List.mem_append_left _ (List.mem_append_right _ (List.mem_singleton.2 rfl)))
    have ne14_17 : q14 ≠ q17 := fun e0 => hq17 (e0 ▸ List.mem_append_left _ (List.mem_append_left _ (List.mem_append_right _ (List.mem_singleton.2 rfl))))
    have ne14_18 : q14 ≠ q18 := fun e0 => hq18 (e0 ▸ List.mem_append_left _ (List.mem_append_left _ (List.mem_append_left _ (List.mem_append_right _ (List.mem_singleton.2 rfl)))))
    have ne14_19 : q14 ≠ q19 := fun e0 => hq19 (e0 ▸ List.mem_append_left _ (List.mem_append_left _ (List.mem_append_left _ (List.mem_append_left _ (List.mem_append_right _ (List.mem_singleton.2 rfl))))))
    have ne14_20 : q14 ≠ q20 := fun e0 => hq20 (e0 ▸ List.mem_append_left _ (List.mem_append_left _ (List.mem_append_left _ (List.mem_append_left _ (List.mem_append_left _ (List.mem_append_right _ (List.mem_singleton.2 rfl)))))))
    have ne14_21 : q14 ≠ q21 := fun e0 => hq21 (e0 ▸ List.mem_append_left _ (List.mem_append_left _ (List.mem_append_left _ (List.mem_append_left _ (List.mem_append_left _ (List.mem_append_left _ (List.mem_append_right _ (List.mem_singleton.2 rfl))))))))
    have ne14_22 : q14 ≠ q22 := fun e0 => hq22 (e0 ▸ List.mem_append_left _ (List.mem_append_left _ (List.mem_append_left _ (List.mem_append_left _ (List.mem_append_left _ (List.mem_append_left _ (List.mem_append_left _ (List.mem_append_right _ (List.mem_singleton.2 rfl)))))))))
    have ne14_23 : q14 ≠ q23 := fun e0 => hq23 (e0 ▸ List.mem_append_left _ (List.mem_append_left _ (List.mem_append_left _ (List.mem_append_left _ (List.mem_append_left _ (List.mem_append_left _ (List.mem_append_left _ (List.mem_append_left _ (List.mem_append_right _ (List.mem_singleton.2 rfl))))))))))
    have ne15_16 : q15 ≠ q16 := fun e0 => hq16 (e0 ▸ List.mem_append_right _ (List.mem_singleton.2 rfl))
    have ne15_17 : q15 ≠ q17 := fun e0 => hq17 (e0 ▸ List.mem_append_left _ (List.mem_append_right _ (List.mem_singleton.2 rfl)))
    have ne15_18 : q15 ≠ q18 := fun e0 => hq18 (e0 ▸ List.mem_append_left _ (List.mem_append_left _ (List.mem_append_right _ (List.mem_singleton.2 rfl))))
    have ne15_19 : q15 ≠ q19 := fun e0 => hq19 (e0 ▸ List.mem_append_left _ (List.mem_append_left _ (List.mem_append_left _ (List.mem_append_right _ (List.mem_singleton.2 rfl)))))
    have ne15_20 : q15 ≠ q20 := fun e0 => hq20 (e0 ▸ List.mem_append_left _ (List.mem_append_left _ (List.mem_append_left _ (List.mem_append_left _ (List.mem_append_right _ (List.mem_singleton.2 rfl))))))
    have ne15_21 : q15 ≠ q21 := fun e0 => hq21 (e0 ▸ List.mem_append_left _ (List.mem_append_left _ (List.mem_append_left _ (List.mem_append_left _ (List.mem_append_left _ (List.mem_append_right _ (List.mem_singleton.2 rfl)))))))
    have ne15_22 : q15 ≠ q22 := fun e0 => hq22 (e0 ▸ List.mem_append_left _ (List.mem_append_left _ (List.mem_append_left _ (List.mem_append_left _ (List.mem_append_left _ (List.mem_append_left _ (List.mem_append_right _ (List.mem_singleton.2 rfl))))))))
    have ne15_23 : q15 ≠ q23 := fun e0 => hq23 (e0 ▸ List.mem_append_left _ (List.mem_append_left _ (List.mem_append_left _ (List.mem_append_left _ (List.mem_append_left _ (List.mem_append_left _ (List.mem_append_left _ (List.mem_append_right _ (List.mem_singleton.2 rfl)))))))))
    have ne16_17 : q16 ≠ q17 := fun e0 => hq17 (e0 ▸ List.mem_append_right _ (List.mem_singleton.2 rfl))
    have ne16_18 : q16 ≠ q18 := fun e0 => hq18 (e0 ▸ List.mem_append_left _ (List.mem_append_right _ (List.mem_singleton.2 rfl)))
    have ne16_19 : q16 ≠ q19 := fun e0 => hq19 (e0 ▸ List.mem_append_left _ (List.mem_append_left _ (List.mem_append_right _ (List.mem_singleton.2 rfl))))
    have ne16_20 : q16 ≠ q20 := fun e0 => hq20 (e0 ▸ List.mem_append_left _ (List.mem_append_left _ (List.mem_append_left _ (List.mem_append_right _ (List.mem_singleton.2 rfl)))))
    have ne16_21 : q16 ≠ q21 := fun e0 => hq21 (e0 ▸ List.mem_append_left _ (List.mem_append_left _ (List.mem_append_left _ (List.mem_append_left _ (List.mem_append_right _ (List.mem_singleton.2 rfl))))))
    have ne16_22 : q16 ≠ q22 := fun e0 => hq22 (e0 ▸ List.mem_append_left _ (List.mem_append_left _ (List.mem_append_left _ (List.mem_append_left _ (List.mem_append_left _ (List.mem_append_right _ (List.mem_singleton.2 rfl)))))))
    have ne16_23 : q16 ≠ q23 := fun e0 => hq23 (e0 ▸ List.mem_append_left _ (List.mem_append_left _ (List.mem_append_left _ (List.mem_append_left _ (List.mem_append_left _ (List.mem_append_left _ (List.mem_append_right _ (List.mem_singleton.2 rfl))))))))
    have ne17_18 : q17 ≠ q18 := fun e0 => hq18 (e0 ▸ List.mem_append_right _ (List.mem_singleton.2 rfl))
    have ne17_19 : q17 ≠ q19 := fun e0 => hq19 (e0 ▸ List.mem_append_left _ (List.mem_append_right _ (List.mem_singleton.2 rfl)))
    have ne17_20 : q17 ≠ q20 := fun e0 => hq20 (e0 ▸ List.mem_append_left _ (List.mem_append_left _ (List.mem_append_right _ (List.mem_singleton.2 rfl))))
    have ne17_21 : q17 ≠ q21 := fun e0 => hq21 (e0 ▸ List.mem_append_left _ (List.mem_append_left _ (List.mem_append_left _ (List.mem_append_right _ (List.mem_singleton.2 rfl)))))
    have ne17_22 : q17 ≠ q22 := fun e0 => hq22 (e0 ▸ List.mem_append_left _ (List.mem_append_left _ (List.mem_append_left _ (List.mem_append_left _ (List.mem_append_right _ (List.mem_singleton.2 rfl))))))
    have ne17_23 : q17 ≠ q23 := fun e0 => hq23 (e0 ▸ List.mem_append_left _ (List.mem_append_left _ (List.mem_append_left _ (List.mem_append_left _ (List.mem_append_left _ (List.mem_append_right _ (List.mem_singleton.2 rfl)))))))
    have ne18_19 : q18 ≠ q19 := fun e0 => hq19 (e0 ▸ List.mem_append_right _ (List.mem_singleton.2 rfl))
    have ne18_20 : q18 ≠ q20 := fun e0 => hq20 (e0 ▸ List.mem_append_left _ (List.mem_append_right _ (List.mem_singleton.2 rfl)))
    have ne18_21 : q18 ≠ q21 := fun e0 => hq21 (e0 ▸ List.mem_append_left _ (List.mem_append_left _ (List.mem_append_right _ (List.mem_singleton.2 rfl))))
    have ne18_22 : q18 ≠ q22 := fun e0 => hq22 (e0 ▸ List.mem_append_left _ (List.mem_append_left _ (List.mem_append_left _ (List.mem_append_right _ (List.mem_singleton.2 rfl)))))
    have ne18_23 : q18 ≠ q23 := fun e0 => hq23 (e0 ▸ List.mem_append_left _ (List.mem_append_left _ (List.mem_append_left _ (List.mem_append_left _ (List.mem_append_right _ (List.mem_singleton.2 rfl))))))
    have ne19_20 : q19 ≠ q20 := fun e0 => hq20 (e0 ▸ List.mem_append_right _ (List.mem_singleton.2 rfl))
    have ne19_21 : q19 ≠ q21 := fun e0 => hq21 (e0 ▸ List.mem_append_left _ (List.mem_append_right _ (List.mem_singleton.2 rfl)))
    have ne19_22 : q19 ≠ q22 := fun e0 => hq22 (e0 ▸ List.mem_append_left _ (List.mem_append_left _ (List.mem_append_right _ (List.mem_singleton.2 rfl))))
    have ne19_23 : q19 ≠ q23 := fun e0 => hq23 (e0 ▸ List.mem_append_left _ (List.mem_append_left _ (List.mem_append_left _ (List.mem_append_right _ (List.mem_singleton.2 rfl)))))
    have ne20_21 : q20 ≠ q21 := fun e0 => hq21 (e0 ▸ List.mem_append_right _ (List.mem_singleton.2 rfl))
    have ne20_22 : q20 ≠ q22 := fun e0 => hq22 (e0 ▸ List.mem_append_left _ (List.mem_append_right _ (List.mem_singleton.2 rfl)))
    have ne20_23 : q20 ≠ q23 := fun e0 => hq23 (e0 ▸ List.mem_append_left _ (List.mem_append_left _ (List.mem_append_right _ (List.mem_singleton.2 rfl))))
    have ne21_22 : q21 ≠ q22 := fun e0 => hq22 (e0 ▸ List.mem_append_right _ (List.mem_singleton.2 rfl))
    have ne21_23 : q21 ≠ q23 := fun e0 => hq23 (e0 ▸ List.mem_append_left _ (List.mem_append_right _ (List.mem_singleton.2 rfl)))
    have ne22_23 : q22 ≠ q23 := fun e0 => hq23 (e0 ▸ List.mem_append_right _ (List.mem_singleton.2 rfl))
    obtain ⟨T1, hT1⟩ : ∃ T1 : Nat → Nat, T1 = (va_up (va_up (va_up (va_up (va_up (va_up (va_up (va_up (va_up (va_up (va_up (va_up (va_up (va_up (va_up (va_up (va_up (va_up T q3 20003) q5 20005) q7 20007) q8 20008) q10 20010) q11 20011) q12 20012) q13 20013) q14 20014) q15 20015) q16 20016) q17 20017) q18 20018) q19 20019) q20 20020) q21 20021) q22 20022) q23 20023) := ⟨_, rfl⟩
    have tt3 : T1 q3 = 20003 := by rw [hT1]; rw [va_up_ne _ _ ne3_23, va_up_ne _ _ ne3_22, va_up_ne _ _ ne3_21, va_up_ne _ _ ne3_20, va_up_ne _ _ ne3_19, va_up_ne _ _ ne3_18, va_up_ne _ _ ne3_17, va_up_ne _ _ ne3_16, va_up_ne _ _ ne3_15, va_up_ne _ _ ne3_14, va_up_ne _ _ ne3_13, va_up_ne _ _ ne3_12, va_up_ne _ _ ne3_11, va_up_ne _ _ ne3_10, va_up_ne _ _ ne3_8, va_up_ne _ _ ne3_7, va_up_ne _ _ ne3_5, va_up_self]
    have tt5 : T1 q5 = 20005 := by rw [hT1]; rw [va_up_ne _ _ ne5_23, va_up_ne _ _ ne5_22, va_up_ne _ _ ne5_21, va_up_ne _ _ ne5_20, va_up_ne _ _ ne5_19, va_up_ne _ _ ne5_18, va_up_ne _ _ ne5_17, va_up_ne _ _ ne5_16, va_up_ne _ _ ne5_15, va_up_ne _ _ ne5_14, va_up_ne _ _ ne5_13, va_up_ne _ _ ne5_12, va_up_ne _ _ ne5_11, va_up_ne _ _ ne5_10, va_up_ne _ _ ne5_8, va_up_ne _ _ ne5_7, va_up_self]
    have tt7 : T1 q7 = 20007 := by rw [hT1]; rw [va_up_ne _ _ ne7_23, va_up_ne _ _ ne7_22, va_up_ne _ _ ne7_21, va_up_ne _ _ ne7_20, va_up_ne _ _ ne7_19, va_up_ne _ _ ne7_18, va_up_ne _ _ ne7_17, va_up_ne _ _ ne7_16, va_up_ne _ _ ne7_15, va_up_ne _ _ ne7_14, va_up_ne _ _ ne7_13, va_up_ne _ _ ne7_12, va_up_ne _ _ ne7_11, va_up_ne _ _ ne7_10, va_up_ne _ _ ne7_8, va_up_self]
    have tt8 : T1 q8 = 20008 := by rw [hT1]; rw [va_up_ne _ _ ne8_23, va_up_ne _ _ ne8_22, va_up_ne _ _ ne8_21, va_up_ne _ _ ne8_20, va_up_ne _ _ ne8_19, va_up_ne _ _ ne8_18, va_up_ne _ _ ne8_17, va_up_ne _ _ ne8_16, va_up_ne _ _ ne8_15, va_up_ne _ _ ne8_14, va_up_ne _ _ ne8_13, va_up_ne _ _ ne8_12, va_up_ne _ _ ne8_11, va_up_ne _ _ ne8_10, va_up_self]
    have tt10 : T1 q10 = 20010 := by rw [hT1]; rw [va_up_ne _ _ ne10_23, va_up_ne _ _ ne10_22, va_up_ne _ _ ne10_21, va_up_ne _ _ ne10_20, va_up_ne _ _ ne10_19, va_up_ne _ _ ne10_18, va_up_ne _ _ ne10_17, va_up_ne _ _ ne10_16, va_up_ne _ _ ne10_15, va_up_ne _ _ ne10_14, va_up_ne _ _ ne10_13, va_up_ne _ _ ne10_12, va_up_ne _ _ ne10_11, va_up_self]
    have tt11 : T1 q11 = 20011 := by rw [hT1]; rw [va_up_ne _ _ ne11_23, va_up_ne _ _ ne11_22, va_up_ne _ _ ne11_21, va_up_ne _ _ ne11_20, va_up_ne _ _ ne11_19, va_up_ne _ _ ne11_18, va_up_ne _ _ ne11_17, va_up_ne _ _ ne11_16, va_up_ne _ _ ne11_15, va_up_ne _ _ ne11_14, va_up_ne _ _ ne11_13, va_up_ne _ _ ne11_12, va_up_self]
    have tt12 : T1 q12 = 20012 := by rw [hT1]; rw [va_up_ne _ _ ne12_23, va_up_ne _ _ ne12_22, va_up_ne _ _ ne12_21, va_up_ne _ _ ne12_20, va_up_ne _ _ ne12_19, va_up_ne _ _ ne12_18, va_up_ne _ _ ne12_17, va_up_ne _ _ ne12_16, va_up_ne _ _ ne12_15, va_up_ne _ _ ne12_14, va_up_ne _ _ ne12_13, va_up_self]
    have tt13 : T1 q13 = 20013 := by rw [hT1]; rw [va_up_ne _ _ ne13_23, va_up_ne _ _ ne13_22, va_up_ne _ _ ne13_21, va_up_ne _ _ ne13_20, va_up_ne _ _ ne13_19, va_up_ne _ _ ne13_18, va_up_ne _ _ ne13_17, va_up_ne _ _ ne13_16, va_up_ne _ _ ne13_15, va_up_ne _ _ ne13_14, va_up_self]
    have tt14 : T1 q14 = 20014 := by rw [hT1]; rw [va_up_ne _ _ ne14_23, va_up_ne _ _ ne14_22, va_up_ne _ _ ne14_21, va_up_ne _ _ ne14_20, va_up_ne _ _ ne14_19, va_up_ne _ _ ne14_18, va_up_ne _ _ ne14_17, va_up_ne _ _ ne14_16, va_up_ne _ _ ne14_15, va_up_self]
    have tt15 : T1 q15 = 20015 := by rw [hT1]; rw [va_up_ne _ _ ne15_23, va_up_ne _ _ ne15_22, va_up_ne _ _ ne15_21, va_up_ne _ _ ne15_20, va_up_ne _ _ ne15_19, va_up_ne _ _ ne15_18, va_up_ne _ _ ne15_17, va_up_ne _ _ ne15_16, va_up_self]
    have tt16 : T1 q16 = 20016 := by rw [hT1]; rw [va_up_ne _ _ ne16_23, va_up_ne _ _ ne16_22, va_up_ne _ _ ne16_21, va_up_ne _ _ ne16_20, va_up_ne _ _ ne16_19, va_up_ne _ _ ne16_18, va_up_ne _ _ ne16_17, va_up_self]
    have tt17 : T1 q17 = 20017 := by rw [hT1]; rw [va_up_ne _ _ ne17_23, va_up_ne _ _ ne17_22, va_up_ne _ _ ne17_21, va_up_ne _ _ ne17_20, va_up_ne _ _ ne17_19, va_up_ne _ _ ne17_18, va_up_self]
    have tt18 : T1 q18 = 20018 := by rw [hT1]; rw [va_up_ne _ _ ne18_23, va_up_ne _ _ ne18_22, va_up_ne _ _ ne18_21, va_up_ne _ _ ne18_20, va_up_ne _ _ ne18_19, va_up_self]
    have tt19 : T1 q19 = 20019 := by rw [hT1]; rw [va_up_ne _ _ ne19_23, va_up_ne _ _ ne19_22, va_up_ne _ _ ne19_21, va_up_ne _ _ ne19_20, va_up_self]
    have tt20 : T1 q20 = 20020 := by rw [hT1]; rw [va_up_ne _ _ ne20_23, va_up_ne _ _ ne20_22, va_up_ne _ _ ne20_21, va_up_self]
    have tt21 : T1 q21 = 20021 := by rw [hT1]; rw [va_up_ne _ _ ne21_23, va_up_ne _ _ ne21_22, va_up_self]
    have tt22 : T1 q22 = 20022 := by rw [hT1]; rw [va_up_ne _ _ ne22_23, va_up_self]
    have tt23 : T1 q23 = 20023 := by rw [hT1]; rw [va_up_self]
    have hTL : ∀ q, q ∈ L → T1 q = T q := fun q h => by
      rw [hT1]; rw [va_up_ne _ _ (nL23 q h), va_up_ne _ _ (nL22 q h), va_up_ne _ _ (nL21 q h), va_up_ne _ _ (nL20 q h), va_up_ne _ _ (nL19 q h), va_up_ne _ _ (nL18 q h), va_up_ne _ _ (nL17 q h), va_up_ne _ _ (nL16 q h), va_up_ne _ _ (nL15 q h), va_up_ne _ _ (nL14 q h), va_up_ne _ _ (nL13 q h), va_up_ne _ _ (nL12 q h), va_up_ne _ _ (nL11 q h), va_up_ne _ _ (nL10 q h), va_up_ne _ _ (nL8 q h), va_up_ne _ _ (nL7 q h), va_up_ne _ _ (nL5 q h), va_up_ne _ _ (nL3 q h)]
    have mF : ∀ a, a ∈ L → a ∈ ((((((((((((((((((L ++ [q3]) ++ [q5]) ++ [q7]) ++ [q8]) ++ [q10]) ++ [q11]) ++ [q12]) ++ [q13]) ++ [q14]) ++ [q15]) ++ [q16]) ++ [q17]) ++ [q18]) ++ [q19]) ++ [q20]) ++ [q21]) ++ [q22]) ++ [q23]) := fun a ha => List.mem_append_left _ (mL23 a ha)
    have hdd : ∀ k, md_i k = true → d k ∈ ((((((((((((((((((L ++ [q3]) ++ [q5]) ++ [q7]) ++ [q8]) ++ [q10]) ++ [q11]) ++ [q12]) ++ [q13]) ++ [q14]) ++ [q15]) ++ [q16]) ++ [q17]) ++ [q18]) ++ [q19]) ++ [q20]) ++ [q21]) ++ [q22]) ++ [q23]) ∧ T1 (d k) = 20000 + k := by
      intro k hk
      rcases (show k = 0 ∨ k = 3 ∨ k = 5 ∨ k = 7 ∨ k = 8 ∨ k = 10 ∨ k = 11 ∨ k = 12 ∨ k = 13 ∨ k = 14 ∨ k = 15 ∨ k = 16 ∨ k = 17 ∨ k = 18 ∨ k = 19 ∨ k = 20 ∨ k = 21 ∨ k = 22 ∨ k = 23 by unfold md_i at hk; simp only [Bool.or_eq_true, beq_iff_eq, Bool.and_eq_true, decide_eq_true_eq] at hk; omega) with rfl | rfl | rfl | rfl | rfl | rfl | rfl | rfl | rfl | rfl | rfl | rfl | rfl | rfl | rfl | rfl | rfl | rfl | rfl
      · rw [d0]; exact ⟨mF x hx, (hTL x hx).trans hTx⟩
      · rw [d3]; exact ⟨List.mem_append_left _ (List.mem_append_left _ (List.mem_append_left _ (List.mem_append_left _ (List.mem_append_left _ (List.mem_append_left _ (List.mem_append_left _ (List.mem_append_left _ (List.mem_append_left _ (List.mem_append_left _ (List.mem_append_left _ (List.mem_append_left _ (List.mem_append_left _ (List.mem_append_left _ (List.mem_append_left _ (List.mem_append_left _ (List.mem_append_left _ (List.mem_append_right _ (List.mem_singleton.2 rfl)))))))))))))))))), tt3⟩
      · rw [d5]; exact ⟨List.mem_append_left _ (List.mem_append_left _ (List.mem_append_left _ (List.mem_append_left _ (List.mem_append_left _ (List.mem_append_left _ (List.mem_append_left _ (List.mem_append_left _ (List.mem_append_left _ (List.mem_append_left _ (List.mem_append_left _ (List.mem_append_left _ (List.mem_append_left _ (List.mem_append_left _ (List.mem_append_left _ (List.mem_append_left _ (List.mem_append_right _ (List.mem_singleton.2 rfl))))))))))))))))), tt5⟩
      · rw [d7]; exact ⟨List.mem_append_left _ (List.mem_append_left _ (List.mem_append_left _ (List.mem_append_left _ (List.mem_append_left _ (List.mem_append_left _ (List.mem_append_left _ (List.mem_append_left _ (List.mem_append_left _ (List.mem_append_left _ (List.mem_append_left _ (List.mem_append_left _ (List.mem_append_left _ (List.mem_append_left _ (List.mem_append_left _ (List.mem_append_right _ (List.mem_singleton.2 rfl)))))))))))))))), tt7⟩
      · rw [d8]; exact ⟨List.mem_append_left _ (List.mem_append_left _ (List.mem_append_left _ (List.mem_append_left _ (List.mem_append_left _ (List.mem_append_left _ (List.mem_append_left _ (List.mem_append_left _ (List.mem_append_left _ (List.mem_append_left _ (List.mem_append_left _ (List.mem_append_left _ (List.mem_append_left _ (List.mem_append_left _ (List.mem_append_right _ (List.mem_singleton.2 rfl))))))))))))))), tt8⟩
      · rw [d10]; exact ⟨List.mem_append_left _ (List.mem_append_left _ (List.mem_append_left _ (List.mem_append_left _ (List.mem_append_left _ (List.mem_append_left _ (List.mem_append_left _ (List.mem_append_left _ (List.mem_append_left _ (List.mem_append_left _ (List.mem_append_left _ (List.mem_append_left _ (List.mem_append_left _ (List.mem_append_right _ (List.mem_singleton.2 rfl)))))))))))))), tt10⟩
      · rw [d11]; exact ⟨List.mem_append_left _ (List.mem_append_left _ (List.mem_append_left _ (List.mem_append_left _ (List.mem_append_left _ (List.mem_append_left _ (List.mem_append_left _ (List.mem_append_left _ (List.mem_append_left _ (List.mem_append_left _ (List.mem_append_left _ (List.mem_append_left _ (List.mem_append_right _ (List.mem_singleton.2 rfl))))))))))))), tt11⟩
      · rw [d12]; exact ⟨List.mem_append_left _ (List.mem_append_left _ (List.mem_append_left _ (List.mem_append_left _ (List.mem_append_left _ (List.mem_append_left _ (List.mem_append_left _ (List.mem_append_left _ (List.mem_append_left _ (List.mem_append_left _ (List.mem_append_left _ (List.mem_append_right _ (List.mem_singleton.2 rfl)))))))))))), tt12⟩
      · rw [d13]; exact ⟨List.mem_append_left _ (List.mem_append_left _ (List.mem_append_left _ (List.mem_append_left _ (List.mem_append_left _ (List.mem_append_left _ (List.mem_append_left _ (List.mem_append_left _ (List.mem_append_left _ (List.mem_append_left _ (List.mem_append_right _ (List.mem_singleton.2 rfl))))))))))), tt13⟩
      · rw [d14]; exact ⟨List.mem_append_left _ (List.mem_append_left _ (List.mem_append_left _ (List.mem_append_left _ (List.mem_append_left _ (List.mem_append_left _ (List.mem_append_left _ (List.mem_append_left _ (List.mem_append_left _ (List.mem_append_right _ (List.mem_singleton.2 rfl)))))))))), tt14⟩
      · rw [d15]; exact ⟨List.mem_append_left _ (List.mem_append_left _ (List.mem_append_left _ (List.mem_append_left _ (List.mem_append_left _ (List.mem_append_left _ (List.mem_append_left _ (List.mem_append_left _ (List.mem_append_right _ (List.mem_singleton.2 rfl))))))))), tt15⟩
      · rw [d16]; exact ⟨List.mem_append_left _ (List.mem_append_left _ (List.mem_append_left _ (List.mem_append_left _ (List.mem_append_left _ (List.mem_append_left _ (List.mem_append_left _ (List.mem_append_right _ (List.mem_singleton.2 rfl)))))))), tt16⟩
      · rw [d17]; exact ⟨List.mem_append_left _ (List.mem_append_left _ (List.mem_append_left _ (List.mem_append_left _ (List.mem_append_left _ (List.mem_append_left _ (List.mem_append_right _ (List.mem_singleton.2 rfl))))))), tt17⟩
      · rw [d18]; exact ⟨List.mem_append_left _ (List.mem_append_left _ (List.mem_append_left _ (List.mem_append_left _ (List.mem_append_left _ (List.mem_append_right _ (List.mem_singleton.2 rfl)))))), tt18⟩
      · rw [d19]; exact ⟨List.mem_append_left _ (List.mem_append_left _ (List.mem_append_left _ (List.mem_append_left _ (List.mem_append_right _ (List.mem_singleton.2 rfl))))), tt19⟩
      · rw [d20]; exact ⟨List.mem_append_left _ (List.mem_append_left _ (List.mem_append_left _ (List.mem_append_right _ (List.mem_singleton.2 rfl)))), tt20⟩
      · rw [d21]; exact ⟨List.mem_append_left _ (List.mem_append_left _ (List.mem_append_right _ (List.mem_singleton.2 rfl))), tt21⟩
      · rw [d22]; exact ⟨List.mem_append_left _ (List.mem_append_right _ (List.mem_singleton.2 rfl)), tt22⟩
      · rw [d23]; exact ⟨List.mem_append_right _ (List.mem_singleton.2 rfl), tt23⟩
    have hD : md_D ((((((((((((((((((L ++ [q3]) ++ [q5]) ++ [q7]) ++ [q8]) ++ [q10]) ++ [q11]) ++ [q12]) ++ [q13]) ++ [q14]) ++ [q15]) ++ [q16]) ++ [q17]) ++ [q18]) ++ [q19]) ++ [q20]) ++ [q21]) ++ [q22]) ++ [q23]) d := ⟨T1, hdd⟩
    have nx : ∀ a, a ∈ L → a ≠ x → ∀ k, md_i k = true → True := fun _ _ _ _ _ => trivial
    have eF : va_up (va_up (va_up (va_up (va_up (va_up (va_up (va_up (va_up (va_up (va_up (va_up (va_up (va_up (va_up (va_up (va_up (va_up (va_up f q3 (hl_row g 240 (fun _ => 0))) q5 (hl_row g 480 (fun _ => 0))) q7 (hl_row g 13824 (fun _ => 0))) q8 (hl_zow g 576 (fun _ => 0))) q10 (hl_row g 576 (fun _ => 0))) q11 (hl_row g 24 (fun _ => 0))) q12 (hl_row g 24 (fun _ => 0))) q13 (hl_row g 576 (fun _ => 0))) q14 (hl_zow g 24 (fun _ => 0))) q15 (hl_row g 24 (fun _ => 0))) q16 (hl_row g 24 (fun _ => 0))) q17 (hl_zow g 24 (fun _ => 0))) q18 (hl_row g 24 (fun _ => 0))) q19 (hl_row g 24 (fun _ => 0))) q20 (hl_row g 24 (fun _ => 0))) q21 (hl_row g 40 (fun _ => 0))) q22 (hl_row g 24 (fun _ => 0))) q23 (hl_row g 576 (fun _ => 0))) x (.inr (5, [.int (nI n), .int 0, .int 0, .ref q3, .int 0, .ref q5, .int 0, .ref q7, .ref q8, .int 0, .ref q10, .ref q11, .ref q12, .ref q13, .ref q14, .ref q15, .ref q16, .ref q17, .ref q18, .ref q19, .ref q20, .ref q21, .ref q22, .ref q23])) = mf g d f n 0 0 0 0 (fun _ => 0) (fun _ => 0) (fun _ => 0) (fun _ => 0) (fun _ => 0) (fun _ => 0) (fun _ => 0) (fun _ => 0) (fun _ => 0) (fun _ => 0) (fun _ => 1) (fun _ => 0) (fun _ => 0) (fun _ => 0) (fun _ => 0) (fun _ => 0) (fun _ => 0) (fun _ => 0) := by
      funext a
      by_cases h0 : a = x
      · rw [h0, va_up_self, ← d0, md_at_0]
        rw [d3, d5, d7, d8, d10, d11, d12, d13, d14, d15, d16, d17, d18, d19, d20, d21, d22, d23]; rfl
      by_cases h3 : a = q3
      · rw [va_up_ne _ _ h0, h3, va_up_ne _ _ ne3_23, va_up_ne _ _ ne3_22, va_up_ne _ _ ne3_21, va_up_ne _ _ ne3_20, va_up_ne _ _ ne3_19, va_up_ne _ _ ne3_18, va_up_ne _ _ ne3_17, va_up_ne _ _ ne3_16, va_up_ne _ _ ne3_15, va_up_ne _ _ ne3_14, va_up_ne _ _ ne3_13, va_up_ne _ _ ne3_12, va_up_ne _ _ ne3_11, va_up_ne _ _ ne3_10, va_up_ne _ _ ne3_8, va_up_ne _ _ ne3_7, va_up_ne _ _ ne3_5, va_up_self, ← d3, md_at_3 hD]; rfl
      by_cases h5 : a = q5
      · rw [va_up_ne _ _ h0, h5, va_up_ne _ _ ne5_23, va_up_ne _ _ ne5_22, va_up_ne _ _ ne5_21, va_up_ne _ _ ne5_20, va_up_ne _ _ ne5_19, va_up_ne _ _ ne5_18, va_up_ne _ _ ne5_17, va_up_ne _ _ ne5_16, va_up_ne _ _ ne5_15, va_up_ne _ _ ne5_14, va_up_ne _ _ ne5_13, va_up_ne _ _ ne5_12, va_up_ne _ _ ne5_11, va_up_ne _ _ ne5_10, va_up_ne _ _ ne5_8, va_up_ne _ _ ne5_7, va_up_self, ← d5, md_at_5 hD]; rfl
      by_cases h7 : a = q7
      · rw [va_up_ne _ _ h0, h7, va_up_ne _ _ ne7_23, va_up_ne _ _ ne7_22, va_up_ne _ _ ne7_21, va_up_ne _ _ ne7_20, va_up_ne _ _ ne7_19, va_up_ne _ _ ne7_18, va_up_ne _ _ ne7_17, va_up_ne _ _ ne7_16, va_up_ne _ _ ne7_15, va_up_ne _ _ ne7_14, va_up_ne _ _ ne7_13, va_up_ne _ _ ne7_12, va_up_ne _ _ ne7_11, va_up_ne _ _ ne7_10, va_up_ne _ _ ne7_8, va_up_self, ← d7, md_at_7 hD]; rfl
      by_cases h8 : a = q8
      · rw [va_up_ne _ _ h0, h8, va_up_ne _ _ ne8_23, va_up_ne _ _ ne8_22, va_up_ne _ _ ne8_21, va_up_ne _ _ ne8_20, va_up_ne _ _ ne8_19, va_up_ne _ _ ne8_18, va_up_ne _ _ ne8_17, va_up_ne _ _ ne8_16, va_up_ne _ _ ne8_15, va_up_ne _ _ ne8_14, va_up_ne _ _ ne8_13, va_up_ne _ _ ne8_12, va_up_ne _ _ ne8_11, va_up_ne _ _ ne8_10, va_up_self, ← d8, md_at_8 hD]; rfl
      by_cases h10 : a = q10
      · rw [va_up_ne _ _ h0, h10, va_up_ne _ _ ne10_23, va_up_ne _ _ ne10_22, va_up_ne _ _ ne10_21, va_up_ne _ _ ne10_20, va_up_ne _ _ ne10_19, va_up_ne _ _ ne10_18, va_up_ne _ _ ne10_17, va_up_ne _ _ ne10_16, va_up_ne _ _ ne10_15, va_up_ne _ _ ne10_14, va_up_ne _ _ ne10_13, va_up_ne _ _ ne10_12, va_up_ne _ _ ne10_11, va_up_self, ← d10, md_at_10 hD]; rfl
      by_cases h11 : a = q11
      · rw [va_up_ne _ _ h0, h11, va_up_ne _ _ ne11_23, va_up_ne _ _ ne11_22, va_up_ne _ _ ne11_21, va_up_ne _ _ ne11_20, va_up_ne _ _ ne11_19, va_up_ne _ _ ne11_18, va_up_ne _ _ ne11_17, va_up_ne _ _ ne11_16, va_up_ne _ _ ne11_15, va_up_ne _ _ ne11_14, va_up_ne _ _ ne11_13, va_up_ne _ _ ne11_12, va_up_self, ← d11, md_at_11 hD]; rfl
      by_cases h12 : a = q12
      · rw [va_up_ne _ _ h0, h12, va_up_ne _ _ ne12_23, va_up_ne _ _ ne12_22, va_up_ne _ _ ne12_21, va_up_ne _ _ ne12_20, va_up_ne _ _ ne12_19, va_up_ne _ _ ne12_18, va_up_ne _ _ ne12_17, va_up_ne _ _ ne12_16, va_up_ne _ _ ne12_15, va_up_ne _ _ ne12_14, va_up_ne _ _ ne12_13, va_up_self, ← d12, md_at_12 hD]; rfl
      by_cases h13 : a = q13
      · rw [va_up_ne _ _ h0, h13, va_up_ne _ _ ne13_23, va_up_ne _ _ ne13_22, va_up_ne _ _ ne13_21, va_up_ne _ _ ne13_20, va_up_ne _ _ ne13_19, va_up_ne _ _ ne13_18, va_up_ne _ _ ne13_17, va_up_ne _ _ ne13_16, va_up_ne _ _ ne13_15, va_up_ne _ _ ne13_14, va_up_self, ← d13, md_at_13 hD]; rfl
      by_cases h14 : a = q14
      · rw [va_up_ne _ _ h0, h14, va_up_ne _ _ ne14_23, va_up_ne _ _ ne14_22, va_up_ne _ _ ne14_21, va_up_ne _ _ ne14_20, va_up_ne _ _ ne14_19, va_up_ne _ _ ne14_18, va_up_ne _ _ ne14_17, va_up_ne _ _ ne14_16, va_up_ne _ _ ne14_15, va_up_self, ← d14, md_at_14 hD]; rfl
      by_cases h15 : a = q15
      · rw [va_up_ne _ _ h0, h15, va_up_ne _ _ ne15_23, va_up_ne _ _ ne15_22, va_up_ne _ _ ne15_21, va_up_ne _ _ ne15_20, va_up_ne _ _ ne15_19, va_up_ne _ _ ne15_18, va_up_ne _ _ ne15_17, va_up_ne _ _ ne15_16, va_up_self, ← d15, md_at_15 hD]; rfl
      by_cases h16 : a = q16
      · rw [va_up_ne _ _ h0, h16, va_up_ne _ _ ne16_23, va_up_ne _ _ ne16_22, va_up_ne _ _ ne16_21, va_up_ne _ _ ne16_20, va_up_ne _ _ ne16_19, va_up_ne _ _ ne16_18, va_up_ne _ _ ne16_17, va_up_self, ← d16, md_at_16 hD]; exact mi_b g
      by_cases h17 : a = q17
      · rw [va_up_ne _ _ h0, h17, va_up_ne _ _ ne17_23, va_up_ne _ _ ne17_22, va_up_ne _ _ ne17_21, va_up_ne _ _ ne17_20, va_up_ne _ _ ne17_19, va_up_ne _ _ ne17_18, va_up_self, ← d17, md_at_17 hD]; rfl
      by_cases h18 : a = q18
      · rw [va_up_ne _ _ h0, h18, va_up_ne _ _ ne18_23, va_up_ne _ _ ne18_22, va_up_ne _ _ ne18_21, va_up_ne _ _ ne18_20, va_up_ne _ _ ne18_19, va_up_self, ← d18, md_at_18 hD]; rfl
      by_cases h19 : a = q19
      · rw [va_up_ne _ _ h0, h19, va_up_ne _ _ ne19_23, va_up_ne _ _ ne19_22, va_up_ne _ _ ne19_21, va_up_ne _ _ ne19_20, va_up_self, ← d19, md_at_19 hD]; rfl
      by_cases h20 : a = q20
      · rw [va_up_ne _ _ h0, h20, va_up_ne _ _ ne20_23, va_up_ne _ _ ne20_22, va_up_ne _ _ ne20_21, va_up_self, ← d20, md_at_20 hD]; rfl
      by_cases h21 : a = q21
      · rw [va_up_ne _ _ h0, h21, va_up_ne _ _ ne21_23, va_up_ne _ _ ne21_22, va_up_self, ← d21, md_at_21 hD]; rfl
      by_cases h22 : a = q22
      · rw [va_up_ne _ _ h0, h22, va_up_ne _ _ ne22_23, va_up_self, ← d22, md_at_22 hD]; rfl
      by_cases h23 : a = q23
      · rw [va_up_ne _ _ h0, h23, va_up_self, ← d23, md_at_23 hD]; rfl
      rw [va_up_ne _ _ h0, va_up_ne _ _ h23, va_up_ne _ _ h22, va_up_ne _ _ h21, va_up_ne _ _ h20, va_up_ne _ _ h19, va_up_ne _ _ h18, va_up_ne _ _ h17, va_up_ne _ _ h16, va_up_ne _ _ h15, va_up_ne _ _ h14, va_up_ne _ _ h13, va_up_ne _ _ h12, va_up_ne _ _ h11, va_up_ne _ _ h10, va_up_ne _ _ h8, va_up_ne _ _ h7, va_up_ne _ _ h5, va_up_ne _ _ h3, md_out]
      intro k hk
      rcases (show k = 0 ∨ k = 3 ∨ k = 5 ∨ k = 7 ∨ k = 8 ∨ k = 10 ∨ k = 11 ∨ k = 12 ∨ k = 13 ∨ k = 14 ∨ k = 15 ∨ k = 16 ∨ k = 17 ∨ k = 18 ∨ k = 19 ∨ k = 20 ∨ k = 21 ∨ k = 22 ∨ k = 23 by unfold md_i at hk; simp only [Bool.or_eq_true, beq_iff_eq, Bool.and_eq_true, decide_eq_true_eq] at hk; omega) with rfl | rfl | rfl | rfl | rfl | rfl | rfl | rfl | rfl | rfl | rfl | rfl | rfl | rfl | rfl | rfl | rfl | rfl | rfl
      · rw [d0]; exact h0
      · rw [d3]; exact h3
      · rw [d5]; exact h5
      · rw [d7]; exact h7
      · rw [d8]; exact h8
      · rw [d10]; exact h10
      · rw [d11]; exact h11
      · rw [d12]; exact h12
      · rw [d13]; exact h13
      · rw [d14]; exact h14
      · rw [d15]; exact h15
      · rw [d16]; exact h16
      · rw [d17]; exact h17
      · rw [d18]; exact h18
      · rw [d19]; exact h19
      · rw [d20]; exact h20
      · rw [d21]; exact h21
      · rw [d22]; exact h22
      · rw [d23]; exact h23
    rw [eF] at hh
    exact hm_vret X hr hlk hh ⟨_, T1, d, rfl, fun q h => ⟨mF q h, hTL q h⟩, d0, hdd⟩ (Nat.le_of_ble_eq_true rfl) (Nat.le_of_ble_eq_true rfl) d_M_init_180
  refine lv_icmp_ge (tgt := 165) X.1 X.2.1 d_M_init_158 (by decide) (fun hc => ?_) (fun hc => ?_)
  · have hc1 : nI 1 ≤ q0 := hc
    refine lv_iload_n X.1 X.2.1 d_M_init_165 rfl (lv_at hl 1 rfl) ?_
    refine lv_bipush (v := nI 24) X.1 X.2.1 d_M_init_166 (by decide) ?_
    refine lv_icmp_le (tgt := 176) X.1 X.2.1 d_M_init_168 (by decide) (fun hc => ?_) (fun hc => ?_)
    · have hc2 : q0 ≤ nI 24 := hc
      refine lv_iload_n X.1 X.2.1 d_M_init_176 rfl (lv_at hl 1 rfl) ?_
      refine fin _ ?_ _ hl
      rcases hn with ⟨h1, _⟩ | ⟨h1, h2⟩ | ⟨j, hj, h1, h2⟩
      · exact absurd (Int32.lt_of_le_of_lt hc1 h1) (by decide)
      · exact absurd (Int32.le_trans h1 hc2) (by decide)
      · have : 1 ≤ j := by
          rcases Nat.lt_or_ge j 1 with h | h
          · rw [h1] at hc1; exact absurd hc1 (Int32.not_le.2 ((nI_ltI (by omega) (by decide)).2 h))
          · exact h
        rw [h1, h2, Nat.max_eq_right this]
    refine lv_bipush (v := nI 24) X.1 X.2.1 d_M_init_171 (by decide) ?_
    refine lv_goto (tgt := 177) X.1 X.2.1 d_M_init_173 (by decide) ?_
    have hc2 : ¬ q0 ≤ nI 24 := hc
    refine fin _ ?_ _ hl
    rcases hn with ⟨h1, _⟩ | ⟨h1, h2⟩ | ⟨j, hj, h1, h2⟩
    · exact absurd (Int32.lt_of_le_of_lt hc1 h1) (by decide)
    · rw [h2]
    · exact absurd (Int32.not_lt.1 (fun h => by rw [h1] at h; have := (nI_ltI (by decide) (by omega)).1 h; omega)) hc2
  refine lv_iconst (v := nI 1) X.1 X.2.1 d_M_init_161 (by decide) ?_
  refine lv_goto (tgt := 177) X.1 X.2.1 d_M_init_162 (by decide) ?_
  have hc1 : ¬ nI 1 ≤ q0 := hc
  refine fin _ ?_ _ hl
  rcases hn with ⟨h1, h2⟩ | ⟨h1, h2⟩ | ⟨j, hj, h1, h2⟩
  · rw [h2]
  · exact absurd (Int32.le_trans (by decide) h1) hc1
  · have : j = 0 := by
      rcases Nat.lt_or_ge j 1 with h | h
      · omega
      · exact absurd (Int32.not_lt.1 (fun h3 => by rw [h1] at h3; have := (nI_ltI (by omega) (by decide)).1 h3; omega)) hc1
    rw [h2, this]; rfl

end

