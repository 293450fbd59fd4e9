/-! Constructors: Decimal, Partition, Link. -/
section
/-- numbers for the rows r 0 .. r (N - 1): b, b + 1 .. ; the others keep theirs -/
def tg_rows (T : Nat → Nat) (r : Nat → Nat) (N b : Nat) : Nat → Nat := fun q => match (List.range N).find? (fun j => decide (r j = q)) with
  | some j => b + j
  | none => T q
theorem tg_rows_in {T : Nat → Nat} {r : Nat → Nat} {N b j : Nat} (hi : ∀ i j : Nat, i < N → j < N → r i = r j → i = j) (hj : j < N) : tg_rows T r N b (r j) = b + j := by
  unfold tg_rows
  cases h : (List.range N).find? (fun i => decide (r i = r j)) with
  | none =>
    have := List.find?_eq_none.1 h j (List.mem_range.2 hj)
    simp at this
  | some i =>
    have h1 := List.find?_some h
    have h2 := List.mem_range.1 (List.mem_of_find?_eq_some h)
    simp at h1
    show b + i = b + j
    rw [hi i j h2 hj h1]
theorem tg_rows_out {T : Nat → Nat} {r : Nat → Nat} {N b q : Nat} (h : ∀ j, j < N → r j ≠ q) : tg_rows T r N b q = T q := by
  unfold tg_rows
  have : (List.range N).find? (fun i => decide (r i = q)) = none := by
    rw [List.find?_eq_none]
    intro i hi
    simpa using h i (List.mem_range.1 hi)
  rw [this]

/-- the pool has grown: what was there is there, and holds the same -/
def hl_ext (L : List Nat) (f : Nat → va_E) (L1 : List Nat) (f1 : Nat → va_E) : Prop := ∀ a, a ∈ L → a ∈ L1 ∧ f1 a = f a
theorem hl_ext_refl {L : List Nat} {f : Nat → va_E} : hl_ext L f L f := fun a h => ⟨h, rfl⟩
theorem hl_ext_trans {L L1 L2 : List Nat} {f f1 f2 : Nat → va_E} (h : hl_ext L f L1 f1) (h2 : hl_ext L1 f1 L2 f2) : hl_ext L f L2 f2 :=
  fun a ha => ⟨(h2 a (h a ha).1).1, ((h2 a (h a ha).1).2).trans (h a ha).2⟩
theorem hl_ext_new {L : List Nat} {f : Nat → va_E} {q : Nat} {x : va_E} (hq : q ∉ L) : hl_ext L f (L ++ [q]) (va_up f q x) :=
  fun a ha => ⟨List.mem_append_left _ ha, va_up_ne _ _ (fun e => hq (e ▸ ha))⟩
theorem hl_ext_mna {L : List Nat} {f : Nat → va_E} {q N : Nat} {r : Nat → Nat} {x y : va_E} (hr : ∀ i, i < N → r i ∉ L) (hq : q ∉ L ++ (List.range N).map r) :
    hl_ext L f ((L ++ (List.range N).map r) ++ [q]) (va_up (vr_up f ((List.range N).map r) x) q y) := by
  intro a ha
  refine ⟨List.mem_append_left _ (List.mem_append_left _ ha), ?_⟩
  have hne : a ≠ q := fun e => hq (by rw [← e]; exact List.mem_append_left _ ha)
  rw [va_up_ne _ _ hne, vr_up_ne]
  intro hm
  obtain ⟨i, hi, e⟩ := List.mem_map.1 hm
  exact hr i (List.mem_range.1 hi) (e ▸ ha)
theorem hl_mna_row {L : List Nat} {f : Nat → va_E} {q N i : Nat} {r : Nat → Nat} {x y : va_E} (hi : i < N) (hq : q ∉ L ++ (List.range N).map r) :
    r i ∈ (L ++ (List.range N).map r) ++ [q] ∧ va_up (vr_up f ((List.range N).map r) x) q y (r i) = x := by
  have hm : r i ∈ (List.range N).map r := List.mem_map.2 ⟨i, List.mem_range.2 hi, rfl⟩
  refine ⟨List.mem_append_left _ (List.mem_append_right _ hm), ?_⟩
  have hne : r i ≠ q := fun e => hq (by rw [← e]; exact List.mem_append_right _ hm)
  rw [va_up_ne _ _ hne, vr_up_in hm]

/-- Decimal() -/
theorem c_D_init (l : Launch) (g : hl_G) (sz : Nat) (L : List Nat) (f : Nat → va_E) (o : Nat) (v0 : Value) (ho : o ∈ L) (hfo : f o = .inr (2, [v0])) :
    Met l y_D_init (hq y_D_init b_D_init 1 none) { frames := 1, cells := 1, slots := 24, locals := 20 } (hm_P g [.ref o] sz L f) (va_Qv (fun u => ∃ q, q ∉ L ∧ u = (L ++ [q], va_up (va_up f q (hl_nat g 24 (fun _ => 0))) o (.inr (2, [.ref q])))) (hm_B g sz L) (hm_A sz L)) 1 24 (hm_A sz L) := by
  refine hm_ofW (by decide) (Nat.le_of_ble_eq_true rfl) ?_
  intro p e s m below meth c X hr hlk hnm hK hsz hh ls hl
  have hl : lv_has ls 1 [(0, .ref o)] := hl
  refine lv_aload_n X.1 X.2.1 d_D_init_0 rfl (lv_at hl 0 rfl) ?_
  refine hl_objI X w_42 hl.1 (Nat.le_of_ble_eq_true rfl) (Nat.le_of_ble_eq_true rfl) d_D_init_1 ?_
  refine lv_aload_n X.1 X.2.1 d_D_init_4 rfl (lv_at hl 0 rfl) ?_
  refine lv_bipush (v := nI 24) X.1 X.2.1 d_D_init_5 (by decide) ?_
  refine hl_newI X hK hh (by decide) (Nat.le_of_ble_eq_true rfl) (Nat.le_of_ble_eq_true rfl) d_D_init_7 (fun q H hq hh => ?_)
  have ho1 : o ∈ L ++ [q] := List.mem_append_left _ ho
  have hfo1 := (va_up_ne f (hl_nat g 24 (fun _ => 0)) (fun e => hq (e ▸ ho) : o ≠ q)).trans hfo
  refine hl_putF X hK hh hnm (ref := "CycleGroups$Decimal") i_D t_D t_D_ok n_D (ci := 2) rfl 0 (by decide) w_43 rfl rfl rfl ho1 hfo1 (by first | rfl | decide) (by first | rfl | decide) (Nat.le_of_ble_eq_true rfl) d_D_init_9 (fun H locs hh => ?_)
  exact hm_vret X hr hlk hh ⟨q, hq, rfl⟩ (Nat.le_of_ble_eq_true rfl) (Nat.le_of_ble_eq_true rfl) d_D_init_12

/-- Partition(int places) -/
theorem c_P_init (l : Launch) (g : hl_G) (sz : Nat) (L : List Nat) (f : Nat → va_E) (o n : Nat) (v0 : Value) (ho : o ∈ L) (hfo : f o = .inr (4, [v0])) (hn : n ≤ 24) :
    Met l y_P_init (hq y_P_init b_P_init 2 none) { frames := 1, cells := 1, slots := 24, locals := 20 } (hm_P g [.ref o, .int (nI n)] sz L f) (va_Qv (fun u => ∃ q, q ∉ L ∧ u = (L ++ [q], va_up (va_up f q (hl_nat g n (fun _ => 0))) o (.inr (4, [.ref q])))) (hm_B g sz L) (hm_A sz L)) 1 24 (hm_A sz L) := by
  refine hm_ofW (by decide) (Nat.le_of_ble_eq_true rfl) ?_
  intro p e s m below meth c X hr hlk hnm hK hsz hh ls hl
  have hl : lv_has ls 2 [(0, .ref o), (1, .int (nI n))] := hl
  refine lv_aload_n X.1 X.2.1 d_P_init_0 rfl (lv_at hl 0 rfl) ?_
  refine hl_objI X w_31 hl.1 (Nat.le_of_ble_eq_true rfl) (Nat.le_of_ble_eq_true rfl) d_P_init_1 ?_
  refine lv_aload_n X.1 X.2.1 d_P_init_4 rfl (lv_at hl 0 rfl) ?_
  refine lv_iload_n X.1 X.2.1 d_P_init_5 rfl (lv_at hl 1 rfl) ?_
  refine hl_newI X hK hh (by omega) (Nat.le_of_ble_eq_true rfl) (by show 0 + n ≤ 24; omega) d_P_init_6 (fun q H hq hh => ?_)
  have ho1 : o ∈ L ++ [q] := List.mem_append_left _ ho
  have hfo1 := (va_up_ne f (hl_nat g n (fun _ => 0)) (fun e => hq (e ▸ ho) : o ≠ q)).trans hfo
  refine hl_putF X hK hh hnm (ref := "CycleGroups$Partition") i_P t_P t_P_ok n_P (ci := 4) rfl 0 (by decide) w_32 rfl rfl rfl ho1 hfo1 (by first | rfl | decide) (by first | rfl | decide) (Nat.le_of_ble_eq_true rfl) d_P_init_8 (fun H locs hh => ?_)
  exact hm_vret X hr hlk hh ⟨q, hq, rfl⟩ (Nat.le_of_ble_eq_true rfl) (by show 0 + n ≤ 24; omega) d_P_init_11
end
section
/-- Link(int place, int places) -/
theorem c_K_init (l : Launch) (g : hl_G) (sz : Nat) (L : List Nat) (f : Nat → va_E) (T : Nat → Nat) (ad : Nat → Nat → Nat → Nat) (n i k : Nat) (hk : k ∈ L) (hfk : f k = .inr (3, [.null, .int 0, .null, .null, .int 0, .null, .null])) (hTk : T k = 100 + 64 * i) (hn : n ≤ 24) (hi : i < n) :
    Met l y_K_init (hq y_K_init b_K_init 5 none) { frames := 1, cells := 65, slots := 1600, locals := 30 } (hm_P g [.ref k, .int (nI i), .int (nI n)] sz L f) (va_Qv (fun u => ∃ (L1 : List Nat) (f1 : Nat → va_E) (T1 : Nat → Nat) (ad1 : Nat → Nat → Nat → Nat) (G : Nat → Nat → Nat) (pr sp : Nat → Nat) (ix : Nat → Option Nat) (wb : Nat → Nat → Nat), u = (L1, f1) ∧ (∀ q, q ∈ L → q ∈ L1 ∧ T1 q = T q) ∧ (∀ q, q ∈ L → q ≠ k → f1 q = f q) ∧ (∀ i1, i1 ≠ i → ∀ k1 j, ad1 k1 i1 j = ad k1 i1 j) ∧ ad1 0 i 0 = k ∧ lk_T T1 ad1 n i ∧ lk_P g L1 f1 ad1 n i 0 G pr 1 sp ix wb ∧ lk_W n i 0 G pr 1 sp ix wb ∧ wb 0 = id) (hm_B g sz L) (hm_A sz L)) 65 1600 (hm_A sz L) := by
  have hmn : (n - i) * 3 / 2 * n ≤ 36 * 24 := Nat.mul_le_mul (by omega) hn
  have hfn : (n - i) * n ≤ 24 * 24 := Nat.mul_le_mul (by omega) hn
  refine hm_ofW (by decide) (Nat.le_of_ble_eq_true rfl) ?_
  intro p e s m below meth c X hr hlk hnm hK hsz hh ls hl
  have hl : lv_has ls 5 [(0, .ref k), (1, .int (nI i)), (2, .int (nI n))] := hl
  have hpk : k ∈ L ∧ f k = .inr (3, [.null, .int 0, .null, .null, .int 0, .null, .null]) := ⟨hk, hfk⟩
  refine lv_aload_n X.1 X.2.1 d_K_init_0 rfl (lv_at hl 0 rfl) ?_
  refine hl_objI X w_114 hl.1 (Nat.le_of_ble_eq_true rfl) (Nat.le_of_ble_eq_true rfl) d_K_init_1 ?_
  refine lv_iload_n X.1 X.2.1 d_K_init_4 rfl (lv_at hl 2 rfl) ?_
  refine lv_iload_n X.1 X.2.1 d_K_init_5 rfl (lv_at hl 1 rfl) ?_
  refine hn_sub X (by omega) d_K_init_6 ?_
  refine lv_istore_n (lv' := [(3, .int (nI (n - i))), (0, .ref k), (1, .int (nI i)), (2, .int (nI n))]) X.1 X.2.1 d_K_init_7 rfl hl (by decide) rfl (fun ls hl => ?_)
  refine lv_iload_n X.1 X.2.1 d_K_init_8 rfl (lv_at hl 0 rfl) ?_
  refine lv_iconst (v := nI 3) X.1 X.2.1 d_K_init_9 (by decide) ?_
  refine hn_mul X d_K_init_10 ?_
  refine lv_iconst (v := nI 2) X.1 X.2.1 d_K_init_11 (by decide) ?_
  refine hn_div X (by omega) (by omega) (by omega) d_K_init_12 ?_
  refine lv_istore (lv' := [(4, .int (nI (((n - i) * 3) / 2))), (3, .int (nI (n - i))), (0, .ref k), (1, .int (nI i)), (2, .int (nI n))]) X.1 X.2.1 d_K_init_13 hl (by decide) rfl (fun ls hl => ?_)
  refine lv_aload_n X.1 X.2.1 d_K_init_15 rfl (lv_at hl 2 rfl) ?_
  refine lv_iload X.1 X.2.1 d_K_init_16 (lv_at hl 0 rfl) ?_
  refine lv_iload_n X.1 X.2.1 d_K_init_18 rfl (lv_at hl 4 rfl) ?_
  refine hl_mna X hK hh (n := (n - i) * 3 / 2) (k := n) (by omega) (by omega) w_115 (by show 0 + (1 + (n - i) * 3 / 2) ≤ 65; omega) (by show 0 + ((n - i) * 3 / 2 + (n - i) * 3 / 2 * n) ≤ 1600; omega) d_K_init_19 (fun q1 r1 H hi1 hr1 hq1 hh => ?_)
  obtain ⟨locs, hlocs⟩ : ∃ x : List Loc, x = [] := ⟨_, rfl⟩
  rw [← hlocs] at hh ⊢
  obtain ⟨L1, hL1⟩ : ∃ x : List Nat, x = (L ++ (List.range ((n - i) * 3 / 2)).map r1) ++ [q1] := ⟨_, rfl⟩
  obtain ⟨f1, hf1⟩ : ∃ x : Nat → va_E, x = va_up (vr_up f ((List.range ((n - i) * 3 / 2)).map r1) (hl_row g n (fun _ => 0))) q1 (hl_grd g ((n - i) * 3 / 2) (fun j0 => if j0 < (n - i) * 3 / 2 then some (r1 j0) else none)) := ⟨_, rfl⟩
  have hh : hl_H g (hm_A sz L) s.heap L1 f1 H locs := by rw [hL1, hf1]; exact hh
  have ne_hpk_oA : k ≠ q1 := fun e0 => hq1 (by rw [← e0]; exact List.mem_append_left _ hpk.1)
  have ne_hpk_rA : ∀ j, j < (n - i) * 3 / 2 → k ≠ r1 j := fun j hj e0 => hr1 j hj (by rw [← e0]; exact hpk.1)
  have E1 : hl_ext L f L1 f1 := by rw [hL1, hf1]; exact hl_ext_mna hr1 hq1
  have hpk1 := (⟨(E1 _ hpk.1).1, (E1 _ hpk.1).2.trans hpk.2⟩ : k ∈ L1 ∧ f1 k = _)
  have oA1 : q1 ∈ L1 ∧ f1 q1 = hl_grd g ((n - i) * 3 / 2) (fun j0 => if j0 < (n - i) * 3 / 2 then some (r1 j0) else none) := ⟨by rw [hL1]; exact List.mem_append_right _ (List.mem_singleton.2 rfl), by rw [hf1, va_up_self]⟩
  have rA1 : ∀ j, j < (n - i) * 3 / 2 → r1 j ∈ L1 ∧ f1 (r1 j) = hl_row g n (fun _ => 0) := fun j hj => by rw [hL1, hf1]; exact hl_mna_row hj hq1
  have ne_rA_oA : ∀ j, j < (n - i) * 3 / 2 → r1 j ≠ q1 := fun j hj e0 => hq1 (by rw [← e0]; exact List.mem_append_right _ (List.mem_map.2 ⟨j, List.mem_range.2 hj, rfl⟩))
  refine hl_putF X hK hh hnm (ref := "CycleGroups$Link") i_K t_K t_K_ok n_K (ci := 3) rfl 0 (by decide) w_120 rfl rfl rfl hpk1.1 hpk1.2 (by first | rfl | decide) (by first | rfl | decide) (Nat.le_of_ble_eq_true rfl) d_K_init_23 (fun H locs hh => ?_)
  obtain ⟨f2, hf2⟩ : ∃ x : Nat → va_E, x = va_up f1 k (.inr (3, [.ref q1, .int 0, .null, .null, .int 0, .null, .null])) := ⟨_, rfl⟩
  have hh : hl_H g (hm_A sz L) s.heap L1 f2 H locs := by rw [hf2]; exact hh
  have oA2 := (⟨oA1.1, (congrFun hf2 q1).trans ((va_up_ne _ _ (Ne.symm ne_hpk_oA)).trans oA1.2)⟩ : q1 ∈ L1 ∧ f2 q1 = _)
  have rA2 := fun j (hj : j < (n - i) * 3 / 2) => (⟨(rA1 j hj).1, (congrFun hf2 (r1 j)).trans ((va_up_ne _ _ (Ne.symm (ne_hpk_rA j hj))).trans (rA1 j hj).2)⟩ : r1 j ∈ L1 ∧ f2 (r1 j) = _)
  have hpk2 : k ∈ L1 ∧ f2 k = .inr (3, [.ref q1, .int 0, .null, .null, .int 0, .null, .null]) := ⟨hpk1.1, by rw [hf2, va_up_self]⟩
  refine lv_aload_n X.1 X.2.1 d_K_init_26 rfl (lv_at hl 2 rfl) ?_
  refine lv_iload X.1 X.2.1 d_K_init_27 (lv_at hl 0 rfl) ?_
  refine hl_newI X hK hh (n := (n - i) * 3 / 2) (by omega) (by show 0 + 1 + (n - i) * 3 / 2 + 1 ≤ 65; omega) (by show 0 + (n - i) * 3 / 2 + (n - i) * 3 / 2 * n + (n - i) * 3 / 2 ≤ 1600; omega) d_K_init_29 (fun q3 H hq3 hh => ?_)
  obtain ⟨L3, hL3⟩ : ∃ x : List Nat, x = L1 ++ [q3] := ⟨_, rfl⟩
  obtain ⟨f3, hf3⟩ : ∃ x : Nat → va_E, x = va_up f2 q3 (hl_nat g ((n - i) * 3 / 2) (fun _ => 0)) := ⟨_, rfl⟩
  have hh : hl_H g (hm_A sz L) s.heap L3 f3 H locs := by rw [hL3, hf3]; exact hh
  have ne_hpk_oB : k ≠ q3 := fun e0 => hq3 (e0 ▸ hpk2.1)
  have ne_oA_oB : q1 ≠ q3 := fun e0 => hq3 (e0 ▸ oA2.1)
  have ne_rA_oB : ∀ j, j < (n - i) * 3 / 2 → r1 j ≠ q3 := fun j hj e0 => hq3 (e0 ▸ (rA2 j hj).1)
  have E3 : hl_ext L1 f2 L3 f3 := by rw [hL3, hf3]; exact hl_ext_new hq3
  have hpk3 := (⟨(E3 _ hpk2.1).1, (E3 _ hpk2.1).2.trans hpk2.2⟩ : k ∈ L3 ∧ f3 k = _)
  have oA3 := (⟨(E3 _ oA2.1).1, (E3 _ oA2.1).2.trans oA2.2⟩ : q1 ∈ L3 ∧ f3 q1 = _)
  have rA3 := fun j (hj : j < (n - i) * 3 / 2) => (⟨(E3 _ (rA2 j hj).1).1, (E3 _ (rA2 j hj).1).2.trans (rA2 j hj).2⟩ : r1 j ∈ L3 ∧ f3 (r1 j) = _)
  have oB3 : q3 ∈ L3 ∧ f3 q3 = hl_nat g ((n - i) * 3 / 2) (fun _ => 0) := ⟨by rw [hL3]; exact List.mem_append_right _ (List.mem_singleton.2 rfl), by rw [hf3, va_up_self]⟩
  refine hl_putF X hK hh hnm (ref := "CycleGroups$Link") i_K t_K t_K_ok n_K (ci := 3) rfl 2 (by decide) w_122 rfl rfl rfl hpk3.1 hpk3.2 (by first | rfl | decide) (by first | rfl | decide) (Nat.le_of_ble_eq_true rfl) d_K_init_31 (fun H locs hh => ?_)
  obtain ⟨f4, hf4⟩ : ∃ x : Nat → va_E, x = va_up f3 k (.inr (3, [.ref q1, .int 0, .ref q3, .null, .int 0, .null, .null])) := ⟨_, rfl⟩
  have hh : hl_H g (hm_A sz L) s.heap L3 f4 H locs := by rw [hf4]; exact hh
  have oA4 := (⟨oA3.1, (congrFun hf4 q1).trans ((va_up_ne _ _ (Ne.symm ne_hpk_oA)).trans oA3.2)⟩ : q1 ∈ L3 ∧ f4 q1 = _)
  have oB4 := (⟨oB3.1, (congrFun hf4 q3).trans ((va_up_ne _ _ (Ne.symm ne_hpk_oB)).trans oB3.2)⟩ : q3 ∈ L3 ∧ f4 q3 = _)
  have rA4 := fun j (hj : j < (n - i) * 3 / 2) => (⟨(rA3 j hj).1, (congrFun hf4 (r1 j)).trans ((va_up_ne _ _ (Ne.symm (ne_hpk_rA j hj))).trans (rA3 j hj).2)⟩ : r1 j ∈ L3 ∧ f4 (r1 j) = _)
  have hpk4 : k ∈ L3 ∧ f4 k = .inr (3, [.ref q1, .int 0, .ref q3, .null, .int 0, .null, .null]) := ⟨hpk3.1, by rw [hf4, va_up_self]⟩
  refine lv_aload_n X.1 X.2.1 d_K_init_34 rfl (lv_at hl 2 rfl) ?_
  refine lv_iload_n X.1 X.2.1 d_K_init_35 rfl (lv_at hl 1 rfl) ?_
  refine hl_newI X hK hh (n := n - i) (by omega) (by show 0 + 1 + (n - i) * 3 / 2 + 1 + 1 ≤ 65; omega) (by show 0 + (n - i) * 3 / 2 + (n - i) * 3 / 2 * n + (n - i) * 3 / 2 + (n - i) ≤ 1600; omega) d_K_init_36 (fun q4 H hq4 hh => ?_)
  obtain ⟨L5, hL5⟩ : ∃ x : List Nat, x = L3 ++ [q4] := ⟨_, rfl⟩
  obtain ⟨f5, hf5⟩ : ∃ x : Nat → va_E, x = va_up f4 q4 (hl_nat g (n - i) (fun _ => 0)) := ⟨_, rfl⟩
  have hh : hl_H g (hm_A sz L) s.heap L5 f5 H locs := by rw [hL5, hf5]; exact hh
  have ne_hpk_oC : k ≠ q4 := fun e0 => hq4 (e0 ▸ hpk4.1)
  have ne_oA_oC : q1 ≠ q4 := fun e0 => hq4 (e0 ▸ oA4.1)
  have ne_oB_oC : q3 ≠ q4 := fun e0 => hq4 (e0 ▸ oB4.1)
  have ne_rA_oC : ∀ j, j < (n - i) * 3 / 2 → r1 j ≠ q4 := fun j hj e0 => hq4 (e0 ▸ (rA4 j hj).1)
  have E5 : hl_ext L3 f4 L5 f5 := by rw [hL5, hf5]; exact hl_ext_new hq4
  have hpk5 := (⟨(E5 _ hpk4.1).1, (E5 _ hpk4.1).2.trans hpk4.2⟩ : k ∈ L5 ∧ f5 k = _)
  have oA5 := (⟨(E5 _ oA4.1).1, (E5 _ oA4.1).2.trans oA4.2⟩ : q1 ∈ L5 ∧ f5 q1 = _)
  have oB5 := (⟨(E5 _ oB4.1).1, (E5 _ oB4.1).2.trans oB4.2⟩ : q3 ∈ L5 ∧ f5 q3 = _)
  have rA5 := fun j (hj : j < (n - i) * 3 / 2) => (⟨(E5 _ (rA4 j hj).1).1, (E5 _ (rA4 j hj).1).2.trans (rA4 j hj).2⟩ : r1 j ∈ L5 ∧ f5 (r1 j) = _)
  have oC5 : q4 ∈ L5 ∧ f5 q4 = hl_nat g (n - i) (fun _ => 0) := ⟨by rw [hL5]; exact List.mem_append_right _ (List.mem_singleton.2 rfl), by rw [hf5, va_up_self]⟩
  refine hl_putF X hK hh hnm (ref := "CycleGroups$Link") i_K t_K t_K_ok n_K (ci := 3) rfl 3 (by decide) w_123 rfl rfl rfl hpk5.1 hpk5.2 (by first | rfl | decide) (by first | rfl | decide) (Nat.le_of_ble_eq_true rfl) d_K_init_38 (fun H locs hh => ?_)
  obtain ⟨f6, hf6⟩ : ∃ x : Nat → va_E, x = va_up f5 k (.inr (3, [.ref q1, .int 0, .ref q3, .ref q4, .int 0, .null, .null])) := ⟨_, rfl⟩
  have hh : hl_H g (hm_A sz L) s.heap L5 f6 H locs := by rw [hf6]; exact hh
  have oA6 := (⟨oA5.1, (congrFun hf6 q1).trans ((va_up_ne _ _ (Ne.symm ne_hpk_oA)).trans oA5.2)⟩ : q1 ∈ L5 ∧ f6 q1 = _)
  have oB6 := (⟨oB5.1, (congrFun hf6 q3).trans ((va_up_ne _ _ (Ne.symm ne_hpk_oB)).trans oB5.2)⟩ : q3 ∈ L5 ∧ f6 q3 = _)
  have oC6 := (⟨oC5.1, (congrFun hf6 q4).trans ((va_up_ne _ _ (Ne.symm ne_hpk_oC)).trans oC5.2)⟩ : q4 ∈ L5 ∧ f6 q4 = _)
  have rA6 := fun j (hj : j < (n - i) * 3 / 2) => (⟨(rA5 j hj).1, (congrFun hf6 (r1 j)).trans ((va_up_ne _ _ (Ne.symm (ne_hpk_rA j hj))).trans (rA5 j hj).2)⟩ : r1 j ∈ L5 ∧ f6 (r1 j) = _)
  have hpk6 : k ∈ L5 ∧ f6 k = .inr (3, [.ref q1, .int 0, .ref q3, .ref q4, .int 0, .null, .null]) := ⟨hpk5.1, by rw [hf6, va_up_self]⟩
  refine lv_aload_n X.1 X.2.1 d_K_init_41 rfl (lv_at hl 2 rfl) ?_
  refine lv_iload_n X.1 X.2.1 d_K_init_42 rfl (lv_at hl 4 rfl) ?_
  refine hl_newI X hK hh (n := n) (by omega) (by show 0 + 1 + (n - i) * 3 / 2 + 1 + 1 + 1 ≤ 65; omega) (by show 0 + (n - i) * 3 / 2 + (n - i) * 3 / 2 * n + (n - i) * 3 / 2 + (n - i) + n ≤ 1600; omega) d_K_init_43 (fun q5 H hq5 hh => ?_)
  obtain ⟨L7, hL7⟩ : ∃ x : List Nat, x = L5 ++ [q5] := ⟨_, rfl⟩
  obtain ⟨f7, hf7⟩ : ∃ x : Nat → va_E, x = va_up f6 q5 (hl_row g n (fun _ => 0)) := ⟨_, rfl⟩
  have hh : hl_H g (hm_A sz L) s.heap L7 f7 H locs := by rw [hL7, hf7]; exact hh
  have ne_hpk_oD : k ≠ q5 := fun e0 => hq5 (e0 ▸ hpk6.1)
  have ne_oA_oD : q1 ≠ q5 := fun e0 => hq5 (e0 ▸ oA6.1)
  have ne_oB_oD : q3 ≠ q5 := fun e0 => hq5 (e0 ▸ oB6.1)
  have ne_oC_oD : q4 ≠ q5 := fun e0 => hq5 (e0 ▸ oC6.1)
  have ne_rA_oD : ∀ j, j < (n - i) * 3 / 2 → r1 j ≠ q5 := fun j hj e0 => hq5 (e0 ▸ (rA6 j hj).1)
  have E7 : hl_ext L5 f6 L7 f7 := by rw [hL7, hf7]; exact hl_ext_new hq5
  have hpk7 := (⟨(E7 _ hpk6.1).1, (E7 _ hpk6.1).2.trans hpk6.2⟩ : k ∈ L7 ∧ f7 k = _)
  have oA7 := (⟨(E7 _ oA6.1).1, (E7 _ oA6.1).2.trans oA6.2⟩ : q1 ∈ L7 ∧ f7 q1 = _)
  have oB7 := (⟨(E7 _ oB6.1).1, (E7 _ oB6.1).2.trans oB6.2⟩ : q3 ∈ L7 ∧ f7 q3 = _)
  have oC7 := (⟨(E7 _ oC6.1).1, (E7 _ oC6.1).2.trans oC6.2⟩ : q4 ∈ L7 ∧ f7 q4 = _)
  have rA7 := fun j (hj : j < (n - i) * 3 / 2) => (⟨(E7 _ (rA6 j hj).1).1, (E7 _ (rA6 j hj).1).2.trans (rA6 j hj).2⟩ : r1 j ∈ L7 ∧ f7 (r1 j) = _)
  have oD7 : q5 ∈ L7 ∧ f7 q5 = hl_row g n (fun _ => 0) := ⟨by rw [hL7]; exact List.mem_append_right _ (List.mem_singleton.2 rfl), by rw [hf7, va_up_self]⟩
  refine hl_putF X hK hh hnm (ref := "CycleGroups$Link") i_K t_K t_K_ok n_K (ci := 3) rfl 5 (by decide) w_125 rfl rfl rfl hpk7.1 hpk7.2 (by first | rfl | decide) (by first | rfl | decide) (Nat.le_of_ble_eq_true rfl) d_K_init_45 (fun H locs hh => ?_)
  obtain ⟨f8, hf8⟩ : ∃ x : Nat → va_E, x = va_up f7 k (.inr (3, [.ref q1, .int 0, .ref q3, .ref q4, .int 0, .ref q5, .null])) := ⟨_, rfl⟩
  have hh : hl_H g (hm_A sz L) s.heap L7 f8 H locs := by rw [hf8]; exact hh
  have oA8 := (⟨oA7.1, (congrFun hf8 q1).trans ((va_up_ne _ _ (Ne.symm ne_hpk_oA)).trans oA7.2)⟩ : q1 ∈ L7 ∧ f8 q1 = _)
  have oB8 := (⟨oB7.1, (congrFun hf8 q3).trans ((va_up_ne _ _ (Ne.symm ne_hpk_oB)).trans oB7.2)⟩ : q3 ∈ L7 ∧ f8 q3 = _)
  have oC8 := (⟨oC7.1, (congrFun hf8 q4).trans ((va_up_ne _ _ (Ne.symm ne_hpk_oC)).trans oC7.2)⟩ : q4 ∈ L7 ∧ f8 q4 = _)
  have oD8 := (⟨oD7.1, (congrFun hf8 q5).trans ((va_up_ne _ _ (Ne.symm ne_hpk_oD)).trans oD7.2)⟩ : q5 ∈ L7 ∧ f8 q5 = _)
  have rA8 := fun j (hj : j < (n - i) * 3 / 2) => (⟨(rA7 j hj).1, (congrFun hf8 (r1 j)).trans ((va_up_ne _ _ (Ne.symm (ne_hpk_rA j hj))).trans (rA7 j hj).2)⟩ : r1 j ∈ L7 ∧ f8 (r1 j) = _)
  have hpk8 : k ∈ L7 ∧ f8 k = .inr (3, [.ref q1, .int 0, .ref q3, .ref q4, .int 0, .ref q5, .null]) := ⟨hpk7.1, by rw [hf8, va_up_self]⟩
  refine lv_aload_n X.1 X.2.1 d_K_init_48 rfl (lv_at hl 2 rfl) ?_
  refine lv_iload_n X.1 X.2.1 d_K_init_49 rfl (lv_at hl 1 rfl) ?_
  refine lv_iload_n X.1 X.2.1 d_K_init_50 rfl (lv_at hl 4 rfl) ?_
  refine hl_mna X hK hh (n := n - i) (k := n) (by omega) (by omega) w_115 (by show 0 + 1 + (n - i) * 3 / 2 + 1 + 1 + 1 + (1 + (n - i)) ≤ 65; omega) (by show 0 + (n - i) * 3 / 2 + (n - i) * 3 / 2 * n + (n - i) * 3 / 2 + (n - i) + n + ((n - i) + (n - i) * n) ≤ 1600; omega) d_K_init_51 (fun q6 r7 H hi7 hr7 hq6 hh => ?_)
  obtain ⟨L9, hL9⟩ : ∃ x : List Nat, x = (L7 ++ (List.range (n - i)).map r7) ++ [q6] := ⟨_, rfl⟩
  obtain ⟨f9, hf9⟩ : ∃ x : Nat → va_E, x = va_up (vr_up f8 ((List.range (n - i)).map r7) (hl_row g n (fun _ => 0))) q6 (hl_grd g (n - i) (fun j0 => if j0 < n - i then some (r7 j0) else none)) := ⟨_, rfl⟩
  have hh : hl_H g (hm_A sz L) s.heap L9 f9 H locs := by rw [hL9, hf9]; exact hh
  have ne_hpk_oE : k ≠ q6 := fun e0 => hq6 (by rw [← e0]; exact List.mem_append_left _ hpk8.1)
  have ne_hpk_rE : ∀ j, j < n - i → k ≠ r7 j := fun j hj e0 => hr7 j hj (by rw [← e0]; exact hpk8.1)
  have ne_oA_oE : q1 ≠ q6 := fun e0 => hq6 (by rw [← e0]; exact List.mem_append_left _ oA8.1)
  have ne_oA_rE : ∀ j, j < n - i → q1 ≠ r7 j := fun j hj e0 => hr7 j hj (by rw [← e0]; exact oA8.1)
  have ne_oB_oE : q3 ≠ q6 := fun e0 => hq6 (by rw [← e0]; exact List.mem_append_left _ oB8.1)
  have ne_oB_rE : ∀ j, j < n - i → q3 ≠ r7 j := fun j hj e0 => hr7 j hj (by rw [← e0]; exact oB8.1)
  have ne_oC_oE : q4 ≠ q6 := fun e0 => hq6 (by rw [← e0]; exact List.mem_append_left _ oC8.1)
  have ne_oC_rE : ∀ j, j < n - i → q4 ≠ r7 j := fun j hj e0 => hr7 j hj (by rw [← e0]; exact oC8.1)
  have ne_oD_oE : q5 ≠ q6 := fun e0 => hq6 (by rw [← e0]; exact List.mem_append_left _ oD8.1)
  have ne_oD_rE : ∀ j, j < n - i → q5 ≠ r7 j := fun j hj e0 => hr7 j hj (by rw [← e0]; exact oD8.1)
  have ne_rA_oE : ∀ j, j < (n - i) * 3 / 2 → r1 j ≠ q6 := fun j hj e0 => hq6 (by rw [← e0]; exact List.mem_append_left _ (rA8 j hj).1)
  have ne_rA_rE : ∀ j, j < (n - i) * 3 / 2 → ∀ j2, j2 < n - i → r1 j ≠ r7 j2 := fun j hj j2 hj2 e0 => hr7 j2 hj2 (by rw [← e0]; exact (rA8 j hj).1)
  have E9 : hl_ext L7 f8 L9 f9 := by rw [hL9, hf9]; exact hl_ext_mna hr7 hq6
  have hpk9 := (⟨(E9 _ hpk8.1).1, (E9 _ hpk8.1).2.trans hpk8.2⟩ : k ∈ L9 ∧ f9 k = _)
  have oA9 := (⟨(E9 _ oA8.1).1, (E9 _ oA8.1).2.trans oA8.2⟩ : q1 ∈ L9 ∧ f9 q1 = _)
  have oB9 := (⟨(E9 _ oB8.1).1, (E9 _ oB8.1).2.trans oB8.2⟩ : q3 ∈ L9 ∧ f9 q3 = _)
  have oC9 := (⟨(E9 _ oC8.1).1, (E9 _ oC8.1).2.trans oC8.2⟩ : q4 ∈ L9 ∧ f9 q4 = _)
  have oD9 := (⟨(E9 _ oD8.1).1, (E9 _ oD8.1).2.trans oD8.2⟩ : q5 ∈ L9 ∧ f9 q5 = _)
  have rA9 := fun j (hj : j < (n - i) * 3 / 2) => (⟨(E9 _ (rA8 j hj).1).1, (E9 _ (rA8 j hj).1).2.trans (rA8 j hj).2⟩ : r1 j ∈ L9 ∧ f9 (r1 j) = _)
  have oE9 : q6 ∈ L9 ∧ f9 q6 = hl_grd g (n - i) (fun j0 => if j0 < n - i then some (r7 j0) else none) := ⟨by rw [hL9]; exact List.mem_append_right _ (List.mem_singleton.2 rfl), by rw [hf9, va_up_self]⟩
  have rE9 : ∀ j, j < n - i → r7 j ∈ L9 ∧ f9 (r7 j) = hl_row g n (fun _ => 0) := fun j hj => by rw [hL9, hf9]; exact hl_mna_row hj hq6
  have ne_rE_oE : ∀ j, j < n - i → r7 j ≠ q6 := fun j hj e0 => hq6 (by rw [← e0]; exact List.mem_append_right _ (List.mem_map.2 ⟨j, List.mem_range.2 hj, rfl⟩))
  refine hl_putF X hK hh hnm (ref := "CycleGroups$Link") i_K t_K t_K_ok n_K (ci := 3) rfl 6 (by decide) w_126 rfl rfl rfl hpk9.1 hpk9.2 (by first | rfl | decide) (by first | rfl | decide) (Nat.le_of_ble_eq_true rfl) d_K_init_55 (fun H locs hh => ?_)
  obtain ⟨f10, hf10⟩ : ∃ x : Nat → va_E, x = va_up f9 k (.inr (3, [.ref q1, .int 0, .ref q3, .ref q4, .int 0, .ref q5, .ref q6])) := ⟨_, rfl⟩
  have hh : hl_H g (hm_A sz L) s.heap L9 f10 H locs := by rw [hf10]; exact hh
  have oA10 := (⟨oA9.1, (congrFun hf10 q1).trans ((va_up_ne _ _ (Ne.symm ne_hpk_oA)).trans oA9.2)⟩ : q1 ∈ L9 ∧ f10 q1 = _)
  have oB10 := (⟨oB9.1, (congrFun hf10 q3).trans ((va_up_ne _ _ (Ne.symm ne_hpk_oB)).trans oB9.2)⟩ : q3 ∈ L9 ∧ f10 q3 = _)
  have oC10 := (⟨oC9.1, (congrFun hf10 q4).trans ((va_up_ne _ _ (Ne.symm ne_hpk_oC)).trans oC9.2)⟩ : q4 ∈ L9 ∧ f10 q4 = _)
  have oD10 := (⟨oD9.1, (congrFun hf10 q5).trans ((va_up_ne _ _ (Ne.symm ne_hpk_oD)).trans oD9.2)⟩ : q5 ∈ L9 ∧ f10 q5 = _)
  have oE10 := (⟨oE9.1, (congrFun hf10 q6).trans ((va_up_ne _ _ (Ne.symm ne_hpk_oE)).trans oE9.2)⟩ : q6 ∈ L9 ∧ f10 q6 = _)
  have rA10 := fun j (hj : j < (n - i) * 3 / 2) => (⟨(rA9 j hj).1, (congrFun hf10 (r1 j)).trans ((va_up_ne _ _ (Ne.symm (ne_hpk_rA j hj))).trans (rA9 j hj).2)⟩ : r1 j ∈ L9 ∧ f10 (r1 j) = _)
  have rE10 := fun j (hj : j < n - i) => (⟨(rE9 j hj).1, (congrFun hf10 (r7 j)).trans ((va_up_ne _ _ (Ne.symm (ne_hpk_rE j hj))).trans (rE9 j hj).2)⟩ : r7 j ∈ L9 ∧ f10 (r7 j) = _)
  have hpk10 : k ∈ L9 ∧ f10 k = .inr (3, [.ref q1, .int 0, .ref q3, .ref q4, .int 0, .ref q5, .ref q6]) := ⟨hpk9.1, by rw [hf10, va_up_self]⟩
  refine lv_aload_n X.1 X.2.1 d_K_init_58 rfl (lv_at hl 2 rfl) ?_
  refine hl_get X hK hh (ref := "CycleGroups$Link") i_K (ci := 3) rfl 5 (by decide) w_125 rfl hpk10.1 hpk10.2 rfl d_K_init_59 ?_
  refine lv_iconst (v := -1) X.1 X.2.1 d_K_init_62 (by decide) ?_
  refine hl_callv hh (hl_runS (k := 2) X hK hh (c_A_fill l g _ L9 f10 q5 n (-1) _ oD10.1 oD10.2 (by omega)) wc_A_fill w_116 w_8 wi_A_fill (by decide +kernel) rfl rfl ⟨Nat.le_of_ble_eq_true rfl, Nat.le_of_ble_eq_true rfl⟩ rfl rfl (Nat.le_of_ble_eq_true rfl) hl.1 d_K_init_63 ⟨by show 0 + 1 + (n - i) * 3 / 2 + 1 + 1 + 1 + 1 + (n - i) + 0 ≤ 65; omega, by show 0 + (n - i) * 3 / 2 + (n - i) * 3 / 2 * n + (n - i) * 3 / 2 + (n - i) + n + (n - i) + (n - i) * n + 0 ≤ 1600; omega⟩) (fun u H locs hp hh => ?_)
  subst hp
  obtain ⟨f11, hf11⟩ : ∃ x : Nat → va_E, x = va_up f10 q5 (hl_row g n (fun _ => -1)) := ⟨_, rfl⟩
  have hh : hl_H g (hm_A sz L) s.heap L9 f11 H locs := by rw [hf11]; exact hh
  have hpk11 := (⟨hpk10.1, (congrFun hf11 k).trans ((va_up_ne _ _ ne_hpk_oD).trans hpk10.2)⟩ : k ∈ L9 ∧ f11 k = _)
  have oA11 := (⟨oA10.1, (congrFun hf11 q1).trans ((va_up_ne _ _ ne_oA_oD).trans oA10.2)⟩ : q1 ∈ L9 ∧ f11 q1 = _)
  have oB11 := (⟨oB10.1, (congrFun hf11 q3).trans ((va_up_ne _ _ ne_oB_oD).trans oB10.2)⟩ : q3 ∈ L9 ∧ f11 q3 = _)
  have oC11 := (⟨oC10.1, (congrFun hf11 q4).trans ((va_up_ne _ _ ne_oC_oD).trans oC10.2)⟩ : q4 ∈ L9 ∧ f11 q4 = _)
  have oE11 := (⟨oE10.1, (congrFun hf11 q6).trans ((va_up_ne _ _ (Ne.symm ne_oD_oE)).trans oE10.2)⟩ : q6 ∈ L9 ∧ f11 q6 = _)
  have rA11 := fun j (hj : j < (n - i) * 3 / 2) => (⟨(rA10 j hj).1, (congrFun hf11 (r1 j)).trans ((va_up_ne _ _ (ne_rA_oD j hj)).trans (rA10 j hj).2)⟩ : r1 j ∈ L9 ∧ f11 (r1 j) = _)
  have rE11 := fun j (hj : j < n - i) => (⟨(rE10 j hj).1, (congrFun hf11 (r7 j)).trans ((va_up_ne _ _ (Ne.symm (ne_oD_rE j hj))).trans (rE10 j hj).2)⟩ : r7 j ∈ L9 ∧ f11 (r7 j) = _)
  have oD11 : q5 ∈ L9 ∧ f11 q5 = hl_row g n (fun _ => -1) := ⟨oD10.1, by rw [hf11, va_up_self]⟩
  refine lv_aload_n X.1 X.2.1 d_K_init_66 rfl (lv_at hl 2 rfl) ?_
  refine hl_get X hK hh (ref := "CycleGroups$Link") i_K (ci := 3) rfl 3 (by decide) w_123 rfl hpk11.1 hpk11.2 rfl d_K_init_67 ?_
  refine lv_iconst (v := nI 0) X.1 X.2.1 d_K_init_70 (by decide) ?_
  refine lv_iload_n X.1 X.2.1 d_K_init_71 rfl (lv_at hl 3 rfl) ?_
  refine hl_iastN X hK hh oC11.1 oC11.2 (by omega) (by omega) d_K_init_72 (fun H locs hh => ?_)
  obtain ⟨f12, hf12⟩ : ∃ x : Nat → va_E, x = va_up f11 q4 (hl_nat g (n - i) (va_up (fun _ => 0) 0 i)) := ⟨_, rfl⟩
  have hh : hl_H g (hm_A sz L) s.heap L9 f12 H locs := by rw [hf12]; exact hh
  have hpk12 := (⟨hpk11.1, (congrFun hf12 k).trans ((va_up_ne _ _ ne_hpk_oC).trans hpk11.2)⟩ : k ∈ L9 ∧ f12 k = _)
  have oA12 := (⟨oA11.1, (congrFun hf12 q1).trans ((va_up_ne _ _ ne_oA_oC).trans oA11.2)⟩ : q1 ∈ L9 ∧ f12 q1 = _)
  have oB12 := (⟨oB11.1, (congrFun hf12 q3).trans ((va_up_ne _ _ ne_oB_oC).trans oB11.2)⟩ : q3 ∈ L9 ∧ f12 q3 = _)
  have oD12 := (⟨oD11.1, (congrFun hf12 q5).trans ((va_up_ne _ _ (Ne.symm ne_oC_oD)).trans oD11.2)⟩ : q5 ∈ L9 ∧ f12 q5 = _)
  have oE12 := (⟨oE11.1, (congrFun hf12 q6).trans ((va_up_ne _ _ (Ne.symm ne_oC_oE)).trans oE11.2)⟩ : q6 ∈ L9 ∧ f12 q6 = _)
  have rA12 := fun j (hj : j < (n - i) * 3 / 2) => (⟨(rA11 j hj).1, (congrFun hf12 (r1 j)).trans ((va_up_ne _ _ (ne_rA_oC j hj)).trans (rA11 j hj).2)⟩ : r1 j ∈ L9 ∧ f12 (r1 j) = _)
  have rE12 := fun j (hj : j < n - i) => (⟨(rE11 j hj).1, (congrFun hf12 (r7 j)).trans ((va_up_ne _ _ (Ne.symm (ne_oC_rE j hj))).trans (rE11 j hj).2)⟩ : r7 j ∈ L9 ∧ f12 (r7 j) = _)
  have oC12 : q4 ∈ L9 ∧ f12 q4 = hl_nat g (n - i) (va_up (fun _ => 0) 0 i) := ⟨oC11.1, by rw [hf12, va_up_self]⟩
  refine lv_aload_n X.1 X.2.1 d_K_init_73 rfl (lv_at hl 2 rfl) ?_
  refine hl_get X hK hh (ref := "CycleGroups$Link") i_K (ci := 3) rfl 5 (by decide) w_125 rfl hpk12.1 hpk12.2 rfl d_K_init_74 ?_
  refine lv_iload_n X.1 X.2.1 d_K_init_77 rfl (lv_at hl 3 rfl) ?_
  refine lv_iconst (v := nI 0) X.1 X.2.1 d_K_init_78 (by decide) ?_
  refine hl_iast X hK hh oD12.1 oD12.2 (by omega) (by omega) d_K_init_79 (fun H locs hh => ?_)
  obtain ⟨f13, hf13⟩ : ∃ x : Nat → va_E, x = va_up f12 q5 (hl_row g n (va_up (fun _ => -1) i (nI 0))) := ⟨_, rfl⟩
  have hh : hl_H g (hm_A sz L) s.heap L9 f13 H locs := by rw [hf13]; exact hh
  have hpk13 := (⟨hpk12.1, (congrFun hf13 k).trans ((va_up_ne _ _ ne_hpk_oD).trans hpk12.2)⟩ : k ∈ L9 ∧ f13 k = _)
  have oA13 := (⟨oA12.1, (congrFun hf13 q1).trans ((va_up_ne _ _ ne_oA_oD).trans oA12.2)⟩ : q1 ∈ L9 ∧ f13 q1 = _)
  have oB13 := (⟨oB12.1, (congrFun hf13 q3).trans ((va_up_ne _ _ ne_oB_oD).trans oB12.2)⟩ : q3 ∈ L9 ∧ f13 q3 = _)
  have oC13 := (⟨oC12.1, (congrFun hf13 q4).trans ((va_up_ne _ _ ne_oC_oD).trans oC12.2)⟩ : q4 ∈ L9 ∧ f13 q4 = _)
  have oE13 := (⟨oE12.1, (congrFun hf13 q6).trans ((va_up_ne _ _ (Ne.symm ne_oD_oE)).trans oE12.2)⟩ : q6 ∈ L9 ∧ f13 q6 = _)
  have rA13 := fun j (hj : j < (n - i) * 3 / 2) => (⟨(rA12 j hj).1, (congrFun hf13 (r1 j)).trans ((va_up_ne _ _ (ne_rA_oD j hj)).trans (rA12 j hj).2)⟩ : r1 j ∈ L9 ∧ f13 (r1 j) = _)
  have rE13 := fun j (hj : j < n - i) => (⟨(rE12 j hj).1, (congrFun hf13 (r7 j)).trans ((va_up_ne _ _ (Ne.symm (ne_oD_rE j hj))).trans (rE12 j hj).2)⟩ : r7 j ∈ L9 ∧ f13 (r7 j) = _)
  have oD13 : q5 ∈ L9 ∧ f13 q5 = hl_row g n (va_up (fun _ => -1) i (nI 0)) := ⟨oD12.1, by rw [hf13, va_up_self]⟩
  refine lv_aload_n X.1 X.2.1 d_K_init_80 rfl (lv_at hl 2 rfl) ?_
  refine lv_iconst (v := nI 1) X.1 X.2.1 d_K_init_81 (by decide) ?_
  refine hl_put X hK hh (ref := "CycleGroups$Link") i_K t_K t_K_ok n_K (ci := 3) rfl 4 (by decide) w_124 rfl rfl hpk13.1 hpk13.2 (by first | rfl | decide) (by first | rfl | decide) (Nat.le_of_ble_eq_true rfl) d_K_init_82 (fun H locs hh => ?_)
  obtain ⟨f14, hf14⟩ : ∃ x : Nat → va_E, x = va_up f13 k (.inr (3, [.ref q1, .int 0, .ref q3, .ref q4, .int (nI 1), .ref q5, .ref q6])) := ⟨_, rfl⟩
  have hh : hl_H g (hm_A sz L) s.heap L9 f14 H locs := by rw [hf14]; exact hh
  have oA14 := (⟨oA13.1, (congrFun hf14 q1).trans ((va_up_ne _ _ (Ne.symm ne_hpk_oA)).trans oA13.2)⟩ : q1 ∈ L9 ∧ f14 q1 = _)
  have oB14 := (⟨oB13.1, (congrFun hf14 q3).trans ((va_up_ne _ _ (Ne.symm ne_hpk_oB)).trans oB13.2)⟩ : q3 ∈ L9 ∧ f14 q3 = _)
  have oC14 := (⟨oC13.1, (congrFun hf14 q4).trans ((va_up_ne _ _ (Ne.symm ne_hpk_oC)).trans oC13.2)⟩ : q4 ∈ L9 ∧ f14 q4 = _)
  have oD14 := (⟨oD13.1, (congrFun hf14 q5).trans ((va_up_ne _ _ (Ne.symm ne_hpk_oD)).trans oD13.2)⟩ : q5 ∈ L9 ∧ f14 q5 = _)
  have oE14 := (⟨oE13.1, (congrFun hf14 q6).trans ((va_up_ne _ _ (Ne.symm ne_hpk_oE)).trans oE13.2)⟩ : q6 ∈ L9 ∧ f14 q6 = _)
  have rA14 := fun j (hj : j < (n - i) * 3 / 2) => (⟨(rA13 j hj).1, (congrFun hf14 (r1 j)).trans ((va_up_ne _ _ (Ne.symm (ne_hpk_rA j hj))).trans (rA13 j hj).2)⟩ : r1 j ∈ L9 ∧ f14 (r1 j) = _)
  have rE14 := fun j (hj : j < n - i) => (⟨(rE13 j hj).1, (congrFun hf14 (r7 j)).trans ((va_up_ne _ _ (Ne.symm (ne_hpk_rE j hj))).trans (rE13 j hj).2)⟩ : r7 j ∈ L9 ∧ f14 (r7 j) = _)
  have hpk14 : k ∈ L9 ∧ f14 k = .inr (3, [.ref q1, .int 0, .ref q3, .ref q4, .int (nI 1), .ref q5, .ref q6]) := ⟨hpk13.1, by rw [hf14, va_up_self]⟩
  refine lv_aload_n X.1 X.2.1 d_K_init_85 rfl (lv_at hl 2 rfl) ?_
  refine hl_get X hK hh (ref := "CycleGroups$Link") i_K (ci := 3) rfl 6 (by decide) w_126 rfl hpk14.1 hpk14.2 rfl d_K_init_86 ?_
  refine lv_iconst (v := nI 0) X.1 X.2.1 d_K_init_89 (by decide) ?_
  refine hl_aaldG X hK hh oE14.1 oE14.2 (by omega) (by omega) (if_pos (by omega)) d_K_init_90 ?_
  refine hl_callv hh (hl_runSN (k := 1) X hK hh (c_C_leaveAll l g _ L9 f14 (r7 0) n (fun _ => 0) (rE14 0 (by omega)).1 (rE14 0 (by omega)).2 (by omega)) wc_C_leaveAll hK.2.2.2.1 w_1 wi_C_leaveAll (by decide +kernel) rfl rfl ⟨Nat.le_of_ble_eq_true rfl, Nat.le_of_ble_eq_true rfl⟩ rfl rfl (Nat.le_of_ble_eq_true rfl) hl.1 d_K_init_91 ⟨by show 0 + 1 + (n - i) * 3 / 2 + 1 + 1 + 1 + 1 + (n - i) + 0 + 0 ≤ 65; omega, by show 0 + (n - i) * 3 / 2 + (n - i) * 3 / 2 * n + (n - i) * 3 / 2 + (n - i) + n + (n - i) + (n - i) * n + 0 + 0 ≤ 1600; omega⟩) (fun u H locs hp hh => ?_)
  subst hp
  have hf0 : 0 < n - i := by omega
  have nr : ∀ a, (∀ j, j < n - i → a ≠ r7 j) → va_up f14 (r7 0) (hl_nat g n id) a = f14 a := fun a h => va_up_ne _ _ (h 0 hf0)
  have m1 : ∀ q, q ∈ L → q ∈ L1 := fun q h => (E1 q h).1
  have m3 : ∀ q, q ∈ L → q ∈ L3 := fun q h => (E3 q (m1 q h)).1
  have m5 : ∀ q, q ∈ L → q ∈ L5 := fun q h => (E5 q (m3 q h)).1
  have m7 : ∀ q, q ∈ L → q ∈ L7 := fun q h => (E7 q (m5 q h)).1
  have m9 : ∀ q, q ∈ L → q ∈ L9 := fun q h => (E9 q (m7 q h)).1
  have x1 : ∀ q, q ∈ L → q ≠ q1 := fun q h e0 => hq1 (by rw [← e0]; exact List.mem_append_left _ h)
  have x2 : ∀ q, q ∈ L → ∀ j, j < (n - i) * 3 / 2 → r1 j ≠ q := fun q h j hj e0 => hr1 j hj (by rw [e0]; exact h)
  have x3 : ∀ q, q ∈ L → q ≠ q3 := fun q h e0 => hq3 (e0 ▸ m1 q h)
  have x4 : ∀ q, q ∈ L → q ≠ q4 := fun q h e0 => hq4 (e0 ▸ m3 q h)
  have x5 : ∀ q, q ∈ L → q ≠ q5 := fun q h e0 => hq5 (e0 ▸ m5 q h)
  have x6 : ∀ q, q ∈ L → q ≠ q6 := fun q h e0 => hq6 (by rw [← e0]; exact List.mem_append_left _ (m7 q h))
  have x7 : ∀ q, q ∈ L → ∀ j, j < n - i → r7 j ≠ q := fun q h j hj e0 => hr7 j hj (by rw [e0]; exact m7 q h)
  let T0 : Nat → Nat := va_up (va_up (va_up (va_up (va_up T q1 (100 + 1536 * 1 + 64 * i)) q3 (100 + 1536 * 3 + 64 * i)) q4 (100 + 1536 * 4 + 64 * i)) q5 (100 + 1536 * 5 + 64 * i)) q6 (100 + 1536 * 6 + 64 * i)
  let T1 : Nat → Nat := tg_rows (tg_rows T0 r1 ((n - i) * 3 / 2) (100 + 1536 * 2 + 64 * i)) r7 (n - i) (100 + 1536 * 7 + 64 * i)
  have hT1 : ∀ q, (∀ j, j < n - i → r7 j ≠ q) → (∀ j, j < (n - i) * 3 / 2 → r1 j ≠ q) → T1 q = T0 q := fun q h1 h2 => (tg_rows_out h1).trans (tg_rows_out h2)
  have hTL : ∀ q, q ∈ L → T1 q = T q := fun q h => by
    rw [hT1 q (x7 q h) (x2 q h)]
    show va_up (va_up (va_up (va_up (va_up T q1 _) q3 _) q4 _) q5 _) q6 _ q = T q
    rw [va_up_ne _ _ (x6 q h), va_up_ne _ _ (x5 q h), va_up_ne _ _ (x4 q h), va_up_ne _ _ (x3 q h), va_up_ne _ _ (x1 q h)]
  let ad1 : Nat → Nat → Nat → Nat := fun k1 i1 j => if i1 = i then (if k1 = 0 then k else if k1 = 1 then q1 else if k1 = 2 then r1 j else if k1 = 3 then q3 else if k1 = 4 then q4 else if k1 = 5 then q5 else if k1 = 6 then q6 else r7 j) else ad k1 i1 j
  have ha0 : ∀ j, ad1 0 i j = k := fun j => by simp [ad1]
  have ha1 : ∀ j, ad1 1 i j = q1 := fun j => by simp [ad1]
  have ha2 : ∀ j, ad1 2 i j = r1 j := fun j => by simp [ad1]
  have ha3 : ∀ j, ad1 3 i j = q3 := fun j => by simp [ad1]
  have ha4 : ∀ j, ad1 4 i j = q4 := fun j => by simp [ad1]
  have ha5 : ∀ j, ad1 5 i j = q5 := fun j => by simp [ad1]
  have ha6 : ∀ j, ad1 6 i j = q6 := fun j => by simp [ad1]
  have ha7 : ∀ j, ad1 7 i j = r7 j := fun j => by simp [ad1]
  have hTT : lk_T T1 ad1 n i := by
    intro k1 j hk1 hj
    match k1, hk1, hj with
    | 0, _, hj => rw [show j = 0 from hj, ha0, hTL k hk]; omega
    | 1, _, hj =>
      rw [show j = 0 from hj, ha1, hT1 q1 (fun j hj => Ne.symm (ne_oA_rE j hj)) ne_rA_oA]
      show va_up (va_up (va_up (va_up (va_up T q1 _) q3 _) q4 _) q5 _) q6 _ q1 = _
      rw [va_up_ne _ _ ne_oA_oE, va_up_ne _ _ ne_oA_oD, va_up_ne _ _ ne_oA_oC, va_up_ne _ _ ne_oA_oB, va_up_self]
      rfl
    | 2, _, hj =>
      have hj : j < (n - i) * 3 / 2 := hj
      rw [ha2]
      exact (tg_rows_out (fun j2 hj2 => Ne.symm (ne_rA_rE j hj j2 hj2))).trans (tg_rows_in hi1 hj)
    | 3, _, hj =>
      rw [show j = 0 from hj, ha3, hT1 q3 (fun j hj => Ne.symm (ne_oB_rE j hj)) ne_rA_oB]
      show va_up (va_up (va_up (va_up (va_up T q1 _) q3 _) q4 _) q5 _) q6 _ q3 = _
      rw [va_up_ne _ _ ne_oB_oE, va_up_ne _ _ ne_oB_oD, va_up_ne _ _ ne_oB_oC, va_up_self]
      rfl
    | 4, _, hj =>
      rw [show j = 0 from hj, ha4, hT1 q4 (fun j hj => Ne.symm (ne_oC_rE j hj)) ne_rA_oC]
      show va_up (va_up (va_up (va_up (va_up T q1 _) q3 _) q4 _) q5 _) q6 _ q4 = _
      rw [va_up_ne _ _ ne_oC_oE, va_up_ne _ _ ne_oC_oD, va_up_self]
      rfl
    | 5, _, hj =>
      rw [show j = 0 from hj, ha5, hT1 q5 (fun j hj => Ne.symm (ne_oD_rE j hj)) ne_rA_oD]
      show va_up (va_up (va_up (va_up (va_up T q1 _) q3 _) q4 _) q5 _) q6 _ q5 = _
      rw [va_up_ne _ _ ne_oD_oE, va_up_self]
      rfl
    | 6, _, hj =>
      rw [show j = 0 from hj, ha6, hT1 q6 (fun j hj => ne_rE_oE j hj) ne_rA_oE]
      show va_up (va_up (va_up (va_up (va_up T q1 _) q3 _) q4 _) q5 _) q6 _ q6 = _
      rw [va_up_self]
      rfl
    | 7, _, hj =>
      have hj : j < n - i := hj
      rw [ha7]
      exact tg_rows_in hi7 hj
    | k1 + 8, hk1, _ => omega
  have e5 : va_up (fun _ => (-1 : Int32)) i (nI 0) = fun p => oI (if p = i then some 0 else none) := by
    funext p
    by_cases e0 : p = i
    · rw [e0, va_up_self, if_pos rfl]; rfl
    · rw [va_up_ne _ _ e0, if_neg e0]; rfl
  have hP1 : lk_P g L9 (va_up f14 (r7 0) (hl_nat g n id)) ad1 n i 0 (fun _ _ => 0) (fun _ => 0) 1 (va_up (fun _ => 0) 0 i) (fun p => if p = i then some 0 else none) (fun j => if j = 0 then id else fun _ => 0) := by
    unfold lk_P
    simp only [ha0, ha1, ha2, ha3, ha4, ha5, ha6, ha7]
    refine ⟨⟨hpk14.1, (nr k (fun j hj => ne_hpk_rE j hj)).trans hpk14.2⟩, ⟨oA14.1, (nr q1 (fun j hj => ne_oA_rE j hj)).trans oA14.2⟩, fun j hj => ⟨(rA14 j hj).1, (nr (r1 j) (fun j2 hj2 => ne_rA_rE j hj j2 hj2)).trans (rA14 j hj).2⟩,
      ⟨oB14.1, (nr q3 (fun j hj => ne_oB_rE j hj)).trans oB14.2⟩, ⟨oC14.1, (nr q4 (fun j hj => ne_oC_rE j hj)).trans oC14.2⟩, ⟨oD14.1, ?_⟩, ⟨oE14.1, (nr q6 (fun j hj => Ne.symm (ne_rE_oE j hj))).trans oE14.2⟩, fun j hj => ⟨(rE14 j hj).1, ?_⟩⟩
    · rw [nr q5 (fun j hj => ne_oD_rE j hj), oD14.2, e5]
    · by_cases e0 : j = 0
      · subst e0
        rw [va_up_self, if_pos rfl]
      · rw [va_up_ne _ _ (fun e1 => e0 (hi7 j 0 hj hf0 e1)), if_neg e0]
        exact (rE14 j hj).2
  have hW1 : lk_W n i 0 (fun _ _ => 0) (fun _ => 0) 1 (va_up (fun _ => 0) 0 i) (fun p => if p = i then some 0 else none) (fun j => if j = 0 then id else fun _ => 0) := by
    refine ⟨hn, hi, Nat.zero_le _, fun j hj => absurd hj (Nat.not_lt_zero _), by decide, by omega, va_up_self .., fun s hs => ?_, fun p hp s => ?_, fun s hs => ?_, fun j hj => absurd hj (Nat.not_lt_zero _)⟩
    · have e0 : s = 0 := by omega
      rw [e0, va_up_self]; omega
    · show (if p = i then some 0 else none) = some s ↔ s < 1 ∧ va_up (fun _ => 0) 0 i s = p
      by_cases e0 : p = i
      · rw [if_pos e0]
        constructor
        · intro e2
          cases e2
          exact ⟨by decide, by rw [va_up_self, e0]⟩
        · rintro ⟨hs, _⟩
          have e2 : s = 0 := by omega
          rw [e2]
      · rw [if_neg e0]
        constructor
        · intro e2; cases e2
        · rintro ⟨hs, e2⟩
          have e3 : s = 0 := by omega
          rw [e3, va_up_self] at e2
          exact absurd e2.symm e0
    · have e0 : s = 0 := by omega
      rw [e0]
      exact (gp_sym_sg _).1
  refine hm_vret X hr hlk hh ⟨L9, _, T1, ad1, _, _, _, _, _, rfl, fun q h => ⟨?_, hTL q h⟩, fun q h hqk => ?_, fun i1 hi1 k1 j => by simp [ad1, hi1], ha0 0, hTT, hP1, hW1, rfl⟩ (by omega) (by omega) d_K_init_94
  · exact m9 q h
  · show va_up f14 (r7 0) (hl_nat g n id) q = f q
    rw [nr q (fun j hj => Ne.symm (x7 q h j hj)), hf14, va_up_ne _ _ hqk, hf13, va_up_ne _ _ (x5 q h), hf12, va_up_ne _ _ (x4 q h), hf11, va_up_ne _ _ (x5 q h), hf10, va_up_ne _ _ hqk, (E9 q (m7 q h)).2, hf8, va_up_ne _ _ hqk, (E7 q (m5 q h)).2, hf6, va_up_ne _ _ hqk, (E5 q (m3 q h)).2, hf4, va_up_ne _ _ hqk, (E3 q (m1 q h)).2, hf2, va_up_ne _ _ hqk, (E1 q h).2]
end

