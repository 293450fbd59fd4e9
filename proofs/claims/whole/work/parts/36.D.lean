/-! java.util.Arrays.fill; the class Decimal, but for its constructor. -/
section
theorem hl_ne {T : Nat → Nat} {a b : Nat} (h : T a ≠ T b) : a ≠ b := fun e => h (congrArg T e)

/-- the state as one row of it changed, or not at all -/
theorem hl_same {g : hl_G} {A : Nat → Prop} {H0 H : Heap} {L : List Nat} {f : Nat → va_E} {locs : List Loc} {a : Nat} {x : va_E} (hfa : f a = x) (h : hl_H g A H0 L f H locs) : hl_H g A H0 L (va_up f a x) H locs := by
  rw [← hfa, hr_id]; exact h

/-- public static void fill(int[] a, int val) -/
theorem c_A_fill (l : Launch) (g : hl_G) (sz : Nat) (L : List Nat) (f : Nat → va_E) (a n : Nat) (v : Int32) (z : Nat → Int32) (ha : a ∈ L) (hfa : f a = hl_row g n z) (hn : n < 2 ^ 31) :
    Met l y_A_fill (hq y_A_fill b_A_fill 4 none) { frames := 0, cells := 0, slots := 0, locals := 0 } (hm_P g [.ref a, .int v] sz L f) (va_Qv (fun u => u = (L, va_up f a (hl_row g n (fun _ => v)))) (hm_B g sz L) (hm_A sz L)) 0 0 (hm_A sz L) := by
  refine hm_ofW (by decide) (Nat.le_of_ble_eq_true rfl) ?_
  intro p e s m below meth c X hr hlk hnm hK hsz hh ls hl
  have hl : lv_has ls 4 [(0, .ref a), (1, .int v)] := hl
  have loop : ∀ (k i : Nat) (z : Nat → Int32) (H : Heap) (locs : List Loc) (ls : Array Slot), n + 1 ≤ i + k → i ≤ n → (∀ p, p < i → z p = v) →
      hl_H g (hm_A sz L) s.heap L (va_up f a (hl_row g n z)) H locs → lv_has ls 4 [(3, .int (nI n)), (2, .int (nI i)), (0, .ref a), (1, .int v)] →
      W p l e { frames := 0, cells := 0, slots := 0, locals := 0 } s m #[.ref a, .int v] below meth c H locs 0 0 (MQ below (va_Qv (fun u => u = (L, va_up f a (hl_row g n (fun _ => v)))) (hm_B g sz L) (hm_A sz L)) #[.ref a, .int v] s 0 0 (hm_A sz L)) (F0 m 5 ls []) := by
    intro k
    induction k with
    | zero => intros; omega
    | succ k ih =>
      intro i z H locs ls hki hin hz hh hl
      refine lv_iload_n X.1 X.2.1 d_A_fill_5 rfl (lv_at hl 1 rfl) ?_
      refine lv_iload_n X.1 X.2.1 d_A_fill_6 rfl (lv_at hl 0 rfl) ?_
      refine hn_ige (tgt := 20) X (by omega) (by omega) d_A_fill_7 (by decide) (fun hc => ?_) (fun hc => ?_)
      · have hh := hl_norm (w := fun _ => v) hh (fun p hp => hz p (by omega))
        exact hm_vret X hr hlk hh rfl (Nat.le_of_ble_eq_true rfl) (Nat.le_of_ble_eq_true rfl) d_A_fill_20
      · skip
        refine lv_aload_n X.1 X.2.1 d_A_fill_10 rfl (lv_at hl 2 rfl) ?_
        refine lv_iload_n X.1 X.2.1 d_A_fill_11 rfl (lv_at hl 1 rfl) ?_
        refine lv_iload_n X.1 X.2.1 d_A_fill_12 rfl (lv_at hl 3 rfl) ?_
        refine hl_iast X hK hh ha (va_up_self ..) (by omega) (by omega) d_A_fill_13 (fun H locs hh => ?_)
        rw [hr_uu] at hh
        refine lv_iinc (v := nI (i + 1)) (lv' := [(2, .int (nI (i + 1))), (3, .int (nI n)), (0, .ref a), (1, .int v)]) X.1 X.2.1 d_A_fill_14 hl (k := 1) rfl (hn_inc _) (by decide) rfl (fun ls hl => ?_)
        refine lv_goto (tgt := 5) X.1 X.2.1 d_A_fill_17 (by decide) ?_
        refine ih (i + 1) (va_up z i v) H locs ls (by omega) (by omega) (fun p hp => ?_) hh (lv_sub hl [1, 0, 2, 3] rfl)
        by_cases hpi : p = i
        · rw [hpi, va_up_self]
        · rw [va_up_ne _ _ hpi]; exact hz p (by omega)
  refine lv_iconst (v := nI 0) X.1 X.2.1 d_A_fill_0 (by decide) ?_
  refine lv_istore_n (lv' := [(2, .int (nI 0)), (0, .ref a), (1, .int v)]) X.1 X.2.1 d_A_fill_1 rfl hl (by decide) rfl (fun ls hl => ?_)
  refine lv_aload_n X.1 X.2.1 d_A_fill_2 rfl (lv_at hl 1 rfl) ?_
  refine hl_alenI X hK hh ha hfa d_A_fill_3 ?_
  refine lv_istore_n (lv' := [(3, .int (nI n)), (2, .int (nI 0)), (0, .ref a), (1, .int v)]) X.1 X.2.1 d_A_fill_4 rfl hl (by decide) rfl (fun ls hl => ?_)
  exact loop (n + 1) 0 z s.heap [] ls (by omega) (by omega) (fun p hp => absurd hp (Nat.not_lt_zero _)) (hl_same hfa hh) hl

/-- void setOne() -/
theorem c_D_setOne (l : Launch) (g : hl_G) (sz : Nat) (L : List Nat) (f : Nat → va_E) (o a : Nat) (z : Nat → Nat) (ho : o ∈ L) (hfo : f o = .inr (2, [.ref a])) (ha : a ∈ L) (hfa : f a = hl_nat g 24 z) (hoa : o ≠ a) :
    Met l y_D_setOne (hq y_D_setOne b_D_setOne 1 none) { frames := 1, cells := 0, slots := 0, locals := 30 } (hm_P g [.ref o] sz L f) (va_Qv (fun u => u = (L, va_up f a (hl_nat g 24 (fun p => if p = 0 then 1 else 0)))) (hm_B g sz L) (hm_A sz L)) 0 0 (hm_A sz L) := by
  refine hm_ofW (by decide) (Nat.le_of_ble_eq_true rfl) ?_
  intro p e s m below meth c X hr hlk hnm hK hsz hh ls hl
  have hl : lv_has ls 1 [(0, .ref o)] := hl
  refine lv_aload_n X.1 X.2.1 d_D_setOne_0 rfl (lv_at hl 0 rfl) ?_
  refine hl_get X hK hh (ref := "CycleGroups$Decimal") i_D (ci := 2) rfl 0 (by decide) w_43 rfl ho hfo rfl d_D_setOne_1 ?_
  refine lv_iconst (v := nI 0) X.1 X.2.1 d_D_setOne_4 (by decide) ?_
  refine hl_callv hh (hl_runS (k := 2) X hK hh (c_A_fill l g _ L f a 24 (nI 0) _ ha hfa (by decide)) wc_A_fill w_229 w_8 wi_A_fill (by decide +kernel) rfl rfl ⟨Nat.le_of_ble_eq_true rfl, Nat.le_of_ble_eq_true rfl⟩ rfl rfl (Nat.le_of_ble_eq_true rfl) hl.1 d_D_setOne_5 ⟨Nat.le_of_ble_eq_true rfl, Nat.le_of_ble_eq_true rfl⟩) (fun u H locs hp hh => ?_)
  subst hp
  refine lv_aload_n X.1 X.2.1 d_D_setOne_8 rfl (lv_at hl 0 rfl) ?_
  refine hl_get X hK hh (ref := "CycleGroups$Decimal") i_D (ci := 2) rfl 0 (by decide) w_43 rfl ho ((va_up_ne _ _ hoa).trans hfo) rfl d_D_setOne_9 ?_
  refine lv_iconst (v := nI 0) X.1 X.2.1 d_D_setOne_12 (by decide) ?_
  refine lv_iconst (v := nI 1) X.1 X.2.1 d_D_setOne_13 (by decide) ?_
  refine hl_iast X hK hh ha (va_up_self ..) (by omega) (by omega) d_D_setOne_14 (fun H locs hh => ?_)
  rw [hr_uu] at hh
  have hh := hl_norm (w := fun p => nI (if p = 0 then 1 else 0)) hh (fun p hp => by
    by_cases h : p = 0
    · rw [h, va_up_self]; rfl
    · rw [va_up_ne _ _ h, if_neg h])
  exact hm_vret X hr hlk hh rfl (Nat.le_of_ble_eq_true rfl) (Nat.le_of_ble_eq_true rfl) d_D_setOne_15

/-- the carries of a number by its digits, multiplied -/
def dg_car (d : Nat → Nat) (k : Nat) : Nat → Nat
  | 0 => 0
  | i + 1 => (d i * k + dg_car d k i) / 10
def dg_mul (d : Nat → Nat) (k i : Nat) : Nat := (d i * k + dg_car d k i) % 10
theorem dg_car_lt (d : Nat → Nat) (k : Nat) (hk : k ≤ 24) (hd : ∀ i, d i < 10) : ∀ i, dg_car d k i ≤ 24 := by
  intro i
  induction i with
  | zero => exact Nat.zero_le _
  | succ i ih =>
    show (d i * k + dg_car d k i) / 10 ≤ 24
    have h1 : d i * k ≤ 9 * 24 := Nat.mul_le_mul (by have := hd i; omega) hk
    omega

/-- void multiply(int factor) -/
theorem c_D_multiply (l : Launch) (g : hl_G) (sz : Nat) (L : List Nat) (f : Nat → va_E) (o a k : Nat) (d : Nat → Nat) (ho : o ∈ L) (hfo : f o = .inr (2, [.ref a])) (ha : a ∈ L) (hfa : f a = hl_nat g 24 d) (hoa : o ≠ a) (hk : k ≤ 24) (hd : ∀ i, d i < 10) :
    Met l y_D_multiply (hq y_D_multiply b_D_multiply 5 none) { frames := 0, cells := 0, slots := 0, locals := 0 } (hm_P g [.ref o, .int (nI k)] sz L f) (va_Qv (fun u => u = (L, va_up f a (hl_nat g 24 (dg_mul d k)))) (hm_B g sz L) (hm_A sz L)) 0 0 (hm_A sz L) := by
  refine hm_ofW (by decide) (Nat.le_of_ble_eq_true rfl) ?_
  intro p e s m below meth c X hr hlk hnm hK hsz hh ls hl
  have hl : lv_has ls 5 [(0, .ref o), (1, .int (nI k))] := hl
  have loop : ∀ (t i : Nat) (z : Nat → Nat) (H : Heap) (locs : List Loc) (ls : Array Slot), 25 ≤ i + t → i ≤ 24 → (∀ p, p < i → z p = dg_mul d k p) → (∀ p, i ≤ p → z p = d p) →
      hl_H g (hm_A sz L) s.heap L (va_up f a (hl_nat g 24 z)) H locs → lv_has ls 5 [(3, .int (nI i)), (2, .int (nI (dg_car d k i))), (0, .ref o), (1, .int (nI k))] →
      W p l e { frames := 0, cells := 0, slots := 0, locals := 0 } s m #[.ref o, .int (nI k)] below meth c H locs 0 0 (MQ below (va_Qv (fun u => u = (L, va_up f a (hl_nat g 24 (dg_mul d k)))) (hm_B g sz L) (hm_A sz L)) #[.ref o, .int (nI k)] s 0 0 (hm_A sz L)) (F0 m 4 ls []) := by
    intro t
    induction t with
    | zero => intros; omega
    | succ t ih =>
      intro i z H locs ls hki hin hz hz2 hh hl
      have hci := dg_car_lt d k hk hd i
      refine lv_iload_n X.1 X.2.1 d_D_multiply_4 rfl (lv_at hl 0 rfl) ?_
      refine lv_aload_n X.1 X.2.1 d_D_multiply_5 rfl (lv_at hl 2 rfl) ?_
      refine hl_get X hK hh (ref := "CycleGroups$Decimal") i_D (ci := 2) rfl 0 (by decide) w_43 rfl ho ((va_up_ne _ _ hoa).trans hfo) rfl d_D_multiply_6 ?_
      refine hl_alenI X hK hh ha (va_up_self ..) d_D_multiply_9 ?_
      refine hn_ige (tgt := 48) X (by omega) (by omega) d_D_multiply_10 (by decide) (fun hc => ?_) (fun hc => ?_)
      · have hh := hl_norm (w := fun p => nI (dg_mul d k p)) hh (fun p hp => by rw [hz p (by omega)])
        exact hm_vret X hr hlk hh rfl (Nat.le_of_ble_eq_true rfl) (Nat.le_of_ble_eq_true rfl) d_D_multiply_48
      · have hzi := hz2 i (Nat.le_refl _)
        have hdi := hd i
        have hm : z i * k ≤ 9 * 24 := by rw [hzi]; exact Nat.mul_le_mul (by omega) hk
        refine lv_aload_n X.1 X.2.1 d_D_multiply_13 rfl (lv_at hl 2 rfl) ?_
        refine hl_get X hK hh (ref := "CycleGroups$Decimal") i_D (ci := 2) rfl 0 (by decide) w_43 rfl ho ((va_up_ne _ _ hoa).trans hfo) rfl d_D_multiply_14 ?_
        refine lv_iload_n X.1 X.2.1 d_D_multiply_17 rfl (lv_at hl 0 rfl) ?_
        refine hl_iald X hK hh ha (va_up_self ..) (by omega) (by omega) d_D_multiply_18 ?_
        refine lv_iload_n X.1 X.2.1 d_D_multiply_19 rfl (lv_at hl 3 rfl) ?_
        refine hn_mul X d_D_multiply_20 ?_
        refine lv_iload_n X.1 X.2.1 d_D_multiply_21 rfl (lv_at hl 1 rfl) ?_
        refine hn_add X d_D_multiply_22 ?_
        refine lv_istore (lv' := [(4, .int (nI (((z i) * k) + (dg_car d k i)))), (3, .int (nI i)), (2, .int (nI (dg_car d k i))), (0, .ref o), (1, .int (nI k))]) X.1 X.2.1 d_D_multiply_23 hl (by decide) rfl (fun ls hl => ?_)
        refine lv_aload_n X.1 X.2.1 d_D_multiply_25 rfl (lv_at hl 3 rfl) ?_
        refine hl_get X hK hh (ref := "CycleGroups$Decimal") i_D (ci := 2) rfl 0 (by decide) w_43 rfl ho ((va_up_ne _ _ hoa).trans hfo) rfl d_D_multiply_26 ?_
        refine lv_iload_n X.1 X.2.1 d_D_multiply_29 rfl (lv_at hl 1 rfl) ?_
        refine lv_iload X.1 X.2.1 d_D_multiply_30 (lv_at hl 0 rfl) ?_
        refine lv_bipush (v := nI 10) X.1 X.2.1 d_D_multiply_32 (by decide) ?_
        refine hn_rem X (by omega) (by omega) (by omega) d_D_multiply_34 ?_
        refine hl_iastN X hK hh ha (va_up_self ..) (by omega) (by omega) d_D_multiply_35 (fun H locs hh => ?_)
        rw [hr_uu] at hh
        refine lv_iload X.1 X.2.1 d_D_multiply_36 (lv_at hl 0 rfl) ?_
        refine lv_bipush (v := nI 10) X.1 X.2.1 d_D_multiply_38 (by decide) ?_
        refine hn_div X (by omega) (by omega) (by omega) d_D_multiply_40 ?_
        refine lv_istore_n (lv' := [(2, .int (nI ((((z i) * k) + (dg_car d k i)) / 10))), (4, .int (nI (((z i) * k) + (dg_car d k i)))), (3, .int (nI i)), (0, .ref o), (1, .int (nI k))]) X.1 X.2.1 d_D_multiply_41 rfl hl (by decide) rfl (fun ls hl => ?_)
        refine lv_iinc (v := nI (i + 1)) (lv' := [(3, .int (nI (i + 1))), (2, .int (nI ((((z i) * k) + (dg_car d k i)) / 10))), (4, .int (nI (((z i) * k) + (dg_car d k i)))), (0, .ref o), (1, .int (nI k))]) X.1 X.2.1 d_D_multiply_42 hl (k := 2) rfl (hn_inc _) (by decide) rfl (fun ls hl => ?_)
        refine lv_goto (tgt := 4) X.1 X.2.1 d_D_multiply_45 (by decide) ?_
        rw [hzi] at hh hl
        refine ih (i + 1) (va_up z i (dg_mul d k i)) H locs ls (by omega) (by omega) (fun p hp => ?_) (fun p hp => ?_) hh (lv_sub hl [0, 1, 3, 4] rfl)
        · by_cases hpi : p = i
          · rw [hpi, va_up_self]
          · rw [va_up_ne _ _ hpi]; exact hz p (by omega)
        · rw [va_up_ne _ _ (by omega)]; exact hz2 p (by omega)
  refine lv_iconst (v := nI 0) X.1 X.2.1 d_D_multiply_0 (by decide) ?_
  refine lv_istore_n (lv' := [(2, .int (nI 0)), (0, .ref o), (1, .int (nI k))]) X.1 X.2.1 d_D_multiply_1 rfl hl (by decide) rfl (fun ls hl => ?_)
  refine lv_iconst (v := nI 0) X.1 X.2.1 d_D_multiply_2 (by decide) ?_
  refine lv_istore_n (lv' := [(3, .int (nI 0)), (2, .int (nI 0)), (0, .ref o), (1, .int (nI k))]) X.1 X.2.1 d_D_multiply_3 rfl hl (by decide) rfl (fun ls hl => ?_)
  exact loop 25 0 d s.heap [] ls (by omega) (by omega) (fun p hp => absurd hp (Nat.not_lt_zero _)) (fun _ _ => rfl) (hl_same hfa hh) hl
end

