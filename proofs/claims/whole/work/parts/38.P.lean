/-! The class Partition, but for its constructor. -/
section
/-- the sets of two places made one: z p is the least of p's set -/
def pt_join (z : Nat → Nat) (a b : Nat) : Nat → Nat := fun p => if z p = max (z a) (z b) then min (z a) (z b) else z p
theorem pt_join_same {z : Nat → Nat} {a b : Nat} (h : z a = z b) : pt_join z a b = z := by
  funext p
  unfold pt_join
  rw [h, Nat.max_self, Nat.min_self]
  by_cases h2 : z p = z b
  · rw [if_pos h2, h2]
  · rw [if_neg h2]
theorem pt_join_lt {z : Nat → Nat} {n a b : Nat} (hz : ∀ p, p < n → z p < n) (ha : a < n) (hb : b < n) : ∀ p, p < n → pt_join z a b p < n := by
  intro p hp
  have h1 := hz a ha
  have h2 := hz p hp
  unfold pt_join
  by_cases h : z p = max (z a) (z b)
  · rw [if_pos h]; omega
  · rw [if_neg h]; exact h2

/-- boolean join(int a, int b) -/
theorem c_P_join (l : Launch) (g : hl_G) (sz : Nat) (L : List Nat) (f : Nat → va_E) (o ar n a b : Nat) (z : Nat → Nat) (ho : o ∈ L) (hfo : f o = .inr (4, [.ref ar])) (har : ar ∈ L) (hfa : f ar = hl_nat g n z) (hoa : o ≠ ar)
    (hn : n ≤ 24) (hz : ∀ p, p < n → z p < n) (ha : a < n) (hb : b < n) :
    Met l y_P_join (hq y_P_join b_P_join 6 (some .boolean)) { frames := 1, cells := 0, slots := 0, locals := 20 } (hm_P g [.ref o, .int (nI a), .int (nI b)] sz L f) (va_Qi (fun r u => r = (if z a = z b then nI 0 else nI 1) ∧ u = (L, va_up f ar (hl_nat g n (pt_join z a b)))) (hm_B g sz L) (hm_A sz L)) 0 0 (hm_A sz L) := by
  refine hm_ofW (by decide) (Nat.le_of_ble_eq_true rfl) ?_
  intro p e s m below meth c X hr hlk hnm hK hsz hh ls hl
  have hl : lv_has ls 6 [(0, .ref o), (1, .int (nI a)), (2, .int (nI b))] := hl
  have hza := hz a ha
  have hzb := hz b hb
  have loop : ∀ (t i : Nat) (y : Nat → Nat) (H : Heap) (locs : List Loc) (ls : Array Slot), n + 1 ≤ i + t → i ≤ n → ¬ z a = z b → (∀ p, p < i → y p = pt_join z a b p) → (∀ p, i ≤ p → y p = z p) →
      hl_H g (hm_A sz L) s.heap L (va_up f ar (hl_nat g n y)) H locs → lv_has ls 6 [(5, .int (nI i)), (4, .int (nI (max (z a) (z b)))), (3, .int (nI (min (z a) (z b)))), (0, .ref o), (1, .int (nI a)), (2, .int (nI b))] →
      W p l e { frames := 1, cells := 0, slots := 0, locals := 20 } s m #[.ref o, .int (nI a), .int (nI b)] below meth c H locs 0 0 (MQ below (va_Qi (fun r u => r = (if z a = z b then nI 0 else nI 1) ∧ u = (L, va_up f ar (hl_nat g n (pt_join z a b)))) (hm_B g sz L) (hm_A sz L)) #[.ref o, .int (nI a), .int (nI b)] s 0 0 (hm_A sz L)) (F0 m 44 ls []) := by
    intro t
    induction t with
    | zero => intros; omega
    | succ t ih =>
      intro i y H locs ls hki hin hne hy hy2 hh hl
      refine lv_iload X.1 X.2.1 d_P_join_44 (lv_at hl 0 rfl) ?_
      refine lv_aload_n X.1 X.2.1 d_P_join_46 rfl (lv_at hl 3 rfl) ?_
      refine hl_get X hK hh (ref := "CycleGroups$Partition") i_P (ci := 4) rfl 0 (by decide) w_32 rfl ho ((va_up_ne _ _ hoa).trans hfo) rfl d_P_join_47 ?_
      refine hl_alenI X hK hh har (va_up_self ..) d_P_join_50 ?_
      refine hn_ige (tgt := 80) X (by omega) (by omega) d_P_join_51 (by decide) (fun hc => ?_) (fun hc => ?_)
      · have hh := hl_norm (w := fun p => nI (pt_join z a b p)) hh (fun p hp => by rw [hy p (by omega)])
        refine lv_iconst (v := nI 1) X.1 X.2.1 d_P_join_80 (by decide) ?_
        exact hm_zret X hr hlk hh (Or.inr rfl) ⟨by rw [if_neg hne], rfl⟩ (Nat.le_of_ble_eq_true rfl) (Nat.le_of_ble_eq_true rfl) d_P_join_81
      · have hyi := hy2 i (Nat.le_refl _)
        have hzi := hz i (by omega)
        refine lv_aload_n X.1 X.2.1 d_P_join_54 rfl (lv_at hl 3 rfl) ?_
        refine hl_get X hK hh (ref := "CycleGroups$Partition") i_P (ci := 4) rfl 0 (by decide) w_32 rfl ho ((va_up_ne _ _ hoa).trans hfo) rfl d_P_join_55 ?_
        refine lv_iload X.1 X.2.1 d_P_join_58 (lv_at hl 0 rfl) ?_
        refine hl_iald X hK hh har (va_up_self ..) (by omega) (by omega) d_P_join_60 ?_
        refine lv_iload X.1 X.2.1 d_P_join_61 (lv_at hl 1 rfl) ?_
        refine hn_ine (tgt := 74) X (by omega) (by omega) d_P_join_63 (by decide) (fun hc => ?_) (fun hc => ?_)
        · have hc : ¬ y i = max (z a) (z b) := hc
          refine lv_iinc (v := nI (i + 1)) (lv' := [(5, .int (nI (i + 1))), (4, .int (nI (max (z a) (z b)))), (3, .int (nI (min (z a) (z b)))), (0, .ref o), (1, .int (nI a)), (2, .int (nI b))]) X.1 X.2.1 d_P_join_74 hl (k := 0) rfl (hn_inc _) (by decide) rfl (fun ls hl => ?_)
          refine lv_goto (tgt := 44) X.1 X.2.1 d_P_join_77 (by decide) ?_
          refine ih (i + 1) y H locs ls (by omega) (by omega) hne (fun p hp => ?_) (fun p hp => hy2 p (by omega)) hh hl
          by_cases hpi : p = i
          · rw [hpi]
            unfold pt_join
            rw [if_neg (by rw [← hyi]; exact hc), hyi]
          · exact hy p (by omega)
        · have hc : y i = max (z a) (z b) := hc
          refine lv_aload_n X.1 X.2.1 d_P_join_66 rfl (lv_at hl 3 rfl) ?_
          refine hl_get X hK hh (ref := "CycleGroups$Partition") i_P (ci := 4) rfl 0 (by decide) w_32 rfl ho ((va_up_ne _ _ hoa).trans hfo) rfl d_P_join_67 ?_
          refine lv_iload X.1 X.2.1 d_P_join_70 (lv_at hl 0 rfl) ?_
          refine lv_iload_n X.1 X.2.1 d_P_join_72 rfl (lv_at hl 2 rfl) ?_
          refine hl_iastN X hK hh har (va_up_self ..) (by omega) (by omega) d_P_join_73 (fun H locs hh => ?_)
          rw [hr_uu] at hh
          refine lv_iinc (v := nI (i + 1)) (lv' := [(5, .int (nI (i + 1))), (4, .int (nI (max (z a) (z b)))), (3, .int (nI (min (z a) (z b)))), (0, .ref o), (1, .int (nI a)), (2, .int (nI b))]) X.1 X.2.1 d_P_join_74 hl (k := 0) rfl (hn_inc _) (by decide) rfl (fun ls hl => ?_)
          refine lv_goto (tgt := 44) X.1 X.2.1 d_P_join_77 (by decide) ?_
          refine ih (i + 1) (va_up y i (min (z a) (z b))) H locs ls (by omega) (by omega) hne (fun p hp => ?_) (fun p hp => ?_) hh hl
          · by_cases hpi : p = i
            · rw [hpi, va_up_self]
              unfold pt_join
              rw [if_pos (by rw [← hyi]; exact hc)]
            · rw [va_up_ne _ _ hpi]; exact hy p (by omega)
          · rw [va_up_ne _ _ (by omega)]; exact hy2 p (by omega)
  refine lv_aload_n X.1 X.2.1 d_P_join_0 rfl (lv_at hl 0 rfl) ?_
  refine hl_get X hK hh (ref := "CycleGroups$Partition") i_P (ci := 4) rfl 0 (by decide) w_32 rfl ho hfo rfl d_P_join_1 ?_
  refine lv_iload_n X.1 X.2.1 d_P_join_4 rfl (lv_at hl 1 rfl) ?_
  refine hl_iald X hK hh har hfa (by omega) (by omega) d_P_join_5 ?_
  refine lv_aload_n X.1 X.2.1 d_P_join_6 rfl (lv_at hl 0 rfl) ?_
  refine hl_get X hK hh (ref := "CycleGroups$Partition") i_P (ci := 4) rfl 0 (by decide) w_32 rfl ho hfo rfl d_P_join_7 ?_
  refine lv_iload_n X.1 X.2.1 d_P_join_10 rfl (lv_at hl 2 rfl) ?_
  refine hl_iald X hK hh har hfa (by omega) (by omega) d_P_join_11 ?_
  refine hn_min X w_259 hl.1 (by omega) (by omega) (Nat.le_of_ble_eq_true rfl) (Nat.le_of_ble_eq_true rfl) (Nat.le_of_ble_eq_true rfl) (Nat.le_of_ble_eq_true rfl) d_P_join_12 ?_
  refine lv_istore_n (lv' := [(3, .int (nI (min (z a) (z b)))), (0, .ref o), (1, .int (nI a)), (2, .int (nI b))]) X.1 X.2.1 d_P_join_15 rfl hl (by decide) rfl (fun ls hl => ?_)
  refine lv_aload_n X.1 X.2.1 d_P_join_16 rfl (lv_at hl 1 rfl) ?_
  refine hl_get X hK hh (ref := "CycleGroups$Partition") i_P (ci := 4) rfl 0 (by decide) w_32 rfl ho hfo rfl d_P_join_17 ?_
  refine lv_iload_n X.1 X.2.1 d_P_join_20 rfl (lv_at hl 2 rfl) ?_
  refine hl_iald X hK hh har hfa (by omega) (by omega) d_P_join_21 ?_
  refine lv_aload_n X.1 X.2.1 d_P_join_22 rfl (lv_at hl 1 rfl) ?_
  refine hl_get X hK hh (ref := "CycleGroups$Partition") i_P (ci := 4) rfl 0 (by decide) w_32 rfl ho hfo rfl d_P_join_23 ?_
  refine lv_iload_n X.1 X.2.1 d_P_join_26 rfl (lv_at hl 3 rfl) ?_
  refine hl_iald X hK hh har hfa (by omega) (by omega) d_P_join_27 ?_
  refine hn_max X w_260 hl.1 (by omega) (by omega) (Nat.le_of_ble_eq_true rfl) (Nat.le_of_ble_eq_true rfl) (Nat.le_of_ble_eq_true rfl) (Nat.le_of_ble_eq_true rfl) d_P_join_28 ?_
  refine lv_istore (lv' := [(4, .int (nI (max (z a) (z b)))), (3, .int (nI (min (z a) (z b)))), (0, .ref o), (1, .int (nI a)), (2, .int (nI b))]) X.1 X.2.1 d_P_join_31 hl (by decide) rfl (fun ls hl => ?_)
  refine lv_iload_n X.1 X.2.1 d_P_join_33 rfl (lv_at hl 1 rfl) ?_
  refine lv_iload X.1 X.2.1 d_P_join_34 (lv_at hl 0 rfl) ?_
  refine hn_ine (tgt := 41) X (by omega) (by omega) d_P_join_36 (by decide) (fun hc => ?_) (fun hc => ?_)
  · skip
    refine lv_iconst (v := nI 0) X.1 X.2.1 d_P_join_41 (by decide) ?_
    refine lv_istore (lv' := [(5, .int (nI 0)), (4, .int (nI (max (z a) (z b)))), (3, .int (nI (min (z a) (z b)))), (0, .ref o), (1, .int (nI a)), (2, .int (nI b))]) X.1 X.2.1 d_P_join_42 hl (by decide) rfl (fun ls hl => ?_)
    exact loop (n + 1) 0 z s.heap [] ls (by omega) (by omega) (by omega) (fun p hp => absurd hp (Nat.not_lt_zero _)) (fun _ _ => rfl) (hl_same hfa hh) hl
  · have he : z a = z b := by omega
    refine lv_iconst (v := nI 0) X.1 X.2.1 d_P_join_39 (by decide) ?_
    exact hm_zret X hr hlk hh (Or.inl rfl) ⟨by rw [if_pos he], by rw [pt_join_same he, ← hfa, hr_id]⟩ (Nat.le_of_ble_eq_true rfl) (Nat.le_of_ble_eq_true rfl) d_P_join_40

/-- int leastWith(int place) -/
theorem c_P_leastWith (l : Launch) (g : hl_G) (sz : Nat) (L : List Nat) (f : Nat → va_E) (o ar n a : Nat) (z : Nat → Nat) (ho : o ∈ L) (hfo : f o = .inr (4, [.ref ar])) (har : ar ∈ L) (hfa : f ar = hl_nat g n z) (hn : n ≤ 24) (ha : a < n) :
    Met l y_P_leastWith (hq y_P_leastWith b_P_leastWith 2 (some .int)) { frames := 0, cells := 0, slots := 0, locals := 0 } (hm_P g [.ref o, .int (nI a)] sz L f) (va_Qi (fun r u => r = nI (z a) ∧ u = (L, f)) (hm_B g sz L) (hm_A sz L)) 0 0 (hm_A sz L) := by
  refine hm_ofW (by decide) (Nat.le_of_ble_eq_true rfl) ?_
  intro p e s m below meth c X hr hlk hnm hK hsz hh ls hl
  have hl : lv_has ls 2 [(0, .ref o), (1, .int (nI a))] := hl
  refine lv_aload_n X.1 X.2.1 d_P_leastWith_0 rfl (lv_at hl 0 rfl) ?_
  refine hl_get X hK hh (ref := "CycleGroups$Partition") i_P (ci := 4) rfl 0 (by decide) w_32 rfl ho hfo rfl d_P_leastWith_1 ?_
  refine lv_iload_n X.1 X.2.1 d_P_leastWith_4 rfl (lv_at hl 1 rfl) ?_
  refine hl_iald X hK hh har hfa (by omega) (by omega) d_P_leastWith_5 ?_
  exact hm_iret X hr hlk hh ⟨rfl, rfl⟩ (Nat.le_of_ble_eq_true rfl) (Nat.le_of_ble_eq_true rfl) d_P_leastWith_6

/-- how many of the places below k are in q's set -/
def pt_size (z : Nat → Nat) (q : Nat) : Nat → Nat
  | 0 => 0
  | k + 1 => if z k = z q then pt_size z q k + 1 else pt_size z q k
theorem pt_size_le (z : Nat → Nat) (q : Nat) : ∀ k, pt_size z q k ≤ k := by
  intro k
  induction k with
  | zero => exact Nat.le_refl _
  | succ k ih =>
    show (if z k = z q then pt_size z q k + 1 else pt_size z q k) ≤ k + 1
    by_cases h : z k = z q
    · rw [if_pos h]; omega
    · rw [if_neg h]; omega

/-- int sizeWith(int place) -/
theorem c_P_sizeWith (l : Launch) (g : hl_G) (sz : Nat) (L : List Nat) (f : Nat → va_E) (o ar n a : Nat) (z : Nat → Nat) (ho : o ∈ L) (hfo : f o = .inr (4, [.ref ar])) (har : ar ∈ L) (hfa : f ar = hl_nat g n z) (hn : n ≤ 24) (hz : ∀ p, p < n → z p < n) (ha : a < n) :
    Met l y_P_sizeWith (hq y_P_sizeWith b_P_sizeWith 4 (some .int)) { frames := 0, cells := 0, slots := 0, locals := 0 } (hm_P g [.ref o, .int (nI a)] sz L f) (va_Qi (fun r u => r = nI (pt_size z a n) ∧ u = (L, f)) (hm_B g sz L) (hm_A sz L)) 0 0 (hm_A sz L) := by
  refine hm_ofW (by decide) (Nat.le_of_ble_eq_true rfl) ?_
  intro p e s m below meth c X hr hlk hnm hK hsz hh ls hl
  have hl : lv_has ls 4 [(0, .ref o), (1, .int (nI a))] := hl
  have hza := hz a ha
  have loop : ∀ (t i : Nat) (ls : Array Slot), n + 1 ≤ i + t → i ≤ n → lv_has ls 4 [(3, .int (nI i)), (2, .int (nI (pt_size z a i))), (0, .ref o), (1, .int (nI a))] →
      W p l e { frames := 0, cells := 0, slots := 0, locals := 0 } s m #[.ref o, .int (nI a)] below meth c s.heap [] 0 0 (MQ below (va_Qi (fun r u => r = nI (pt_size z a n) ∧ u = (L, f)) (hm_B g sz L) (hm_A sz L)) #[.ref o, .int (nI a)] s 0 0 (hm_A sz L)) (F0 m 4 ls []) := by
    intro t
    induction t with
    | zero => intros; omega
    | succ t ih =>
      intro i ls hki hin hl
      refine lv_iload_n X.1 X.2.1 d_P_sizeWith_4 rfl (lv_at hl 0 rfl) ?_
      refine lv_aload_n X.1 X.2.1 d_P_sizeWith_5 rfl (lv_at hl 2 rfl) ?_
      refine hl_get X hK hh (ref := "CycleGroups$Partition") i_P (ci := 4) rfl 0 (by decide) w_32 rfl ho hfo rfl d_P_sizeWith_6 ?_
      refine hl_alenI X hK hh har hfa d_P_sizeWith_9 ?_
      refine hn_ige (tgt := 37) X (by omega) (by omega) d_P_sizeWith_10 (by decide) (fun hc => ?_) (fun hc => ?_)
      · have e : i = n := by omega
        subst e
        refine lv_iload_n X.1 X.2.1 d_P_sizeWith_37 rfl (lv_at hl 1 rfl) ?_
        exact hm_iret X hr hlk hh ⟨rfl, rfl⟩ (Nat.le_of_ble_eq_true rfl) (Nat.le_of_ble_eq_true rfl) d_P_sizeWith_38
      · have hzi := hz i (by omega)
        have e1 : pt_size z a (i + 1) = if z i = z a then pt_size z a i + 1 else pt_size z a i := rfl
        refine lv_aload_n X.1 X.2.1 d_P_sizeWith_13 rfl (lv_at hl 2 rfl) ?_
        refine hl_get X hK hh (ref := "CycleGroups$Partition") i_P (ci := 4) rfl 0 (by decide) w_32 rfl ho hfo rfl d_P_sizeWith_14 ?_
        refine lv_iload_n X.1 X.2.1 d_P_sizeWith_17 rfl (lv_at hl 0 rfl) ?_
        refine hl_iald X hK hh har hfa (by omega) (by omega) d_P_sizeWith_18 ?_
        refine lv_aload_n X.1 X.2.1 d_P_sizeWith_19 rfl (lv_at hl 2 rfl) ?_
        refine hl_get X hK hh (ref := "CycleGroups$Partition") i_P (ci := 4) rfl 0 (by decide) w_32 rfl ho hfo rfl d_P_sizeWith_20 ?_
        refine lv_iload_n X.1 X.2.1 d_P_sizeWith_23 rfl (lv_at hl 3 rfl) ?_
        refine hl_iald X hK hh har hfa (by omega) (by omega) d_P_sizeWith_24 ?_
        refine hn_ine (tgt := 31) X (by omega) (by omega) d_P_sizeWith_25 (by decide) (fun hc => ?_) (fun hc => ?_)
        · rw [if_neg hc] at e1
          refine lv_iinc (v := nI (i + 1)) (lv' := [(3, .int (nI (i + 1))), (2, .int (nI (pt_size z a i))), (0, .ref o), (1, .int (nI a))]) X.1 X.2.1 d_P_sizeWith_31 hl (k := 0) rfl (hn_inc _) (by decide) rfl (fun ls hl => ?_)
          refine lv_goto (tgt := 4) X.1 X.2.1 d_P_sizeWith_34 (by decide) ?_
          exact ih (i + 1) ls (by omega) (by omega) (by rw [e1]; exact hl)
        · rw [if_pos hc] at e1
          refine lv_iinc (v := nI ((pt_size z a i) + 1)) (lv' := [(2, .int (nI ((pt_size z a i) + 1))), (3, .int (nI i)), (0, .ref o), (1, .int (nI a))]) X.1 X.2.1 d_P_sizeWith_28 hl (k := 1) rfl (hn_inc _) (by decide) rfl (fun ls hl => ?_)
          refine lv_iinc (v := nI (i + 1)) (lv' := [(3, .int (nI (i + 1))), (2, .int (nI ((pt_size z a i) + 1))), (0, .ref o), (1, .int (nI a))]) X.1 X.2.1 d_P_sizeWith_31 hl (k := 1) rfl (hn_inc _) (by decide) rfl (fun ls hl => ?_)
          refine lv_goto (tgt := 4) X.1 X.2.1 d_P_sizeWith_34 (by decide) ?_
          exact ih (i + 1) ls (by omega) (by omega) (by rw [e1]; exact hl)
  refine lv_iconst (v := nI 0) X.1 X.2.1 d_P_sizeWith_0 (by decide) ?_
  refine lv_istore_n (lv' := [(2, .int (nI 0)), (0, .ref o), (1, .int (nI a))]) X.1 X.2.1 d_P_sizeWith_1 rfl hl (by decide) rfl (fun ls hl => ?_)
  refine lv_iconst (v := nI 0) X.1 X.2.1 d_P_sizeWith_2 (by decide) ?_
  refine lv_istore_n (lv' := [(3, .int (nI 0)), (2, .int (nI 0)), (0, .ref o), (1, .int (nI a))]) X.1 X.2.1 d_P_sizeWith_3 rfl hl (by decide) rfl (fun ls hl => ?_)
  exact loop (n + 1) 0 ls (by omega) (by omega) hl

/-- void separate() -/
theorem c_P_separate (l : Launch) (g : hl_G) (sz : Nat) (L : List Nat) (f : Nat → va_E) (o ar n : Nat) (z : Nat → Nat) (ho : o ∈ L) (hfo : f o = .inr (4, [.ref ar])) (har : ar ∈ L) (hfa : f ar = hl_nat g n z) (hn : n ≤ 24) :
    Met l y_P_separate (hq y_P_separate b_P_separate 1 none) { frames := 1, cells := 0, slots := 0, locals := 30 } (hm_P g [.ref o] sz L f) (va_Qv (fun u => u = (L, va_up f ar (hl_nat g n id))) (hm_B g sz L) (hm_A sz L)) 0 0 (hm_A sz L) := by
  refine hm_ofW (by decide) (Nat.le_of_ble_eq_true rfl) ?_
  intro p e s m below meth c X hr hlk hnm hK hsz hh ls hl
  have hl : lv_has ls 1 [(0, .ref o)] := hl
  refine lv_aload_n X.1 X.2.1 d_P_separate_0 rfl (lv_at hl 0 rfl) ?_
  refine hl_get X hK hh (ref := "CycleGroups$Partition") i_P (ci := 4) rfl 0 (by decide) w_32 rfl ho hfo rfl d_P_separate_1 ?_
  refine hl_callv hh (hl_runSN (k := 1) X hK hh (c_C_leaveAll l g _ L f ar n z har hfa (by omega)) wc_C_leaveAll hK.2.2.2.2 w_1 wi_C_leaveAll (by decide +kernel) rfl rfl ⟨Nat.le_of_ble_eq_true rfl, Nat.le_of_ble_eq_true rfl⟩ rfl rfl (Nat.le_of_ble_eq_true rfl) hl.1 d_P_separate_4 ⟨Nat.le_of_ble_eq_true rfl, Nat.le_of_ble_eq_true rfl⟩) (fun u H locs hp hh => ?_)
  subst hp
  exact hm_vret X hr hlk hh rfl (Nat.le_of_ble_eq_true rfl) (Nat.le_of_ble_eq_true rfl) d_P_separate_7
end

