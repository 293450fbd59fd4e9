/-! CycleGroups: its small private methods. -/
section
/-- whether an int is one of 0 .. n - 1 -/
def ip (p : Int32) (n : Nat) : Bool := decide (¬ p < 0 ∧ ¬ nI n ≤ p)
theorem ip_neg {p : Int32} {n : Nat} (h : p < 0) : ip p n = false := decide_eq_false (fun h2 => h2.1 h)
theorem ip_big {p : Int32} {n : Nat} (h : nI n ≤ p) : ip p n = false := decide_eq_false (fun h2 => h2.2 h)
theorem ip_in {n j : Nat} (hn : n < 2 ^ 31) (h : j < n) : ip (nI j) n = true := decide_eq_true ⟨nI_pos (by omega), nI_ge h (by omega)⟩
theorem ip_cases (p : Int32) {n : Nat} (hn : n < 2 ^ 31) : ip p n = false ∨ ∃ j : Nat, j < n ∧ p = nI j := by
  rcases pk_ix p hn with h | h | h
  · exact Or.inl (ip_neg h)
  · exact Or.inl (ip_big h)
  · exact Or.inr h

theorem c_C_isPlace (l : Launch) (g : hl_G) (sz : Nat) (L : List Nat) (f : Nat → va_E) (x n : Nat) (v0 v1 v2 v3 v4 v5 v6 v7 v8 : Value) (q : Int32) (hx : x ∈ L) (hfx : f x = .inr (0, [.int (nI n), v1, v2, v3, v4, v5, v6, v7, v8])) (hn : n < 2 ^ 31) :
    Met l y_C_isPlace (hq y_C_isPlace b_C_isPlace 2 (some .boolean)) { frames := 0, cells := 0, slots := 0, locals := 0 } (hm_P g [.ref x, .int q] sz L f) (va_Qi (fun r u => r = hb (ip q n) ∧ u = (L, f)) (hm_B g sz L) (hm_A sz L)) 0 0 (hm_A sz L) := by
  refine hm_ofW (by decide) (Nat.le_of_ble_eq_true rfl) ?_
  intro p e s m below meth c X hr hlk hnm hK hsz hh ls hl
  have hl : lv_has ls 2 [(0, .ref x), (1, .int q)] := hl
  refine lv_iload_n X.1 X.2.1 d_C_isPlace_0 rfl (lv_at hl 1 rfl) ?_
  refine lv_if_lt (tgt := 16) X.1 X.2.1 d_C_isPlace_1 (by decide) (fun hc => ?_) (fun hc => ?_)
  · skip
    refine lv_iconst (v := nI 0) X.1 X.2.1 d_C_isPlace_16 (by decide) ?_
    exact hm_zret X hr hlk hh (Or.inl rfl) ⟨by rw [ip_neg hc]; rfl, rfl⟩ (Nat.le_of_ble_eq_true rfl) (Nat.le_of_ble_eq_true rfl) d_C_isPlace_17
  · rcases pk_ix q hn with h0 | h0 | ⟨j, hj, rfl⟩
    · exact absurd h0 hc
    · skip
      refine lv_iload_n X.1 X.2.1 d_C_isPlace_4 rfl (lv_at hl 1 rfl) ?_
      refine lv_aload_n X.1 X.2.1 d_C_isPlace_5 rfl (lv_at hl 0 rfl) ?_
      refine hl_get X hK hh (ref := "CycleGroups") i_C (ci := 0) rfl 0 (by decide) w_47 rfl hx hfx rfl d_C_isPlace_6 ?_
      refine lv_icmp_ge (tgt := 16) X.1 X.2.1 d_C_isPlace_9 (by decide) (fun hc => ?_) (fun hc => ?_)
      · skip
        refine lv_iconst (v := nI 0) X.1 X.2.1 d_C_isPlace_16 (by decide) ?_
        exact hm_zret X hr hlk hh (Or.inl rfl) ⟨by rw [ip_big h0]; rfl, rfl⟩ (Nat.le_of_ble_eq_true rfl) (Nat.le_of_ble_eq_true rfl) d_C_isPlace_17
      · exact absurd h0 hc
    · skip
      refine lv_iload_n X.1 X.2.1 d_C_isPlace_4 rfl (lv_at hl 1 rfl) ?_
      refine lv_aload_n X.1 X.2.1 d_C_isPlace_5 rfl (lv_at hl 0 rfl) ?_
      refine hl_get X hK hh (ref := "CycleGroups") i_C (ci := 0) rfl 0 (by decide) w_47 rfl hx hfx rfl d_C_isPlace_6 ?_
      refine hn_ige (tgt := 16) X (by omega) (by omega) d_C_isPlace_9 (by decide) (fun hc => ?_) (fun hc => ?_)
      · omega
      · skip
        refine lv_iconst (v := nI 1) X.1 X.2.1 d_C_isPlace_12 (by decide) ?_
        refine lv_goto (tgt := 17) X.1 X.2.1 d_C_isPlace_13 (by decide) ?_
        exact hm_zret X hr hlk hh (Or.inr rfl) ⟨by rw [ip_in hn hj]; rfl, rfl⟩ (Nat.le_of_ble_eq_true rfl) (Nat.le_of_ble_eq_true rfl) d_C_isPlace_17
theorem c_C_isMove (l : Launch) (g : hl_G) (sz : Nat) (L : List Nat) (f : Nat → va_E) (x n : Nat) (v0 v1 v2 v3 v4 v5 v6 v7 v8 : Value) (q : Int32) (hx : x ∈ L) (hfx : f x = .inr (0, [v0, v1, .int (nI n), v3, v4, v5, v6, v7, v8])) (hn : n < 2 ^ 31) :
    Met l y_C_isMove (hq y_C_isMove b_C_isMove 2 (some .boolean)) { frames := 0, cells := 0, slots := 0, locals := 0 } (hm_P g [.ref x, .int q] sz L f) (va_Qi (fun r u => r = hb (ip q n) ∧ u = (L, f)) (hm_B g sz L) (hm_A sz L)) 0 0 (hm_A sz L) := by
  refine hm_ofW (by decide) (Nat.le_of_ble_eq_true rfl) ?_
  intro p e s m below meth c X hr hlk hnm hK hsz hh ls hl
  have hl : lv_has ls 2 [(0, .ref x), (1, .int q)] := hl
  refine lv_iload_n X.1 X.2.1 d_C_isMove_0 rfl (lv_at hl 1 rfl) ?_
  refine lv_if_lt (tgt := 16) X.1 X.2.1 d_C_isMove_1 (by decide) (fun hc => ?_) (fun hc => ?_)
  · skip
    refine lv_iconst (v := nI 0) X.1 X.2.1 d_C_isMove_16 (by decide) ?_
    exact hm_zret X hr hlk hh (Or.inl rfl) ⟨by rw [ip_neg hc]; rfl, rfl⟩ (Nat.le_of_ble_eq_true rfl) (Nat.le_of_ble_eq_true rfl) d_C_isMove_17
  · rcases pk_ix q hn with h0 | h0 | ⟨j, hj, rfl⟩
    · exact absurd h0 hc
    · skip
      refine lv_iload_n X.1 X.2.1 d_C_isMove_4 rfl (lv_at hl 1 rfl) ?_
      refine lv_aload_n X.1 X.2.1 d_C_isMove_5 rfl (lv_at hl 0 rfl) ?_
      refine hl_get X hK hh (ref := "CycleGroups") i_C (ci := 0) rfl 2 (by decide) w_49 rfl hx hfx rfl d_C_isMove_6 ?_
      refine lv_icmp_ge (tgt := 16) X.1 X.2.1 d_C_isMove_9 (by decide) (fun hc => ?_) (fun hc => ?_)
      · skip
        refine lv_iconst (v := nI 0) X.1 X.2.1 d_C_isMove_16 (by decide) ?_
        exact hm_zret X hr hlk hh (Or.inl rfl) ⟨by rw [ip_big h0]; rfl, rfl⟩ (Nat.le_of_ble_eq_true rfl) (Nat.le_of_ble_eq_true rfl) d_C_isMove_17
      · exact absurd h0 hc
    · skip
      refine lv_iload_n X.1 X.2.1 d_C_isMove_4 rfl (lv_at hl 1 rfl) ?_
      refine lv_aload_n X.1 X.2.1 d_C_isMove_5 rfl (lv_at hl 0 rfl) ?_
      refine hl_get X hK hh (ref := "CycleGroups") i_C (ci := 0) rfl 2 (by decide) w_49 rfl hx hfx rfl d_C_isMove_6 ?_
      refine hn_ige (tgt := 16) X (by omega) (by omega) d_C_isMove_9 (by decide) (fun hc => ?_) (fun hc => ?_)
      · omega
      · skip
        refine lv_iconst (v := nI 1) X.1 X.2.1 d_C_isMove_12 (by decide) ?_
        refine lv_goto (tgt := 17) X.1 X.2.1 d_C_isMove_13 (by decide) ?_
        exact hm_zret X hr hlk hh (Or.inr rfl) ⟨by rw [ip_in hn hj]; rfl, rfl⟩ (Nat.le_of_ble_eq_true rfl) (Nat.le_of_ble_eq_true rfl) d_C_isMove_17
theorem c_C_isState (l : Launch) (g : hl_G) (sz : Nat) (L : List Nat) (f : Nat → va_E) (x n : Nat) (v0 v1 v2 v3 v4 v5 v6 v7 v8 : Value) (q : Int32) (hx : x ∈ L) (hfx : f x = .inr (0, [v0, v1, v2, v3, .int (nI n), v5, v6, v7, v8])) (hn : n < 2 ^ 31) :
    Met l y_C_isState (hq y_C_isState b_C_isState 2 (some .boolean)) { frames := 0, cells := 0, slots := 0, locals := 0 } (hm_P g [.ref x, .int q] sz L f) (va_Qi (fun r u => r = hb (ip q n) ∧ u = (L, f)) (hm_B g sz L) (hm_A sz L)) 0 0 (hm_A sz L) := by
  refine hm_ofW (by decide) (Nat.le_of_ble_eq_true rfl) ?_
  intro p e s m below meth c X hr hlk hnm hK hsz hh ls hl
  have hl : lv_has ls 2 [(0, .ref x), (1, .int q)] := hl
  refine lv_iload_n X.1 X.2.1 d_C_isState_0 rfl (lv_at hl 1 rfl) ?_
  refine lv_if_lt (tgt := 16) X.1 X.2.1 d_C_isState_1 (by decide) (fun hc => ?_) (fun hc => ?_)
  · skip
    refine lv_iconst (v := nI 0) X.1 X.2.1 d_C_isState_16 (by decide) ?_
    exact hm_zret X hr hlk hh (Or.inl rfl) ⟨by rw [ip_neg hc]; rfl, rfl⟩ (Nat.le_of_ble_eq_true rfl) (Nat.le_of_ble_eq_true rfl) d_C_isState_17
  · rcases pk_ix q hn with h0 | h0 | ⟨j, hj, rfl⟩
    · exact absurd h0 hc
    · skip
      refine lv_iload_n X.1 X.2.1 d_C_isState_4 rfl (lv_at hl 1 rfl) ?_
      refine lv_aload_n X.1 X.2.1 d_C_isState_5 rfl (lv_at hl 0 rfl) ?_
      refine hl_get X hK hh (ref := "CycleGroups") i_C (ci := 0) rfl 4 (by decide) w_51 rfl hx hfx rfl d_C_isState_6 ?_
      refine lv_icmp_ge (tgt := 16) X.1 X.2.1 d_C_isState_9 (by decide) (fun hc => ?_) (fun hc => ?_)
      · skip
        refine lv_iconst (v := nI 0) X.1 X.2.1 d_C_isState_16 (by decide) ?_
        exact hm_zret X hr hlk hh (Or.inl rfl) ⟨by rw [ip_big h0]; rfl, rfl⟩ (Nat.le_of_ble_eq_true rfl) (Nat.le_of_ble_eq_true rfl) d_C_isState_17
      · exact absurd h0 hc
    · skip
      refine lv_iload_n X.1 X.2.1 d_C_isState_4 rfl (lv_at hl 1 rfl) ?_
      refine lv_aload_n X.1 X.2.1 d_C_isState_5 rfl (lv_at hl 0 rfl) ?_
      refine hl_get X hK hh (ref := "CycleGroups") i_C (ci := 0) rfl 4 (by decide) w_51 rfl hx hfx rfl d_C_isState_6 ?_
      refine hn_ige (tgt := 16) X (by omega) (by omega) d_C_isState_9 (by decide) (fun hc => ?_) (fun hc => ?_)
      · omega
      · skip
        refine lv_iconst (v := nI 1) X.1 X.2.1 d_C_isState_12 (by decide) ?_
        refine lv_goto (tgt := 17) X.1 X.2.1 d_C_isState_13 (by decide) ?_
        exact hm_zret X hr hlk hh (Or.inr rfl) ⟨by rw [ip_in hn hj]; rfl, rfl⟩ (Nat.le_of_ble_eq_true rfl) (Nat.le_of_ble_eq_true rfl) d_C_isState_17

/-- private static void follow(int[] row, int[] next) -/
theorem c_C_follow (l : Launch) (g : hl_G) (sz : Nat) (L : List Nat) (f : Nat → va_E) (a b n : Nat) (z m0 : Nat → Nat) (ha : a ∈ L) (hfa : f a = hl_nat g n z) (hb0 : b ∈ L) (hfb : f b = hl_nat g n m0) (hab : b ≠ a) (hn : n ≤ 24) (hz : ∀ p, p < n → z p < n) :
    Met l y_C_follow (hq y_C_follow b_C_follow 3 none) { frames := 0, cells := 0, slots := 0, locals := 0 } (hm_P g [.ref a, .ref b] sz L f) (va_Qv (fun u => u = (L, va_up f a (hl_nat g n (m0 ∘ z)))) (hm_B g sz L) (hm_A sz L)) 0 0 (hm_A sz L) := by
  refine hm_ofW (by decide) (Nat.le_of_ble_eq_true rfl) ?_
  intro p e s m below meth c X hr hlk hnm hK hsz hh ls hl
  have hl : lv_has ls 3 [(0, .ref a), (1, .ref b)] := hl
  have loop : ∀ (t i : Nat) (y : Nat → Nat) (H : Heap) (locs : List Loc) (ls : Array Slot), n + 1 ≤ i + t → i ≤ n → (∀ p, p < i → y p = m0 (z p)) → (∀ p, i ≤ p → y p = z p) →
      hl_H g (hm_A sz L) s.heap L (va_up f a (hl_nat g n y)) H locs → lv_has ls 3 [(2, .int (nI i)), (0, .ref a), (1, .ref b)] →
      W p l e { frames := 0, cells := 0, slots := 0, locals := 0 } s m #[.ref a, .ref b] below meth c H locs 0 0 (MQ below (va_Qv (fun u => u = (L, va_up f a (hl_nat g n (m0 ∘ z)))) (hm_B g sz L) (hm_A sz L)) #[.ref a, .ref b] s 0 0 (hm_A sz L)) (F0 m 2 ls []) := by
    intro t
    induction t with
    | zero => intros; omega
    | succ t ih =>
      intro i y H locs ls hki hin hy hy2 hh hl
      refine lv_iload_n X.1 X.2.1 d_C_follow_2 rfl (lv_at hl 0 rfl) ?_
      refine lv_aload_n X.1 X.2.1 d_C_follow_3 rfl (lv_at hl 1 rfl) ?_
      refine hl_alenI X hK hh ha (va_up_self ..) d_C_follow_4 ?_
      refine hn_ige (tgt := 22) X (by omega) (by omega) d_C_follow_5 (by decide) (fun hc => ?_) (fun hc => ?_)
      · have hh := hl_norm (w := fun p => nI ((m0 ∘ z) p)) hh (fun p hp => by rw [hy p (by omega)]; rfl)
        exact hm_vret X hr hlk hh rfl (Nat.le_of_ble_eq_true rfl) (Nat.le_of_ble_eq_true rfl) d_C_follow_22
      · have hyi := hy2 i (Nat.le_refl _)
        have hzi := hz i hc
        refine lv_aload_n X.1 X.2.1 d_C_follow_8 rfl (lv_at hl 1 rfl) ?_
        refine lv_iload_n X.1 X.2.1 d_C_follow_9 rfl (lv_at hl 0 rfl) ?_
        refine lv_aload_n X.1 X.2.1 d_C_follow_10 rfl (lv_at hl 2 rfl) ?_
        refine lv_aload_n X.1 X.2.1 d_C_follow_11 rfl (lv_at hl 1 rfl) ?_
        refine lv_iload_n X.1 X.2.1 d_C_follow_12 rfl (lv_at hl 0 rfl) ?_
        refine hl_iald X hK hh ha (va_up_self ..) (by omega) (by omega) d_C_follow_13 ?_
        refine hl_iald X hK hh hb0 ((va_up_ne _ _ hab).trans hfb) (by omega) (by omega) d_C_follow_14 ?_
        refine hl_iastN X hK hh ha (va_up_self ..) (by omega) (by omega) d_C_follow_15 (fun H locs hh => ?_)
        rw [hr_uu] at hh
        refine lv_iinc (v := nI (i + 1)) (lv' := [(2, .int (nI (i + 1))), (0, .ref a), (1, .ref b)]) X.1 X.2.1 d_C_follow_16 hl (k := 0) rfl (hn_inc _) (by decide) rfl (fun ls hl => ?_)
        refine lv_goto (tgt := 2) X.1 X.2.1 d_C_follow_19 (by decide) ?_
        rw [hyi] at hh
        refine ih (i + 1) (va_up y i (m0 (z i))) H locs ls (by omega) (by omega) (fun p hp => ?_) (fun p hp => ?_) hh hl
        · by_cases e0 : p = i
          · rw [e0, va_up_self]
          · rw [va_up_ne _ _ e0]; exact hy p (by omega)
        · rw [va_up_ne _ _ (by omega)]; exact hy2 p (by omega)
  refine lv_iconst (v := nI 0) X.1 X.2.1 d_C_follow_0 (by decide) ?_
  refine lv_istore_n (lv' := [(2, .int (nI 0)), (0, .ref a), (1, .ref b)]) X.1 X.2.1 d_C_follow_1 rfl hl (by decide) rfl (fun ls hl => ?_)
  exact loop (n + 1) 0 z s.heap [] ls (by omega) (by omega) (fun p hp => absurd hp (Nat.not_lt_zero _)) (fun _ _ => rfl) (hl_same hfa hh) hl
end

