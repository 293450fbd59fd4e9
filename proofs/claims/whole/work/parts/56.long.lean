/-! Longs: compare; numbers as longs. -/
section
section
variable {p : Program} {l : Launch} {e : Env} {R : Room} {s : State} {m : MethodId} {args : Array Value} {below : List Frame} {meth : Method} {c : Code} {H : Heap} {locs : List Loc} {cells slots : Nat} {Q : State → Prop}
variable {cc : ByteArray} {pc nL : Nat} {ls : Array Slot} {rest st : List Value} {own : String}
theorem lv_lcmp0 (hexec : p.tables.exec = Jvm.exec) (hb : c.code = cc) {x y : Int64} (hdg : decode cc pc = .ok (.lcmp, 1))
    (k : ∀ v : Int32, (v = 0 ↔ x = y) → W p l e R s m args below meth c H locs cells slots Q (F0 m (pc + 1) ls (.int v :: rest))) : W p l e R s m args below meth c H locs cells slots Q (F0 m pc ls (.long y :: .long x :: rest)) := by
  intro T hT X
  by_cases h1 : y < x
  · obtain ⟨t, a, b⟩ := k 1 ⟨fun h => absurd h (by decide), fun h => by subst h; exact absurd h1 (Int64.lt_irrefl)⟩ T hT X
    refine ⟨t, ?_, b⟩
    jvm_step X.here [X.here.top, hexec, hb, hdg, h1]
    exact a
  · by_cases h2 : x = y
    · obtain ⟨t, a, b⟩ := k 0 ⟨fun _ => h2, fun _ => rfl⟩ T hT X
      refine ⟨t, ?_, b⟩
      jvm_step X.here [X.here.top, hexec, hb, hdg, h1, h2]
      exact a
    · obtain ⟨t, a, b⟩ := k (-1) ⟨fun h => absurd h (by decide), fun h => absurd h h2⟩ T hT X
      refine ⟨t, ?_, b⟩
      jvm_step X.here [X.here.top, hexec, hb, hdg, h1, h2]
      exact a

theorem hn_lmul {x y : Nat} (X : CallFix p m c cc nL s args tg own) (hdg : decode cc pc = .ok (.lmul, 1))
    (k : W p l e R s m args below meth c H locs cells slots Q (F0 m (pc + 1) ls (.long (lN (x * y)) :: rest))) : W p l e R s m args below meth c H locs cells slots Q (F0 m pc ls (.long (lN y) :: .long (lN x) :: rest)) :=
  lv_lmul X.1 X.2.1 hdg (by rw [lN_mul]; exact k)
theorem hn_lrem {x y : Nat} (X : CallFix p m c cc nL s args tg own) (hx : x < 2 ^ 63) (h0 : 0 < y) (hy : y < 2 ^ 63) (hdg : decode cc pc = .ok (.lrem, 1))
    (k : W p l e R s m args below meth c H locs cells slots Q (F0 m (pc + 1) ls (.long (lN (x % y)) :: rest))) : W p l e R s m args below meth c H locs cells slots Q (F0 m pc ls (.long (lN y) :: .long (lN x) :: rest)) :=
  lv_lrem X.1 X.2.1 hdg (fun e0 => by have : lN y = lN 0 := e0; rw [pk_lEQ hy (by decide)] at this; omega) (by rw [pk_lRem hx h0 hy]; exact k)
theorem hn_i2l {x : Nat} (X : CallFix p m c cc nL s args tg own) (hx : x < 2 ^ 31) (hdg : decode cc pc = .ok (.i2l, 1))
    (k : W p l e R s m args below meth c H locs cells slots Q (F0 m (pc + 1) ls (.long (lN x) :: rest))) : W p l e R s m args below meth c H locs cells slots Q (F0 m pc ls (.int (nI x) :: rest)) :=
  lv_i2l X.1 X.2.1 hdg (nI_l hx) k
end

/-- repeating a row -/
def itf (σ : Nat → Nat) : Nat → Nat → Nat
  | 0, p => p
  | k + 1, p => σ (itf σ k p)
/-- after how many steps the row comes back to p -/
def rt (σ : Nat → Nat) (n p r : Nat) : Prop := 1 ≤ r ∧ r ≤ n ∧ itf σ r p = p ∧ ∀ t, 1 ≤ t → t < r → itf σ t p ≠ p

theorem itf_add (σ : Nat → Nat) (a : Nat) : ∀ (b p : Nat), itf σ (b + a) p = itf σ b (itf σ a p)
  | 0, p => by rw [Nat.zero_add]; rfl
  | b + 1, p => by rw [Nat.add_right_comm]; show σ (itf σ (b + a) p) = σ (itf σ b (itf σ a p)); rw [itf_add σ a b p]

theorem itf_lt {σ : Nat → Nat} {n : Nat} (h : gp_sym (ch_D n 0) σ) {p : Nat} (hp : p < n) : ∀ k, itf σ k p < n
  | 0 => hp
  | k + 1 => show σ (itf σ k p) < n from lk_sym_lt h (itf_lt h hp k)

theorem itf_inj {σ : Nat → Nat} {n : Nat} (h : gp_sym (ch_D n 0) σ) : ∀ k {p q : Nat}, itf σ k p = itf σ k q → p = q
  | 0, _, _, e => e
  | k + 1, _, _, e => by obtain ⟨b, hb⟩ := h.1; exact itf_inj h k (gp_inv_inj hb e)

/-- it does come back, in at most n steps -/
theorem rt_ex {σ : Nat → Nat} {n : Nat} (h : gp_sym (ch_D n 0) σ) {p : Nat} (hp : p < n) : ∃ t, 1 ≤ t ∧ t ≤ n ∧ itf σ t p = p := by
  refine Classical.byContradiction (fun hno => ?_)
  have hne : ∀ t, 1 ≤ t → t ≤ n → itf σ t p ≠ p := fun t h1 h2 h3 => hno ⟨t, h1, h2, h3⟩
  have hinj : ∀ i j, i < j → j ≤ n → itf σ i p ≠ itf σ j p := by
    intro i j hij hj e
    have e2 : itf σ (i + (j - i)) p = itf σ i (itf σ (j - i) p) := itf_add σ (j - i) i p
    rw [show i + (j - i) = j by omega] at e2
    rw [e2] at e
    exact hne (j - i) (by omega) (by omega) (itf_inj h i e).symm
  have hnd : ((List.range (n + 1)).map (fun t => itf σ t p)).Nodup := by
    refine gp_nodup_map List.nodup_range (fun a b ha hb e => ?_)
    rw [List.mem_range] at ha hb
    rcases Nat.lt_trichotomy a b with q | q | q
    · exact absurd e (hinj a b q (by omega))
    · exact q
    · exact absurd e.symm (hinj b a q (by omega))
  have h1 : gp_card (fun x => ∃ t, t < n + 1 ∧ itf σ t p = x) (n + 1) := ⟨(List.range (n + 1)).map (fun t => itf σ t p), hnd, by simp, fun x => by simp⟩
  have h2 : gp_card (fun x => x < n) n := ⟨List.range n, List.nodup_range, by simp, fun x => by simp⟩
  have := gp_card_le h1 h2 (fun x ⟨t, _, e⟩ => e ▸ itf_lt h hp t)
  omega

theorem rt_uniq {σ : Nat → Nat} {n p r r2 : Nat} (h1 : rt σ n p r) (h2 : rt σ n p r2) : r = r2 := by
  obtain ⟨a1, a2, a3, a4⟩ := h1
  obtain ⟨b1, b2, b3, b4⟩ := h2
  rcases Nat.lt_trichotomy r r2 with q | q | q
  · exact absurd a3 (b4 r a1 q)
  · exact q
  · exact absurd b3 (a4 r2 b1 q)

/-- private static int returnTime(int[] row, int start) -/
theorem c_C_returnTime (l : Launch) (g : hl_G) (sz : Nat) (L : List Nat) (f : Nat → va_E) (a n : Nat) (σ : Nat → Nat) (k0 : Nat) (ha : a ∈ L) (hfa : f a = hl_nat g n σ) (hn : n ≤ 24) (hs : gp_sym (ch_D n 0) σ) (hk0 : k0 < n) :
    Met l y_C_returnTime (hq y_C_returnTime b_C_returnTime 4 (some .int)) { frames := 0, cells := 0, slots := 0, locals := 0 } (hm_P g [.ref a, .int (nI k0)] sz L f) (va_Qi (fun r u => (∃ r0, rt σ n k0 r0 ∧ r = nI r0) ∧ u = (L, f)) (hm_B g sz L) (hm_A sz L)) 0 0 (hm_A sz L) := by
  refine hm_ofW (by decide) (Nat.le_of_ble_eq_true rfl) ?_
  intro p e s m below meth c X hr hlk hnm hK hsz hh ls hl
  have hl : lv_has ls 4 [(0, .ref a), (1, .int (nI k0))] := hl
  have loop : ∀ (t i : Nat) (H : Heap) (locs : List Loc) (ls : Array Slot), n + 1 ≤ i + t → 1 ≤ i → i ≤ n → (∀ t, 1 ≤ t → t < i → itf σ t k0 ≠ k0) → hl_H g (hm_A sz L) s.heap L f H locs → lv_has ls 4 [(3, .int (nI i)), (2, .int (nI (itf σ i k0))), (0, .ref a), (1, .int (nI k0))] → W p l e { frames := 0, cells := 0, slots := 0, locals := 0 } s m #[.ref a, .int (nI k0)] below meth c H locs 0 0 (MQ below (va_Qi (fun r u => (∃ r0, rt σ n k0 r0 ∧ r = nI r0) ∧ u = (L, f)) (hm_B g sz L) (hm_A sz L)) #[.ref a, .int (nI k0)] s 0 0 (hm_A sz L)) (F0 m 6 ls []) := by
    intro t
    induction t with
    | zero => intros; omega
    | succ t ih =>
      intro i H locs ls hk hi1 hin hno hh hl
      have hlt := itf_lt hs hk0 i
      refine lv_iload_n X.1 X.2.1 d_C_returnTime_6 rfl (lv_at hl 1 rfl) ?_
      refine lv_iload_n X.1 X.2.1 d_C_returnTime_7 rfl (lv_at hl 3 rfl) ?_
      refine hn_ieq (tgt := 27) X (by omega) (by omega) d_C_returnTime_8 (by decide) (fun hc => ?_) (fun hc => ?_)
      · have hc1 : itf σ i k0 = k0 := hc
        refine lv_iload_n X.1 X.2.1 d_C_returnTime_27 rfl (lv_at hl 0 rfl) ?_
        exact hm_iret X hr hlk hh ⟨⟨i, ⟨hi1, hin, hc1, hno⟩, rfl⟩, rfl⟩ (Nat.le_of_ble_eq_true rfl) (Nat.le_of_ble_eq_true rfl) d_C_returnTime_28
      · have hc1 : ¬ itf σ i k0 = k0 := hc
        refine lv_iload_n X.1 X.2.1 d_C_returnTime_11 rfl (lv_at hl 0 rfl) ?_
        refine lv_aload_n X.1 X.2.1 d_C_returnTime_12 rfl (lv_at hl 2 rfl) ?_
        refine hl_alenI X hK hh ha hfa d_C_returnTime_13 ?_
        refine hn_ige (tgt := 27) X (by omega) (by omega) d_C_returnTime_14 (by decide) (fun hc => ?_) (fun hc => ?_)
        · have hc2 : i = n := by omega
          obtain ⟨t0, x1, x2, x3⟩ := rt_ex hs hk0
          rcases Nat.lt_or_ge t0 i with q | q
          · exact absurd x3 (hno t0 x1 q)
          · have : t0 = i := by omega
            exact absurd (this ▸ x3) hc1
        · have hc2 : i < n := hc
          refine lv_aload_n X.1 X.2.1 d_C_returnTime_17 rfl (lv_at hl 2 rfl) ?_
          refine lv_iload_n X.1 X.2.1 d_C_returnTime_18 rfl (lv_at hl 1 rfl) ?_
          refine hl_iald X hK hh ha hfa (by omega) (by omega) d_C_returnTime_19 ?_
          refine lv_istore_n (lv' := [(2, .int (nI (σ (itf σ i k0)))), (3, .int (nI i)), (0, .ref a), (1, .int (nI k0))]) X.1 X.2.1 d_C_returnTime_20 rfl hl (by decide) rfl (fun ls hl => ?_)
          refine lv_iinc (v := nI (i + 1)) (lv' := [(3, .int (nI (i + 1))), (2, .int (nI (σ (itf σ i k0)))), (0, .ref a), (1, .int (nI k0))]) X.1 X.2.1 d_C_returnTime_21 hl (k := 1) rfl (hn_inc _) (by decide) rfl (fun ls hl => ?_)
          refine lv_goto (tgt := 6) X.1 X.2.1 d_C_returnTime_24 (by decide) ?_
          refine ih (i + 1) H locs ls (by omega) (by omega) (by omega) (fun t1 h1 h2 => ?_) hh hl
          rcases Nat.lt_or_ge t1 i with q | q
          · exact hno t1 h1 q
          · have : t1 = i := by omega
            rw [this]; exact hc1
  refine lv_aload_n X.1 X.2.1 d_C_returnTime_0 rfl (lv_at hl 0 rfl) ?_
  refine lv_iload_n X.1 X.2.1 d_C_returnTime_1 rfl (lv_at hl 1 rfl) ?_
  refine hl_iald X hK hh ha hfa (by omega) (by omega) d_C_returnTime_2 ?_
  refine lv_istore_n (lv' := [(2, .int (nI (σ k0))), (0, .ref a), (1, .int (nI k0))]) X.1 X.2.1 d_C_returnTime_3 rfl hl (by decide) rfl (fun ls hl => ?_)
  refine lv_iconst (v := nI 1) X.1 X.2.1 d_C_returnTime_4 (by decide) ?_
  refine lv_istore_n (lv' := [(3, .int (nI 1)), (2, .int (nI (σ k0))), (0, .ref a), (1, .int (nI k0))]) X.1 X.2.1 d_C_returnTime_5 rfl hl (by decide) rfl (fun ls hl => ?_)
  exact loop (n + 1) 1 s.heap [] ls (by omega) (by omega) (by omega) (fun t1 h1 h2 => by omega) hh (lv_sub hl [0, 1, 2, 3] rfl)

theorem lm_eq {a b k : Nat} (ha : 0 < a) (hk : 1 ≤ k) (hd : b ∣ a * k) (hno : ∀ t, 1 ≤ t → t < k → ¬ b ∣ a * t) (hb : 0 < b) : Nat.lcm a b = a * k := by
  apply Nat.le_antisymm
  · exact Nat.le_of_dvd (Nat.mul_pos ha hk) (Nat.lcm_dvd (Nat.dvd_mul_right a k) hd)
  · obtain ⟨m, hm⟩ := Nat.dvd_lcm_left a b
    have hpos : 0 < Nat.lcm a b := Nat.lcm_pos ha hb
    have h2 : b ∣ a * m := hm ▸ Nat.dvd_lcm_right a b
    have hm0 : 1 ≤ m := by
      rcases Nat.eq_zero_or_pos m with q | q
      · rw [hm, q] at hpos; omega
      · exact q
    rw [hm]
    refine Nat.mul_le_mul_left a ?_
    rcases Nat.lt_or_ge m k with q | q
    · exact absurd h2 (hno m hm0 q)
    · exact q

/-- private static long leastMultiple(long a, int b) -/
theorem c_C_leastMultiple (l : Launch) (g : hl_G) (sz : Nat) (L : List Nat) (f : Nat → va_E) (a d : Nat) (ha : 0 < a) (ha2 : a ≤ 5354228880) (hd : 1 ≤ d) (hd2 : d ≤ 24) :
    Met l y_C_leastMultiple (hq y_C_leastMultiple b_C_leastMultiple 4 (some .long)) { frames := 0, cells := 0, slots := 0, locals := 0 } (hm_P g [.long (lN a), .int (nI d)] sz L f) (va_Ql (fun r u => r = lN (Nat.lcm a d) ∧ u = (L, f)) (hm_B g sz L) (hm_A sz L)) 0 0 (hm_A sz L) := by
  refine hm_ofW (by decide) (Nat.le_of_ble_eq_true rfl) ?_
  intro p e s m below meth c X hr hlk hnm hK hsz hh ls hl
  have hl : lv_has ls 4 [(0, .long (lN a)), (2, .int (nI d))] := hl
  have loop : ∀ (t i : Nat) (H : Heap) (locs : List Loc) (ls : Array Slot), d + 1 ≤ i + t → 1 ≤ i → i ≤ d → (∀ t, 1 ≤ t → t < i → ¬ d ∣ a * t) → hl_H g (hm_A sz L) s.heap L f H locs → lv_has ls 4 [(3, .int (nI i)), (0, .long (lN a)), (2, .int (nI d))] → W p l e { frames := 0, cells := 0, slots := 0, locals := 0 } s m #[.long (lN a), .int (nI d)] below meth c H locs 0 0 (MQ below (va_Ql (fun r u => r = lN (Nat.lcm a d) ∧ u = (L, f)) (hm_B g sz L) (hm_A sz L)) #[.long (lN a), .int (nI d)] s 0 0 (hm_A sz L)) (F0 m 9 ls []) := by
    intro t
    induction t with
    | zero => intros; omega
    | succ t ih =>
      intro i H locs ls hk hi1 hin hno hh hl
      have hb : a * i ≤ 5354228880 * 24 := Nat.mul_le_mul ha2 (by omega)
      refine lv_iload_n X.1 X.2.1 d_C_leastMultiple_9 rfl (lv_at hl 0 rfl) ?_
      refine lv_iload_n X.1 X.2.1 d_C_leastMultiple_10 rfl (lv_at hl 2 rfl) ?_
      refine hn_ige (tgt := 37) X (by omega) (by omega) d_C_leastMultiple_11 (by decide) (fun hc => ?_) (fun hc => ?_)
      · have hc2 : i = d := by omega
        refine lv_lload_n X.1 X.2.1 d_C_leastMultiple_37 rfl (lv_at hl 1 rfl) ?_
        refine lv_iload_n X.1 X.2.1 d_C_leastMultiple_38 rfl (lv_at hl 2 rfl) ?_
        refine hn_i2l X (by omega) d_C_leastMultiple_39 ?_
        refine hn_lmul X d_C_leastMultiple_40 ?_
        refine hm_lret X hr hlk hh ⟨?_, rfl⟩ (Nat.le_of_ble_eq_true rfl) (Nat.le_of_ble_eq_true rfl) d_C_leastMultiple_41
        rw [← hc2] at hno ⊢
        rw [lm_eq ha hi1 (Nat.dvd_mul_left i a) hno (by omega)]
      · have hc2 : i < d := hc
        refine lv_lload_n X.1 X.2.1 d_C_leastMultiple_14 rfl (lv_at hl 1 rfl) ?_
        refine lv_iload_n X.1 X.2.1 d_C_leastMultiple_15 rfl (lv_at hl 0 rfl) ?_
        refine hn_i2l X (by omega) d_C_leastMultiple_16 ?_
        refine hn_lmul X d_C_leastMultiple_17 ?_
        refine lv_iload_n X.1 X.2.1 d_C_leastMultiple_18 rfl (lv_at hl 2 rfl) ?_
        refine hn_i2l X (by omega) d_C_leastMultiple_19 ?_
        refine hn_lrem X (by omega) (by omega) (by omega) d_C_leastMultiple_20 ?_
        refine lv_lconst (v := lN 0) X.1 X.2.1 d_C_leastMultiple_21 (by decide) ?_
        refine lv_lcmp0 X.1 X.2.1 d_C_leastMultiple_22 (fun v hv => ?_)
        have hv2 : v = 0 ↔ d ∣ a * i := by
          rw [hv, pk_lEQ (by have := Nat.mod_lt (a * i) (show 0 < d by omega); omega) (by decide)]
          exact ⟨Nat.dvd_of_mod_eq_zero, Nat.mod_eq_zero_of_dvd⟩
        refine lv_if_ne (tgt := 31) X.1 X.2.1 d_C_leastMultiple_23 (by decide) (fun hc => ?_) (fun hc => ?_)
        · skip
          refine lv_iinc (v := nI (i + 1)) (lv' := [(3, .int (nI (i + 1))), (0, .long (lN a)), (2, .int (nI d))]) X.1 X.2.1 d_C_leastMultiple_31 hl (k := 0) rfl (hn_inc _) (by decide) rfl (fun ls hl => ?_)
          refine lv_goto (tgt := 9) X.1 X.2.1 d_C_leastMultiple_34 (by decide) ?_
          refine ih (i + 1) H locs ls (by omega) (by omega) (by omega) (fun t1 h1 h2 => ?_) hh hl
          rcases Nat.lt_or_ge t1 i with q | q
          · exact hno t1 h1 q
          · have : t1 = i := by omega
            rw [this]; exact fun hx => hc (hv2.2 hx)
        · skip
          refine lv_lload_n X.1 X.2.1 d_C_leastMultiple_26 rfl (lv_at hl 1 rfl) ?_
          refine lv_iload_n X.1 X.2.1 d_C_leastMultiple_27 rfl (lv_at hl 0 rfl) ?_
          refine hn_i2l X (by omega) d_C_leastMultiple_28 ?_
          refine hn_lmul X d_C_leastMultiple_29 ?_
          refine hm_lret X hr hlk hh ⟨?_, rfl⟩ (Nat.le_of_ble_eq_true rfl) (Nat.le_of_ble_eq_true rfl) d_C_leastMultiple_30
          rw [lm_eq ha hi1 (hv2.1 hc) hno (by omega)]
  refine lv_iload_n X.1 X.2.1 d_C_leastMultiple_0 rfl (lv_at hl 1 rfl) ?_
  refine lv_iconst (v := nI 1) X.1 X.2.1 d_C_leastMultiple_1 (by decide) ?_
  refine hn_ige (tgt := 7) X (by omega) (by omega) d_C_leastMultiple_2 (by decide) (fun hc => ?_) (fun hc => ?_)
  · skip
    refine lv_iconst (v := nI 1) X.1 X.2.1 d_C_leastMultiple_7 (by decide) ?_
    refine lv_istore_n (lv' := [(3, .int (nI 1)), (0, .long (lN a)), (2, .int (nI d))]) X.1 X.2.1 d_C_leastMultiple_8 rfl hl (by decide) rfl (fun ls hl => ?_)
    exact loop (d + 1) 1 s.heap [] ls (by omega) (by omega) (by omega) (fun t1 h1 h2 => by omega) hh (lv_sub hl [0, 1, 2] rfl)
  · omega

/-- the least number that all return times below i divide -/
def tm (σ : Nat → Nat) (n i x : Nat) : Prop := 1 ≤ x ∧ (∀ p r, p < i → rt σ n p r → r ∣ x) ∧ ∀ y, (∀ p r, p < i → rt σ n p r → r ∣ y) → x ∣ y
theorem tm_all : ∀ r, r < 25 → 1 ≤ r → r ∣ 5354228880 := by decide
theorem tm_le {σ : Nat → Nat} {n i x : Nat} (h : tm σ n i x) (hn : n ≤ 24) : x ≤ 5354228880 :=
  Nat.le_of_dvd (by decide) (h.2.2 _ (fun p r _ hr => tm_all r (by have := hr.2.1; omega) hr.1))
theorem tm_0 (σ : Nat → Nat) (n : Nat) : tm σ n 0 1 := ⟨Nat.le_refl _, fun p r hp => absurd hp (Nat.not_lt_zero _), fun y _ => Nat.one_dvd y⟩
theorem tm_s {σ : Nat → Nat} {n i x r : Nat} (h : tm σ n i x) (hr : rt σ n i r) : tm σ n (i + 1) (Nat.lcm x r) := by
  obtain ⟨h1, h2, h3⟩ := h
  refine ⟨Nat.lcm_pos h1 hr.1, fun p r1 hp hr1 => ?_, fun y hy => Nat.lcm_dvd (h3 y (fun p r1 hp hr1 => hy p r1 (by omega) hr1)) (hy i r (by omega) hr)⟩
  rcases Nat.lt_or_ge p i with q | q
  · exact Nat.dvd_trans (h2 p r1 q hr1) (Nat.dvd_lcm_left x r)
  · have : p = i := by omega
    subst this
    rw [rt_uniq hr1 hr]; exact Nat.dvd_lcm_right x r
theorem tm_uniq {σ : Nat → Nat} {n i x y : Nat} (h1 : tm σ n i x) (h2 : tm σ n i y) : x = y :=
  Nat.dvd_antisymm (h1.2.2 y h2.2.1) (h2.2.2 x h1.2.1)

/-- long times(int state) -/
theorem c_C_times (l : Launch) (g : hl_G) (sz : Nat) (L : List Nat) (f : Nat → va_E) (T : Nat → Nat) (b : Nat → Nat) (n mm sm : Nat) (mv st : Nat → Nat → Nat) (made : Bool) (hI : cg_I g L f T b n mm sm mv st made) (q1 : Int32) (post : Int64 → List Nat × (Nat → va_E) → Prop) (hpo : ∀ r, (ip q1 sm = false ∧ r = lN 0) ∨ (∃ j x, j < sm ∧ q1 = nI j ∧ tm (st j) n n x ∧ r = lN x) → post r (L, f)) :
    Met l y_C_times (hq y_C_times b_C_times 5 (some .long)) { frames := 1, cells := 0, slots := 0, locals := 30 } (hm_P g [.ref (b 0), .int q1] sz L f) (va_Ql (post) (hm_B g sz L) (hm_A sz L)) 0 0 (hm_A sz L) := by
  refine hm_ofW (by decide) (Nat.le_of_ble_eq_true rfl) ?_
  intro p e s m below meth c X hr hlk hnm hK hsz hh ls hl
  have hl : lv_has ls 5 [(0, .ref (b 0)), (1, .int q1)] := hl
  obtain ⟨zp, zd, cv, fl, hB, hC, hW, hmd⟩ := id hI
  obtain ⟨hn0, hn, hmm, hsm, hmv, hst⟩ := id hW
  rcases ip_cases q1 (n := sm) (by omega) with h1 | ⟨j, hj, rfl⟩
  · skip
    refine lv_aload_n X.1 X.2.1 d_C_times_0 rfl (lv_at hl 0 rfl) ?_
    refine lv_iload_n X.1 X.2.1 d_C_times_1 rfl (lv_at hl 1 rfl) ?_
    refine hl_calli hh (hl_runV (k := 1) X hK hh (c_C_isState l g _ L f (b 0) sm _ _ _ _ .null _ _ _ _ q1 (hB.1 0 (by omega)).1 hB.2.1 (by omega)) wc_C_isState w_298 w_1 wi_C_isState ws_C_isState (by decide +kernel) rfl rfl ⟨Nat.le_of_ble_eq_true rfl, Nat.le_of_ble_eq_true rfl⟩ (hB.1 0 (by omega)).1 hB.2.1 rfl rfl rfl rfl (Nat.le_of_ble_eq_true rfl) hl.1 d_C_times_2 ⟨Nat.le_of_ble_eq_true rfl, Nat.le_of_ble_eq_true rfl⟩) (fun r u H locs hp hh => ?_)
    obtain ⟨hr1, rfl⟩ := hp
    rw [h1] at hr1
    subst hr1
    refine lv_if_ne (tgt := 10) X.1 X.2.1 d_C_times_5 (by decide) (fun hc => absurd (by decide) hc) (fun _ => ?_)
    refine lv_lconst (v := lN 0) X.1 X.2.1 d_C_times_8 (by decide) ?_
    exact hm_lret X hr hlk hh (hpo _ (Or.inl ⟨h1, rfl⟩)) (Nat.le_of_ble_eq_true rfl) (Nat.le_of_ble_eq_true rfl) d_C_times_9
  · have h1 := ip_in (by omega : sm < 2 ^ 31) hj
    have loop : ∀ (t i x : Nat) (H : Heap) (locs : List Loc) (ls : Array Slot), n + 1 ≤ i + t → i ≤ n → tm (st j) n i x → hl_H g (hm_A sz L) s.heap L f H locs → lv_has ls 5 [(4, .int (nI i)), (2, .long (lN x)), (0, .ref (b 0)), (1, .int (nI j))] → W p l e { frames := 1, cells := 0, slots := 0, locals := 30 } s m #[.ref (b 0), .int (nI j)] below meth c H locs 0 0 (MQ below (va_Ql (post) (hm_B g sz L) (hm_A sz L)) #[.ref (b 0), .int (nI j)] s 0 0 (hm_A sz L)) (F0 m 15 ls []) := by
      intro t
      induction t with
      | zero => intros; omega
      | succ t ih =>
        intro i x H locs ls hk hin hx hh hl
        have hxl := tm_le hx hn
        refine lv_iload X.1 X.2.1 d_C_times_15 (lv_at hl 0 rfl) ?_
        refine lv_aload_n X.1 X.2.1 d_C_times_17 rfl (lv_at hl 2 rfl) ?_
        refine hl_get X hK hh (ref := "CycleGroups") i_C (ci := 0) rfl 0 (by decide) w_47 rfl (hB.1 0 (by omega)).1 hB.2.1 rfl d_C_times_18 ?_
        refine hn_ige (tgt := 46) X (by omega) (by omega) d_C_times_21 (by decide) (fun hc => ?_) (fun hc => ?_)
        · have hin2 : i = n := by omega
          rw [hin2] at hx
          refine lv_lload_n X.1 X.2.1 d_C_times_46 rfl (lv_at hl 1 rfl) ?_
          exact hm_lret X hr hlk hh (hpo _ (Or.inr ⟨j, x, hj, rfl, hx, rfl⟩)) (Nat.le_of_ble_eq_true rfl) (Nat.le_of_ble_eq_true rfl) d_C_times_47
        · have hin2 : i < n := hc
          refine lv_lload_n X.1 X.2.1 d_C_times_24 rfl (lv_at hl 1 rfl) ?_
          refine lv_aload_n X.1 X.2.1 d_C_times_25 rfl (lv_at hl 2 rfl) ?_
          refine hl_get X hK hh (ref := "CycleGroups") i_C (ci := 0) rfl 3 (by decide) w_50 rfl (hB.1 0 (by omega)).1 hB.2.1 rfl d_C_times_26 ?_
          refine lv_iload_n X.1 X.2.1 d_C_times_29 rfl (lv_at hl 3 rfl) ?_
          refine hl_aaldG X hK hh (hB.1 2 (by omega)).1 hB.2.2.2.1 (by omega) (by omega) (if_pos (by omega)) d_C_times_30 ?_
          refine lv_iload X.1 X.2.1 d_C_times_31 (lv_at hl 0 rfl) ?_
          refine hl_calli hh (hl_runS (k := 2) X hK hh (c_C_returnTime l g _ L f (b (20 + j)) n (st j) i (hB.1 (20 + j) (by omega)).1 (hB.2.2.2.2.2.2.2.2.2 j (by omega)) hn (hst j hj) hin2) wc_C_returnTime w_336 w_1 wi_C_returnTime (by decide +kernel) rfl rfl ⟨Nat.le_of_ble_eq_true rfl, Nat.le_of_ble_eq_true rfl⟩ rfl rfl (Nat.le_of_ble_eq_true rfl) hl.1 d_C_times_33 ⟨Nat.le_of_ble_eq_true rfl, Nat.le_of_ble_eq_true rfl⟩) (fun r u H locs hp hh => ?_)
          obtain ⟨⟨r0, hr0, rfl⟩, rfl⟩ := hp
          have hrb := hr0.2.1
          refine hl_calll hh (hl_runS (k := 2) X hK hh (c_C_leastMultiple l g _ L f x r0 hx.1 hxl hr0.1 (by omega)) wc_C_leastMultiple w_339 w_1 wi_C_leastMultiple (by decide +kernel) rfl rfl ⟨Nat.le_of_ble_eq_true rfl, Nat.le_of_ble_eq_true rfl⟩ rfl rfl (Nat.le_of_ble_eq_true rfl) hl.1 d_C_times_36 ⟨Nat.le_of_ble_eq_true rfl, Nat.le_of_ble_eq_true rfl⟩) (fun r u H locs hp hh => ?_)
          obtain ⟨rfl, rfl⟩ := hp
          refine lv_lstore_n (lv' := [(2, .long (lN (Nat.lcm x r0))), (4, .int (nI i)), (0, .ref (b 0)), (1, .int (nI j))]) X.1 X.2.1 d_C_times_39 rfl hl (by decide) rfl (fun ls hl => ?_)
          refine lv_iinc (v := nI (i + 1)) (lv' := [(4, .int (nI (i + 1))), (2, .long (lN (Nat.lcm x r0))), (0, .ref (b 0)), (1, .int (nI j))]) X.1 X.2.1 d_C_times_40 hl (k := 1) rfl (hn_inc _) (by decide) rfl (fun ls hl => ?_)
          refine lv_goto (tgt := 15) X.1 X.2.1 d_C_times_43 (by decide) ?_
          exact ih (i + 1) _ H locs ls (by omega) (by omega) (tm_s hx hr0) hh hl
    refine lv_aload_n X.1 X.2.1 d_C_times_0 rfl (lv_at hl 0 rfl) ?_
    refine lv_iload_n X.1 X.2.1 d_C_times_1 rfl (lv_at hl 1 rfl) ?_
    refine hl_calli hh (hl_runV (k := 1) X hK hh (c_C_isState l g _ L f (b 0) sm _ _ _ _ .null _ _ _ _ (nI j) (hB.1 0 (by omega)).1 hB.2.1 (by omega)) wc_C_isState w_298 w_1 wi_C_isState ws_C_isState (by decide +kernel) rfl rfl ⟨Nat.le_of_ble_eq_true rfl, Nat.le_of_ble_eq_true rfl⟩ (hB.1 0 (by omega)).1 hB.2.1 rfl rfl rfl rfl (Nat.le_of_ble_eq_true rfl) hl.1 d_C_times_2 ⟨Nat.le_of_ble_eq_true rfl, Nat.le_of_ble_eq_true rfl⟩) (fun r u H locs hp hh => ?_)
    obtain ⟨hr1, rfl⟩ := hp
    rw [h1] at hr1
    subst hr1
    refine lv_if_ne (tgt := 10) X.1 X.2.1 d_C_times_5 (by decide) (fun _ => ?_) (fun hc => absurd hc (by decide))
    refine lv_lconst (v := lN 1) X.1 X.2.1 d_C_times_10 (by decide) ?_
    refine lv_lstore_n (lv' := [(2, .long (lN 1)), (0, .ref (b 0)), (1, .int (nI j))]) X.1 X.2.1 d_C_times_11 rfl hl (by decide) rfl (fun ls hl => ?_)
    refine lv_iconst (v := nI 0) X.1 X.2.1 d_C_times_12 (by decide) ?_
    refine lv_istore (lv' := [(4, .int (nI 0)), (2, .long (lN 1)), (0, .ref (b 0)), (1, .int (nI j))]) X.1 X.2.1 d_C_times_13 hl (by decide) rfl (fun ls hl => ?_)
    exact loop (n + 1) 0 1 _ _ ls (by omega) (by omega) (tm_0 _ _) hh (lv_sub hl [0, 1, 2, 3] rfl)
end

