/-! The layer: Math.min, Math.max, Object's constructor; the rest of Decimal. -/
section
section
variable {p : Program} {l : Launch} {e : Env} {R : Room} {s : State} {m : MethodId} {args : Array Value} {below : List Frame} {meth : Method} {c : Code} {H : Heap} {locs : List Loc} {cells slots : Nat} {Q : State → Prop}
variable {cc : ByteArray} {pc nL : Nat} {ls : Array Slot} {rest : List Value} {own : String} {x y : Nat}

theorem hn_max {index : Nat} (X : CallFix p m c cc nL s args tg own) (hlink : Cond.methodLink own index Lib.Math.max.name ∈ tg) (hls : ls.size = nL) (hx : x < 2 ^ 31) (hy : y < 2 ^ 31)
    (hframes : 1 ≤ R.frames) (hlocals : (rest.map fun v => v.category).sum + 13 ≤ R.locals) (hc : cells ≤ R.cells) (hs : slots ≤ R.slots) (hdg : decode cc pc = .ok (.invokestatic index, 3))
    (kk : W p l e R s m args below meth c H locs cells slots Q (F0 m (pc + 3) ls (.int (nI (max x y)) :: rest))) : W p l e R s m args below meth c H locs cells slots Q (F0 m pc ls (.int (nI y) :: .int (nI x) :: rest)) := by
  refine va_mmax X.1 X.2.1 (by rw [X.2.2.1]; exact hls.symm) X.2.2.2.1 (X.2.2.2.2 _ hlink) (X.2.2.2.2 _ (tg_of (by decide +kernel) rfl)) (X.2.2.2.2 _ (tg_of (by decide +kernel) rfl)) (X.2.2.2.2 _ (tg_of (by decide +kernel) rfl)) hframes hlocals hc hs hdg ?_
  have e1 : (if nI x < nI y then nI y else nI x) = nI (max x y) := by
    by_cases h : x < y
    · rw [if_pos ((nI_ltI hx hy).2 h), Nat.max_eq_right (by omega)]
    · rw [if_neg (fun h2 => h ((nI_ltI hx hy).1 h2)), Nat.max_eq_left (by omega)]
  rw [e1]
  exact kk

theorem hn_min {index : Nat} (X : CallFix p m c cc nL s args tg own) (hlink : Cond.methodLink own index Lib.Math.min.name ∈ tg) (hls : ls.size = nL) (hx : x < 2 ^ 31) (hy : y < 2 ^ 31)
    (hframes : 1 ≤ R.frames) (hlocals : (rest.map fun v => v.category).sum + 13 ≤ R.locals) (hc : cells ≤ R.cells) (hs : slots ≤ R.slots) (hdg : decode cc pc = .ok (.invokestatic index, 3))
    (kk : W p l e R s m args below meth c H locs cells slots Q (F0 m (pc + 3) ls (.int (nI (min x y)) :: rest))) : W p l e R s m args below meth c H locs cells slots Q (F0 m pc ls (.int (nI y) :: .int (nI x) :: rest)) := by
  refine va_mmin X.1 X.2.1 (by rw [X.2.2.1]; exact hls.symm) X.2.2.2.1 (X.2.2.2.2 _ hlink) (X.2.2.2.2 _ (tg_of (by decide +kernel) rfl)) (X.2.2.2.2 _ (tg_of (by decide +kernel) rfl)) (X.2.2.2.2 _ (tg_of (by decide +kernel) rfl)) hframes hlocals hc hs hdg ?_
  have e1 : (if nI y < nI x then nI y else nI x) = nI (min x y) := by
    by_cases h : y < x
    · rw [if_pos ((nI_ltI hy hx).2 h), Nat.min_eq_right (by omega)]
    · rw [if_neg (fun h2 => h ((nI_ltI hy hx).1 h2)), Nat.min_eq_left (by omega)]
  rw [e1]
  exact kk

theorem hl_objI {idx a : Nat} (X : CallFix p m c cc nL s args tg own) (hlink : Cond.methodLink own idx Lib.objectInit ∈ tg) (hls : ls.size = nL) (hframes : 1 ≤ R.frames)
    (hlocals : (rest.map fun v => v.category).sum + 12 ≤ R.locals) (hdg : decode cc pc = .ok (.invokespecial idx, 3))
    (kk : W p l e R s m args below meth c H locs cells slots Q (F0 m (pc + 3) ls rest)) : W p l e R s m args below meth c H locs cells slots Q (F0 m pc ls (.ref a :: rest)) :=
  W.objInit X.1 X.2.1 X.2.2.2.1 (X.2.2.2.2 _ hlink) (X.2.2.2.2 _ (tg_of (by decide +kernel) rfl)) (X.2.2.2.2 _ (tg_of (by decide +kernel) rfl)) rfl (by rw [X.2.2.1]; exact hls) rfl hdg hframes (by show 2 * 0 + _ + 12 ≤ _; omega) kk
end

section
variable {p : Program} {l : Launch} {e : Env} {R : Room} {s : State} {m : MethodId} {args : Array Value} {below : List Frame} {meth : Method} {c : Code} {H : Heap} {locs : List Loc} {cells slots : Nat} {Q : State → Prop}
variable {cc : ByteArray} {pc nL : Nat} {ls : Array Slot} {rest : List Value} {own : String} {x : Nat}
theorem hn_zeq {off : Int} {tgt : Nat} (X : CallFix p m c cc nL s args tg own) (hx : x < 2 ^ 31) (hdg : decode cc pc = .ok (.ifCond .eq off, 3)) (ht : (pc : Int) + off = (tgt : Int))
    (kt : x = 0 → W p l e R s m args below meth c H locs cells slots Q (F0 m tgt ls rest)) (kf : ¬ x = 0 → W p l e R s m args below meth c H locs cells slots Q (F0 m (pc + 3) ls rest)) : W p l e R s m args below meth c H locs cells slots Q (F0 m pc ls (.int (nI x) :: rest)) :=
  lv_if_eq X.1 X.2.1 hdg ht (fun h => kt (Decidable.byContradiction fun e => nI_ne0 (Nat.pos_of_ne_zero e) hx h)) (fun h => kf (fun e => h (by rw [e]; rfl)))
theorem hn_zne {off : Int} {tgt : Nat} (X : CallFix p m c cc nL s args tg own) (hx : x < 2 ^ 31) (hdg : decode cc pc = .ok (.ifCond .ne off, 3)) (ht : (pc : Int) + off = (tgt : Int))
    (kt : ¬ x = 0 → W p l e R s m args below meth c H locs cells slots Q (F0 m tgt ls rest)) (kf : x = 0 → W p l e R s m args below meth c H locs cells slots Q (F0 m (pc + 3) ls rest)) : W p l e R s m args below meth c H locs cells slots Q (F0 m pc ls (.int (nI x) :: rest)) :=
  lv_if_ne X.1 X.2.1 hdg ht (fun h => kt (fun e => h (by rw [e]; rfl))) (fun h => kf (Decidable.byContradiction fun e => nI_ne0 (Nat.pos_of_ne_zero e) hx h))
end

/-- what is left over when the digits from t on (m of them) are divided by k -/
def dg_rs (d : Nat → Nat) (k : Nat) : Nat → Nat → Nat
  | 0, _ => 0
  | m + 1, t => (dg_rs d k m (t + 1) * 10 + d t) % k
/-- digit t of the number of n digits, divided by k -/
def dg_div (d : Nat → Nat) (k n t : Nat) : Nat := (dg_rs d k (n - t - 1) (t + 1) * 10 + d t) / k
theorem dg_rs_lt (d : Nat → Nat) {k : Nat} (hk : 0 < k) : ∀ m t, dg_rs d k m t < k := by
  intro m t
  cases m with
  | zero => exact hk
  | succ m => exact Nat.mod_lt _ hk

/-- void divide(int divisor) -/
theorem c_D_divide (l : Launch) (g : hl_G) (sz : Nat) (L : List Nat) (f : Nat → va_E) (o a k : Nat) (d : Nat → Nat) (ho : o ∈ L) (hfo : f o = .inr (2, [.ref a])) (ha : a ∈ L) (hfa : f a = hl_nat g 24 d) (hoa : o ≠ a) (hk0 : 0 < k) (hk : k ≤ 24) (hd : ∀ i, d i < 10) :
    Met l y_D_divide (hq y_D_divide b_D_divide 5 none) { frames := 0, cells := 0, slots := 0, locals := 0 } (hm_P g [.ref o, .int (nI k)] sz L f) (va_Qv (fun u => u = (L, va_up f a (hl_nat g 24 (dg_div d k 24)))) (hm_B g sz L) (hm_A sz L)) 0 0 (hm_A sz L) := by
  refine hm_ofW (by decide) (Nat.le_of_ble_eq_true rfl) ?_
  intro p e s m below meth c X hr hlk hnm hK hsz hh ls hl
  have hl : lv_has ls 5 [(0, .ref o), (1, .int (nI k))] := hl
  have loop : ∀ (t : Nat) (z : Nat → Nat) (H : Heap) (locs : List Loc) (ls : Array Slot), t ≤ 24 → (∀ p, t ≤ p → p < 24 → z p = dg_div d k 24 p) → (∀ p, p < t → z p = d p) →
      hl_H g (hm_A sz L) s.heap L (va_up f a (hl_nat g 24 z)) H locs → lv_has ls 5 [(3, .int (nI t + (-1))), (2, .int (nI (dg_rs d k (24 - t) t))), (0, .ref o), (1, .int (nI k))] →
      W p l e { frames := 0, cells := 0, slots := 0, locals := 0 } s m #[.ref o, .int (nI k)] below meth c H locs 0 0 (MQ below (va_Qv (fun u => u = (L, va_up f a (hl_nat g 24 (dg_div d k 24)))) (hm_B g sz L) (hm_A sz L)) #[.ref o, .int (nI k)] s 0 0 (hm_A sz L)) (F0 m 16 ls []) := by
    intro t
    induction t with
    | zero =>
      intro z H locs ls hin hz hz2 hh hl
      refine lv_iload_n X.1 X.2.1 d_D_divide_16 rfl (lv_at hl 0 rfl) ?_
      refine lv_if_lt (tgt := 54) X.1 X.2.1 d_D_divide_17 (by decide) (fun hc => ?_) (fun hc => ?_)
      · have hh := hl_norm (w := fun p => nI (dg_div d k 24 p)) hh (fun p hp => by rw [hz p (by omega) hp])
        exact hm_vret X hr hlk hh rfl (Nat.le_of_ble_eq_true rfl) (Nat.le_of_ble_eq_true rfl) d_D_divide_54
      · exact absurd (show (nI 0 + (-1) : Int32) < 0 by decide) hc
    | succ t ih =>
      intro z H locs ls hin hz hz2 hh hl
      rw [pk_m1] at hl
      have hr0 := dg_rs_lt d hk0 (24 - (t + 1)) (t + 1)
      refine lv_iload_n X.1 X.2.1 d_D_divide_16 rfl (lv_at hl 0 rfl) ?_
      refine lv_if_lt (tgt := 54) X.1 X.2.1 d_D_divide_17 (by decide) (fun hc => ?_) (fun hc => ?_)
      · exact absurd hc (nI_pos (by omega))
      · have hzi := hz2 t (Nat.lt_succ_self t)
        have hdi := hd t
        refine lv_iload_n X.1 X.2.1 d_D_divide_20 rfl (lv_at hl 1 rfl) ?_
        refine lv_bipush (v := nI 10) X.1 X.2.1 d_D_divide_21 (by decide) ?_
        refine hn_mul X d_D_divide_23 ?_
        refine lv_aload_n X.1 X.2.1 d_D_divide_24 rfl (lv_at hl 2 rfl) ?_
        refine hl_get X hK hh (ref := "CycleGroups$Decimal") i_D (ci := 2) rfl 0 (by decide) w_43 rfl ho ((va_up_ne _ _ hoa).trans hfo) rfl d_D_divide_25 ?_
        refine lv_iload_n X.1 X.2.1 d_D_divide_28 rfl (lv_at hl 0 rfl) ?_
        refine hl_iald X hK hh ha (va_up_self ..) (by omega) (by omega) d_D_divide_29 ?_
        refine hn_add X d_D_divide_30 ?_
        refine lv_istore (lv' := [(4, .int (nI (((dg_rs d k (24 - (t + 1)) (t + 1)) * 10) + (z t)))), (3, .int (nI t)), (2, .int (nI (dg_rs d k (24 - (t + 1)) (t + 1)))), (0, .ref o), (1, .int (nI k))]) X.1 X.2.1 d_D_divide_31 hl (by decide) rfl (fun ls hl => ?_)
        refine lv_aload_n X.1 X.2.1 d_D_divide_33 rfl (lv_at hl 3 rfl) ?_
        refine hl_get X hK hh (ref := "CycleGroups$Decimal") i_D (ci := 2) rfl 0 (by decide) w_43 rfl ho ((va_up_ne _ _ hoa).trans hfo) rfl d_D_divide_34 ?_
        refine lv_iload_n X.1 X.2.1 d_D_divide_37 rfl (lv_at hl 1 rfl) ?_
        refine lv_iload X.1 X.2.1 d_D_divide_38 (lv_at hl 0 rfl) ?_
        refine lv_iload_n X.1 X.2.1 d_D_divide_40 rfl (lv_at hl 4 rfl) ?_
        refine hn_div X (by omega) (by omega) (by omega) d_D_divide_41 ?_
        refine hl_iastN X hK hh ha (va_up_self ..) (by omega) (by omega) d_D_divide_42 (fun H locs hh => ?_)
        rw [hr_uu] at hh
        refine lv_iload X.1 X.2.1 d_D_divide_43 (lv_at hl 0 rfl) ?_
        refine lv_iload_n X.1 X.2.1 d_D_divide_45 rfl (lv_at hl 4 rfl) ?_
        refine hn_rem X (by omega) (by omega) (by omega) d_D_divide_46 ?_
        refine lv_istore_n (lv' := [(2, .int (nI ((((dg_rs d k (24 - (t + 1)) (t + 1)) * 10) + (z t)) % k))), (4, .int (nI (((dg_rs d k (24 - (t + 1)) (t + 1)) * 10) + (z t)))), (3, .int (nI t)), (0, .ref o), (1, .int (nI k))]) X.1 X.2.1 d_D_divide_47 rfl hl (by decide) rfl (fun ls hl => ?_)
        refine lv_iinc (v := nI t + (-1)) (lv' := [(3, .int (nI t + (-1))), (2, .int (nI ((((dg_rs d k (24 - (t + 1)) (t + 1)) * 10) + (z t)) % k))), (4, .int (nI (((dg_rs d k (24 - (t + 1)) (t + 1)) * 10) + (z t)))), (0, .ref o), (1, .int (nI k))]) X.1 X.2.1 d_D_divide_48 hl (k := 2) rfl rfl (by decide) rfl (fun ls hl => ?_)
        refine lv_goto (tgt := 16) X.1 X.2.1 d_D_divide_51 (by decide) ?_
        rw [hzi] at hh hl
        have e1 : 24 - t = (24 - (t + 1)) + 1 := by omega
        refine ih (va_up z t (dg_div d k 24 t)) H locs ls (by omega) (fun p hp hp2 => ?_) (fun p hp => ?_) hh ?_
        · by_cases hpi : p = t
          · rw [hpi, va_up_self]
          · rw [va_up_ne _ _ hpi]; exact hz p (by omega) hp2
        · rw [va_up_ne _ _ (by omega)]; exact hz2 p (by omega)
        · rw [e1]
          exact lv_sub hl [0, 1, 3, 4] rfl
  refine lv_iload_n X.1 X.2.1 d_D_divide_0 rfl (lv_at hl 1 rfl) ?_
  refine lv_iconst (v := nI 1) X.1 X.2.1 d_D_divide_1 (by decide) ?_
  refine hn_ige (tgt := 6) X (by omega) (by omega) d_D_divide_2 (by decide) (fun hc => ?_) (fun hc => ?_)
  · skip
    refine lv_iconst (v := nI 0) X.1 X.2.1 d_D_divide_6 (by decide) ?_
    refine lv_istore_n (lv' := [(2, .int (nI 0)), (0, .ref o), (1, .int (nI k))]) X.1 X.2.1 d_D_divide_7 rfl hl (by decide) rfl (fun ls hl => ?_)
    refine lv_aload_n X.1 X.2.1 d_D_divide_8 rfl (lv_at hl 1 rfl) ?_
    refine hl_get X hK hh (ref := "CycleGroups$Decimal") i_D (ci := 2) rfl 0 (by decide) w_43 rfl ho hfo rfl d_D_divide_9 ?_
    refine hl_alenI X hK hh ha hfa d_D_divide_12 ?_
    refine lv_iconst (v := nI 1) X.1 X.2.1 d_D_divide_13 (by decide) ?_
    refine hn_sub X (by omega) d_D_divide_14 ?_
    refine lv_istore_n (lv' := [(3, .int (nI (24 - 1))), (2, .int (nI 0)), (0, .ref o), (1, .int (nI k))]) X.1 X.2.1 d_D_divide_15 rfl hl (by decide) rfl (fun ls hl => ?_)
    exact loop 24 d s.heap [] ls (by omega) (fun p hp hp2 => absurd hp2 (by omega)) (fun _ _ => rfl) (hl_same hfa hh) hl
  · omega

/-- how many digits a number has: without leading noughts, one at least -/
def dg_len (d : Nat → Nat) : Nat → Nat
  | 0 => 0
  | 1 => 1
  | n + 2 => if d (n + 1) = 0 then dg_len d (n + 1) else n + 2
theorem dg_len_le (d : Nat → Nat) : ∀ n, dg_len d n ≤ n := by
  intro n
  induction n with
  | zero => exact Nat.le_refl _
  | succ n ih =>
    cases n with
    | zero => exact Nat.le_refl _
    | succ n =>
      show (if d (n + 1) = 0 then dg_len d (n + 1) else n + 2) ≤ n + 2
      by_cases h : d (n + 1) = 0
      · rw [if_pos h]; omega
      · rw [if_neg h]; exact Nat.le_refl _

/-- private int length() -/
theorem c_D_length (l : Launch) (g : hl_G) (sz : Nat) (L : List Nat) (f : Nat → va_E) (o a : Nat) (d : Nat → Nat) (ho : o ∈ L) (hfo : f o = .inr (2, [.ref a])) (ha : a ∈ L) (hfa : f a = hl_nat g 24 d) (hd : ∀ i, d i < 10) :
    Met l y_D_length (hq y_D_length b_D_length 2 (some .int)) { frames := 0, cells := 0, slots := 0, locals := 0 } (hm_P g [.ref o] sz L f) (va_Qi (fun r u => r = nI (dg_len d 24) ∧ u = (L, f)) (hm_B g sz L) (hm_A sz L)) 0 0 (hm_A sz L) := by
  refine hm_ofW (by decide) (Nat.le_of_ble_eq_true rfl) ?_
  intro p e s m below meth c X hr hlk hnm hK hsz hh ls hl
  have hl : lv_has ls 2 [(0, .ref o)] := hl
  have loop : ∀ (t : Nat) (ls : Array Slot), t + 1 ≤ 24 → dg_len d (t + 1) = dg_len d 24 → lv_has ls 2 [(1, .int (nI (t + 1))), (0, .ref o)] →
      W p l e { frames := 0, cells := 0, slots := 0, locals := 0 } s m #[.ref o] below meth c s.heap [] 0 0 (MQ below (va_Qi (fun r u => r = nI (dg_len d 24) ∧ u = (L, f)) (hm_B g sz L) (hm_A sz L)) #[.ref o] s 0 0 (hm_A sz L)) (F0 m 6 ls []) := by
    intro t
    induction t with
    | zero =>
      intro ls hin hz hl
      refine lv_iload_n X.1 X.2.1 d_D_length_6 rfl (lv_at hl 0 rfl) ?_
      refine lv_iconst (v := nI 1) X.1 X.2.1 d_D_length_7 (by decide) ?_
      refine hn_ile (tgt := 28) X (by omega) (by omega) d_D_length_8 (by decide) (fun hc => ?_) (fun hc => ?_)
      · skip
        refine lv_iload_n X.1 X.2.1 d_D_length_28 rfl (lv_at hl 0 rfl) ?_
        exact hm_iret X hr hlk hh ⟨by rw [← hz]; rfl, rfl⟩ (Nat.le_of_ble_eq_true rfl) (Nat.le_of_ble_eq_true rfl) d_D_length_29
      · omega
    | succ t ih =>
      intro ls hin hz hl
      refine lv_iload_n X.1 X.2.1 d_D_length_6 rfl (lv_at hl 0 rfl) ?_
      refine lv_iconst (v := nI 1) X.1 X.2.1 d_D_length_7 (by decide) ?_
      refine hn_ile (tgt := 28) X (by omega) (by omega) d_D_length_8 (by decide) (fun hc => ?_) (fun hc => ?_)
      · omega
      · skip
        have hdt := hd (t + 1 + 1 - 1)
        refine lv_aload_n X.1 X.2.1 d_D_length_11 rfl (lv_at hl 1 rfl) ?_
        refine hl_get X hK hh (ref := "CycleGroups$Decimal") i_D (ci := 2) rfl 0 (by decide) w_43 rfl ho hfo rfl d_D_length_12 ?_
        refine lv_iload_n X.1 X.2.1 d_D_length_15 rfl (lv_at hl 0 rfl) ?_
        refine lv_iconst (v := nI 1) X.1 X.2.1 d_D_length_16 (by decide) ?_
        refine hn_sub X (by omega) d_D_length_17 ?_
        refine hl_iald X hK hh ha hfa (by omega) (by omega) d_D_length_18 ?_
        refine hn_zne (tgt := 28) X (by omega) d_D_length_19 (by decide) (fun hc => ?_) (fun hc => ?_)
        · have hc : ¬ d (t + 1) = 0 := hc
          have hz : (if d (t + 1) = 0 then dg_len d (t + 1) else t + 2) = dg_len d 24 := hz
          rw [if_neg hc] at hz
          refine lv_iload_n X.1 X.2.1 d_D_length_28 rfl (lv_at hl 0 rfl) ?_
          exact hm_iret X hr hlk hh ⟨by rw [← hz], rfl⟩ (Nat.le_of_ble_eq_true rfl) (Nat.le_of_ble_eq_true rfl) d_D_length_29
        · have hc : d (t + 1) = 0 := hc
          have hz : (if d (t + 1) = 0 then dg_len d (t + 1) else t + 2) = dg_len d 24 := hz
          rw [if_pos hc] at hz
          refine lv_iinc (v := nI (t + 1)) (lv' := [(1, .int (nI (t + 1))), (0, .ref o)]) X.1 X.2.1 d_D_length_22 hl (k := 0) rfl (hn_dec _) (by decide) rfl (fun ls hl => ?_)
          refine lv_goto (tgt := 6) X.1 X.2.1 d_D_length_25 (by decide) ?_
          exact ih ls (by omega) hz hl
  refine lv_aload_n X.1 X.2.1 d_D_length_0 rfl (lv_at hl 0 rfl) ?_
  refine hl_get X hK hh (ref := "CycleGroups$Decimal") i_D (ci := 2) rfl 0 (by decide) w_43 rfl ho hfo rfl d_D_length_1 ?_
  refine hl_alenI X hK hh ha hfa d_D_length_4 ?_
  refine lv_istore_n (lv' := [(1, .int (nI 24)), (0, .ref o)]) X.1 X.2.1 d_D_length_5 rfl hl (by decide) rfl (fun ls hl => ?_)
  exact loop 23 ls (by omega) rfl hl

/-- the digit of a number by its digits, as it is asked for -/
def dg_at (d : Nat → Nat) (n : Nat) (x : Int32) : Int32 := if x < 0 then -1 else if x.toNatClampNeg < dg_len d n then nI (d x.toNatClampNeg) else -1

/-- int digit(int d) -/
theorem c_D_digit (l : Launch) (g : hl_G) (sz : Nat) (L : List Nat) (f : Nat → va_E) (o a : Nat) (d : Nat → Nat) (x : Int32) (ho : o ∈ L) (hfo : f o = .inr (2, [.ref a])) (ha : a ∈ L) (hfa : f a = hl_nat g 24 d) (hd : ∀ i, d i < 10) :
    Met l y_D_digit (hq y_D_digit b_D_digit 2 (some .int)) { frames := 1, cells := 0, slots := 0, locals := 30 } (hm_P g [.ref o, .int x] sz L f) (va_Qi (fun r u => r = dg_at d 24 x ∧ u = (L, f)) (hm_B g sz L) (hm_A sz L)) 0 0 (hm_A sz L) := by
  refine hm_ofW (by decide) (Nat.le_of_ble_eq_true rfl) ?_
  intro p e s m below meth c X hr hlk hnm hK hsz hh ls hl
  have hl : lv_has ls 2 [(0, .ref o), (1, .int x)] := hl
  have hlen := dg_len_le d 24
  refine lv_iload_n X.1 X.2.1 d_D_digit_0 rfl (lv_at hl 1 rfl) ?_
  refine lv_if_lt (tgt := 21) X.1 X.2.1 d_D_digit_1 (by decide) (fun hc => ?_) (fun hc => ?_)
  · skip
    refine lv_iconst (v := -1) X.1 X.2.1 d_D_digit_21 (by decide) ?_
    exact hm_iret X hr hlk hh ⟨by unfold dg_at; rw [if_pos hc], rfl⟩ (Nat.le_of_ble_eq_true rfl) (Nat.le_of_ble_eq_true rfl) d_D_digit_22
  · obtain ⟨j, hj, rfl⟩ := nI_of hc
    refine lv_iload_n X.1 X.2.1 d_D_digit_4 rfl (lv_at hl 1 rfl) ?_
    refine lv_aload_n X.1 X.2.1 d_D_digit_5 rfl (lv_at hl 0 rfl) ?_
    refine hl_calli hh (hl_runV (k := 0) X hK hh (c_D_length l g _ L f o a d ho hfo ha hfa hd) wc_D_length w_238 w_4 wi_D_length ws_D_length (by decide +kernel) rfl rfl ⟨Nat.le_of_ble_eq_true rfl, Nat.le_of_ble_eq_true rfl⟩ ho hfo rfl rfl rfl rfl (Nat.le_of_ble_eq_true rfl) hl.1 d_D_digit_6 ⟨Nat.le_of_ble_eq_true rfl, Nat.le_of_ble_eq_true rfl⟩) (fun r u H locs hp hh => ?_)
    obtain ⟨rfl, rfl⟩ := hp
    refine hn_ige (tgt := 21) X (by omega) (by omega) d_D_digit_9 (by decide) (fun hc => ?_) (fun hc => ?_)
    · skip
      refine lv_iconst (v := -1) X.1 X.2.1 d_D_digit_21 (by decide) ?_
      exact hm_iret X hr hlk hh ⟨by unfold dg_at; rw [if_neg (nI_pos hj), nI_clamp hj, if_neg (by omega)], rfl⟩ (Nat.le_of_ble_eq_true rfl) (Nat.le_of_ble_eq_true rfl) d_D_digit_22
    · skip
      refine lv_aload_n X.1 X.2.1 d_D_digit_12 rfl (lv_at hl 0 rfl) ?_
      refine hl_get X hK hh (ref := "CycleGroups$Decimal") i_D (ci := 2) rfl 0 (by decide) w_43 rfl ho hfo rfl d_D_digit_13 ?_
      refine lv_iload_n X.1 X.2.1 d_D_digit_16 rfl (lv_at hl 1 rfl) ?_
      refine hl_iald X hK hh ha hfa (by omega) (by omega) d_D_digit_17 ?_
      refine lv_goto (tgt := 22) X.1 X.2.1 d_D_digit_18 (by decide) ?_
      exact hm_iret X hr hlk hh ⟨by unfold dg_at; rw [if_neg (nI_pos hj), nI_clamp hj, if_pos hc], rfl⟩ (Nat.le_of_ble_eq_true rfl) (Nat.le_of_ble_eq_true rfl) d_D_digit_22
end

