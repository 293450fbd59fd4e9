/-! From the law's entry: the tables, the two objects, the loop. -/
section
theorem lw_known {s : State} {A0 : Array Value} (hts : ∀ w ∈ lw_tbl, w.before A0 s = true) : ∃ g : hl_G, hl_K g s := by
  have htg : ∀ w ∈ tg, w.before A0 s = true := fun w hw => hts w (tg_in hw)
  obtain ⟨c0, i0, h0⟩ := u_known (C := R_C) (T := F_C) (N := 9) (n := 9) htg i_C (htg _ w_11)
  obtain ⟨c1, i1, h1⟩ := u_known (C := R_H) (T := F_H) (N := 3) (n := 3) htg i_H (htg _ w_103)
  obtain ⟨c2, i2, h2⟩ := u_known (C := R_D) (T := F_D) (N := 1) (n := 1) htg i_D (htg _ w_38)
  obtain ⟨c3, i3, h3⟩ := u_known (C := R_K) (T := F_K) (N := 7) (n := 7) htg i_K (htg _ w_110)
  obtain ⟨c4, i4, h4⟩ := u_known (C := R_P) (T := F_P) (N := 1) (n := 1) htg i_P (htg _ w_27)
  obtain ⟨c5, i5, h5⟩ := u_known (C := R_M) (T := F_M) (N := 24) (n := 24) htg i_M (htg _ w_346)
  obtain ⟨dC, dI, hKc⟩ : ∃ (dC : Nat → ClassId) (dI : Nat → Nat → Nat), ∀ (k : Nat) (q : vw_C), classes[k]? = some q → u_Kn s q.1 q.2.1 q.2.2 (dC k) (dI k) := by
    refine ⟨fun k => match k with | 0 => c0 | 1 => c1 | 2 => c2 | 3 => c3 | 4 => c4 | _ => c5, fun k => match k with | 0 => i0 | 1 => i1 | 2 => i2 | 3 => i3 | 4 => i4 | _ => i5, ?_⟩
    intro k q hq
    match k, hq with
    | 0, hq => cases hq; exact h0
    | 1, hq => cases hq; exact h1
    | 2, hq => cases hq; exact h2
    | 3, hq => cases hq; exact h3
    | 4, hq => cases hq; exact h4
    | 5, hq => cases hq; exact h5
    | k + 6, hq => simp [classes] at hq
  obtain ⟨cI, kI, pI, a1, a2, a3⟩ := Cond.arrayClass_spec (htg _ w_36)
  obtain ⟨cZ, kZ, pZ, b1, b2, b3⟩ := Cond.arrayClass_spec (htg _ w_424)
  obtain ⟨pG, cG, kG, d1, d2, d3, d4, d5⟩ := arrayOverA_spec (hts _ w_25)
  obtain ⟨pL, cL, kL, e1, e2, e3, e4, e5⟩ := Cond.arrayOver_spec (hts _ w_109)
  refine ⟨((dC, dI), (cI, cZ, cG, cL)), ⟨hKc, ?_⟩, hts _ w_109, hts _ w_25, hts _ w_119, hts _ w_250⟩
  intro k q hq
  match k, hq with
  | 0, hq => cases hq; exact ⟨fun n z => ⟨fun k h => (by cases h), kI, a2, pI, a3⟩, a1⟩
  | 1, hq => cases hq; exact ⟨fun n z => ⟨fun k h => (by cases h), kZ, b2, pZ, b3⟩, b1⟩
  | 2, hq => cases hq; exact ⟨fun n z => ⟨fun k h => (by cases h), kG, d3, pG, d4⟩, d5⟩
  | 3, hq => cases hq; exact ⟨fun n z => ⟨fun k h => (by cases h), kL, e3, pL, e4⟩, ⟨kL, pL, e3, e4, e1, e5⟩⟩
  | k + 4, hq => simp [hl_ty] at hq

set_option maxHeartbeats 4000000 in
set_option maxRecDepth 100000 in
theorem law_begin {p : Program} {e : Env} {s : State} {m : MethodId} {below : List Frame} {meth : Method} {c : Code} (l : Launch) {b0 N : Nat} {xs : Nat → Int32} (hN : N ≤ 2561) (X : CallFix p m c code 4 s #[Value.ref b0] tg "CycleGroupsLaw") (g : hl_G) (hK : hl_K g s) (hX : va_X b0 N xs s s.heap) (hbl : b0 < s.heap.size) (hr : meth.sig.returnType = ret) (hlocks : meth.locks = false)
    (ls : Array Slot) (hl : lv_has ls 4 [(0, .ref b0)]) : W p l e room_1 s m #[Value.ref b0] below meth c s.heap [] 0 0 (lw_Z below #[Value.ref b0] s) (F0 m 0 ls []) := by
  have hbA : ¬ (fun q : Nat => s.heap.size ≤ q) b0 := Nat.not_le.mpr hbl
  have hh : hl_H g (fun q => s.heap.size ≤ q) s.heap [] (fun _ => .inr (0, [])) s.heap [] :=
    ⟨fun k q h => by simp [va_pl] at h, ⟨fun i j p q h => by simp [va_pl] at h, fun k q h => by simp [va_pl] at h⟩, va_S.rf, fun q h => h⟩
  refine hl_new X hK hh i_C t_C t_C_ok w_10 w_11 w_1 (ci := 0) rfl (fs := [.int 0, .null, .int 0, .null, .int 0, .null, .null, .null, .int 0]) (fun j hj => by rcases (show j = 0 ∨ j = 1 ∨ j = 2 ∨ j = 3 ∨ j = 4 ∨ j = 5 ∨ j = 6 ∨ j = 7 ∨ j = 8 by omega) with rfl | rfl | rfl | rfl | rfl | rfl | rfl | rfl | rfl <;> rfl) (Nat.le_of_ble_eq_true rfl) (Nat.le_of_ble_eq_true rfl) d_L_law_0 (fun q0 H hq0 hh => ?_)
  refine lv_dup X.1 X.2.1 d_L_law_3 rfl ?_
  refine lv_aload_n X.1 X.2.1 d_L_law_4 rfl (lv_at hl 0 rfl) ?_
  refine lv_iconst (v := nI 0) X.1 X.2.1 d_L_law_5 (by decide) ?_
  refine hl_calli hh (hl_runC (k := 2) X hK hh (va_X.kept hX (hh.2.2.1.2.1 b0 hbl hbA)) (Nat.lt_of_lt_of_le hbl hh.2.2.1.1) (fun h => hbA (hl_inA hh b0 (Or.inl h))) (c_L_cell l g _ _ _ b0 N xs hN) wc_L_cell w_342 w_0 wi_L_cell (by decide +kernel) rfl rfl ⟨Nat.le_of_ble_eq_true rfl, Nat.le_of_ble_eq_true rfl⟩ rfl rfl (Nat.le_of_ble_eq_true rfl) hl.1 d_L_law_6 ⟨Nat.le_of_ble_eq_true rfl, Nat.le_of_ble_eq_true rfl⟩) (fun r u H locs hp hh => ?_)
  obtain ⟨hr0, rfl⟩ := hp
  obtain ⟨n, hn⟩ := plR_ex r
  obtain ⟨hn1, hn2⟩ := plR_bd hn
  have hh : hl_H g (fun q => s.heap.size ≤ q) s.heap ([] ++ [q0]) (va_up (fun _ => .inr (0, [])) q0 (.inr (0, [.int 0, .null, .int 0, .null, .int 0, .null, .null, .null, .int 0]))) H locs := hh
  obtain ⟨L0, eL0⟩ : ∃ x : List Nat, x = [] ++ [q0] := ⟨_, rfl⟩
  obtain ⟨f0, ef0⟩ : ∃ x : Nat → va_E, x = va_up (fun _ => .inr (0, [])) q0 (.inr (0, [.int 0, .null, .int 0, .null, .int 0, .null, .null, .null, .int 0])) := ⟨_, rfl⟩
  rw [← eL0, ← ef0] at hh
  have m0 : q0 ∈ L0 := by rw [eL0]; exact List.mem_append_right _ (List.mem_singleton.2 rfl)
  have v0 : f0 q0 = .inr (0, [.int 0, .null, .int 0, .null, .int 0, .null, .null, .null, .int 0]) := by rw [ef0, va_up_self]
  refine hl_callv hh (hl_runI (k := 1) X hK hh (c_C_init0 l g _ L0 f0 (fun _ => 0) q0 n r m0 v0 rfl hn) wc_C_init w_12 w_1 wi_C_init rfl (by decide +kernel) rfl rfl ⟨Nat.le_of_ble_eq_true rfl, Nat.le_of_ble_eq_true rfl⟩ rfl rfl (Nat.le_of_ble_eq_true rfl) hl.1 d_L_law_9 ⟨Nat.le_of_ble_eq_true rfl, Nat.le_of_ble_eq_true rfl⟩) (fun u H locs hp hh => ?_)
  obtain ⟨L1, f1, T1, b, mv, st, rfl, hL1, hf1, eb0, hB⟩ := hp
  have hh : hl_H g (fun q => s.heap.size ≤ q) s.heap L1 f1 H locs := hh
  refine lv_astore_n (lv' := [(1, .ref q0), (0, .ref b0)]) X.1 X.2.1 d_L_law_12 rfl hl (by decide) rfl (fun ls hl => ?_)
  refine hl_new X hK hh i_M t_M t_M_ok w_345 w_346 w_5 (ci := 5) rfl (fs := [.int 0, .int 0, .int 0, .null, .int 0, .null, .int 0, .null, .null, .int 0, .null, .null, .null, .null, .null, .null, .null, .null, .null, .null, .null, .null, .null, .null]) (fun j hj => by rcases (show j = 0 ∨ j = 1 ∨ j = 2 ∨ j = 3 ∨ j = 4 ∨ j = 5 ∨ j = 6 ∨ j = 7 ∨ j = 8 ∨ j = 9 ∨ j = 10 ∨ j = 11 ∨ j = 12 ∨ j = 13 ∨ j = 14 ∨ j = 15 ∨ j = 16 ∨ j = 17 ∨ j = 18 ∨ j = 19 ∨ j = 20 ∨ j = 21 ∨ j = 22 ∨ j = 23 by omega) with rfl | rfl | rfl | rfl | rfl | rfl | rfl | rfl | rfl | rfl | rfl | rfl | rfl | rfl | rfl | rfl | rfl | rfl | rfl | rfl | rfl | rfl | rfl | rfl <;> rfl) (Nat.le_of_ble_eq_true rfl) (Nat.le_of_ble_eq_true rfl) d_L_law_13 (fun q1 H hq1 hh => ?_)
  refine lv_dup X.1 X.2.1 d_L_law_16 rfl ?_
  refine lv_aload_n X.1 X.2.1 d_L_law_17 rfl (lv_at hl 1 rfl) ?_
  refine lv_iconst (v := nI 0) X.1 X.2.1 d_L_law_18 (by decide) ?_
  refine hl_calli hh (hl_runC (k := 2) X hK hh (va_X.kept hX (hh.2.2.1.2.1 b0 hbl hbA)) (Nat.lt_of_lt_of_le hbl hh.2.2.1.1) (fun h => hbA (hl_inA hh b0 (Or.inl h))) (c_L_cell l g _ _ _ b0 N xs hN) wc_L_cell w_342 w_0 wi_L_cell (by decide +kernel) rfl rfl ⟨Nat.le_of_ble_eq_true rfl, Nat.le_of_ble_eq_true rfl⟩ rfl rfl (Nat.le_of_ble_eq_true rfl) hl.1 d_L_law_19 ⟨Nat.le_of_ble_eq_true rfl, Nat.le_of_ble_eq_true rfl⟩) (fun r9 u H locs hp hh => ?_)
  obtain ⟨hr1, rfl⟩ := hp
  have er : r9 = r := by rw [hr0, hr1]
  subst er
  obtain ⟨L2, eL2⟩ : ∃ x : List Nat, x = L1 ++ [q1] := ⟨_, rfl⟩
  obtain ⟨f2, ef2⟩ : ∃ x : Nat → va_E, x = va_up f1 q1 (.inr (5, [.int 0, .int 0, .int 0, .null, .int 0, .null, .int 0, .null, .null, .int 0, .null, .null, .null, .null, .null, .null, .null, .null, .null, .null, .null, .null, .null, .null])) := ⟨_, rfl⟩
  have hh : hl_H g (fun q => s.heap.size ≤ q) s.heap L2 f2 H locs := by rw [eL2, ef2]; exact hh
  have m1 : q1 ∈ L2 := by rw [eL2]; exact List.mem_append_right _ (List.mem_singleton.2 rfl)
  have v1 : f2 q1 = .inr (5, [.int 0, .int 0, .int 0, .null, .int 0, .null, .int 0, .null, .null, .int 0, .null, .null, .null, .null, .null, .null, .null, .null, .null, .null, .null, .null, .null, .null]) := by rw [ef2, va_up_self]
  refine hl_callv hh (hl_runI (k := 1) X hK hh (c_M_init l g _ L2 f2 (va_up T1 q1 20000) q1 n r9 m1 v1 (va_up_self _ _ _) hn) wc_M_init w_347 w_5 wi_M_init rfl (by decide +kernel) rfl rfl ⟨Nat.le_of_ble_eq_true rfl, Nat.le_of_ble_eq_true rfl⟩ rfl rfl (Nat.le_of_ble_eq_true rfl) hl.1 d_L_law_22 ⟨Nat.le_of_ble_eq_true rfl, Nat.le_of_ble_eq_true rfl⟩) (fun u H locs hp hh => ?_)
  obtain ⟨L3, T3, d, rfl, hL3, ed0, hdd⟩ := hp
  have in12 : ∀ q, q ∈ L1 → q ∈ L2 ∧ q ≠ q1 := fun q hq => ⟨by rw [eL2]; exact List.mem_append_left _ hq, fun h => hq1 (h ▸ hq)⟩
  have in13 : ∀ q, q ∈ L1 → q ∈ L3 ∧ T3 q = T1 q := fun q hq => by
    obtain ⟨k1, k2⟩ := in12 q hq
    obtain ⟨k3, k4⟩ := hL3 q k1
    exact ⟨k3, by rw [k4, va_up_ne _ _ k2]⟩
  obtain ⟨f3, ef3⟩ : ∃ x : Nat → va_E, x = mf g d f2 n 0 0 0 0 (fun _ => 0) (fun _ => 0) (fun _ => 0) (fun _ => 0) (fun _ => 0) (fun _ => 0) (fun _ => 0) (fun _ => 0) (fun _ => 0) (fun _ => 0) (fun _ => 1) (fun _ => 0) (fun _ => 0) (fun _ => 0) (fun _ => 0) (fun _ => 0) (fun _ => 0) (fun _ => 0) := ⟨_, rfl⟩
  have hh : hl_H g (fun q => s.heap.size ≤ q) s.heap L3 f3 H locs := by rw [ef3]; exact hh
  have hC : cg_I g L3 f3 T3 b n 0 0 mv st false := by
    refine ⟨fun _ => 0, fun _ => 0, .null, 0, cg_B_congr hB in13 (fun q hq ht => ?_), ⟨Or.inl rfl, Or.inl rfl⟩, ⟨hn1, hn2, by decide, by decide, fun i hi => absurd hi (Nat.not_lt_zero _), fun i hi => absurd hi (Nat.not_lt_zero _)⟩, fun h => absurd h (by decide)⟩
    rw [ef3, md_out (md_fr hdd (by rw [(in13 q hq).2]; omega)), ef2, va_up_ne _ _ (in12 q hq).2]
  have hM : md_I g L3 f3 T3 d n 0 0 mv st :=
    ⟨hdd, f2, 0, 0, _, _, _, _, _, _, _, _, _, _, _, _, _, _, _, _, _, _, fun i hi => absurd hi (Nat.not_lt_zero _), fun i hi => absurd hi (Nat.not_lt_zero _), Or.inl rfl, fun _ => Or.inl rfl, fun h => absurd h (by decide), ef3⟩
  refine W.widen (k := lw_c false) (n := lw_s false) (Nat.le_of_ble_eq_true rfl) (Nat.le_of_ble_eq_true rfl) ?_
  refine lv_astore_n (lv' := [(2, .ref q1), (1, .ref q0), (0, .ref b0)]) X.1 X.2.1 d_L_law_25 rfl hl (by decide) rfl (fun ls hl => ?_)
  refine lv_iconst (v := nI 1) X.1 X.2.1 d_L_law_26 (by decide) ?_
  refine lv_istore_n (lv' := [(3, .int (nI 1)), (2, .ref q1), (1, .ref q0), (0, .ref b0)]) X.1 X.2.1 d_L_law_27 rfl hl (by decide) rfl (fun ls hl => ?_)
  have hl : lv_has ls 4 [(3, .int (nI 1)), (2, .ref (d 0)), (1, .ref (b 0)), (0, .ref b0)] := by rw [ed0, eb0]; exact hl
  exact law_loop g hN X hK hX hbl hr hlocks b d n (N + 7) 1 (by omega) (by omega) (by omega) L3 f3 T3 0 0 mv st false H locs ls ⟨hC, hM, hh⟩ hl
set_option maxHeartbeats 4000000 in
set_option maxRecDepth 100000 in
/-- from the entry, for every script of at most 2561 ints, the law comes to its end with true -/
theorem whole_start {p : Program} {e : Env} {s : State} {m : MethodId} {below : List Frame} {meth : Method} {c : Code} (l : Launch) {b L : Nat} {xs : Nat → Int32} (hL : L ≤ 2561) (C0 : lw_At p s m meth c b L xs) : W p l e room_1 s m #[Value.ref b] below meth c s.heap [] 0 0 (lw_Z below #[Value.ref b] s) (entryFrame m ([Value.ref b] : List Value).toArray 4) := by
  obtain ⟨hx, hb, hr, hml, hown, hts, hX, hbl, hlocks, hgv⟩ := id C0
  obtain ⟨g, hK⟩ := lw_known hts
  have hl := lv_entry ([.ref b]) (n := 4) (Nat.le_of_ble_eq_true rfl)
  rw [lg_entry_eq]
  exact law_begin l hL ⟨hx, hb, hml, hown, fun w hw => hts w (tg_in hw)⟩ g hK hX hbl hr hlocks _ hl
end

