/-! CycleGroups: what is asked of the chain. -/
section
theorem rn_n {sn : Nat → Nat} {i : Nat} (h : ¬ 2 ≤ sn i) : rn sn (i + 1) = rn sn i := by
  show rn sn i + (if 2 ≤ sn i then 1 else 0) = _
  rw [if_neg h]; rfl
theorem rn_p {sn : Nat → Nat} {i : Nat} (h : 2 ≤ sn i) : rn sn (i + 1) = rn sn i + 1 := by
  show rn sn i + (if 2 ≤ sn i then 1 else 0) = _
  rw [if_pos h]
/-- what a fresh chain leaves -/
theorem cg_R_fr {g : hl_G} {L L1 : List Nat} {f f1 : Nat → va_E} {T T1 : Nat → Nat} {b : Nat → Nat} {n mm sm : Nat} {mv st : Nat → Nat → Nat} {zp zd : Nat → Nat} {a : Nat} {made : Bool} (hL : ∀ q, q ∈ L → q ∈ L1 ∧ T1 q = T q) (hf : ∀ q, q ∈ L → 20000 ≤ T q → f1 q = f q) (hB : cg_B g L1 f1 T1 b n mm sm mv st zp zd (.ref a) 0) (hC : cg_ch g L1 f1 T1 n mm mv a True) (hW : cg_W n mm sm mv st) :
    cg_R g L f T b n mm sm mv st made (L1, f1) := by
  obtain ⟨lO, wk, ad, zL, gn, G, pr, sn, sp, ix, wb, y, k1, k2, k3, k4⟩ := hC
  exact ⟨T1, hL, hf, zp, zd, .ref a, 0, hB, ⟨Or.inl rfl, Or.inr ⟨a, rfl, lO, wk, ad, zL, gn, G, pr, sn, sp, ix, wb, y, k1, k2, k3, fun _ => k4 trivial⟩⟩, hW, fun _ => by intro e0; exact Value.noConfusion e0⟩

theorem cg_sub {n mm sm : Nat} {mv st : Nat → Nat → Nat} (hW : cg_W n mm sm mv st) : gp_sub (gp_gen (mv_T mv mm)) (gp_sym (ch_D n 0)) :=
  gp_gen_in (gp_sym_sg _) (fun t ⟨i, hi, e⟩ => e ▸ hW.2.2.2.2.1 i hi)

theorem sz_of {n : Nat} {gn : Nat → Nat} {G : Nat → Nat → Nat → Nat} {pr : Nat → Nat → Nat} {sn : Nat → Nat} {sp : Nat → Nat → Nat} {wb : Nat → Nat → Nat → Nat} {mm : Nat} {mv : Nat → Nat → Nat} (h : ch_inv n (cn_gs n gn G) pr sn sp wb 0 ∧ ∀ x, ch_G (cn_gs n gn G 0) x ↔ gp_gen (mv_T mv mm) x) : sz_all (gp_gen (mv_T mv mm)) n sn := by
  intro i hi
  refine gp_card_congr (ch_size h.1.1 (fun j hj => h.1.2.1 j (Nat.zero_le _) hj) hi) (fun q => ?_)
  constructor
  · rintro ⟨x, hx, hr⟩; exact ⟨x, (h.2 x).1 hx, hr⟩
  · rintro ⟨x, hx, hr⟩; exact ⟨x, (h.2 x).2 hx, hr⟩


/-- int spread(int place) -/
theorem c_C_spread (l : Launch) (g : hl_G) (sz : Nat) (L : List Nat) (f : Nat → va_E) (T : Nat → Nat) (b : Nat → Nat) (n mm sm : Nat) (mv st : Nat → Nat → Nat) (made : Bool) (hI : cg_I g L f T b n mm sm mv st made) (mc ms : Nat) (hmc : made = false → mc = 1601 ∧ ms = 40003) (q1 : Int32) (post : Int32 → List Nat × (Nat → va_E) → Prop) (hpo : ∀ r u, (ip q1 n = false ∧ r = -1 ∧ u = (L, f)) ∨ (∃ j sn, j < n ∧ q1 = nI j ∧ sz_all (gp_gen (mv_T mv mm)) n sn ∧ r = nI (sn j) ∧ cg_R g L f T b n mm sm mv st true u) → post r u) :
    Met l y_C_spread (hq y_C_spread b_C_spread 2 (some .int)) { frames := 6, cells := mc, slots := ms, locals := 230 } (hm_P g [.ref (b 0), .int q1] sz L f) (va_Qi (post) (hm_B g sz L) (hm_A sz L)) mc ms (hm_A sz L) := by
  refine hm_ofW (by decide) (Nat.le_of_ble_eq_true rfl) ?_
  intro p e s m below meth c X hr hlk hnm hK hsz hh ls hl
  have hl : lv_has ls 2 [(0, .ref (b 0)), (1, .int q1)] := hl
  obtain ⟨zp, zd, cv, fl, hB, hC, hW, hmd⟩ := id hI
  obtain ⟨hn0, hn, hmm, hsm, hmv, hst⟩ := id hW
  rcases ip_cases q1 (n := n) (by omega) with h1 | ⟨j, hj, rfl⟩
  · skip
    refine lv_aload_n X.1 X.2.1 d_C_spread_0 rfl (lv_at hl 0 rfl) ?_
    refine lv_iload_n X.1 X.2.1 d_C_spread_1 rfl (lv_at hl 1 rfl) ?_
    refine hl_calli hh (hl_runV (k := 1) X hK hh (c_C_isPlace l g _ L f (b 0) n .null _ _ _ _ _ _ _ _ q1 (hB.1 0 (by omega)).1 hB.2.1 (by omega)) wc_C_isPlace w_90 w_1 wi_C_isPlace ws_C_isPlace (by decide +kernel) rfl rfl ⟨Nat.le_of_ble_eq_true rfl, Nat.le_of_ble_eq_true rfl⟩ (hB.1 0 (by omega)).1 hB.2.1 rfl rfl rfl rfl (Nat.le_of_ble_eq_true rfl) hl.1 d_C_spread_2 ⟨Nat.zero_le _, Nat.zero_le _⟩) (fun r u H locs hp hh => ?_)
    obtain ⟨hr1, rfl⟩ := hp
    rw [h1] at hr1
    subst hr1
    refine lv_if_eq (tgt := 19) X.1 X.2.1 d_C_spread_5 (by decide) (fun _ => ?_) (fun hc => absurd (by decide) hc)
    refine lv_iconst (v := -1) X.1 X.2.1 d_C_spread_19 (by decide) ?_
    exact hm_iret X hr hlk hh (hpo _ _ (Or.inl ⟨h1, rfl, rfl⟩)) (Nat.zero_le _) (Nat.zero_le _) d_C_spread_20
  · have h1 := ip_in (by omega : n < 2 ^ 31) hj
    refine lv_aload_n X.1 X.2.1 d_C_spread_0 rfl (lv_at hl 0 rfl) ?_
    refine lv_iload_n X.1 X.2.1 d_C_spread_1 rfl (lv_at hl 1 rfl) ?_
    refine hl_calli hh (hl_runV (k := 1) X hK hh (c_C_isPlace l g _ L f (b 0) n .null _ _ _ _ _ _ _ _ (nI j) (hB.1 0 (by omega)).1 hB.2.1 (by omega)) wc_C_isPlace w_90 w_1 wi_C_isPlace ws_C_isPlace (by decide +kernel) rfl rfl ⟨Nat.le_of_ble_eq_true rfl, Nat.le_of_ble_eq_true rfl⟩ (hB.1 0 (by omega)).1 hB.2.1 rfl rfl rfl rfl (Nat.le_of_ble_eq_true rfl) hl.1 d_C_spread_2 ⟨Nat.zero_le _, Nat.zero_le _⟩) (fun r u H locs hp hh => ?_)
    obtain ⟨hr1, rfl⟩ := hp
    rw [h1] at hr1
    subst hr1
    refine lv_if_eq (tgt := 19) X.1 X.2.1 d_C_spread_5 (by decide) (fun hc => absurd hc (by decide)) (fun _ => ?_)
    refine lv_aload_n X.1 X.2.1 d_C_spread_8 rfl (lv_at hl 0 rfl) ?_
    refine hl_callr2 hh (hl_runV (k := 0) X hK hh (c_C_freshChain l g _ L f T b n mm sm mv st zp zd cv fl mc ms hB hW hC (fun e0 => hmc (Bool.eq_false_iff.2 (fun h => hmd h e0)))) wc_C_freshChain w_98 w_1 wi_C_freshChain ws_C_freshChain (by decide +kernel) rfl rfl ⟨Nat.le_of_ble_eq_true rfl, Nat.le_of_ble_eq_true rfl⟩ (hB.1 0 (by omega)).1 hB.2.1 rfl rfl rfl rfl (Nat.le_of_ble_eq_true rfl) hl.1 d_C_spread_9 ⟨Nat.le_of_eq (Nat.zero_add _), Nat.le_of_eq (Nat.zero_add _)⟩) (fun a0 u H locs hp hh => ?_)
    obtain ⟨f1, T1, hu2, hL1, hfr1, hB1, hch1⟩ := hp
    obtain ⟨L1, f0⟩ := u
    have hu2 : f0 = f1 := hu2
    subst hu2
    have hB1 : cg_B g L1 f0 T1 b n mm sm mv st zp zd (.ref a0) 0 := hB1
    have hch0 : cg_ch g L1 f0 T1 n mm mv a0 True := hch1
    obtain ⟨lO, wk, ad, zL, gn, G, pr, sn, sp, ix, wb, y, k1, k2, k3, k4⟩ := id hch0
    have hh : hl_H g (hm_A sz L) s.heap L1 f0 H locs := hh
    have hsz0 := sz_of (k4 trivial)
    have hsn : ∀ i, i < n → sn i ≤ n - i := fun i hi => (k2 i hi).2.2.2.2.2.1
    have t0 : T (b 0) = 0 := (hB.1 0 (by omega)).2
    have hfr2 : ∀ q, q ∈ L → 20000 ≤ T q → f0 q = f q := fun q hq ht => hfr1 q hq (cn_own_of (by omega)) (hl_ne (T := T) (by omega))
    have hR := cg_R_fr (made := true) hL1 hfr2 hB1 hch0 hW
    refine lv_iload_n X.1 X.2.1 d_C_spread_12 rfl (lv_at hl 1 rfl) ?_
    refine hl_calli hh (hl_runV (k := 1) X hK hh (c_H_spreadSize l g _ L1 f0 T1 ad n a0 lO wk zL gn G pr sn sp ix wb y hn k1 j hj) wc_H_spreadSize w_201 w_6 wi_H_spreadSize ws_H_spreadSize (by decide +kernel) rfl rfl ⟨Nat.le_of_ble_eq_true rfl, Nat.le_of_ble_eq_true rfl⟩ k1.1.1 k1.1.2.1 rfl rfl rfl rfl (Nat.le_of_ble_eq_true rfl) hl.1 d_C_spread_13 ⟨Nat.le_of_eq (Nat.zero_add _), Nat.le_of_eq (Nat.zero_add _)⟩) (fun r u H locs hp hh => ?_)
    obtain ⟨rfl, rfl⟩ := hp
    refine lv_goto (tgt := 20) X.1 X.2.1 d_C_spread_16 (by decide) ?_
    exact hm_iret X hr hlk hh (hpo _ _ (Or.inr ⟨j, sn, hj, rfl, hsz0, rfl, hR⟩)) (Nat.le_of_eq (Nat.zero_add _)) (Nat.le_of_eq (Nat.zero_add _)) d_C_spread_20

/-- int run() -/
theorem c_C_run (l : Launch) (g : hl_G) (sz : Nat) (L : List Nat) (f : Nat → va_E) (T : Nat → Nat) (b : Nat → Nat) (n mm sm : Nat) (mv st : Nat → Nat → Nat) (made : Bool) (hI : cg_I g L f T b n mm sm mv st made) (mc ms : Nat) (hmc : made = false → mc = 1601 ∧ ms = 40003) (post : Int32 → List Nat × (Nat → va_E) → Prop) (hpo : ∀ r u, (∃ sn, sz_all (gp_gen (mv_T mv mm)) n sn ∧ r = nI (rn sn n) ∧ cg_R g L f T b n mm sm mv st true u) → post r u) :
    Met l y_C_run (hq y_C_run b_C_run 4 (some .int)) { frames := 6, cells := mc, slots := ms, locals := 230 } (hm_P g [.ref (b 0)] sz L f) (va_Qi (post) (hm_B g sz L) (hm_A sz L)) mc ms (hm_A sz L) := by
  refine hm_ofW (by decide) (Nat.le_of_ble_eq_true rfl) ?_
  intro p e s m below meth c X hr hlk hnm hK hsz hh ls hl
  have hl : lv_has ls 4 [(0, .ref (b 0))] := hl
  obtain ⟨zp, zd, cv, fl, hB, hC, hW, hmd⟩ := id hI
  obtain ⟨hn0, hn, hmm, hsm, hmv, hst⟩ := id hW
  refine lv_aload_n X.1 X.2.1 d_C_run_0 rfl (lv_at hl 0 rfl) ?_
  refine hl_callr2 hh (hl_runV (k := 0) X hK hh (c_C_freshChain l g _ L f T b n mm sm mv st zp zd cv fl mc ms hB hW hC (fun e0 => hmc (Bool.eq_false_iff.2 (fun h => hmd h e0)))) wc_C_freshChain w_98 w_1 wi_C_freshChain ws_C_freshChain (by decide +kernel) rfl rfl ⟨Nat.le_of_ble_eq_true rfl, Nat.le_of_ble_eq_true rfl⟩ (hB.1 0 (by omega)).1 hB.2.1 rfl rfl rfl rfl (Nat.le_of_ble_eq_true rfl) hl.1 d_C_run_1 ⟨Nat.le_of_eq (Nat.zero_add _), Nat.le_of_eq (Nat.zero_add _)⟩) (fun a0 u H locs hp hh => ?_)
  obtain ⟨f1, T1, hu2, hL1, hfr1, hB1, hch1⟩ := hp
  obtain ⟨L1, f0⟩ := u
  have hu2 : f0 = f1 := hu2
  subst hu2
  have hB1 : cg_B g L1 f0 T1 b n mm sm mv st zp zd (.ref a0) 0 := hB1
  have hch0 : cg_ch g L1 f0 T1 n mm mv a0 True := hch1
  obtain ⟨lO, wk, ad, zL, gn, G, pr, sn, sp, ix, wb, y, k1, k2, k3, k4⟩ := id hch0
  have hh : hl_H g (hm_A sz L) s.heap L1 f0 H locs := hh
  have hsz0 := sz_of (k4 trivial)
  have hsn : ∀ i, i < n → sn i ≤ n - i := fun i hi => (k2 i hi).2.2.2.2.2.1
  have t0 : T (b 0) = 0 := (hB.1 0 (by omega)).2
  have hfr2 : ∀ q, q ∈ L → 20000 ≤ T q → f0 q = f q := fun q hq ht => hfr1 q hq (cn_own_of (by omega)) (hl_ne (T := T) (by omega))
  have hR := cg_R_fr (made := true) hL1 hfr2 hB1 hch0 hW
  have loop : ∀ (t i : Nat) (H : Heap) (locs : List Loc) (ls : Array Slot), n + 1 ≤ i + t → i ≤ n → hl_H g (hm_A sz L) s.heap L1 f0 H locs → lv_has ls 4 [(3, .int (nI i)), (2, .int (nI (rn sn i))), (1, .ref a0), (0, .ref (b 0))] → W p l e { frames := 6, cells := mc, slots := ms, locals := 230 } s m #[.ref (b 0)] below meth c H locs (0 + mc) (0 + ms) (MQ below (va_Qi (post) (hm_B g sz L) (hm_A sz L)) #[.ref (b 0)] s mc ms (hm_A sz L)) (F0 m 9 ls []) := by
    intro t
    induction t with
    | zero => intros; omega
    | succ t ih =>
      intro i H locs ls hk hin hh hl
      have b1 := rn_le sn i
      refine lv_iload_n X.1 X.2.1 d_C_run_9 rfl (lv_at hl 0 rfl) ?_
      refine lv_aload_n X.1 X.2.1 d_C_run_10 rfl (lv_at hl 3 rfl) ?_
      refine hl_get X hK hh (ref := "CycleGroups") i_C (ci := 0) rfl 0 (by decide) w_47 rfl (hB1.1 0 (by omega)).1 hB1.2.1 rfl d_C_run_11 ?_
      refine hn_ige (tgt := 35) X (by omega) (by omega) d_C_run_14 (by decide) (fun hc => ?_) (fun hc => ?_)
      · have hin2 : i = n := by omega
        refine lv_iload_n X.1 X.2.1 d_C_run_35 rfl (lv_at hl 1 rfl) ?_
        exact hm_iret X hr hlk hh (hpo _ _ ⟨sn, hsz0, by rw [hin2], hR⟩) (Nat.le_of_eq (Nat.zero_add _)) (Nat.le_of_eq (Nat.zero_add _)) d_C_run_36
      · have hin2 : i < n := hc
        have hs1 := hsn i hin2
        refine lv_aload_n X.1 X.2.1 d_C_run_17 rfl (lv_at hl 2 rfl) ?_
        refine lv_iload_n X.1 X.2.1 d_C_run_18 rfl (lv_at hl 0 rfl) ?_
        refine hl_calli hh (hl_runV (k := 1) X hK hh (c_H_spreadSize l g _ L1 f0 T1 ad n a0 lO wk zL gn G pr sn sp ix wb y hn k1 i hin2) wc_H_spreadSize w_201 w_6 wi_H_spreadSize ws_H_spreadSize (by decide +kernel) rfl rfl ⟨Nat.le_of_ble_eq_true rfl, Nat.le_of_ble_eq_true rfl⟩ k1.1.1 k1.1.2.1 rfl rfl rfl rfl (Nat.le_of_ble_eq_true rfl) hl.1 d_C_run_19 ⟨Nat.le_of_eq (Nat.zero_add _), Nat.le_of_eq (Nat.zero_add _)⟩) (fun r u H locs hp hh => ?_)
        obtain ⟨rfl, rfl⟩ := hp
        refine lv_iconst (v := nI 2) X.1 X.2.1 d_C_run_22 (by decide) ?_
        refine hn_ilt (tgt := 29) X (by omega) (by omega) d_C_run_23 (by decide) (fun hc => ?_) (fun hc => ?_)
        · have e1 : rn sn (i + 1) = rn sn i := rn_n (by omega)
          refine lv_iinc (v := nI (i + 1)) (lv' := [(3, .int (nI (i + 1))), (2, .int (nI (rn sn i))), (1, .ref a0), (0, .ref (b 0))]) X.1 X.2.1 d_C_run_29 hl (k := 0) rfl (hn_inc _) (by decide) rfl (fun ls hl => ?_)
          refine lv_goto (tgt := 9) X.1 X.2.1 d_C_run_32 (by decide) ?_
          rw [← e1] at hl
          exact ih (i + 1) H locs ls (by omega) (by omega) hh hl
        · have e1 : rn sn (i + 1) = rn sn i + 1 := rn_p (by omega)
          refine lv_iinc (v := nI ((rn sn i) + 1)) (lv' := [(2, .int (nI ((rn sn i) + 1))), (3, .int (nI i)), (1, .ref a0), (0, .ref (b 0))]) X.1 X.2.1 d_C_run_26 hl (k := 1) rfl (hn_inc _) (by decide) rfl (fun ls hl => ?_)
          refine lv_iinc (v := nI (i + 1)) (lv' := [(3, .int (nI (i + 1))), (2, .int (nI ((rn sn i) + 1))), (1, .ref a0), (0, .ref (b 0))]) X.1 X.2.1 d_C_run_29 hl (k := 1) rfl (hn_inc _) (by decide) rfl (fun ls hl => ?_)
          refine lv_goto (tgt := 9) X.1 X.2.1 d_C_run_32 (by decide) ?_
          rw [← e1] at hl
          exact ih (i + 1) H locs ls (by omega) (by omega) hh hl
  refine lv_astore_n (lv' := [(1, .ref a0), (0, .ref (b 0))]) X.1 X.2.1 d_C_run_4 rfl hl (by decide) rfl (fun ls hl => ?_)
  refine lv_iconst (v := nI 0) X.1 X.2.1 d_C_run_5 (by decide) ?_
  refine lv_istore_n (lv' := [(2, .int (nI 0)), (1, .ref a0), (0, .ref (b 0))]) X.1 X.2.1 d_C_run_6 rfl hl (by decide) rfl (fun ls hl => ?_)
  refine lv_iconst (v := nI 0) X.1 X.2.1 d_C_run_7 (by decide) ?_
  refine lv_istore_n (lv' := [(3, .int (nI 0)), (2, .int (nI 0)), (1, .ref a0), (0, .ref (b 0))]) X.1 X.2.1 d_C_run_8 rfl hl (by decide) rfl (fun ls hl => ?_)
  exact loop (n + 1) 0 _ _ ls (by omega) (by omega) hh (lv_sub hl [0, 1, 2, 3] rfl)

/-- int base(int k) -/
theorem c_C_base (l : Launch) (g : hl_G) (sz : Nat) (L : List Nat) (f : Nat → va_E) (T : Nat → Nat) (b : Nat → Nat) (n mm sm : Nat) (mv st : Nat → Nat → Nat) (made : Bool) (hI : cg_I g L f T b n mm sm mv st made) (mc ms : Nat) (hmc : made = false → mc = 1601 ∧ ms = 40003) (q1 : Int32) (post : Int32 → List Nat × (Nat → va_E) → Prop) (hpo : ∀ r u, (∃ sn, sz_all (gp_gen (mv_T mv mm)) n sn ∧ r = ba sn q1 n 0 0 ∧ cg_R g L f T b n mm sm mv st true u) → post r u) :
    Met l y_C_base (hq y_C_base b_C_base 5 (some .int)) { frames := 6, cells := mc, slots := ms, locals := 230 } (hm_P g [.ref (b 0), .int q1] sz L f) (va_Qi (post) (hm_B g sz L) (hm_A sz L)) mc ms (hm_A sz L) := by
  refine hm_ofW (by decide) (Nat.le_of_ble_eq_true rfl) ?_
  intro p e s m below meth c X hr hlk hnm hK hsz hh ls hl
  have hl : lv_has ls 5 [(0, .ref (b 0)), (1, .int q1)] := hl
  obtain ⟨zp, zd, cv, fl, hB, hC, hW, hmd⟩ := id hI
  obtain ⟨hn0, hn, hmm, hsm, hmv, hst⟩ := id hW
  refine lv_aload_n X.1 X.2.1 d_C_base_0 rfl (lv_at hl 0 rfl) ?_
  refine hl_callr2 hh (hl_runV (k := 0) X hK hh (c_C_freshChain l g _ L f T b n mm sm mv st zp zd cv fl mc ms hB hW hC (fun e0 => hmc (Bool.eq_false_iff.2 (fun h => hmd h e0)))) wc_C_freshChain w_98 w_1 wi_C_freshChain ws_C_freshChain (by decide +kernel) rfl rfl ⟨Nat.le_of_ble_eq_true rfl, Nat.le_of_ble_eq_true rfl⟩ (hB.1 0 (by omega)).1 hB.2.1 rfl rfl rfl rfl (Nat.le_of_ble_eq_true rfl) hl.1 d_C_base_1 ⟨Nat.le_of_eq (Nat.zero_add _), Nat.le_of_eq (Nat.zero_add _)⟩) (fun a0 u H locs hp hh => ?_)
  obtain ⟨f1, T1, hu2, hL1, hfr1, hB1, hch1⟩ := hp
  obtain ⟨L1, f0⟩ := u
  have hu2 : f0 = f1 := hu2
  subst hu2
  have hB1 : cg_B g L1 f0 T1 b n mm sm mv st zp zd (.ref a0) 0 := hB1
  have hch0 : cg_ch g L1 f0 T1 n mm mv a0 True := hch1
  obtain ⟨lO, wk, ad, zL, gn, G, pr, sn, sp, ix, wb, y, k1, k2, k3, k4⟩ := id hch0
  have hh : hl_H g (hm_A sz L) s.heap L1 f0 H locs := hh
  have hsz0 := sz_of (k4 trivial)
  have hsn : ∀ i, i < n → sn i ≤ n - i := fun i hi => (k2 i hi).2.2.2.2.2.1
  have t0 : T (b 0) = 0 := (hB.1 0 (by omega)).2
  have hfr2 : ∀ q, q ∈ L → 20000 ≤ T q → f0 q = f q := fun q hq ht => hfr1 q hq (cn_own_of (by omega)) (hl_ne (T := T) (by omega))
  have hR := cg_R_fr (made := true) hL1 hfr2 hB1 hch0 hW
  have loop : ∀ (t i c0 : Nat) (H : Heap) (locs : List Loc) (ls : Array Slot), n = i + t → ba sn q1 t i c0 = ba sn q1 n 0 0 → hl_H g (hm_A sz L) s.heap L1 f0 H locs → lv_has ls 5 [(4, .int (nI i)), (3, .int (nI c0)), (2, .ref a0), (0, .ref (b 0)), (1, .int q1)] → W p l e { frames := 6, cells := mc, slots := ms, locals := 230 } s m #[.ref (b 0), .int q1] below meth c H locs (0 + mc) (0 + ms) (MQ below (va_Qi (post) (hm_B g sz L) (hm_A sz L)) #[.ref (b 0), .int q1] s mc ms (hm_A sz L)) (F0 m 10 ls []) := by
    intro t
    induction t with
    | zero =>
      intro i c0 H locs ls hk he hh hl
      refine lv_iload X.1 X.2.1 d_C_base_10 (lv_at hl 0 rfl) ?_
      refine lv_aload_n X.1 X.2.1 d_C_base_12 rfl (lv_at hl 3 rfl) ?_
      refine hl_get X hK hh (ref := "CycleGroups") i_C (ci := 0) rfl 0 (by decide) w_47 rfl (hB1.1 0 (by omega)).1 hB1.2.1 rfl d_C_base_13 ?_
      refine hn_ige (tgt := 46) X (by omega) (by omega) d_C_base_16 (by decide) (fun hc => ?_) (fun hc => ?_)
      · skip
        refine lv_iconst (v := -1) X.1 X.2.1 d_C_base_46 (by decide) ?_
        exact hm_iret X hr hlk hh (hpo _ _ ⟨sn, hsz0, he, hR⟩) (Nat.le_of_eq (Nat.zero_add _)) (Nat.le_of_eq (Nat.zero_add _)) d_C_base_47
      · omega
    | succ t ih =>
      intro i c0 H locs ls hk he hh hl
      have he : (if 2 ≤ sn i then (if nI c0 = q1 then nI i else ba sn q1 t (i + 1) (c0 + 1)) else ba sn q1 t (i + 1) c0) = _ := he
      refine lv_iload X.1 X.2.1 d_C_base_10 (lv_at hl 0 rfl) ?_
      refine lv_aload_n X.1 X.2.1 d_C_base_12 rfl (lv_at hl 3 rfl) ?_
      refine hl_get X hK hh (ref := "CycleGroups") i_C (ci := 0) rfl 0 (by decide) w_47 rfl (hB1.1 0 (by omega)).1 hB1.2.1 rfl d_C_base_13 ?_
      refine hn_ige (tgt := 46) X (by omega) (by omega) d_C_base_16 (by decide) (fun hc => ?_) (fun hc => ?_)
      · omega
      · have hin2 : i < n := hc
        have hs1 := hsn i hin2
        refine lv_aload_n X.1 X.2.1 d_C_base_19 rfl (lv_at hl 2 rfl) ?_
        refine lv_iload X.1 X.2.1 d_C_base_20 (lv_at hl 0 rfl) ?_
        refine hl_calli hh (hl_runV (k := 1) X hK hh (c_H_spreadSize l g _ L1 f0 T1 ad n a0 lO wk zL gn G pr sn sp ix wb y hn k1 i hin2) wc_H_spreadSize w_201 w_6 wi_H_spreadSize ws_H_spreadSize (by decide +kernel) rfl rfl ⟨Nat.le_of_ble_eq_true rfl, Nat.le_of_ble_eq_true rfl⟩ k1.1.1 k1.1.2.1 rfl rfl rfl rfl (Nat.le_of_ble_eq_true rfl) hl.1 d_C_base_22 ⟨Nat.le_of_eq (Nat.zero_add _), Nat.le_of_eq (Nat.zero_add _)⟩) (fun r u H locs hp hh => ?_)
        obtain ⟨rfl, rfl⟩ := hp
        refine lv_iconst (v := nI 2) X.1 X.2.1 d_C_base_25 (by decide) ?_
        refine hn_ilt (tgt := 40) X (by omega) (by omega) d_C_base_26 (by decide) (fun hc => ?_) (fun hc => ?_)
        · rw [if_neg (show ¬ 2 ≤ sn i by omega)] at he
          refine lv_iinc (v := nI (i + 1)) (lv' := [(4, .int (nI (i + 1))), (3, .int (nI c0)), (2, .ref a0), (0, .ref (b 0)), (1, .int q1)]) X.1 X.2.1 d_C_base_40 hl (k := 0) rfl (hn_inc _) (by decide) rfl (fun ls hl => ?_)
          refine lv_goto (tgt := 10) X.1 X.2.1 d_C_base_43 (by decide) ?_
          exact ih (i + 1) c0 H locs ls (by omega) he hh hl
        · rw [if_pos (show 2 ≤ sn i by omega)] at he
          refine lv_iload_n X.1 X.2.1 d_C_base_29 rfl (lv_at hl 1 rfl) ?_
          refine lv_iload_n X.1 X.2.1 d_C_base_30 rfl (lv_at hl 4 rfl) ?_
          refine lv_icmp_ne (tgt := 37) X.1 X.2.1 d_C_base_31 (by decide) (fun hc => ?_) (fun hc => ?_)
          · rw [if_neg hc] at he
            refine lv_iinc (v := nI (c0 + 1)) (lv' := [(3, .int (nI (c0 + 1))), (4, .int (nI i)), (2, .ref a0), (0, .ref (b 0)), (1, .int q1)]) X.1 X.2.1 d_C_base_37 hl (k := 1) rfl (hn_inc _) (by decide) rfl (fun ls hl => ?_)
            refine lv_iinc (v := nI (i + 1)) (lv' := [(4, .int (nI (i + 1))), (3, .int (nI (c0 + 1))), (2, .ref a0), (0, .ref (b 0)), (1, .int q1)]) X.1 X.2.1 d_C_base_40 hl (k := 1) rfl (hn_inc _) (by decide) rfl (fun ls hl => ?_)
            refine lv_goto (tgt := 10) X.1 X.2.1 d_C_base_43 (by decide) ?_
            exact ih (i + 1) (c0 + 1) H locs ls (by omega) he hh hl
          · rw [if_pos hc] at he
            refine lv_iload X.1 X.2.1 d_C_base_34 (lv_at hl 0 rfl) ?_
            exact hm_iret X hr hlk hh (hpo _ _ ⟨sn, hsz0, he, hR⟩) (Nat.le_of_eq (Nat.zero_add _)) (Nat.le_of_eq (Nat.zero_add _)) d_C_base_36
  refine lv_astore_n (lv' := [(2, .ref a0), (0, .ref (b 0)), (1, .int q1)]) X.1 X.2.1 d_C_base_4 rfl hl (by decide) rfl (fun ls hl => ?_)
  refine lv_iconst (v := nI 0) X.1 X.2.1 d_C_base_5 (by decide) ?_
  refine lv_istore_n (lv' := [(3, .int (nI 0)), (2, .ref a0), (0, .ref (b 0)), (1, .int q1)]) X.1 X.2.1 d_C_base_6 rfl hl (by decide) rfl (fun ls hl => ?_)
  refine lv_iconst (v := nI 0) X.1 X.2.1 d_C_base_7 (by decide) ?_
  refine lv_istore (lv' := [(4, .int (nI 0)), (3, .int (nI 0)), (2, .ref a0), (0, .ref (b 0)), (1, .int q1)]) X.1 X.2.1 d_C_base_8 hl (by decide) rfl (fun ls hl => ?_)
  exact loop n 0 0 _ _ ls (by omega) rfl hh (lv_sub hl [0, 1, 2, 3, 4] rfl)
end

