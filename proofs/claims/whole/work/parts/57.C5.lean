/-! CycleGroups: scramble. -/
section
def sc_x (x : Int64) : Int64 := 6364136223846793005 * x + 1442695040888963407
def sc_k (x : Int64) : Nat := x.toUInt64.toNat / 2 ^ 33
theorem sc_k_lt (x : Int64) : sc_k x < 2 ^ 31 := by
  unfold sc_k
  have := x.toUInt64.toNat_lt
  omega
theorem sc_v (x : Int64) : (x.toUInt64 >>> ((nI 33).toInt64.toUInt64 &&& Int64.toUInt64 63)).toInt64 = lN (sc_k x) := by
  have h1 : (nI 33).toInt64.toUInt64 &&& Int64.toUInt64 63 = 33 := by decide
  rw [h1]
  apply Int64.toBitVec_inj.mp
  apply BitVec.eq_of_toNat_eq
  have hk := sc_k_lt x
  have h2 : (x.toUInt64 >>> 33).toNat = sc_k x := by
    rw [UInt64.toNat_shiftRight]
    show x.toUInt64.toNat >>> (33 % 64) = _
    rw [show 33 % 64 = 33 from rfl, Nat.shiftRight_eq_div_pow]; rfl
  show (x.toUInt64 >>> 33).toNat = (BitVec.ofNat 64 (sc_k x)).toNat
  rw [h2, BitVec.toNat_ofNat, Nat.mod_eq_of_lt (by omega)]
/-- the state after k moves that are chosen so -/
def sc_r (mm : Nat) (mv : Nat → Nat → Nat) : Nat → Int64 → (Nat → Nat) → Nat → Nat
  | 0, _, σ => σ
  | k + 1, x, σ => sc_r mm mv k (sc_x x) (mv (sc_k (sc_x x) % mm) ∘ σ)
theorem sc_sym {n mm : Nat} {mv : Nat → Nat → Nat} (hm : 0 < mm) (hmv : ∀ i, i < mm → gp_sym (ch_D n 0) (mv i)) : ∀ (k : Nat) (x : Int64) (σ : Nat → Nat), gp_sym (ch_D n 0) σ → gp_sym (ch_D n 0) (sc_r mm mv k x σ)
  | 0, _, _, h => h
  | k + 1, x, σ, h => sc_sym hm hmv k _ _ ((gp_sym_sg _).2.1 _ _ (hmv _ (Nat.mod_lt _ hm)) h)
/-- boolean scramble(int state, long seed, int n) -/
theorem c_C_scramble (l : Launch) (g : hl_G) (sz : Nat) (L : List Nat) (f : Nat → va_E) (T : Nat → Nat) (b : Nat → Nat) (n mm sm : Nat) (mv st : Nat → Nat → Nat) (made : Bool) (hI : cg_I g L f T b n mm sm mv st made) (q1 q3 : Int32) (x0 : Int64) (post : Int32 → List Nat × (Nat → va_E) → Prop) (hpo : ∀ r u, ((ip q1 sm = false ∨ mm = 0 ∨ ip q3 1001 = false) ∧ r = nI 0 ∧ u = (L, f)) ∨ (∃ j k, j < sm ∧ 0 < mm ∧ k ≤ 1000 ∧ q1 = nI j ∧ q3 = nI k ∧ r = nI 1 ∧ cg_R g L f T b n mm sm mv (va_up st j (sc_r mm mv k x0 (st j))) made u) → post r u) :
    Met l y_C_scramble (hq y_C_scramble b_C_scramble 9 (some .boolean)) { frames := 1, cells := 0, slots := 0, locals := 30 } (hm_P g [.ref (b 0), .int q1, .long x0, .int q3] sz L f) (va_Qi (post) (hm_B g sz L) (hm_A sz L)) 0 0 (hm_A sz L) := by
  refine hm_ofW (by decide) (Nat.le_of_ble_eq_true rfl) ?_
  intro p e s m below meth c X hr hlk hnm hK hsz hh ls hl
  have hl : lv_has ls 9 [(0, .ref (b 0)), (1, .int q1), (2, .long x0), (4, .int q3)] := hl
  obtain ⟨zp, zd, cv, fl, hB, hC, hW, hmd⟩ := id hI
  obtain ⟨hn0, hn, hmm, hsm, hmv, hst⟩ := id hW
  rcases ip_cases q1 (n := sm) (by omega) with h1 | ⟨j, hj, rfl⟩
  · skip
    refine lv_aload_n X.1 X.2.1 d_C_scramble_0 rfl (lv_at hl 0 rfl) ?_
    refine lv_iload_n X.1 X.2.1 d_C_scramble_1 rfl (lv_at hl 1 rfl) ?_
    refine hl_calli hh (hl_runV (k := 1) X hK hh (c_C_isState l g _ L f (b 0) sm _ _ _ _ .null _ _ _ _ q1 (hB.1 0 (by omega)).1 hB.2.1 (by omega)) wc_C_isState w_298 w_1 wi_C_isState ws_C_isState (by decide +kernel) rfl rfl ⟨Nat.le_of_ble_eq_true rfl, Nat.le_of_ble_eq_true rfl⟩ (hB.1 0 (by omega)).1 hB.2.1 rfl rfl rfl rfl (Nat.le_of_ble_eq_true rfl) hl.1 d_C_scramble_2 ⟨Nat.le_of_ble_eq_true rfl, Nat.le_of_ble_eq_true rfl⟩) (fun r u H locs hp hh => ?_)
    obtain ⟨hr1, rfl⟩ := hp
    rw [h1] at hr1
    subst hr1
    refine lv_if_eq (tgt := 29) X.1 X.2.1 d_C_scramble_5 (by decide) (fun _ => ?_) (fun hc => absurd (by decide) hc)
    refine lv_iconst (v := nI 0) X.1 X.2.1 d_C_scramble_29 (by decide) ?_
    exact hm_zret X hr hlk hh (Or.inl rfl) (hpo _ _ (Or.inl ⟨Or.inl h1, rfl, rfl⟩)) (Nat.le_of_ble_eq_true rfl) (Nat.le_of_ble_eq_true rfl) d_C_scramble_30
  · have h1 := ip_in (by omega : sm < 2 ^ 31) hj
    rcases Nat.eq_zero_or_pos mm with hm0 | hm0
    · skip
      refine lv_aload_n X.1 X.2.1 d_C_scramble_0 rfl (lv_at hl 0 rfl) ?_
      refine lv_iload_n X.1 X.2.1 d_C_scramble_1 rfl (lv_at hl 1 rfl) ?_
      refine hl_calli hh (hl_runV (k := 1) X hK hh (c_C_isState l g _ L f (b 0) sm _ _ _ _ .null _ _ _ _ (nI j) (hB.1 0 (by omega)).1 hB.2.1 (by omega)) wc_C_isState w_298 w_1 wi_C_isState ws_C_isState (by decide +kernel) rfl rfl ⟨Nat.le_of_ble_eq_true rfl, Nat.le_of_ble_eq_true rfl⟩ (hB.1 0 (by omega)).1 hB.2.1 rfl rfl rfl rfl (Nat.le_of_ble_eq_true rfl) hl.1 d_C_scramble_2 ⟨Nat.le_of_ble_eq_true rfl, Nat.le_of_ble_eq_true rfl⟩) (fun r u H locs hp hh => ?_)
      obtain ⟨hr1, rfl⟩ := hp
      rw [h1] at hr1
      subst hr1
      refine lv_if_eq (tgt := 29) X.1 X.2.1 d_C_scramble_5 (by decide) (fun hc => absurd hc (by decide)) (fun _ => ?_)
      refine lv_aload_n X.1 X.2.1 d_C_scramble_8 rfl (lv_at hl 0 rfl) ?_
      refine hl_get X hK hh (ref := "CycleGroups") i_C (ci := 0) rfl 2 (by decide) w_49 rfl (hB.1 0 (by omega)).1 hB.2.1 rfl d_C_scramble_9 ?_
      refine lv_iconst (v := nI 1) X.1 X.2.1 d_C_scramble_12 (by decide) ?_
      refine hn_ilt (tgt := 29) X (by omega) (by omega) d_C_scramble_13 (by decide) (fun hc => ?_) (fun hc => ?_)
      · skip
        refine lv_iconst (v := nI 0) X.1 X.2.1 d_C_scramble_29 (by decide) ?_
        exact hm_zret X hr hlk hh (Or.inl rfl) (hpo _ _ (Or.inl ⟨Or.inr (Or.inl hm0), rfl, rfl⟩)) (Nat.le_of_ble_eq_true rfl) (Nat.le_of_ble_eq_true rfl) d_C_scramble_30
      · exact absurd hm0 (by omega)
    · rcases pk_ix q3 (n := 1001) (by decide) with h3 | h3 | ⟨k, hk, rfl⟩
      · skip
        refine lv_aload_n X.1 X.2.1 d_C_scramble_0 rfl (lv_at hl 0 rfl) ?_
        refine lv_iload_n X.1 X.2.1 d_C_scramble_1 rfl (lv_at hl 1 rfl) ?_
        refine hl_calli hh (hl_runV (k := 1) X hK hh (c_C_isState l g _ L f (b 0) sm _ _ _ _ .null _ _ _ _ (nI j) (hB.1 0 (by omega)).1 hB.2.1 (by omega)) wc_C_isState w_298 w_1 wi_C_isState ws_C_isState (by decide +kernel) rfl rfl ⟨Nat.le_of_ble_eq_true rfl, Nat.le_of_ble_eq_true rfl⟩ (hB.1 0 (by omega)).1 hB.2.1 rfl rfl rfl rfl (Nat.le_of_ble_eq_true rfl) hl.1 d_C_scramble_2 ⟨Nat.le_of_ble_eq_true rfl, Nat.le_of_ble_eq_true rfl⟩) (fun r u H locs hp hh => ?_)
        obtain ⟨hr1, rfl⟩ := hp
        rw [h1] at hr1
        subst hr1
        refine lv_if_eq (tgt := 29) X.1 X.2.1 d_C_scramble_5 (by decide) (fun hc => absurd hc (by decide)) (fun _ => ?_)
        refine lv_aload_n X.1 X.2.1 d_C_scramble_8 rfl (lv_at hl 0 rfl) ?_
        refine hl_get X hK hh (ref := "CycleGroups") i_C (ci := 0) rfl 2 (by decide) w_49 rfl (hB.1 0 (by omega)).1 hB.2.1 rfl d_C_scramble_9 ?_
        refine lv_iconst (v := nI 1) X.1 X.2.1 d_C_scramble_12 (by decide) ?_
        refine hn_ilt (tgt := 29) X (by omega) (by omega) d_C_scramble_13 (by decide) (fun hc => ?_) (fun hc => ?_)
        · omega
        refine lv_iload X.1 X.2.1 d_C_scramble_16 (lv_at hl 3 rfl) ?_
        refine lv_if_lt (tgt := 29) X.1 X.2.1 d_C_scramble_18 (by decide) (fun hc => ?_) (fun hc => ?_)
        · skip
          refine lv_iconst (v := nI 0) X.1 X.2.1 d_C_scramble_29 (by decide) ?_
          exact hm_zret X hr hlk hh (Or.inl rfl) (hpo _ _ (Or.inl ⟨Or.inr (Or.inr (ip_neg h3)), rfl, rfl⟩)) (Nat.le_of_ble_eq_true rfl) (Nat.le_of_ble_eq_true rfl) d_C_scramble_30
        · exact absurd h3 hc
      · skip
        refine lv_aload_n X.1 X.2.1 d_C_scramble_0 rfl (lv_at hl 0 rfl) ?_
        refine lv_iload_n X.1 X.2.1 d_C_scramble_1 rfl (lv_at hl 1 rfl) ?_
        refine hl_calli hh (hl_runV (k := 1) X hK hh (c_C_isState l g _ L f (b 0) sm _ _ _ _ .null _ _ _ _ (nI j) (hB.1 0 (by omega)).1 hB.2.1 (by omega)) wc_C_isState w_298 w_1 wi_C_isState ws_C_isState (by decide +kernel) rfl rfl ⟨Nat.le_of_ble_eq_true rfl, Nat.le_of_ble_eq_true rfl⟩ (hB.1 0 (by omega)).1 hB.2.1 rfl rfl rfl rfl (Nat.le_of_ble_eq_true rfl) hl.1 d_C_scramble_2 ⟨Nat.le_of_ble_eq_true rfl, Nat.le_of_ble_eq_true rfl⟩) (fun r u H locs hp hh => ?_)
        obtain ⟨hr1, rfl⟩ := hp
        rw [h1] at hr1
        subst hr1
        refine lv_if_eq (tgt := 29) X.1 X.2.1 d_C_scramble_5 (by decide) (fun hc => absurd hc (by decide)) (fun _ => ?_)
        refine lv_aload_n X.1 X.2.1 d_C_scramble_8 rfl (lv_at hl 0 rfl) ?_
        refine hl_get X hK hh (ref := "CycleGroups") i_C (ci := 0) rfl 2 (by decide) w_49 rfl (hB.1 0 (by omega)).1 hB.2.1 rfl d_C_scramble_9 ?_
        refine lv_iconst (v := nI 1) X.1 X.2.1 d_C_scramble_12 (by decide) ?_
        refine hn_ilt (tgt := 29) X (by omega) (by omega) d_C_scramble_13 (by decide) (fun hc => ?_) (fun hc => ?_)
        · omega
        refine lv_iload X.1 X.2.1 d_C_scramble_16 (lv_at hl 3 rfl) ?_
        refine lv_if_lt (tgt := 29) X.1 X.2.1 d_C_scramble_18 (by decide) (fun hc => ?_) (fun hc => ?_)
        · skip
          refine lv_iconst (v := nI 0) X.1 X.2.1 d_C_scramble_29 (by decide) ?_
          exact hm_zret X hr hlk hh (Or.inl rfl) (hpo _ _ (Or.inl ⟨Or.inr (Or.inr (ip_big h3)), rfl, rfl⟩)) (Nat.le_of_ble_eq_true rfl) (Nat.le_of_ble_eq_true rfl) d_C_scramble_30
        refine lv_iload X.1 X.2.1 d_C_scramble_21 (lv_at hl 3 rfl) ?_
        refine lv_sipush (v := nI 1000) X.1 X.2.1 d_C_scramble_23 (by decide) ?_
        refine lv_icmp_le (tgt := 31) X.1 X.2.1 d_C_scramble_26 (by decide) (fun hc => ?_) (fun hc => ?_)
        · refine absurd (Int32.le_trans h3 hc) (by decide)
        · skip
          refine lv_iconst (v := nI 0) X.1 X.2.1 d_C_scramble_29 (by decide) ?_
          exact hm_zret X hr hlk hh (Or.inl rfl) (hpo _ _ (Or.inl ⟨Or.inr (Or.inr (ip_big h3)), rfl, rfl⟩)) (Nat.le_of_ble_eq_true rfl) (Nat.le_of_ble_eq_true rfl) d_C_scramble_30
      · skip
        have ts := (hB.1 (20 + j) (by omega)).2
        have nx : ∀ t, t < 7 ∨ (10 ≤ t ∧ t < 20) → b t ≠ b (20 + j) := fun t ht => hl_ne (T := T) (by rw [ts, (hB.1 t (by omega)).2]; omega)
        have loop : ∀ (t i : Nat) (x : Int64) (σ : Nat → Nat) (H : Heap) (locs : List Loc) (ls : Array Slot), k + 1 ≤ i + t → i ≤ k → gp_sym (ch_D n 0) σ → sc_r mm mv (k - i) x σ = sc_r mm mv k x0 (st j) → hl_H g (hm_A sz L) s.heap L (va_up f (b (20 + j)) (hl_nat g n σ)) H locs → lv_has ls 9 [(7, .int (nI i)), (5, .long x), (0, .ref (b 0)), (1, .int (nI j)), (2, .long x0), (4, .int (nI k))] → W p l e { frames := 1, cells := 0, slots := 0, locals := 30 } s m #[.ref (b 0), .int (nI j), .long x0, .int (nI k)] below meth c H locs 0 0 (MQ below (va_Qi (post) (hm_B g sz L) (hm_A sz L)) #[.ref (b 0), .int (nI j), .long x0, .int (nI k)] s 0 0 (hm_A sz L)) (F0 m 37 ls []) := by
          intro t
          induction t with
          | zero => intros; omega
          | succ t ih =>
            intro i x σ H locs ls hk2 hin hσ he hh hl
            have fx : va_up f (b (20 + j)) (hl_nat g n σ) (b 0) = _ := (va_up_ne _ _ (nx 0 (by omega))).trans hB.2.1
            have f1 : va_up f (b (20 + j)) (hl_nat g n σ) (b 1) = _ := (va_up_ne _ _ (nx 1 (by omega))).trans hB.2.2.1
            have f2 : va_up f (b (20 + j)) (hl_nat g n σ) (b 2) = _ := (va_up_ne _ _ (nx 2 (by omega))).trans hB.2.2.2.1
            refine lv_iload X.1 X.2.1 d_C_scramble_37 (lv_at hl 0 rfl) ?_
            refine lv_iload X.1 X.2.1 d_C_scramble_39 (lv_at hl 5 rfl) ?_
            refine hn_ige (tgt := 92) X (by omega) (by omega) d_C_scramble_41 (by decide) (fun hc => ?_) (fun hc => ?_)
            · have hik : k - i = 0 := by omega
              rw [hik] at he
              have he : σ = _ := he
              rw [he] at hh
              refine lv_iconst (v := nI 1) X.1 X.2.1 d_C_scramble_92 (by decide) ?_
              exact hm_zret X hr hlk hh (Or.inr rfl) (hpo _ _ (Or.inr ⟨j, k, hj, hm0, by omega, rfl, rfl, rfl, cg_R_st hI hj (sc_sym hm0 hmv k x0 _ (hst j hj))⟩)) (Nat.le_of_ble_eq_true rfl) (Nat.le_of_ble_eq_true rfl) d_C_scramble_93
            · have hik : i < k := hc
              have hck := Nat.mod_lt (sc_k (sc_x x)) hm0
              have hkl := sc_k_lt (sc_x x)
              obtain ⟨ck, eck⟩ : ∃ y : Nat, y = sc_k (sc_x x) % mm := ⟨_, rfl⟩
              refine lv_ldc2 (v := 6364136223846793005) X.1 X.2.1 X.2.2.2.1 (X.2.2.2.2 _ w_313) d_C_scramble_44 ?_
              refine lv_lload X.1 X.2.1 d_C_scramble_47 (lv_at hl 1 rfl) ?_
              refine lv_lmul X.1 X.2.1 d_C_scramble_49 ?_
              refine lv_ldc2 (v := 1442695040888963407) X.1 X.2.1 X.2.2.2.1 (X.2.2.2.2 _ w_314) d_C_scramble_50 ?_
              refine lv_ladd X.1 X.2.1 d_C_scramble_53 ?_
              refine lv_lstore (lv' := [(5, .long ((6364136223846793005 * x) + 1442695040888963407)), (7, .int (nI i)), (0, .ref (b 0)), (1, .int (nI j)), (2, .long x0), (4, .int (nI k))]) X.1 X.2.1 d_C_scramble_54 hl (by decide) rfl (fun ls hl => ?_)
              refine lv_lload X.1 X.2.1 d_C_scramble_56 (lv_at hl 0 rfl) ?_
              refine lv_bipush (v := nI 33) X.1 X.2.1 d_C_scramble_58 (by decide) ?_
              refine lv_lushr X.1 X.2.1 d_C_scramble_60 (sc_v (sc_x x)) ?_
              refine lv_aload_n X.1 X.2.1 d_C_scramble_61 rfl (lv_at hl 2 rfl) ?_
              refine hl_get X hK hh (ref := "CycleGroups") i_C (ci := 0) rfl 2 (by decide) w_49 rfl (hB.1 0 (by omega)).1 fx rfl d_C_scramble_62 ?_
              refine hn_i2l X (by omega) d_C_scramble_65 ?_
              refine hn_lrem X (by omega) (by omega) (by omega) d_C_scramble_66 ?_
              refine lv_l2i X.1 X.2.1 d_C_scramble_67 (lN_i _) ?_
              rw [← eck]
              rw [← eck] at hck
              refine lv_istore (lv' := [(8, .int (nI ck)), (5, .long ((6364136223846793005 * x) + 1442695040888963407)), (7, .int (nI i)), (0, .ref (b 0)), (1, .int (nI j)), (2, .long x0), (4, .int (nI k))]) X.1 X.2.1 d_C_scramble_68 hl (by decide) rfl (fun ls hl => ?_)
              refine lv_aload_n X.1 X.2.1 d_C_scramble_70 rfl (lv_at hl 3 rfl) ?_
              refine hl_get X hK hh (ref := "CycleGroups") i_C (ci := 0) rfl 3 (by decide) w_50 rfl (hB.1 0 (by omega)).1 fx rfl d_C_scramble_71 ?_
              refine lv_iload_n X.1 X.2.1 d_C_scramble_74 rfl (lv_at hl 4 rfl) ?_
              refine hl_aaldG X hK hh (hB.1 2 (by omega)).1 f2 (by omega) (by omega) (if_pos (by omega)) d_C_scramble_75 ?_
              refine lv_aload_n X.1 X.2.1 d_C_scramble_76 rfl (lv_at hl 3 rfl) ?_
              refine hl_get X hK hh (ref := "CycleGroups") i_C (ci := 0) rfl 1 (by decide) w_48 rfl (hB.1 0 (by omega)).1 fx rfl d_C_scramble_77 ?_
              refine lv_iload X.1 X.2.1 d_C_scramble_80 (lv_at hl 0 rfl) ?_
              refine hl_aaldG X hK hh (hB.1 1 (by omega)).1 f1 (by omega) (by omega) (if_pos (by omega)) d_C_scramble_82 ?_
              refine hl_callv hh (hl_runS (k := 2) X hK hh (c_C_follow l g _ L _ (b (20 + j)) (b (10 + ck)) n σ (mv ck) (hB.1 (20 + j) (by omega)).1 (va_up_self ..) (hB.1 (10 + ck) (by omega)).1 ((va_up_ne _ _ (nx (10 + ck) (by omega))).trans (hB.2.2.2.2.2.2.2.2.1 ck (by omega))) (nx (10 + ck) (by omega)) hn (fun p hp => lk_sym_lt hσ hp)) wc_C_follow w_302 w_1 wi_C_follow (by decide +kernel) rfl rfl ⟨Nat.le_of_ble_eq_true rfl, Nat.le_of_ble_eq_true rfl⟩ rfl rfl (Nat.le_of_ble_eq_true rfl) hl.1 d_C_scramble_83 ⟨Nat.le_of_ble_eq_true rfl, Nat.le_of_ble_eq_true rfl⟩) (fun u H locs hp hh => ?_)
              subst hp
              have hh : hl_H g (hm_A sz L) s.heap L (va_up (va_up f (b (20 + j)) (hl_nat g n σ)) (b (20 + j)) (hl_nat g n (mv ck ∘ σ))) H locs := hh
              rw [hr_uu] at hh
              refine lv_iinc (v := nI (i + 1)) (lv' := [(7, .int (nI (i + 1))), (8, .int (nI ck)), (5, .long ((6364136223846793005 * x) + 1442695040888963407)), (0, .ref (b 0)), (1, .int (nI j)), (2, .long x0), (4, .int (nI k))]) X.1 X.2.1 d_C_scramble_86 hl (k := 2) rfl (hn_inc _) (by decide) rfl (fun ls hl => ?_)
              refine lv_goto (tgt := 37) X.1 X.2.1 d_C_scramble_89 (by decide) ?_
              refine ih (i + 1) (sc_x x) (mv ck ∘ σ) H locs ls (by omega) (by omega) ((gp_sym_sg _).2.1 _ _ (hmv ck (by omega)) hσ) ?_ hh (lv_sub hl [0, 2, 3, 4, 5, 6] rfl)
              rw [← he, show k - i = (k - (i + 1)) + 1 by omega, eck]; rfl
        refine lv_aload_n X.1 X.2.1 d_C_scramble_0 rfl (lv_at hl 0 rfl) ?_
        refine lv_iload_n X.1 X.2.1 d_C_scramble_1 rfl (lv_at hl 1 rfl) ?_
        refine hl_calli hh (hl_runV (k := 1) X hK hh (c_C_isState l g _ L f (b 0) sm _ _ _ _ .null _ _ _ _ (nI j) (hB.1 0 (by omega)).1 hB.2.1 (by omega)) wc_C_isState w_298 w_1 wi_C_isState ws_C_isState (by decide +kernel) rfl rfl ⟨Nat.le_of_ble_eq_true rfl, Nat.le_of_ble_eq_true rfl⟩ (hB.1 0 (by omega)).1 hB.2.1 rfl rfl rfl rfl (Nat.le_of_ble_eq_true rfl) hl.1 d_C_scramble_2 ⟨Nat.le_of_ble_eq_true rfl, Nat.le_of_ble_eq_true rfl⟩) (fun r u H locs hp hh => ?_)
        obtain ⟨hr1, rfl⟩ := hp
        rw [h1] at hr1
        subst hr1
        refine lv_if_eq (tgt := 29) X.1 X.2.1 d_C_scramble_5 (by decide) (fun hc => absurd hc (by decide)) (fun _ => ?_)
        refine lv_aload_n X.1 X.2.1 d_C_scramble_8 rfl (lv_at hl 0 rfl) ?_
        refine hl_get X hK hh (ref := "CycleGroups") i_C (ci := 0) rfl 2 (by decide) w_49 rfl (hB.1 0 (by omega)).1 hB.2.1 rfl d_C_scramble_9 ?_
        refine lv_iconst (v := nI 1) X.1 X.2.1 d_C_scramble_12 (by decide) ?_
        refine hn_ilt (tgt := 29) X (by omega) (by omega) d_C_scramble_13 (by decide) (fun hc => ?_) (fun hc => ?_)
        · omega
        refine lv_iload X.1 X.2.1 d_C_scramble_16 (lv_at hl 3 rfl) ?_
        refine lv_if_lt (tgt := 29) X.1 X.2.1 d_C_scramble_18 (by decide) (fun hc => ?_) (fun hc => ?_)
        · exact absurd hc (nI_pos (by omega))
        refine lv_iload X.1 X.2.1 d_C_scramble_21 (lv_at hl 3 rfl) ?_
        refine lv_sipush (v := nI 1000) X.1 X.2.1 d_C_scramble_23 (by decide) ?_
        refine hn_ile (tgt := 31) X (by omega) (by omega) d_C_scramble_26 (by decide) (fun hc => ?_) (fun hc => ?_)
        · skip
          refine lv_lload_n X.1 X.2.1 d_C_scramble_31 rfl (lv_at hl 2 rfl) ?_
          refine lv_lstore (lv' := [(5, .long x0), (0, .ref (b 0)), (1, .int (nI j)), (2, .long x0), (4, .int (nI k))]) X.1 X.2.1 d_C_scramble_32 hl (by decide) rfl (fun ls hl => ?_)
          refine lv_iconst (v := nI 0) X.1 X.2.1 d_C_scramble_34 (by decide) ?_
          refine lv_istore (lv' := [(7, .int (nI 0)), (5, .long x0), (0, .ref (b 0)), (1, .int (nI j)), (2, .long x0), (4, .int (nI k))]) X.1 X.2.1 d_C_scramble_35 hl (by decide) rfl (fun ls hl => ?_)
          exact loop (k + 1) 0 x0 (st j) _ _ ls (by omega) (by omega) (hst j hj) rfl (hl_same (hB.2.2.2.2.2.2.2.2.2 j (by omega)) hh) (lv_sub hl [0, 1, 2, 3, 4, 5] rfl)
        · omega
end

