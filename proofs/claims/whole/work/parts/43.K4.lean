/-! Link: reachesNewPlace, clear. -/
section
theorem lk_congr {g : hl_G} {L : List Nat} {f f1 : Nat → va_E} {T : Nat → Nat} {ad : Nat → Nat → Nat → Nat} {n i gn : Nat} {G : Nat → Nat → Nat} {pr : Nat → Nat} {sn : Nat} {sp : Nat → Nat} {ix : Nat → Option Nat} {wb : Nat → Nat → Nat}
    (hn : n ≤ 24) (hP : lk_P g L f ad n i gn G pr sn sp ix wb) (hT : lk_T T ad n i) (h : ∀ q, lk_tag i (T q) → f1 q = f q) : lk_P g L f1 ad n i gn G pr sn sp ix wb := by
  have hmo : lk_most n i ≤ 36 := by unfold lk_most; omega
  have hk : ∀ k j, k < 8 → lk_j n i k j → f1 (ad k i j) = f (ad k i j) := fun k j h1 h2 => h _ ⟨k, j, h1, lk_j64 hn h2, hT k j h1 h2⟩
  obtain ⟨⟨p0, q0⟩, ⟨p1, q1⟩, hg, ⟨p3, q3⟩, ⟨p4, q4⟩, ⟨p5, q5⟩, ⟨p6, q6⟩, hw⟩ := hP
  exact ⟨⟨p0, (hk 0 0 (by decide) rfl).trans q0⟩, ⟨p1, (hk 1 0 (by decide) rfl).trans q1⟩, fun j hj => ⟨(hg j hj).1, (hk 2 j (by decide) hj).trans (hg j hj).2⟩,
    ⟨p3, (hk 3 0 (by decide) rfl).trans q3⟩, ⟨p4, (hk 4 0 (by decide) rfl).trans q4⟩, ⟨p5, (hk 5 0 (by decide) rfl).trans q5⟩, ⟨p6, (hk 6 0 (by decide) rfl).trans q6⟩,
    fun j hj => ⟨(hw j hj).1, (hk 7 j (by decide) hj).trans (hw j hj).2⟩⟩

theorem lk_tag_lt {i t : Nat} (h : lk_tag i t) : 100 ≤ t := by
  obtain ⟨k, j, _, _, e⟩ := h
  omega

theorem lk_inj {n i gn : Nat} {G : Nat → Nat → Nat} {pr : Nat → Nat} {sn : Nat} {sp : Nat → Nat} {ix : Nat → Option Nat} {wb : Nat → Nat → Nat} (hW : lk_W n i gn G pr sn sp ix wb) :
    ∀ s t, s < sn → t < sn → sp s = sp t → s = t := by
  intro s t hs ht e
  obtain ⟨_, _, _, _, _, _, _, hsp, hix, _, _⟩ := hW
  have h1 := (hix (sp s) (hsp s hs).2 s).2 ⟨hs, rfl⟩
  have h2 := (hix (sp s) (hsp s hs).2 t).2 ⟨ht, e.symm⟩
  rw [h1] at h2
  exact Option.some.inj h2

/-- a place of the link's that isn't in the spread: there is room -/
theorem lk_room {n i gn : Nat} {G : Nat → Nat → Nat} {pr : Nat → Nat} {sn : Nat} {sp : Nat → Nat} {ix : Nat → Option Nat} {wb : Nat → Nat → Nat} (hW : lk_W n i gn G pr sn sp ix wb)
    {q : Nat} (hqi : i ≤ q) (hqn : q < n) (hx : ix q = none) : sn < n - i := by
  have hi := lk_inj hW
  obtain ⟨_, _, _, _, _, _, _, hsp, hix, _, _⟩ := hW
  have h1 : (q :: (List.range sn).map sp).Nodup := by
    rw [List.nodup_cons]
    refine ⟨fun hm => ?_, gp_nodup_map List.nodup_range (fun s t hs ht e => hi s t (List.mem_range.1 hs) (List.mem_range.1 ht) e)⟩
    obtain ⟨s, hs, e⟩ := List.mem_map.1 hm
    have := (hix q hqn s).2 ⟨List.mem_range.1 hs, e⟩
    rw [hx] at this
    cases this
  have h2 := List.Nodup.length_le_of_subset (l₂ := ch_D n i) h1 (by
    intro x hx
    rcases List.mem_cons.1 hx with rfl | hx
    · exact ch_D_mem.2 ⟨hqi, hqn⟩
    · obtain ⟨s, hs, rfl⟩ := List.mem_map.1 hx
      exact ch_D_mem.2 (hsp s (List.mem_range.1 hs)))
  rw [ch_D_len, List.length_cons, List.length_map, List.length_range] at h2
  omega

theorem lk_sym_iff {n i p : Nat} {a : gp_f} (h : gp_sym (ch_D n i) a) : p < n ↔ a p < n := by
  constructor
  · exact lk_sym_lt h
  · intro hp
    by_cases hpn : p < n
    · exact hpn
    · rw [h.2 p (fun hm => hpn (ch_D_mem.1 hm).2)] at hp
      exact hp

/-- boolean reachesNewPlace(int g, int[] round), of an open generator -/
theorem c_K_reaches (l : Launch) (g : hl_G) (sz : Nat) (L : List Nat) (f : Nat → va_E) (T : Nat → Nat) (ad : Nat → Nat → Nat → Nat) (n i gn : Nat) (G : Nat → Nat → Nat) (pr : Nat → Nat) (sn : Nat) (sp : Nat → Nat) (ix : Nat → Option Nat) (wb : Nat → Nat → Nat)
    (hP : lk_P g L f ad n i gn G pr sn sp ix wb) (hW : lk_W n i gn G pr sn sp ix wb) (hT : lk_T T ad n i) (k : Nat) (hk : k < gn) (hpk : pr k < sn) (g1 b1 : gp_f) (hgi : gp_inv (G k) g1) (hbi : gp_inv (wb (pr k)) b1)
    (rw0 : Nat) (y0 : Nat → Nat) (hr0 : rw0 ∈ L) (hfr : f rw0 = hl_nat g n y0) (hTr : T rw0 = 9) :
    Met l y_K_reachesNewPlace (hq y_K_reachesNewPlace b_K_reachesNewPlace 9 (some .boolean)) { frames := 1, cells := 0, slots := 0, locals := 60 } (hm_P g [.ref (ad 0 i 0), .int (nI k), .ref rw0] sz L f) (va_Qi (fun v u => (ix (G k (sp (pr k))) = none ∧ v = nI 1 ∧ ∃ f1, u = (L, f1) ∧ lk_P g L f1 ad n i gn G (va_up pr k (pr k + 1)) (sn + 1) (va_up sp sn (G k (sp (pr k)))) (va_up ix (G k (sp (pr k))) (some sn)) (va_up wb sn (wb (pr k) ∘ g1)) ∧ ∀ q, ¬ lk_tag i (T q) → f1 q = f q) ∨ (∃ t, ix (G k (sp (pr k))) = some t ∧ v = nI 0 ∧ ∃ f1, u = (L, va_up f1 rw0 (hl_nat g n (wb t ∘ G k ∘ b1))) ∧ lk_P g L f1 ad n i gn G (va_up pr k (pr k + 1)) sn sp ix wb ∧ ∀ q, ¬ lk_tag i (T q) → f1 q = f q)) (hm_B g sz L) (hm_A sz L)) 0 0 (hm_A sz L) := by
  have hP0 := hP
  have hW0 := hW
  obtain ⟨⟨p0, q0⟩, ⟨p1, q1⟩, hg, ⟨p3, q3⟩, ⟨p4, q4⟩, ⟨p5, q5⟩, ⟨p6, q6⟩, hw⟩ := hP
  obtain ⟨h24, hin, hgn, hG, hsn0, hsn, hsp0, hsp, hix, hwb, hpr⟩ := hW
  have hmo : lk_most n i ≤ 36 := by unfold lk_most; omega
  obtain ⟨pg, qg⟩ := hg k (by omega)
  obtain ⟨pb, qb⟩ := hw (pr k) (by omega)
  have hspk := hsp (pr k) hpk
  have hqD := ch_D_mem.1 (gp_sym_mem (hG k hk) (ch_D_mem.2 hspk))
  have hGk := hG k hk
  have hwk := hwb (pr k) hpk
  refine hm_ofW (by decide) (Nat.le_of_ble_eq_true rfl) ?_
  intro p e s m below meth c X hr hlk hnm hK hsz hh ls hl
  have hl : lv_has ls 9 [(0, .ref (ad 0 i 0)), (1, .int (nI k)), (2, .ref rw0)] := hl
  refine lv_aload_n X.1 X.2.1 d_K_reachesNewPlace_0 rfl (lv_at hl 0 rfl) ?_
  refine hl_get X hK hh (ref := "CycleGroups$Link") i_K (ci := 3) rfl 0 (by decide) w_120 rfl p0 q0 rfl d_K_reachesNewPlace_1 ?_
  refine lv_iload_n X.1 X.2.1 d_K_reachesNewPlace_4 rfl (lv_at hl 1 rfl) ?_
  refine hl_aaldG X hK hh p1 q1 (by omega) (by omega) (if_pos (by omega)) d_K_reachesNewPlace_5 ?_
  refine lv_astore_n (lv' := [(3, .ref (ad 2 i k)), (0, .ref (ad 0 i 0)), (1, .int (nI k)), (2, .ref rw0)]) X.1 X.2.1 d_K_reachesNewPlace_6 rfl hl (by decide) rfl (fun ls hl => ?_)
  refine lv_aload_n X.1 X.2.1 d_K_reachesNewPlace_7 rfl (lv_at hl 1 rfl) ?_
  refine hl_get X hK hh (ref := "CycleGroups$Link") i_K (ci := 3) rfl 6 (by decide) w_126 rfl p0 q0 rfl d_K_reachesNewPlace_8 ?_
  refine lv_aload_n X.1 X.2.1 d_K_reachesNewPlace_11 rfl (lv_at hl 1 rfl) ?_
  refine hl_get X hK hh (ref := "CycleGroups$Link") i_K (ci := 3) rfl 2 (by decide) w_122 rfl p0 q0 rfl d_K_reachesNewPlace_12 ?_
  refine lv_iload_n X.1 X.2.1 d_K_reachesNewPlace_15 rfl (lv_at hl 2 rfl) ?_
  refine hl_iald X hK hh p3 q3 (by omega) (by omega) d_K_reachesNewPlace_16 ?_
  refine hl_aaldG X hK hh p6 q6 (by omega) (by omega) (if_pos (by omega)) d_K_reachesNewPlace_17 ?_
  refine lv_astore (lv' := [(4, .ref (ad 7 i (pr k))), (3, .ref (ad 2 i k)), (0, .ref (ad 0 i 0)), (1, .int (nI k)), (2, .ref rw0)]) X.1 X.2.1 d_K_reachesNewPlace_18 hl (by decide) rfl (fun ls hl => ?_)
  refine lv_aload_n X.1 X.2.1 d_K_reachesNewPlace_20 rfl (lv_at hl 1 rfl) ?_
  refine lv_aload_n X.1 X.2.1 d_K_reachesNewPlace_21 rfl (lv_at hl 2 rfl) ?_
  refine hl_get X hK hh (ref := "CycleGroups$Link") i_K (ci := 3) rfl 3 (by decide) w_123 rfl p0 q0 rfl d_K_reachesNewPlace_22 ?_
  refine lv_aload_n X.1 X.2.1 d_K_reachesNewPlace_25 rfl (lv_at hl 2 rfl) ?_
  refine hl_get X hK hh (ref := "CycleGroups$Link") i_K (ci := 3) rfl 2 (by decide) w_122 rfl p0 q0 rfl d_K_reachesNewPlace_26 ?_
  refine lv_iload_n X.1 X.2.1 d_K_reachesNewPlace_29 rfl (lv_at hl 3 rfl) ?_
  refine hl_iald X hK hh p3 q3 (by omega) (by omega) d_K_reachesNewPlace_30 ?_
  refine hl_iald X hK hh p4 q4 (by omega) (by omega) d_K_reachesNewPlace_31 ?_
  refine hl_iald X hK hh pg qg (by omega) (by omega) d_K_reachesNewPlace_32 ?_
  refine lv_istore (lv' := [(5, .int (nI ((G k) (sp (pr k))))), (4, .ref (ad 7 i (pr k))), (3, .ref (ad 2 i k)), (0, .ref (ad 0 i 0)), (1, .int (nI k)), (2, .ref rw0)]) X.1 X.2.1 d_K_reachesNewPlace_33 hl (by decide) rfl (fun ls hl => ?_)
  refine lv_aload_n X.1 X.2.1 d_K_reachesNewPlace_35 rfl (lv_at hl 3 rfl) ?_
  refine hl_get X hK hh (ref := "CycleGroups$Link") i_K (ci := 3) rfl 2 (by decide) w_122 rfl p0 q0 rfl d_K_reachesNewPlace_36 ?_
  refine lv_iload_n X.1 X.2.1 d_K_reachesNewPlace_39 rfl (lv_at hl 4 rfl) ?_
  refine lv_dup2_11 X.1 X.2.1 d_K_reachesNewPlace_40 rfl rfl ?_
  refine hl_iald X hK hh p3 q3 (by omega) (by omega) d_K_reachesNewPlace_41 ?_
  refine lv_iconst (v := nI 1) X.1 X.2.1 d_K_reachesNewPlace_42 (by decide) ?_
  refine hn_add X d_K_reachesNewPlace_43 ?_
  refine hl_iastN X hK hh p3 q3 (by omega) (by omega) d_K_reachesNewPlace_44 (fun H locs hh => ?_)
  obtain ⟨f1, hf1⟩ : ∃ x : Nat → va_E, x = va_up f (ad 3 i 0) (hl_nat g (lk_most n i) (va_up pr k ((pr k) + 1))) := ⟨_, rfl⟩
  have hh : hl_H g (hm_A sz L) s.heap L f1 H locs := by rw [hf1]; exact hh
  have q1_ad0i0 := (congrFun hf1 (ad 0 i 0)).trans ((va_up_ne _ _ (hl_ne (T := T) (by rw [(hT 0 0 (by decide) rfl), (hT 3 0 (by decide) rfl)]; omega))).trans q0)
  have q1_ad1i0 := (congrFun hf1 (ad 1 i 0)).trans ((va_up_ne _ _ (hl_ne (T := T) (by rw [(hT 1 0 (by decide) rfl), (hT 3 0 (by decide) rfl)]; omega))).trans q1)
  have q1_ad2ik := (congrFun hf1 (ad 2 i k)).trans ((va_up_ne _ _ (hl_ne (T := T) (by rw [(hT 2 k (by decide) (show k < lk_most n i by omega)), (hT 3 0 (by decide) rfl)]; omega))).trans qg)
  have q1_ad4i0 := (congrFun hf1 (ad 4 i 0)).trans ((va_up_ne _ _ (hl_ne (T := T) (by rw [(hT 4 0 (by decide) rfl), (hT 3 0 (by decide) rfl)]; omega))).trans q4)
  have q1_ad5i0 := (congrFun hf1 (ad 5 i 0)).trans ((va_up_ne _ _ (hl_ne (T := T) (by rw [(hT 5 0 (by decide) rfl), (hT 3 0 (by decide) rfl)]; omega))).trans q5)
  have q1_ad6i0 := (congrFun hf1 (ad 6 i 0)).trans ((va_up_ne _ _ (hl_ne (T := T) (by rw [(hT 6 0 (by decide) rfl), (hT 3 0 (by decide) rfl)]; omega))).trans q6)
  have q1_ad7iprk := (congrFun hf1 (ad 7 i (pr k))).trans ((va_up_ne _ _ (hl_ne (T := T) (by rw [(hT 7 (pr k) (by decide) (show (pr k) < n - i by omega)), (hT 3 0 (by decide) rfl)]; omega))).trans qb)
  have q1_rw0 := (congrFun hf1 rw0).trans ((va_up_ne _ _ (hl_ne (T := T) (by rw [hTr, (hT 3 0 (by decide) rfl)]; omega))).trans hfr)
  have q1_ad3i0 := (congrFun hf1 (ad 3 i 0)).trans (va_up_self ..)
  refine lv_aload_n X.1 X.2.1 d_K_reachesNewPlace_45 rfl (lv_at hl 3 rfl) ?_
  refine hl_get X hK hh (ref := "CycleGroups$Link") i_K (ci := 3) rfl 5 (by decide) w_125 rfl p0 q1_ad0i0 rfl d_K_reachesNewPlace_46 ?_
  refine lv_iload X.1 X.2.1 d_K_reachesNewPlace_49 (lv_at hl 0 rfl) ?_
  refine hl_iald X hK hh p5 q1_ad5i0 (by omega) (by omega) d_K_reachesNewPlace_51 ?_
  refine lv_istore (lv' := [(6, .int (oI (ix ((G k) (sp (pr k)))))), (5, .int (nI ((G k) (sp (pr k))))), (4, .ref (ad 7 i (pr k))), (3, .ref (ad 2 i k)), (0, .ref (ad 0 i 0)), (1, .int (nI k)), (2, .ref rw0)]) X.1 X.2.1 d_K_reachesNewPlace_52 hl (by decide) rfl (fun ls hl => ?_)
  have hP1 : lk_P g L f1 ad n i gn G (va_up pr k (pr k + 1)) sn sp ix wb := by rw [hf1]; exact lk_up3 h24 hP0 hT (va_up pr k (pr k + 1))
  have hfr1 : ∀ q, ¬ lk_tag i (T q) → f1 q = f q := by rw [hf1]; exact lk_fr (k := 3) (j := 0) hT (by decide) rfl (by decide) _ _
  rcases (show ix (G k (sp (pr k))) = none ∨ ∃ t, ix (G k (sp (pr k))) = some t by cases ix (G k (sp (pr k))) <;> simp) with hx | ⟨t, hx⟩
  · have e1 : oI (ix (G k (sp (pr k)))) = -1 := by rw [hx]; rfl
    rw [e1] at hl
    refine lv_iload X.1 X.2.1 d_K_reachesNewPlace_54 (lv_at hl 0 rfl) ?_
    refine lv_if_ge (tgt := 70) X.1 X.2.1 d_K_reachesNewPlace_56 (by decide) (fun hc => ?_) (fun hc => ?_)
    · exact absurd hc (by decide)
    · skip
      refine lv_aload_n X.1 X.2.1 d_K_reachesNewPlace_59 rfl (lv_at hl 4 rfl) ?_
      refine lv_iload X.1 X.2.1 d_K_reachesNewPlace_60 (lv_at hl 1 rfl) ?_
      refine lv_aload_n X.1 X.2.1 d_K_reachesNewPlace_62 rfl (lv_at hl 3 rfl) ?_
      refine lv_aload X.1 X.2.1 d_K_reachesNewPlace_63 (lv_at hl 2 rfl) ?_
      refine hl_callv hh (hl_runV (k := 3) X hK hh (c_K_widen l g _ L f1 T ad n i gn G _ sn sp ix wb hP1 h24 hT k (pr k) (G k (sp (pr k))) (by omega) hpk (lk_room hW0 hqD.1 hqD.2 hx) hqD.2 g1 hgi (fun p => lk_sym_iff hGk) (fun p hp => lk_sym_lt hwk hp)) wc_K_widen w_197 w_7 wi_K_widen ws_K_widen (by decide +kernel) rfl rfl ⟨Nat.le_of_ble_eq_true rfl, Nat.le_of_ble_eq_true rfl⟩ p0 q1_ad0i0 rfl rfl rfl rfl (Nat.le_of_ble_eq_true rfl) hl.1 d_K_reachesNewPlace_65 ⟨Nat.le_of_ble_eq_true rfl, Nat.le_of_ble_eq_true rfl⟩) (fun u H locs hp hh => ?_)
      obtain ⟨f2, rfl, hP2, hfr2⟩ := hp
      refine lv_iconst (v := nI 1) X.1 X.2.1 d_K_reachesNewPlace_68 (by decide) ?_
      exact hm_zret X hr hlk hh (Or.inr rfl) (Or.inl ⟨hx, rfl, f2, rfl, hP2, fun q hq => (hfr2 q hq).trans (hfr1 q hq)⟩) (Nat.le_of_ble_eq_true rfl) (Nat.le_of_ble_eq_true rfl) d_K_reachesNewPlace_69
  · have e1 : oI (ix (G k (sp (pr k)))) = nI t := by rw [hx]; rfl
    rw [e1] at hl
    obtain ⟨hts, hspt⟩ := (hix _ hqD.2 t).1 hx
    obtain ⟨pt, qt⟩ := hw t (by omega)
    have hwt := hwb t hts
    have q1_t : f1 (ad 7 i t) = hl_nat g n (wb t) := (hP1.2.2.2.2.2.2.2 t (by omega)).2
    refine lv_iload X.1 X.2.1 d_K_reachesNewPlace_54 (lv_at hl 0 rfl) ?_
    refine lv_if_ge (tgt := 70) X.1 X.2.1 d_K_reachesNewPlace_56 (by decide) (fun hc => ?_) (fun hc => ?_)
    · have loop : ∀ (t2 j : Nat) (y : Nat → Nat) (H : Heap) (locs : List Loc) (ls : Array Slot), n + 1 ≤ j + t2 → j ≤ n → (∀ p, p < j → y (wb (pr k) p) = wb t (G k p)) →
          hl_H g (hm_A sz L) s.heap L (va_up f1 rw0 (hl_nat g n y)) H locs → lv_has ls 9 ((8, .int (nI j)) :: (7, .ref (ad 7 i t)) :: [(6, .int (nI t)), (5, .int (nI ((G k) (sp (pr k))))), (4, .ref (ad 7 i (pr k))), (3, .ref (ad 2 i k)), (0, .ref (ad 0 i 0)), (1, .int (nI k)), (2, .ref rw0)]) →
          W p l e { frames := 1, cells := 0, slots := 0, locals := 60 } s m #[.ref (ad 0 i 0), .int (nI k), .ref rw0] below meth c H locs 0 0 (MQ below (va_Qi (fun v u => (ix (G k (sp (pr k))) = none ∧ v = nI 1 ∧ ∃ f1, u = (L, f1) ∧ lk_P g L f1 ad n i gn G (va_up pr k (pr k + 1)) (sn + 1) (va_up sp sn (G k (sp (pr k)))) (va_up ix (G k (sp (pr k))) (some sn)) (va_up wb sn (wb (pr k) ∘ g1)) ∧ ∀ q, ¬ lk_tag i (T q) → f1 q = f q) ∨ (∃ t, ix (G k (sp (pr k))) = some t ∧ v = nI 0 ∧ ∃ f1, u = (L, va_up f1 rw0 (hl_nat g n (wb t ∘ G k ∘ b1))) ∧ lk_P g L f1 ad n i gn G (va_up pr k (pr k + 1)) sn sp ix wb ∧ ∀ q, ¬ lk_tag i (T q) → f1 q = f q)) (hm_B g sz L) (hm_A sz L)) #[.ref (ad 0 i 0), .int (nI k), .ref rw0] s 0 0 (hm_A sz L)) (F0 m 82 ls []) := by
        intro t2
        induction t2 with
        | zero => intros; omega
        | succ t2 ih =>
          intro j y H locs ls hkj hjn hy hh hl
          have nt : ad 7 i t ≠ rw0 := hl_ne (T := T) (by rw [hT 7 t (by decide) (show t < n - i by omega), hTr]; omega)
          have nb : ad 7 i (pr k) ≠ rw0 := hl_ne (T := T) (by rw [hT 7 (pr k) (by decide) (show (pr k) < n - i by omega), hTr]; omega)
          have ng : ad 2 i k ≠ rw0 := hl_ne (T := T) (by rw [hT 2 k (by decide) (show k < lk_most n i by omega), hTr]; omega)
          refine lv_iload X.1 X.2.1 d_K_reachesNewPlace_82 (lv_at hl 0 rfl) ?_
          refine lv_aload_n X.1 X.2.1 d_K_reachesNewPlace_84 rfl (lv_at hl 8 rfl) ?_
          refine hl_alenI X hK hh hr0 (va_up_self ..) d_K_reachesNewPlace_85 ?_
          refine hn_ige (tgt := 109) X (by omega) (by omega) d_K_reachesNewPlace_86 (by decide) (fun hc => ?_) (fun hc => ?_)
          · have hh := hl_norm (w := fun p => nI ((wb t ∘ G k ∘ b1) p)) hh (fun p hp => by
              have h1 : b1 p < n := (lk_sym_iff hwk).2 (by rw [hbi.1]; exact hp)
              have h2 := hy (b1 p) (by omega)
              rw [hbi.1] at h2
              rw [h2]; rfl)
            refine lv_iconst (v := nI 0) X.1 X.2.1 d_K_reachesNewPlace_109 (by decide) ?_
            exact hm_zret X hr hlk hh (Or.inl rfl) (Or.inr ⟨t, hx, rfl, f1, rfl, hP1, hfr1⟩) (Nat.le_of_ble_eq_true rfl) (Nat.le_of_ble_eq_true rfl) d_K_reachesNewPlace_110
          · have h1 := lk_sym_lt hGk hc
            have h2 := lk_sym_lt hwk hc
            have h3 := lk_sym_lt hwt h1
            refine lv_aload_n X.1 X.2.1 d_K_reachesNewPlace_89 rfl (lv_at hl 8 rfl) ?_
            refine lv_aload X.1 X.2.1 d_K_reachesNewPlace_90 (lv_at hl 4 rfl) ?_
            refine lv_iload X.1 X.2.1 d_K_reachesNewPlace_92 (lv_at hl 0 rfl) ?_
            refine hl_iald X hK hh pb ((va_up_ne _ _ nb).trans q1_ad7iprk) (by omega) (by omega) d_K_reachesNewPlace_94 ?_
            refine lv_aload X.1 X.2.1 d_K_reachesNewPlace_95 (lv_at hl 1 rfl) ?_
            refine lv_aload_n X.1 X.2.1 d_K_reachesNewPlace_97 rfl (lv_at hl 5 rfl) ?_
            refine lv_iload X.1 X.2.1 d_K_reachesNewPlace_98 (lv_at hl 0 rfl) ?_
            refine hl_iald X hK hh pg ((va_up_ne _ _ ng).trans q1_ad2ik) (by omega) (by omega) d_K_reachesNewPlace_100 ?_
            refine hl_iald X hK hh pt ((va_up_ne _ _ nt).trans q1_t) (by omega) (by omega) d_K_reachesNewPlace_101 ?_
            refine hl_iastN X hK hh hr0 (va_up_self ..) (by omega) (by omega) d_K_reachesNewPlace_102 (fun H locs hh => ?_)
            rw [hr_uu] at hh
            refine lv_iinc (v := nI (j + 1)) (lv' := [(8, .int (nI (j + 1))), (7, .ref (ad 7 i t)), (6, .int (nI t)), (5, .int (nI ((G k) (sp (pr k))))), (4, .ref (ad 7 i (pr k))), (3, .ref (ad 2 i k)), (0, .ref (ad 0 i 0)), (1, .int (nI k)), (2, .ref rw0)]) X.1 X.2.1 d_K_reachesNewPlace_103 hl (k := 0) rfl (hn_inc _) (by decide) rfl (fun ls hl => ?_)
            refine lv_goto (tgt := 82) X.1 X.2.1 d_K_reachesNewPlace_106 (by decide) ?_
            refine ih (j + 1) (va_up y (wb (pr k) j) (wb t (G k j))) H locs ls (by omega) (by omega) (fun p hp => ?_) hh hl
            by_cases e2 : p = j
            · rw [e2, va_up_self]
            · rw [va_up_ne _ _ (fun e3 => e2 (gp_inv_inj hbi e3))]; exact hy p (by omega)
      refine lv_aload_n X.1 X.2.1 d_K_reachesNewPlace_70 rfl (lv_at hl 4 rfl) ?_
      refine hl_get X hK hh (ref := "CycleGroups$Link") i_K (ci := 3) rfl 6 (by decide) w_126 rfl p0 q1_ad0i0 rfl d_K_reachesNewPlace_71 ?_
      refine lv_iload X.1 X.2.1 d_K_reachesNewPlace_74 (lv_at hl 0 rfl) ?_
      refine hl_aaldG X hK hh p6 q1_ad6i0 (by omega) (by omega) (if_pos (by omega)) d_K_reachesNewPlace_76 ?_
      refine lv_astore (lv' := [(7, .ref (ad 7 i t)), (6, .int (nI t)), (5, .int (nI ((G k) (sp (pr k))))), (4, .ref (ad 7 i (pr k))), (3, .ref (ad 2 i k)), (0, .ref (ad 0 i 0)), (1, .int (nI k)), (2, .ref rw0)]) X.1 X.2.1 d_K_reachesNewPlace_77 hl (by decide) rfl (fun ls hl => ?_)
      refine lv_iconst (v := nI 0) X.1 X.2.1 d_K_reachesNewPlace_79 (by decide) ?_
      refine lv_istore (lv' := [(8, .int (nI 0)), (7, .ref (ad 7 i t)), (6, .int (nI t)), (5, .int (nI ((G k) (sp (pr k))))), (4, .ref (ad 7 i (pr k))), (3, .ref (ad 2 i k)), (0, .ref (ad 0 i 0)), (1, .int (nI k)), (2, .ref rw0)]) X.1 X.2.1 d_K_reachesNewPlace_80 hl (by decide) rfl (fun ls hl => ?_)
      exact loop (n + 1) 0 y0 H locs ls (by omega) (by omega) (fun p hp => absurd hp (Nat.not_lt_zero _)) (hl_same q1_rw0 hh) hl
    · exact absurd (nI_pos' (by omega)) hc

/-- void clear() -/
theorem c_K_clear (l : Launch) (g : hl_G) (sz : Nat) (L : List Nat) (f : Nat → va_E) (T : Nat → Nat) (ad : Nat → Nat → Nat → Nat) (n i gn : Nat) (G : Nat → Nat → Nat) (pr : Nat → Nat) (sn : Nat) (sp : Nat → Nat) (ix : Nat → Option Nat) (wb : Nat → Nat → Nat)
    (hP : lk_P g L f ad n i gn G pr sn sp ix wb) (hW : lk_W n i gn G pr sn sp ix wb) (hT : lk_T T ad n i) :
    Met l y_K_clear (hq y_K_clear b_K_clear 2 none) { frames := 0, cells := 0, slots := 0, locals := 0 } (hm_P g [.ref (ad 0 i 0)] sz L f) (va_Qv (fun u => ∃ f1, u = (L, f1) ∧ lk_P g L f1 ad n i 0 G pr 1 sp (fun p => if p = i then some 0 else none) wb ∧ ∀ q, ¬ lk_tag i (T q) → f1 q = f q) (hm_B g sz L) (hm_A sz L)) 0 0 (hm_A sz L) := by
  have hP0 := hP
  have hinj := lk_inj hW
  obtain ⟨⟨p0, q0⟩, ⟨p1, q1⟩, hg, ⟨p3, q3⟩, ⟨p4, q4⟩, ⟨p5, q5⟩, ⟨p6, q6⟩, hw⟩ := hP
  obtain ⟨h24, hin, hgn, hG, hsn0, hsn, hsp0, hsp, hix, hwb, hpr⟩ := hW
  have n0 : ad 0 i 0 ≠ ad 5 i 0 := hl_ne (T := T) (by rw [hT 0 0 (by decide) rfl, hT 5 0 (by decide) rfl]; omega)
  have n4 : ad 4 i 0 ≠ ad 5 i 0 := hl_ne (T := T) (by rw [hT 4 0 (by decide) rfl, hT 5 0 (by decide) rfl]; omega)
  refine hm_ofW (by decide) (Nat.le_of_ble_eq_true rfl) ?_
  intro p e s m below meth c X hr hlk hnm hK hsz hh ls hl
  have hl : lv_has ls 2 [(0, .ref (ad 0 i 0))] := hl
  have loop : ∀ (t j : Nat) (y : Nat → Int32) (H : Heap) (locs : List Loc) (ls : Array Slot), sn + 1 ≤ j + t → 1 ≤ j → j ≤ sn → (∀ p, p < n → (∃ a, 1 ≤ a ∧ a < j ∧ sp a = p) → y p = -1) → (∀ p, p < n → (¬ ∃ a, 1 ≤ a ∧ a < j ∧ sp a = p) → y p = oI (ix p)) →
      hl_H g (hm_A sz L) s.heap L (va_up f (ad 5 i 0) (hl_row g n y)) H locs → lv_has ls 2 [(1, .int (nI j)), (0, .ref (ad 0 i 0))] →
      W p l e { frames := 0, cells := 0, slots := 0, locals := 0 } s m #[.ref (ad 0 i 0)] below meth c H locs 0 0 (MQ below (va_Qv (fun u => ∃ f1, u = (L, f1) ∧ lk_P g L f1 ad n i 0 G pr 1 sp (fun p => if p = i then some 0 else none) wb ∧ ∀ q, ¬ lk_tag i (T q) → f1 q = f q) (hm_B g sz L) (hm_A sz L)) #[.ref (ad 0 i 0)] s 0 0 (hm_A sz L)) (F0 m 2 ls []) := by
    intro t
    induction t with
    | zero => intros; omega
    | succ t ih =>
      intro j y H locs ls hkj hj1 hjn hy hy2 hh hl
      refine lv_iload_n X.1 X.2.1 d_K_clear_2 rfl (lv_at hl 0 rfl) ?_
      refine lv_aload_n X.1 X.2.1 d_K_clear_3 rfl (lv_at hl 1 rfl) ?_
      refine hl_get X hK hh (ref := "CycleGroups$Link") i_K (ci := 3) rfl 4 (by decide) w_124 rfl p0 ((va_up_ne _ _ n0).trans q0) rfl d_K_clear_4 ?_
      refine hn_ige (tgt := 28) X (by omega) (by omega) d_K_clear_7 (by decide) (fun hc => ?_) (fun hc => ?_)
      · have hh := hl_norm (w := fun p => oI (if p = i then some 0 else none)) hh (fun p hp => by
          by_cases e : p = i
          · rw [if_pos e]
            rw [hy2 p hp (fun ⟨a, h1, h2, h3⟩ => by
              have := hinj a 0 (by omega) hsn0 (by rw [h3, hsp0, e])
              omega), e, (hix i hin 0).2 ⟨hsn0, hsp0⟩]
          · rw [if_neg e]
            by_cases h : ∃ a, 1 ≤ a ∧ a < j ∧ sp a = p
            · rw [hy p hp h]; rfl
            · rw [hy2 p hp h]
              rcases (show ix p = none ∨ ∃ t, ix p = some t by cases ix p <;> simp) with hx | ⟨t, hx⟩
              · rw [hx]
              · obtain ⟨h1, h2⟩ := (hix p hp t).1 hx
                have ht0 : t ≠ 0 := fun e2 => e (by rw [← h2, e2, hsp0])
                exact absurd ⟨t, by omega, by omega, h2⟩ h)
        obtain ⟨f1, hf1⟩ : ∃ x : Nat → va_E, x = va_up f (ad 5 i 0) (hl_row g n (fun p => oI (if p = i then some 0 else none))) := ⟨_, rfl⟩
        have hh : hl_H g (hm_A sz L) s.heap L f1 H locs := by rw [hf1]; exact hh
        have q1_ad0i0 := (congrFun hf1 (ad 0 i 0)).trans ((va_up_ne _ _ (hl_ne (T := T) (by rw [(hT 0 0 (by decide) rfl), (hT 5 0 (by decide) rfl)]; omega))).trans q0)
        have q1_ad5i0 := (congrFun hf1 (ad 5 i 0)).trans (va_up_self ..)
        refine lv_aload_n X.1 X.2.1 d_K_clear_28 rfl (lv_at hl 1 rfl) ?_
        refine lv_iconst (v := nI 1) X.1 X.2.1 d_K_clear_29 (by decide) ?_
        refine hl_put X hK hh (ref := "CycleGroups$Link") i_K t_K t_K_ok n_K (ci := 3) rfl 4 (by decide) w_124 rfl rfl p0 q1_ad0i0 (by first | rfl | decide) (by first | rfl | decide) (Nat.le_of_ble_eq_true rfl) d_K_clear_30 (fun H locs hh => ?_)
        obtain ⟨f2, hf2⟩ : ∃ x : Nat → va_E, x = va_up f1 (ad 0 i 0) (.inr (3, [.ref (ad 1 i 0), .int (nI gn), .ref (ad 3 i 0), .ref (ad 4 i 0), .int (nI 1), .ref (ad 5 i 0), .ref (ad 6 i 0)])) := ⟨_, rfl⟩
        have hh : hl_H g (hm_A sz L) s.heap L f2 H locs := by rw [hf2]; exact hh
        have q2_ad5i0 := (congrFun hf2 (ad 5 i 0)).trans ((va_up_ne _ _ (hl_ne (T := T) (by rw [(hT 5 0 (by decide) rfl), (hT 0 0 (by decide) rfl)]; omega))).trans q1_ad5i0)
        have q2_ad0i0 := (congrFun hf2 (ad 0 i 0)).trans (va_up_self ..)
        refine lv_aload_n X.1 X.2.1 d_K_clear_33 rfl (lv_at hl 1 rfl) ?_
        refine lv_iconst (v := nI 0) X.1 X.2.1 d_K_clear_34 (by decide) ?_
        refine hl_put X hK hh (ref := "CycleGroups$Link") i_K t_K t_K_ok n_K (ci := 3) rfl 1 (by decide) w_121 rfl rfl p0 q2_ad0i0 (by first | rfl | decide) (by first | rfl | decide) (Nat.le_of_ble_eq_true rfl) d_K_clear_35 (fun H locs hh => ?_)
        obtain ⟨f3, hf3⟩ : ∃ x : Nat → va_E, x = va_up f2 (ad 0 i 0) (.inr (3, [.ref (ad 1 i 0), .int (nI 0), .ref (ad 3 i 0), .ref (ad 4 i 0), .int (nI 1), .ref (ad 5 i 0), .ref (ad 6 i 0)])) := ⟨_, rfl⟩
        have hh : hl_H g (hm_A sz L) s.heap L f3 H locs := by rw [hf3]; exact hh
        have q3_ad5i0 := (congrFun hf3 (ad 5 i 0)).trans ((va_up_ne _ _ (hl_ne (T := T) (by rw [(hT 5 0 (by decide) rfl), (hT 0 0 (by decide) rfl)]; omega))).trans q2_ad5i0)
        have q3_ad0i0 := (congrFun hf3 (ad 0 i 0)).trans (va_up_self ..)
        refine hm_vret X hr hlk hh ⟨_, rfl, ?_, ?_⟩ (Nat.le_of_ble_eq_true rfl) (Nat.le_of_ble_eq_true rfl) d_K_clear_38
        · rw [hf3, hf2, hf1]
          exact lk_up0 h24 (lk_up0 h24 (lk_up5 h24 hP0 hT (fun p => if p = i then some 0 else none)) hT gn 1) hT 0 1
        · intro q hq
          rw [hf3, lk_fr (k := 0) (j := 0) hT (by decide) rfl (by decide) _ _ q hq, hf2, lk_fr (k := 0) (j := 0) hT (by decide) rfl (by decide) _ _ q hq, hf1, lk_fr (k := 5) (j := 0) hT (by decide) rfl (by decide) _ _ q hq]
      · have hcj : j < sn := hc
        have hsj := hsp j hcj
        refine lv_aload_n X.1 X.2.1 d_K_clear_10 rfl (lv_at hl 1 rfl) ?_
        refine hl_get X hK hh (ref := "CycleGroups$Link") i_K (ci := 3) rfl 5 (by decide) w_125 rfl p0 ((va_up_ne _ _ n0).trans q0) rfl d_K_clear_11 ?_
        refine lv_aload_n X.1 X.2.1 d_K_clear_14 rfl (lv_at hl 1 rfl) ?_
        refine hl_get X hK hh (ref := "CycleGroups$Link") i_K (ci := 3) rfl 3 (by decide) w_123 rfl p0 ((va_up_ne _ _ n0).trans q0) rfl d_K_clear_15 ?_
        refine lv_iload_n X.1 X.2.1 d_K_clear_18 rfl (lv_at hl 0 rfl) ?_
        refine hl_iald X hK hh p4 ((va_up_ne _ _ n4).trans q4) (by omega) (by omega) d_K_clear_19 ?_
        refine lv_iconst (v := -1) X.1 X.2.1 d_K_clear_20 (by decide) ?_
        refine hl_iast X hK hh p5 (va_up_self ..) (by omega) (by omega) d_K_clear_21 (fun H locs hh => ?_)
        rw [hr_uu] at hh
        refine lv_iinc (v := nI (j + 1)) (lv' := [(1, .int (nI (j + 1))), (0, .ref (ad 0 i 0))]) X.1 X.2.1 d_K_clear_22 hl (k := 0) rfl (hn_inc _) (by decide) rfl (fun ls hl => ?_)
        refine lv_goto (tgt := 2) X.1 X.2.1 d_K_clear_25 (by decide) ?_
        refine ih (j + 1) (va_up y (sp j) (-1)) H locs ls (by omega) (by omega) (by omega) (fun p hp ⟨a, h1, h2, h3⟩ => ?_) (fun p hp hna => ?_) hh hl
        · by_cases e : p = sp j
          · rw [e, va_up_self]
          · rw [va_up_ne _ _ e]
            exact hy p hp ⟨a, h1, by
              rcases Nat.lt_or_eq_of_le (Nat.le_of_lt_succ h2) with h | h
              · exact h
              · exact absurd (by rw [← h3, h]) e, h3⟩
        · have e : p ≠ sp j := fun e => hna ⟨j, hj1, Nat.lt_succ_self j, e.symm⟩
          rw [va_up_ne _ _ e]
          exact hy2 p hp (fun ⟨a, h1, h2, h3⟩ => hna ⟨a, h1, by omega, h3⟩)
  refine lv_iconst (v := nI 1) X.1 X.2.1 d_K_clear_0 (by decide) ?_
  refine lv_istore_n (lv' := [(1, .int (nI 1)), (0, .ref (ad 0 i 0))]) X.1 X.2.1 d_K_clear_1 rfl hl (by decide) rfl (fun ls hl => ?_)
  exact loop (sn + 1) 1 (fun p => oI (ix p)) s.heap [] ls (by omega) (by omega) (by omega) (fun p hp ⟨a, h1, h2, h3⟩ => by omega) (fun p hp _ => rfl) (hl_same q5 hh) hl
end

