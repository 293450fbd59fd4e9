/-! The class Chain: advance, complete. -/
section
/-- a cell of the chain's links, or its work row -/
def cn_tag (t : Nat) : Prop := t = 9 ∨ ∃ i, i < 24 ∧ lk_tag i t

/-- the chain's cells, its links well made, those from a on done -/
def cn_St (g : hl_G) (L : List Nat) (T : Nat → Nat) (ad : Nat → Nat → Nat → Nat) (n ch lO wk : Nat) (zL : Nat → Option Nat) (f : Nat → va_E) (gn : Nat → Nat) (G : Nat → Nat → Nat → Nat) (pr : Nat → Nat → Nat) (sn : Nat → Nat) (sp : Nat → Nat → Nat) (ix : Nat → Nat → Option Nat) (wb : Nat → Nat → Nat → Nat) (y : Nat → Nat) (a : Nat) : Prop :=
  cn_P g L f T ad n ch lO wk zL gn G pr sn sp ix wb y ∧ cn_W n gn G pr sn sp ix wb ∧ ch_inv n (cn_gs n gn G) pr sn sp wb a

theorem nI_m1 (x : Nat) : nI x - nI 1 = nI x + (-1) := by
  rw [Int32.sub_eq_add_neg]
  rfl

/-- private int advance(int at) -/
theorem c_H_advance (l : Launch) (g : hl_G) (sz : Nat) (L : List Nat) (f : Nat → va_E) (T : Nat → Nat) (ad : Nat → Nat → Nat → Nat) (n ch lO wk : Nat) (zL : Nat → Option Nat) (gn : Nat → Nat) (G : Nat → Nat → Nat → Nat) (pr : Nat → Nat → Nat) (sn : Nat → Nat) (sp : Nat → Nat → Nat) (ix : Nat → Nat → Option Nat) (wb : Nat → Nat → Nat → Nat) (y : Nat → Nat)
    (hn : n ≤ 24) (a : Nat) (ha : a < n) (hSt : cn_St g L T ad n ch lO wk zL f gn G pr sn sp ix wb y (a + 1)) :
    Met l y_H_advance (hq y_H_advance b_H_advance 5 (some .int)) { frames := 2, cells := 0, slots := 0, locals := 110 } (hm_P g [.ref ch, .int (nI a)] sz L f) (va_Qi (fun r u => ∃ (f1 : Nat → va_E) (gn1 : Nat → Nat) (G1 : Nat → Nat → Nat → Nat) (pr1 : Nat → Nat → Nat) (sn1 : Nat → Nat) (sp1 : Nat → Nat → Nat) (ix1 : Nat → Nat → Option Nat) (wb1 : Nat → Nat → Nat → Nat) (y1 : Nat → Nat) (a1 : Nat), u = (L, f1) ∧ r = nI a1 + (-1) ∧ a1 ≤ n ∧ cn_St g L T ad n ch lO wk zL f1 gn1 G1 pr1 sn1 sp1 ix1 wb1 y1 a1 ∧ cn_gs n gn1 G1 0 = cn_gs n gn G 0 ∧ 2 * (20736 - cn_mu n gn1 pr1) + a1 < 2 * (20736 - cn_mu n gn pr) + (a + 1) ∧ ∀ q, ¬ cn_tag (T q) → f1 q = f q) (hm_B g sz L) (hm_A sz L)) 0 0 (hm_A sz L) := by
  refine hm_ofW (by decide) (Nat.le_of_ble_eq_true rfl) ?_
  intro p e s m below meth c X hr hlk hnm hK hsz hh ls hl
  have hl : lv_has ls 5 [(0, .ref ch), (1, .int (nI a))] := hl
  obtain ⟨hC, hW, hinv⟩ := hSt
  have hok := hinv.1
  have hC0 := hC
  obtain ⟨⟨a1, a2, a3⟩, ⟨b1, b2, b3⟩, ⟨c1, c2, c3⟩, hlks⟩ := hC
  obtain ⟨z1, t1, l1⟩ := hlks a ha
  have hWa := hW a ha
  have hmu := cn_mu_le hW hn
  have hWt : ∀ q, ¬ cn_tag (T q) → ∀ i, i < n → ¬ lk_tag i (T q) := fun q hq i hi ht => hq (Or.inr ⟨i, by omega, ht⟩)
  refine lv_aload_n X.1 X.2.1 d_H_advance_0 rfl (lv_at hl 0 rfl) ?_
  refine hl_get X hK hh (ref := "CycleGroups$Chain") i_H (ci := 1) rfl 1 (by decide) w_143 rfl a1 a2 rfl d_H_advance_1 ?_
  refine lv_iload_n X.1 X.2.1 d_H_advance_4 rfl (lv_at hl 1 rfl) ?_
  refine hl_aaldL X hK hh b1 b2 (by omega) (by omega) z1 d_H_advance_5 ?_
  refine lv_astore_n (lv' := [(2, .ref (ad 0 a 0)), (0, .ref ch), (1, .int (nI a))]) X.1 X.2.1 d_H_advance_6 rfl hl (by decide) rfl (fun ls hl => ?_)
  refine lv_aload_n X.1 X.2.1 d_H_advance_7 rfl (lv_at hl 0 rfl) ?_
  refine hl_calli hh (hl_runV (k := 0) X hK hh (c_K_openGenerator l g _ L f ad n a (gn a) (G a) (pr a) (sn a) (sp a) (ix a) (wb a) l1 hWa) wc_K_openGenerator w_189 w_7 wi_K_openGenerator ws_K_openGenerator (by decide +kernel) rfl rfl ⟨Nat.le_of_ble_eq_true rfl, Nat.le_of_ble_eq_true rfl⟩ l1.1.1 l1.1.2 rfl rfl rfl rfl (Nat.le_of_ble_eq_true rfl) hl.1 d_H_advance_8 ⟨Nat.le_of_ble_eq_true rfl, Nat.le_of_ble_eq_true rfl⟩) (fun r u H locs hp hh => ?_)
  obtain ⟨hp, rfl⟩ := hp
  rcases hp with ⟨k, hk, hpk, rfl⟩ | ⟨rfl, hall⟩
  · skip
    refine lv_istore_n (lv' := [(3, .int (nI k)), (2, .ref (ad 0 a 0)), (0, .ref ch), (1, .int (nI a))]) X.1 X.2.1 d_H_advance_11 rfl hl (by decide) rfl (fun ls hl => ?_)
    refine lv_iload_n X.1 X.2.1 d_H_advance_12 rfl (lv_at hl 0 rfl) ?_
    refine lv_if_ge (tgt := 20) X.1 X.2.1 d_H_advance_13 (by decide) (fun hc => ?_) (fun hc => ?_)
    · have hGk := hWa.2.2.2.1 k hk
      have hwk := hWa.2.2.2.2.2.2.2.2.2.1 (pr a k) hpk
      obtain ⟨g1, hgi⟩ := hGk.1
      obtain ⟨w1, hwi⟩ := hwk.1
      have hspk := hWa.2.2.2.2.2.2.2.1 (pr a k) hpk
      have hqD := ch_D_mem.1 (gp_sym_mem hGk (ch_D_mem.2 hspk))
      have hgk : (cn_gs n gn G a)[k]? = some (G a k) := cn_gs_at ha hk
      have hmu1 := cn_mu_pair (pr := pr) ha hk
      refine lv_aload_n X.1 X.2.1 d_H_advance_20 rfl (lv_at hl 1 rfl) ?_
      refine lv_iload_n X.1 X.2.1 d_H_advance_21 rfl (lv_at hl 0 rfl) ?_
      refine lv_aload_n X.1 X.2.1 d_H_advance_22 rfl (lv_at hl 2 rfl) ?_
      refine hl_get X hK hh (ref := "CycleGroups$Chain") i_H (ci := 1) rfl 2 (by decide) w_144 rfl a1 a2 rfl d_H_advance_23 ?_
      refine hl_calli hh (hl_runV (k := 2) X hK hh (c_K_reaches l g _ L f T ad n a (gn a) (G a) (pr a) (sn a) (sp a) (ix a) (wb a) l1 hWa t1 k hk hpk g1 w1 hgi hwi wk y c1 c2 c3) wc_K_reachesNewPlace w_193 w_7 wi_K_reachesNewPlace ws_K_reachesNewPlace (by decide +kernel) rfl rfl ⟨Nat.le_of_ble_eq_true rfl, Nat.le_of_ble_eq_true rfl⟩ l1.1.1 l1.1.2 rfl rfl rfl rfl (Nat.le_of_ble_eq_true rfl) hl.1 d_H_advance_26 ⟨Nat.le_of_ble_eq_true rfl, Nat.le_of_ble_eq_true rfl⟩) (fun r u H locs hp hh => ?_)
      rcases hp with ⟨hx, rfl, f1, rfl, hP1, hfr1⟩ | ⟨t, hx, rfl, f1, rfl, hP1, hfr1⟩
      · skip
        refine hn_zeq (tgt := 34) X (by omega) d_H_advance_29 (by decide) (fun hc => ?_) (fun hc => ?_)
        · exact absurd hc (by decide)
        · skip
          refine lv_iload_n X.1 X.2.1 d_H_advance_32 rfl (lv_at hl 3 rfl) ?_
          have hC1 := cn_link hn hC0 ha hP1 hfr1
          have hW1 := cn_W_link hW (lk_W_wide (lk_W_pair hWa hpk) hqD.1 hqD.2 hx ((gp_sym_sg _).2.1 _ _ hwk (gp_sym_inv hGk hgi)))
          have hI1 := ch_wide hinv ha hgk rfl hpk hgi (fun t0 ht0 e0 => by
            have := (hWa.2.2.2.2.2.2.2.2.1 _ hqD.2 t0).2 ⟨ht0, e0⟩
            rw [hx] at this
            cases this)
          rw [hr_id, hr_id] at hC1 hW1
          refine hm_iret X hr hlk hh ⟨f1, gn, G, _, _, _, _, _, y, a + 1, rfl, (pk_m1 a).symm, by omega, ⟨hC1, hW1, hI1⟩, rfl, ?_, fun q hq => hfr1 q (hWt q hq a ha)⟩ (Nat.le_of_ble_eq_true rfl) (Nat.le_of_ble_eq_true rfl) d_H_advance_33
          have hmu2 := cn_mu_le hW1 hn
          rw [hmu1] at hmu2 ⊢
          omega
      · obtain ⟨ht1, ht2⟩ := (hWa.2.2.2.2.2.2.2.2.1 _ hqD.2 t).1 hx
        have hCl := cn_link hn hC0 ha hP1 hfr1
        have hW1 := cn_W_link hW (lk_W_pair hWa hpk)
        simp only [hr_id] at hCl hW1
        have hC1 := cn_work hn hCl (wb a t ∘ G a k ∘ w1)
        have hmu2 := cn_mu_le hW1 hn
        rw [hmu1] at hmu2
        have hu : (wb a t ∘ G a k ∘ w1) ∘ wb a (pr a k) = wb a t ∘ G a k := by
          funext p
          show wb a t (G a k (w1 (wb a (pr a k) p))) = _
          rw [hwi.2]
          rfl
        obtain ⟨huG, huS⟩ := ch_round hok ha (List.mem_of_getElem? hgk) hpk ht1 ht2 hu
        have hfrw : ∀ q, ¬ cn_tag (T q) → va_up f1 wk (hl_nat g n (wb a t ∘ G a k ∘ w1)) q = f q := by
          intro q hq
          rw [va_up_ne _ _ (hl_ne (T := T) (by rw [c3]; exact fun e0 => hq (Or.inl e0)))]
          exact hfr1 q (hWt q hq a ha)
        have done : ch_G (cn_gs n gn G (a + 1)) (wb a t ∘ G a k ∘ w1) → ch_inv n (cn_gs n gn G) (va_up pr a (va_up (pr a) k (pr a k + 1))) sn sp wb (a + 1) := fun hin =>
          ch_pair2 hinv (Nat.lt_succ_self a) ha hgk rfl hpk ht1 ht2 hu hin
        obtain ⟨⟨_, d2, _⟩, ⟨_, e2, _⟩, ⟨_, g2, _⟩, hl3⟩ := id hC1
        refine hn_zeq (tgt := 34) X (by omega) d_H_advance_29 (by decide) (fun hc => ?_) (fun hc => ?_)
        · skip
          refine lv_iload_n X.1 X.2.1 d_H_advance_34 rfl (lv_at hl 3 rfl) ?_
          refine lv_iconst (v := nI 1) X.1 X.2.1 d_H_advance_35 (by decide) ?_
          refine hn_add X d_H_advance_36 ?_
          refine lv_istore (lv' := [(4, .int (nI (a + 1))), (3, .int (nI k)), (2, .ref (ad 0 a 0)), (0, .ref ch), (1, .int (nI a))]) X.1 X.2.1 d_H_advance_37 hl (by decide) rfl (fun ls hl => ?_)
          refine lv_iload X.1 X.2.1 d_H_advance_39 (lv_at hl 0 rfl) ?_
          refine lv_aload_n X.1 X.2.1 d_H_advance_41 rfl (lv_at hl 3 rfl) ?_
          refine hl_get X hK hh (ref := "CycleGroups$Chain") i_H (ci := 1) rfl 0 (by decide) w_142 rfl a1 d2 rfl d_H_advance_42 ?_
          refine hn_ige (tgt := 61) X (by omega) (by omega) d_H_advance_45 (by decide) (fun hc => ?_) (fun hc => ?_)
          · have e0 : n = a + 1 := by omega
            refine lv_iload_n X.1 X.2.1 d_H_advance_61 rfl (lv_at hl 4 rfl) ?_
            refine hm_iret X hr hlk hh ⟨_, gn, G, _, sn, sp, ix, wb, _, a + 1, rfl, (pk_m1 a).symm, by omega, ⟨hC1, hW1, done ?_⟩, rfl, ?_, hfrw⟩ (Nat.le_of_ble_eq_true rfl) (Nat.le_of_ble_eq_true rfl) d_H_advance_62
            · have hid : (wb a t ∘ G a k ∘ w1) = id := by
                funext p
                exact huS.2 p (fun hm => by have := ch_D_mem.1 hm; omega)
              rw [hid]
              exact gp_gen_id
            · rw [hmu1]; omega
          · have hb : a + 1 < n := hc
            refine lv_aload_n X.1 X.2.1 d_H_advance_48 rfl (lv_at hl 3 rfl) ?_
            refine lv_iload X.1 X.2.1 d_H_advance_49 (lv_at hl 0 rfl) ?_
            refine hl_calli hh (hl_runV (k := 1) X hK hh (c_H_siftWork l g _ L _ T ad n ch lO wk zL gn G _ sn sp ix wb _ hn hC1 hW1 pr hok (a + 1) (by omega) huS) wc_H_siftWork w_167 w_6 wi_H_siftWork ws_H_siftWork (by decide +kernel) rfl rfl ⟨Nat.le_of_ble_eq_true rfl, Nat.le_of_ble_eq_true rfl⟩ a1 d2 rfl rfl rfl rfl (Nat.le_of_ble_eq_true rfl) hl.1 d_H_advance_51 ⟨Nat.le_of_ble_eq_true rfl, Nat.le_of_ble_eq_true rfl⟩) (fun r u H locs hp hh => ?_)
            obtain ⟨j, x, hbj, hjn, rfl, hx1, rfl, hfix, hstop⟩ := hp
            have hsgb := ch_sg hok (Nat.le_of_lt hb)
            obtain ⟨x1, hx1G, hxi⟩ := hsgb.2.2 x hx1
            have hC2 := cn_work hn hC1 (x ∘ (wb a t ∘ G a k ∘ w1))
            obtain ⟨⟨_, d4, _⟩, ⟨_, e4, _⟩, ⟨_, g4, _⟩, hl4⟩ := id hC2
            have hfrx : ∀ q, ¬ cn_tag (T q) → va_up (va_up f1 wk (hl_nat g n (wb a t ∘ G a k ∘ w1))) wk (hl_nat g n (x ∘ (wb a t ∘ G a k ∘ w1))) q = f q := by
              intro q hq
              rw [va_up_ne _ _ (hl_ne (T := T) (by rw [c3]; exact fun e0 => hq (Or.inl e0)))]
              exact hfrw q hq
            have hback : x1 ∘ (x ∘ (wb a t ∘ G a k ∘ w1)) = wb a t ∘ G a k ∘ w1 := by
              funext p
              exact hxi.2 _
            obtain ⟨z5, t5, l5⟩ := hl4 (a + 1) hb
            refine lv_aload_n X.1 X.2.1 d_H_advance_54 rfl (lv_at hl 3 rfl) ?_
            refine hl_get X hK hh (ref := "CycleGroups$Chain") i_H (ci := 1) rfl 0 (by decide) w_142 rfl a1 d4 rfl d_H_advance_55 ?_
            refine hn_ilt (tgt := 63) X (by omega) (by omega) d_H_advance_58 (by decide) (fun hc => ?_) (fun hc => ?_)
            · have hjlt : j < n := hc
              have hrS : gp_sym (ch_D n (a + 1)) (x ∘ (wb a t ∘ G a k ∘ w1)) := (gp_sym_sg _).2.1 _ _ (ch_in_sym hok (Nat.le_of_lt hb) x hx1) huS
              have hnr : ¬ ch_G (cn_gs n gn G (a + 1)) (x ∘ (wb a t ∘ G a k ∘ w1)) := by
                intro hin
                have huin : ch_G (cn_gs n gn G (a + 1)) (wb a t ∘ G a k ∘ w1) := by
                  rw [← hback]; exact gp_gen_comp hx1G hin
                exact ch_fails hok (fun i h1 h2 => hinv.2.1 i h1 h2) hbj hjlt hx1 hfix (hstop hjlt) ⟨_, huin, fun _ _ _ => rfl⟩
              have hsub : gp_sub (ch_G (cn_gs n gn G (a + 1))) (ch_G (cn_gs n gn G a)) := gp_gen_sub (hok.2 a ha).2.2.1
              have hI1 := ch_add hinv hb hrS hnr (fun i hi => by
                have e0 : i = a := by omega
                subst e0
                exact gp_gen_comp (hsub x hx1) huG)
              rw [cn_gs_len hb] at hI1
              have hmost := ch_most hI1 hn hb (Or.inl (Nat.succ_pos a))
              rw [va_up_self, List.length_append, cn_gs_len hb] at hmost
              have hgm : gn (a + 1) < lk_most n (a + 1) := hmost
              have hab : a ≠ a + 1 := by omega
              have hI2 := ch_pair2 (a := a) (k := k) (s := pr a k) (t := t) (g := G a k) (u := wb a t ∘ G a k ∘ w1) hI1 (by omega) ha (by rw [va_up_ne _ _ hab]; exact hgk) (by rw [va_up_ne _ _ hab]) hpk ht1 ht2 hu (by
                rw [va_up_self]
                have h1 : ch_G (cn_gs n gn G (a + 1) ++ [x ∘ (wb a t ∘ G a k ∘ w1)]) (x1 ∘ (x ∘ (wb a t ∘ G a k ∘ w1))) := gp_gen_comp (gp_gen_mono (fun t0 h0 => List.mem_append_left _ h0) x1 hx1G) (gp_gen_mem (List.mem_append_right _ (List.mem_singleton.2 rfl)))
                rw [hback] at h1
                exact h1)
              rw [va_up_ne _ _ hab, hr_comm _ _ _ (Ne.symm hab), ← cn_gs_add hb] at hI2
              refine lv_aload_n X.1 X.2.1 d_H_advance_63 rfl (lv_at hl 3 rfl) ?_
              refine hl_get X hK hh (ref := "CycleGroups$Chain") i_H (ci := 1) rfl 1 (by decide) w_143 rfl a1 d4 rfl d_H_advance_64 ?_
              refine lv_iload X.1 X.2.1 d_H_advance_67 (lv_at hl 0 rfl) ?_
              refine hl_aaldL X hK hh b1 e4 (by omega) (by omega) z5 d_H_advance_69 ?_
              refine lv_aload_n X.1 X.2.1 d_H_advance_70 rfl (lv_at hl 3 rfl) ?_
              refine hl_get X hK hh (ref := "CycleGroups$Chain") i_H (ci := 1) rfl 2 (by decide) w_144 rfl a1 d4 rfl d_H_advance_71 ?_
              refine hl_callv hh (hl_runV (k := 1) X hK hh (c_K_addGenerator l g _ L _ T ad n (a + 1) (gn (a + 1)) (G (a + 1)) _ (sn (a + 1)) (sp (a + 1)) (ix (a + 1)) (wb (a + 1)) l5 hn t5 hgm wk _ c1 g4 c3) wc_K_addGenerator w_175 w_7 wi_K_addGenerator ws_K_addGenerator (by decide +kernel) rfl rfl ⟨Nat.le_of_ble_eq_true rfl, Nat.le_of_ble_eq_true rfl⟩ l5.1.1 l5.1.2 rfl rfl rfl rfl (Nat.le_of_ble_eq_true rfl) hl.1 d_H_advance_74 ⟨Nat.le_of_ble_eq_true rfl, Nat.le_of_ble_eq_true rfl⟩) (fun u H locs hp hh => ?_)
              obtain ⟨f3, rfl, hP3, hfr3⟩ := hp
              refine lv_iload X.1 X.2.1 d_H_advance_77 (lv_at hl 0 rfl) ?_
              have hC3 := cn_link hn hC2 hb hP3 hfr3
              have hW3 := cn_W_link hW1 (lk_W_add (hW1 (a + 1) hb) hgm hrS)
              simp only [hr_id] at hC3 hW3
              have hpe : (va_up pr a (va_up (pr a) k (pr a k + 1))) (a + 1) = pr (a + 1) := va_up_ne _ _ (Ne.symm hab)
              rw [hpe] at hC3 hW3
              refine hm_iret X hr hlk hh ⟨f3, _, _, _, sn, sp, ix, wb, _, a + 1 + 1, rfl, (pk_m1 (a + 1)).symm, by omega, ⟨hC3, hW3, hI2⟩, ?_, ?_, fun q hq => (hfr3 q (hWt q hq (a + 1) hb)).trans (hfrx q hq)⟩ (Nat.le_of_ble_eq_true rfl) (Nat.le_of_ble_eq_true rfl) d_H_advance_79
              · rw [cn_gs_add hb, va_up_ne _ _ (by omega)]
              · have h7 := cn_mu_add (gn := gn) (pr := va_up pr a (va_up (pr a) k (pr a k + 1))) hb
                rw [hpe] at h7
                rw [h7, hmu1]
                omega
            · have e0 : j = n := by omega
              subst e0
              refine lv_iload_n X.1 X.2.1 d_H_advance_61 rfl (lv_at hl 4 rfl) ?_
              refine hm_iret X hr hlk hh ⟨_, gn, G, _, sn, sp, ix, wb, _, a + 1, rfl, (pk_m1 a).symm, by omega, ⟨hC2, hW1, done ?_⟩, rfl, ?_, hfrx⟩ (Nat.le_of_ble_eq_true rfl) (Nat.le_of_ble_eq_true rfl) d_H_advance_62
              · have hid : x ∘ (wb a t ∘ G a k ∘ w1) = id := by
                  funext p
                  by_cases hp2 : a + 1 ≤ p ∧ p < j
                  · exact hfix p hp2.1 hp2.2
                  · have h1 : (wb a t ∘ G a k ∘ w1) p = p := huS.2 p (fun hm => hp2 (ch_D_mem.1 hm))
                    have h2 := (ch_in_sym hok (Nat.le_of_lt hb) x hx1).2 p (fun hm => hp2 (ch_D_mem.1 hm))
                    show x ((wb a t ∘ G a k ∘ w1) p) = p
                    rw [h1, h2]
                rw [hid] at hback
                rw [← hback]
                exact hx1G
              · rw [hmu1]; omega
        · exact absurd rfl hc
    · exact absurd (nI_pos' (by have := hWa.2.2.1; unfold lk_most at this; omega)) hc
  · skip
    refine lv_istore_n (lv' := [(3, .int (-1)), (2, .ref (ad 0 a 0)), (0, .ref ch), (1, .int (nI a))]) X.1 X.2.1 d_H_advance_11 rfl hl (by decide) rfl (fun ls hl => ?_)
    refine lv_iload_n X.1 X.2.1 d_H_advance_12 rfl (lv_at hl 0 rfl) ?_
    refine lv_if_ge (tgt := 20) X.1 X.2.1 d_H_advance_13 (by decide) (fun hc => ?_) (fun hc => ?_)
    · exact absurd hc (by decide)
    · skip
      refine lv_iload_n X.1 X.2.1 d_H_advance_16 rfl (lv_at hl 3 rfl) ?_
      refine lv_iconst (v := nI 1) X.1 X.2.1 d_H_advance_17 (by decide) ?_
      refine lv_isub X.1 X.2.1 d_H_advance_18 ?_
      rw [nI_m1]
      refine hm_iret X hr hlk hh ⟨f, gn, G, pr, sn, sp, ix, wb, y, a, rfl, rfl, by omega, ⟨hC0, hW, ch_pop hinv (fun _ => ?_)⟩, rfl, by omega, fun q _ => rfl⟩ (Nat.le_of_ble_eq_true rfl) (Nat.le_of_ble_eq_true rfl) d_H_advance_19
      intro k0 x0 hk0
      exact hall k0 (cn_gs_of ha hk0).1
end

