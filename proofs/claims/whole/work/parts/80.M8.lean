/-! The reference: keep. -/
section
/-- private void keep() -/
theorem c_M_keep (l : Launch) (g : hl_G) (sz : Nat) (L : List Nat) (d : Nat → Nat) (f0 : Nat → va_E) (hd : md_D L d) (n mm sm kn mk : Nat) (r3 r5 r7 r8 r10 r11 r12 r13 r14 r15 r16 r17 r18 r19 r20 r21 r22 r23 : Nat → Nat) (hn : n ≤ 24) (la : Nat → gp_f) (hI : jf_I n r14 r11 r12 la) (hla : ∀ e, e < 24 → r14 e = 1 → fr r13 e (la e)) (hw : gp_sym (ch_D n 0) r18) (post : List Nat × (Nat → va_E) → Prop)
    (hpo : ∀ us lo hi lab la2 qu by' sn wk rd ri, jf_I n us lo hi la2 → (∀ e, e < 24 → us e = 1 → fr lab e (la2 e)) → (∀ y, gp_gen (jf_T us la2) y ↔ jf_K r14 la r18 y) → post (L, mf g d f0 n mm sm kn mk r3 r5 r7 r8 r10 lo hi lab us qu by' sn wk rd r20 r21 ri r23)) :
    Met l y_M_keep (hq y_M_keep b_M_keep 13 none) { frames := 1, cells := 0, slots := 0, locals := 30 } (hm_P g [.ref (d 0)] sz L (mf g d f0 n mm sm kn mk r3 r5 r7 r8 r10 r11 r12 r13 r14 r15 r16 r17 r18 r19 r20 r21 r22 r23)) (va_Qv (post) (hm_B g sz L) (hm_A sz L)) 0 0 (hm_A sz L) := by
  refine hm_ofW (by decide) (Nat.le_of_ble_eq_true rfl) ?_
  intro p e s m below meth c X hr hlk hnm hK hsz hh ls hl
  have hl : lv_has ls 13 [(0, .ref (d 0))] := hl
  have fin : ∀ (us lo hi lab : Nat → Nat) (la2 : Nat → gp_f) (w : gp_f) (qu by' sn rd ri : Nat → Nat) (H : Heap) (locs : List Loc) (ls : Array Slot), jf_I n us lo hi la2 → (∀ e, e < 24 → us e = 1 → fr lab e (la2 e)) → gp_sym (ch_D n 0) w → (∀ y, jf_K us la2 w y ↔ jf_K r14 la r18 y) → (∀ p, p < 24 → w p = p) → hl_H g (hm_A sz L) s.heap L (mf g d f0 n mm sm kn mk r3 r5 r7 r8 r10 lo hi lab us qu by' sn w rd r20 r21 ri r23) H locs → lv_has ls 13 [(1, .int (-1)), (0, .ref (d 0))] → W p l e { frames := 1, cells := 0, slots := 0, locals := 30 } s m #[.ref (d 0)] below meth c H locs 0 0 (MQ below (va_Qv (post) (hm_B g sz L) (hm_A sz L)) #[.ref (d 0)] s 0 0 (hm_A sz L)) (F0 m 5 ls []) := by
    intro us lo hi lab la2 w qu by' sn rd ri H locs ls hI2 hla2 hw2 hK2 hid hh hl
    have e0 : w = id := by
      funext q
      rcases Nat.lt_or_ge q 24 with h | h
      · exact hid q h
      · exact sym_out hw2 (by omega)
    refine lv_iload_n X.1 X.2.1 d_M_keep_5 rfl (lv_at hl 0 rfl) ?_
    refine lv_if_lt (tgt := 385) X.1 X.2.1 d_M_keep_6 (by decide) (fun hc => ?_) (fun hc => ?_)
    · skip
      exact hm_vret X hr hlk hh (hpo us lo hi lab la2 qu by' sn w rd ri hI2 hla2 (fun y => by rw [← hK2 y, e0]; exact (jf_id_K y).symm)) (Nat.le_of_ble_eq_true rfl) (Nat.le_of_ble_eq_true rfl) d_M_keep_385
    · exact absurd (show (-1 : Int32) < 0 by decide) hc
  have main : ∀ (t : Nat) (us lo hi lab : Nat → Nat) (la2 : Nat → gp_f) (w : gp_f) (qu by' sn rd ri : Nat → Nat) (r : Int32) (H : Heap) (locs : List Loc) (ls : Array Slot), jf_I n us lo hi la2 → (∀ e, e < 24 → us e = 1 → fr lab e (la2 e)) → gp_sym (ch_D n 0) w → (∀ y, jf_K us la2 w y ↔ jf_K r14 la r18 y) →
      ((r = -1 ∧ ∀ p, p < 24 → w p = p) ∨ (∃ a, a < 24 ∧ r = nI a ∧ w a ≠ a ∧ (∀ p, p < a → w p = p) ∧ 24 * 24 + 24 < jf_m us lo + a + t)) → hl_H g (hm_A sz L) s.heap L (mf g d f0 n mm sm kn mk r3 r5 r7 r8 r10 lo hi lab us qu by' sn w rd r20 r21 ri r23) H locs → lv_has ls 13 [(1, .int r), (0, .ref (d 0))] → W p l e { frames := 1, cells := 0, slots := 0, locals := 30 } s m #[.ref (d 0)] below meth c H locs 0 0 (MQ below (va_Qv (post) (hm_B g sz L) (hm_A sz L)) #[.ref (d 0)] s 0 0 (hm_A sz L)) (F0 m 5 ls []) := by
    intro t
    induction t with
    | zero =>
      intro us lo hi lab la2 w qu by' sn rd ri r H locs ls hI2 hla2 hw2 hK2 hr2 hh hl
      rcases hr2 with ⟨rfl, hid⟩ | ⟨a, ha, _, _, _, hm⟩
      · exact fin us lo hi lab la2 w qu by' sn rd ri H locs ls hI2 hla2 hw2 hK2 hid hh hl
      · have := jf_m_le hn hI2
        omega
    | succ t ih =>
      intro us lo hi lab la2 w qu0 by0 sn0 rd ri0 r H locs ls hI2 hla2 hw2 hK2 hr2 hh hl
      rcases hr2 with ⟨rfl, hid⟩ | ⟨a, ha, rfl, hne, hfx, hm⟩
      · exact fin us lo hi lab la2 w qu0 by0 sn0 rd ri0 H locs ls hI2 hla2 hw2 hK2 hid hh hl
      obtain ⟨han, hab, hbn⟩ := jf_lm hw2 hne hfx
      have hw24 : ∀ p, p < 24 → w p < 24 := fun p hp => sym_24 hw2 hn hp
      have hu := hI2.1
      have hV := hI2.2.1
      have hsu := jf_F_lt hI2.2.2
      have hlb : ∀ e, e < 24 → us e = 1 → lo e < 24 ∧ hi e < 24 := fun e he h1 => by
        obtain ⟨_, v1, v2, _, _⟩ := hV e he h1
        omega
      have ring : ∀ (qu by' sn dep : Nat → Nat), jf_B us lo hi (w a) sn by' dep → ∀ (c0 lst : Nat) (z : Nat → Nat), jf_G us lo hi (w a) sn by' dep a z c0 → z c0 = w a → (∀ i, i ≤ c0 → lst ≤ z i) → (∃ i, i ≤ c0 ∧ z i = lst) → ∀ (H : Heap) (locs : List Loc) (ls : Array Slot), hl_H g (hm_A sz L) s.heap L (mf g d f0 n mm sm kn mk r3 r5 r7 r8 r10 lo hi lab us qu by' sn w rd r20 r21 z r23) H locs → lv_has ls 13 [(4, .int (nI lst)), (3, .int (nI (c0 + 1))), (2, .int (nI (w a))), (1, .int (nI a)), (0, .ref (d 0))] → W p l e { frames := 1, cells := 0, slots := 0, locals := 30 } s m #[.ref (d 0)] below meth c H locs 0 0 (MQ below (va_Qv (post) (hm_B g sz L) (hm_A sz L)) #[.ref (d 0)] s 0 0 (hm_A sz L)) (F0 m 135 ls []) := by
        intro qu by' sn dep hB c0 lst z hG hzc hlz hex H locs ls hh hl
        have hla0 : lst ≤ a := by have := hlz 0 (by omega); rw [hG.1] at this; exact this
        obtain ⟨q, hq, hzq⟩ := hex
        have hqc : q < c0 := by
          rcases Nat.lt_or_eq_of_le hq with h | h
          · exact h
          · rw [h, hzc] at hzq; omega
        have hc24 : c0 < 24 := by have := hG.2.2.2.1; omega
        have hz24 : ∀ i, i ≤ c0 → z i < 24 := fun i hi => jf_G_24 hG hi
        have hz0 : z 0 = a := hG.1
        obtain ⟨_, _, _, _, vq, bq, vq24, uq, jq, _⟩ := hG.2.2.2.2 q hqc
        rw [hzq] at bq jq
        have hloq : lo vq = lst ∧ hi vq = z (q + 1) := by
          have h1 := hlz (q + 1) (by omega)
          obtain ⟨_, v1, v2, _, _⟩ := hV vq vq24 uq
          rcases jq with ⟨x1, x2⟩ | ⟨x1, x2⟩
          · omega
          · exact ⟨x1, x2⟩
        -- what is left once the spare edge stands
        have rest : ∀ (i6 i7 : Int32), ((lst = a ∧ i6 = nI 1) ∨ (lst ≠ a ∧ i6 = nI 0 ∧ i7 = nI vq)) → ∀ (H : Heap) (locs : List Loc) (ls : Array Slot), hl_H g (hm_A sz L) s.heap L (mf g d f0 n mm sm kn mk r3 r5 r7 r8 r10 lo hi lab us qu by' sn w rd r20 r21 z r23) H locs → lv_has ls 13 [(7, .int i7), (6, .int i6), (5, .int (nI q)), (4, .int (nI lst)), (3, .int (nI (c0 + 1))), (2, .int (nI (w a))), (1, .int (nI a)), (0, .ref (d 0))] → W p l e { frames := 1, cells := 0, slots := 0, locals := 30 } s m #[.ref (d 0)] below meth c H locs 0 0 (MQ below (va_Qv (post) (hm_B g sz L) (hm_A sz L)) #[.ref (d 0)] s 0 0 (hm_A sz L)) (F0 m 187 ls []) := by
          intro i6 i7 hcase H locs ls hh hl
          have body : ∀ (sp : Nat), sp < 24 → us sp = 0 → ∀ (H : Heap) (locs : List Loc) (ls : Array Slot) (rd : Nat → Nat), hl_H g (hm_A sz L) s.heap L (mf g d f0 n mm sm kn mk r3 r5 r7 r8 r10 (va_up lo sp a) (va_up hi sp (w a)) (fw lab sp w 24) (va_up us sp 1) qu by' sn id rd r20 r21 z r23) H locs → lv_has ls 13 [(9, .int (nI 0)), (8, .int (nI sp)), (7, .int i7), (6, .int i6), (5, .int (nI q)), (4, .int (nI lst)), (3, .int (nI (c0 + 1))), (2, .int (nI (w a))), (1, .int (nI a)), (0, .ref (d 0))] → W p l e { frames := 1, cells := 0, slots := 0, locals := 30 } s m #[.ref (d 0)] below meth c H locs 0 0 (MQ below (va_Qv (post) (hm_B g sz L) (hm_A sz L)) #[.ref (d 0)] s 0 0 (hm_A sz L)) (F0 m 265 ls []) := by
            intro sp hsp hsp0 H locs ls rd hh hl
            have hV1 := jf_V_put (s := sp) hV hw2 hab hbn rfl hfx
            have hla1 : ∀ e, e < 24 → va_up us sp 1 e = 1 → fr (fw lab sp w 24) e (va_up la2 sp w e) := by
              intro e he hu1
              by_cases e0 : e = sp
              · rw [e0, va_up_self]; exact fr_fw lab sp w
              · rw [va_up_ne _ _ e0] at hu1
                rw [va_up_ne _ _ e0]; exact fr_fo (hla2 e he hu1) e0
            have old : ∀ e, us e = 1 → e ≠ sp := fun e h1 => jf_old hsp0 h1
            -- the row that is left, and on
            have tail : ∀ (us2 : Nat → Nat) (w2 : gp_f) (rd : Nat → Nat) (H : Heap) (locs : List Loc) (ls : Array Slot), jf_I n us2 (va_up lo sp a) (va_up hi sp (w a)) (va_up la2 sp w) → (∀ e, e < 24 → us2 e = 1 → va_up us sp 1 e = 1) → gp_sym (ch_D n 0) w2 →
                (∀ y, jf_K us la2 w y ↔ jf_K us2 (va_up la2 sp w) w2 y) → (∀ p, p ≤ lst → w2 p = p) → jf_m us lo + a ≤ jf_m us2 (va_up lo sp a) + lst → hl_H g (hm_A sz L) s.heap L (mf g d f0 n mm sm kn mk r3 r5 r7 r8 r10 (va_up lo sp a) (va_up hi sp (w a)) (fw lab sp w 24) us2 qu by' sn w2 rd r20 r21 z r23) H locs → lv_has ls 13 [(9, .int (nI (c0 + 1))), (8, .int (nI sp)), (7, .int i7), (6, .int i6), (5, .int (nI q)), (4, .int (nI lst)), (3, .int (nI (c0 + 1))), (2, .int (nI (w a))), (1, .int (nI a)), (0, .ref (d 0))] → W p l e { frames := 1, cells := 0, slots := 0, locals := 30 } s m #[.ref (d 0)] below meth c H locs 0 0 (MQ below (va_Qv (post) (hm_B g sz L) (hm_A sz L)) #[.ref (d 0)] s 0 0 (hm_A sz L)) (F0 m 377 ls []) := by
              intro us2 w2 rd H locs ls t1 t2 t3 t4 t5 t6 hh hl
              refine lv_aload_n X.1 X.2.1 d_M_keep_377 rfl (lv_at hl 9 rfl) ?_
              refine hl_calli hh (hl_runV (k := 0) X hK hh (c_M_leastMoved l g _ L d f0 hd n mm sm kn mk r3 r5 r7 r8 r10 (va_up lo sp a) (va_up hi sp (w a)) (fw lab sp w 24) us2 qu by' sn w2 rd r20 r21 z r23 (fun p hp => sym_24 t3 hn hp) (fun r u => ((r = -1 ∧ ∀ p, p < 24 → w2 p = p) ∨ (∃ a, a < 24 ∧ r = nI a ∧ w2 a ≠ a ∧ ∀ p, p < a → w2 p = p)) ∧ u = (L, mf g d f0 n mm sm kn mk r3 r5 r7 r8 r10 (va_up lo sp a) (va_up hi sp (w a)) (fw lab sp w 24) us2 qu by' sn w2 rd r20 r21 z r23)) (fun r h => ⟨h, rfl⟩)) wc_M_leastMoved w_491 w_5 wi_M_leastMoved ws_M_leastMoved (by decide +kernel) rfl rfl ⟨Nat.le_of_ble_eq_true rfl, Nat.le_of_ble_eq_true rfl⟩ (md_in hd (k := 0) rfl) md_at_0 rfl rfl rfl rfl (Nat.le_of_ble_eq_true rfl) hl.1 d_M_keep_378 ⟨Nat.le_of_ble_eq_true rfl, Nat.le_of_ble_eq_true rfl⟩) (fun r u H locs hp hh => ?_)
              obtain ⟨hr3, rfl⟩ := hp
              refine lv_istore_n (lv' := [(1, .int r), (9, .int (nI (c0 + 1))), (8, .int (nI sp)), (7, .int i7), (6, .int i6), (5, .int (nI q)), (4, .int (nI lst)), (3, .int (nI (c0 + 1))), (2, .int (nI (w a))), (0, .ref (d 0))]) X.1 X.2.1 d_M_keep_381 rfl hl (by decide) rfl (fun ls hl => ?_)
              refine lv_goto (tgt := 5) X.1 X.2.1 d_M_keep_382 (by decide) ?_
              refine ih us2 _ _ _ _ w2 _ _ _ _ _ r H locs _ t1 (fun e he h1 => hla1 e he (t2 e he h1)) t3 (fun y => (t4 y).symm.trans (hK2 y)) ?_ hh (lv_sub hl [0, 9] rfl)
              rcases hr3 with h | ⟨a3, x1, x2, x3, x4⟩
              · exact Or.inl h
              · refine Or.inr ⟨a3, x1, x2, x3, x4, ?_⟩
                have : lst < a3 := by
                  rcases Nat.lt_or_ge lst a3 with h | h
                  · exact h
                  · exact absurd (t5 a3 h) x3
                omega
            -- round the ring
            have go : ∀ (J : Nat → gp_f → Prop), (∀ k w3, J k w3 → gp_sym (ch_D n 0) w3) →
                (∀ k w3 tt v, k < c0 + 1 → J k w3 → v < 24 → va_up us sp 1 v = 1 → jf_J (va_up lo sp a) (va_up hi sp (w a)) v (z ((q + (c0 + 1) - k) % (c0 + 1))) (z ((q + (c0 + 1) - (k + 1)) % (c0 + 1))) → (k = q → v = sp) → (k ≠ q → v ≠ sp ∧ (v = vq ↔ k = c0)) →
                  (tt = va_up la2 sp w v ∨ gp_inv (va_up la2 sp w v) tt) → gp_sym (ch_D n 0) tt → tt (z ((q + (c0 + 1) - k) % (c0 + 1))) = z ((q + (c0 + 1) - (k + 1)) % (c0 + 1)) → (∀ x, x < lst → tt x = x) → J (k + 1) (tt ∘ w3)) →
                (∀ (w3 : gp_f) (rd : Nat → Nat) (H : Heap) (locs : List Loc) (ls : Array Slot), J (c0 + 1) w3 → hl_H g (hm_A sz L) s.heap L (mf g d f0 n mm sm kn mk r3 r5 r7 r8 r10 (va_up lo sp a) (va_up hi sp (w a)) (fw lab sp w 24) (va_up us sp 1) qu by' sn w3 rd r20 r21 z r23) H locs → lv_has ls 13 [(9, .int (nI (c0 + 1))), (8, .int (nI sp)), (7, .int i7), (6, .int i6), (5, .int (nI q)), (4, .int (nI lst)), (3, .int (nI (c0 + 1))), (2, .int (nI (w a))), (1, .int (nI a)), (0, .ref (d 0))] → W p l e { frames := 1, cells := 0, slots := 0, locals := 30 } s m #[.ref (d 0)] below meth c H locs 0 0 (MQ below (va_Qv (post) (hm_B g sz L) (hm_A sz L)) #[.ref (d 0)] s 0 0 (hm_A sz L)) (F0 m 359 ls [])) →
                ∀ (t2 k : Nat) (w3 : gp_f) (rd : Nat → Nat) (H : Heap) (locs : List Loc) (ls : Array Slot), c0 + 1 + 1 ≤ k + t2 → k ≤ c0 + 1 → J k w3 → hl_H g (hm_A sz L) s.heap L (mf g d f0 n mm sm kn mk r3 r5 r7 r8 r10 (va_up lo sp a) (va_up hi sp (w a)) (fw lab sp w 24) (va_up us sp 1) qu by' sn w3 rd r20 r21 z r23) H locs → lv_has ls 13 [(9, .int (nI k)), (8, .int (nI sp)), (7, .int i7), (6, .int i6), (5, .int (nI q)), (4, .int (nI lst)), (3, .int (nI (c0 + 1))), (2, .int (nI (w a))), (1, .int (nI a)), (0, .ref (d 0))] → W p l e { frames := 1, cells := 0, slots := 0, locals := 30 } s m #[.ref (d 0)] below meth c H locs 0 0 (MQ below (va_Qv (post) (hm_B g sz L) (hm_A sz L)) #[.ref (d 0)] s 0 0 (hm_A sz L)) (F0 m 265 ls []) := by
              intro J hJs hJ kk t2
              induction t2 with
              | zero => intros; omega
              | succ t2 ih2 =>
                intro k w3 rd H locs ls hkt hkc hJk hh hl
                refine lv_iload X.1 X.2.1 d_M_keep_265 (lv_at hl 0 rfl) ?_
                refine lv_iload_n X.1 X.2.1 d_M_keep_267 rfl (lv_at hl 6 rfl) ?_
                refine hn_ige (tgt := 359) X (by omega) (by omega) d_M_keep_268 (by decide) (fun hc => ?_) (fun hc => ?_)
                · have hk : k = c0 + 1 := by omega
                  subst hk
                  exact kk w3 rd H locs ls hJk hh hl
                have hk : k < c0 + 1 := hc
                obtain ⟨ix1, ix2, ix3, ix4, ix5⟩ := jf_ix hqc hk
                have zf := hz24 _ (Nat.le_of_lt_succ ix2)
                have zt := hz24 _ (Nat.le_of_lt_succ ix3)
                have lf := hlz _ (Nat.le_of_lt_succ ix2)
                have lt := hlz _ (Nat.le_of_lt_succ ix3)
                have ix3b : (q + (c0 + 1) - k - 1 + (c0 + 1)) % (c0 + 1) < c0 + 1 := by rw [ix1]; exact ix3
                have step := hJ k w3
                refine lv_aload_n X.1 X.2.1 d_M_keep_271 rfl (lv_at hl 9 rfl) ?_
                refine hl_get X hK hh (ref := "CycleGroupsModel") i_M (ci := 5) rfl 22 (by decide) w_373 rfl (md_in hd (k := 0) rfl) md_at_0 rfl d_M_keep_272 ?_
                refine lv_iload X.1 X.2.1 d_M_keep_275 (lv_at hl 4 rfl) ?_
                refine lv_iload_n X.1 X.2.1 d_M_keep_277 rfl (lv_at hl 6 rfl) ?_
                refine hn_add X d_M_keep_278 ?_
                refine lv_iload X.1 X.2.1 d_M_keep_279 (lv_at hl 0 rfl) ?_
                refine hn_sub X (by omega) d_M_keep_281 ?_
                refine lv_iload_n X.1 X.2.1 d_M_keep_282 rfl (lv_at hl 6 rfl) ?_
                refine hn_rem X (by omega) (by omega) (by omega) d_M_keep_283 ?_
                refine hl_iald X hK hh (md_in hd (k := 22) rfl) (md_at_22 hd) (by omega) (by decide) d_M_keep_284 ?_
                refine lv_istore (lv' := [(10, .int (nI (z (((q + (c0 + 1)) - k) % (c0 + 1))))), (9, .int (nI k)), (8, .int (nI sp)), (7, .int i7), (6, .int i6), (5, .int (nI q)), (4, .int (nI lst)), (3, .int (nI (c0 + 1))), (2, .int (nI (w a))), (1, .int (nI a)), (0, .ref (d 0))]) X.1 X.2.1 d_M_keep_285 hl (by decide) rfl (fun ls hl => ?_)
                refine lv_aload_n X.1 X.2.1 d_M_keep_287 rfl (lv_at hl 10 rfl) ?_
                refine hl_get X hK hh (ref := "CycleGroupsModel") i_M (ci := 5) rfl 22 (by decide) w_373 rfl (md_in hd (k := 0) rfl) md_at_0 rfl d_M_keep_288 ?_
                refine lv_iload X.1 X.2.1 d_M_keep_291 (lv_at hl 5 rfl) ?_
                refine lv_iload_n X.1 X.2.1 d_M_keep_293 rfl (lv_at hl 7 rfl) ?_
                refine hn_add X d_M_keep_294 ?_
                refine lv_iload X.1 X.2.1 d_M_keep_295 (lv_at hl 1 rfl) ?_
                refine hn_sub X (by omega) d_M_keep_297 ?_
                refine lv_iconst (v := nI 1) X.1 X.2.1 d_M_keep_298 (by decide) ?_
                refine hn_sub X (by omega) d_M_keep_299 ?_
                refine lv_iload_n X.1 X.2.1 d_M_keep_300 rfl (lv_at hl 7 rfl) ?_
                refine hn_add X d_M_keep_301 ?_
                refine lv_iload_n X.1 X.2.1 d_M_keep_302 rfl (lv_at hl 7 rfl) ?_
                refine hn_rem X (by omega) (by omega) (by omega) d_M_keep_303 ?_
                refine hl_iald X hK hh (md_in hd (k := 22) rfl) (md_at_22 hd) (by omega) (by decide) d_M_keep_304 ?_
                refine lv_istore (lv' := [(11, .int (nI (z (((((q + (c0 + 1)) - k) - 1) + (c0 + 1)) % (c0 + 1))))), (10, .int (nI (z (((q + (c0 + 1)) - k) % (c0 + 1))))), (9, .int (nI k)), (8, .int (nI sp)), (7, .int i7), (6, .int i6), (5, .int (nI q)), (4, .int (nI lst)), (3, .int (nI (c0 + 1))), (2, .int (nI (w a))), (1, .int (nI a)), (0, .ref (d 0))]) X.1 X.2.1 d_M_keep_305 hl (by decide) rfl (fun ls hl => ?_)
                rw [ix1] at hl
                obtain ⟨fk, efk⟩ : ∃ fk, fk = z ((q + (c0 + 1) - k) % (c0 + 1)) := ⟨_, rfl⟩
                obtain ⟨tk, etk⟩ : ∃ tk, tk = z ((q + (c0 + 1) - (k + 1)) % (c0 + 1)) := ⟨_, rfl⟩
                rw [← efk] at hl zf lf step
                rw [← etk] at hl zt lt step
                have w324 : ∀ p, p < 24 → w3 p < 24 := fun p hp => sym_24 (hJs k w3 hJk) hn hp
                have stp : ∀ v, v < 24 → va_up us sp 1 v = 1 → jf_J (va_up lo sp a) (va_up hi sp (w a)) v fk tk → (k = q → v = sp) → (k ≠ q → v ≠ sp ∧ (v = vq ↔ k = c0)) → ∀ (H : Heap) (locs : List Loc), hl_H g (hm_A sz L) s.heap L (mf g d f0 n mm sm kn mk r3 r5 r7 r8 r10 (va_up lo sp a) (va_up hi sp (w a)) (fw lab sp w 24) (va_up us sp 1) qu by' sn w3 rd r20 r21 z r23) H locs → W p l e { frames := 1, cells := 0, slots := 0, locals := 30 } s m #[.ref (d 0)] below meth c H locs 0 0 (MQ below (va_Qv (post) (hm_B g sz L) (hm_A sz L)) #[.ref (d 0)] s 0 0 (hm_A sz L)) (F0 m 328 ls [.int (nI v)]) := by
                  intro v hv hv1 hvj hv2 hv3 H locs hh
                  obtain ⟨tt, g1, g2, g3, g4, g5, g6⟩ := jf_lab hV1 hv hv1 hvj lf lt
                  obtain ⟨s0, s1, s2, _, _⟩ := hV1 v hv hv1
                  have hJ2 := step tt v hk hJk hv hv1 hvj hv2 hv3 g1 g4 g5 g6
                  refine lv_istore (lv' := [(12, .int (nI v)), (11, .int (nI tk)), (10, .int (nI fk)), (9, .int (nI k)), (8, .int (nI sp)), (7, .int i7), (6, .int i6), (5, .int (nI q)), (4, .int (nI lst)), (3, .int (nI (c0 + 1))), (2, .int (nI (w a))), (1, .int (nI a)), (0, .ref (d 0))]) X.1 X.2.1 d_M_keep_328 hl (by decide) rfl (fun ls hl => ?_)
                  refine lv_aload_n X.1 X.2.1 d_M_keep_330 rfl (lv_at hl 12 rfl) ?_
                  refine lv_iload X.1 X.2.1 d_M_keep_331 (lv_at hl 0 rfl) ?_
                  refine lv_aload_n X.1 X.2.1 d_M_keep_333 rfl (lv_at hl 12 rfl) ?_
                  refine hl_get X hK hh (ref := "CycleGroupsModel") i_M (ci := 5) rfl 11 (by decide) w_362 rfl (md_in hd (k := 0) rfl) md_at_0 rfl d_M_keep_334 ?_
                  refine lv_iload X.1 X.2.1 d_M_keep_337 (lv_at hl 0 rfl) ?_
                  refine hl_iald X hK hh (md_in hd (k := 11) rfl) (md_at_11 hd) (by omega) (by decide) d_M_keep_339 ?_
                  refine lv_iload X.1 X.2.1 d_M_keep_340 (lv_at hl 2 rfl) ?_
                  refine hn_ine (tgt := 349) X (by omega) (by omega) d_M_keep_342 (by decide) (fun hc => ?_) (fun hc => ?_)
                  · have hc : ¬ va_up lo sp a v = fk := hc
                    refine lv_iconst (v := nI 0) X.1 X.2.1 d_M_keep_349 (by decide) ?_
                    refine hl_callv hh (hl_runV (k := 2) X hK hh (c_M_along l g _ L d f0 hd n mm sm kn mk r3 r5 r7 r8 r10 (va_up lo sp a) (va_up hi sp (w a)) (fw lab sp w 24) (va_up us sp 1) qu by' sn w3 rd r20 r21 z r23 hn v hv false (va_up la2 sp w v) tt s0 (hla1 v hv hv1) w324 (fun h => by cases h) (fun _ => g3 hc)) wc_M_along w_511 w_5 wi_M_along ws_M_along (by decide +kernel) rfl rfl ⟨Nat.le_of_ble_eq_true rfl, Nat.le_of_ble_eq_true rfl⟩ (md_in hd (k := 0) rfl) md_at_0 rfl rfl rfl rfl (Nat.le_of_ble_eq_true rfl) hl.1 d_M_keep_350 ⟨Nat.le_of_ble_eq_true rfl, Nat.le_of_ble_eq_true rfl⟩) (fun u H locs hp hh => ?_)
                    subst hp
                    refine lv_iinc (v := nI (k + 1)) (lv' := [(9, .int (nI (k + 1))), (12, .int (nI v)), (11, .int (nI tk)), (10, .int (nI fk)), (8, .int (nI sp)), (7, .int i7), (6, .int i6), (5, .int (nI q)), (4, .int (nI lst)), (3, .int (nI (c0 + 1))), (2, .int (nI (w a))), (1, .int (nI a)), (0, .ref (d 0))]) X.1 X.2.1 d_M_keep_353 hl (k := 3) rfl (hn_inc _) (by decide) rfl (fun ls hl => ?_)
                    refine lv_goto (tgt := 265) X.1 X.2.1 d_M_keep_356 (by decide) ?_
                    exact ih2 (k + 1) (tt ∘ w3) tt H locs _ (by omega) (by omega) hJ2 hh (lv_sub hl [0, 4, 5, 6, 7, 8, 9, 10, 11, 12] rfl)
                  have hc : va_up lo sp a v = fk := hc
                  refine lv_iconst (v := nI 1) X.1 X.2.1 d_M_keep_345 (by decide) ?_
                  refine lv_goto (tgt := 350) X.1 X.2.1 d_M_keep_346 (by decide) ?_
                  refine hl_callv hh (hl_runV (k := 2) X hK hh (c_M_along l g _ L d f0 hd n mm sm kn mk r3 r5 r7 r8 r10 (va_up lo sp a) (va_up hi sp (w a)) (fw lab sp w 24) (va_up us sp 1) qu by' sn w3 rd r20 r21 z r23 hn v hv true (va_up la2 sp w v) tt s0 (hla1 v hv hv1) w324 (fun _ => g2 hc) (fun h => by cases h)) wc_M_along w_511 w_5 wi_M_along ws_M_along (by decide +kernel) rfl rfl ⟨Nat.le_of_ble_eq_true rfl, Nat.le_of_ble_eq_true rfl⟩ (md_in hd (k := 0) rfl) md_at_0 rfl rfl rfl rfl (Nat.le_of_ble_eq_true rfl) hl.1 d_M_keep_350 ⟨Nat.le_of_ble_eq_true rfl, Nat.le_of_ble_eq_true rfl⟩) (fun u H locs hp hh => ?_)
                  subst hp
                  refine lv_iinc (v := nI (k + 1)) (lv' := [(9, .int (nI (k + 1))), (12, .int (nI v)), (11, .int (nI tk)), (10, .int (nI fk)), (8, .int (nI sp)), (7, .int i7), (6, .int i6), (5, .int (nI q)), (4, .int (nI lst)), (3, .int (nI (c0 + 1))), (2, .int (nI (w a))), (1, .int (nI a)), (0, .ref (d 0))]) X.1 X.2.1 d_M_keep_353 hl (k := 3) rfl (hn_inc _) (by decide) rfl (fun ls hl => ?_)
                  refine lv_goto (tgt := 265) X.1 X.2.1 d_M_keep_356 (by decide) ?_
                  exact ih2 (k + 1) (tt ∘ w3) tt H locs _ (by omega) (by omega) hJ2 hh (lv_sub hl [0, 4, 5, 6, 7, 8, 9, 10, 11, 12] rfl)
                refine lv_iload X.1 X.2.1 d_M_keep_307 (lv_at hl 1 rfl) ?_
                refine lv_iload_n X.1 X.2.1 d_M_keep_309 rfl (lv_at hl 10 rfl) ?_
                refine hn_ine (tgt := 318) X (by omega) (by omega) d_M_keep_310 (by decide) (fun hc => ?_) (fun hc => ?_)
                · have hc : ¬ fk = a := hc
                  have hkq : k ≠ q := fun h => hc (by rw [efk, (ix4 h).1]; exact hz0)
                  obtain ⟨y1, y2, y3⟩ := ix5 hkq
                  obtain ⟨_, _, _, _, v, b1, b2, b3, b4, b5⟩ := hG.2.2.2.2 _ y2
                  rw [← y1, ← efk, ← etk] at b4 b5
                  rw [← etk] at b1
                  have vsp := old v b3
                  have eJ : ∀ x, x ≠ sp → (jf_J (va_up lo sp a) (va_up hi sp (w a)) x fk tk ↔ jf_J lo hi x fk tk) := fun x hx => by
                    unfold jf_J; rw [va_up_ne _ _ hx, va_up_ne _ _ hx]
                  have u1 : va_up us sp 1 v = 1 := by rw [va_up_ne _ _ vsp]; exact b3
                  refine lv_aload_n X.1 X.2.1 d_M_keep_318 rfl (lv_at hl 11 rfl) ?_
                  refine lv_iload X.1 X.2.1 d_M_keep_319 (lv_at hl 1 rfl) ?_
                  refine lv_iload X.1 X.2.1 d_M_keep_321 (lv_at hl 0 rfl) ?_
                  refine lv_iload X.1 X.2.1 d_M_keep_323 (lv_at hl 3 rfl) ?_
                  refine hl_calli hh (hl_runV (k := 3) X hK hh (c_M_edgeBetween l g _ L d f0 hd n mm sm kn mk r3 r5 r7 r8 r10 (va_up lo sp a) (va_up hi sp (w a)) (fw lab sp w 24) (va_up us sp 1) qu by' sn w3 rd r20 r21 z r23 fk tk sp v (by omega) (by omega) hsp b2 (jf_us_up hu (Or.inr rfl)) (fun e he h1 => by obtain ⟨_, v1, v2, _, _⟩ := hV1 e he h1; omega) u1 vsp ((eJ v vsp).2 b4) (fun e he h1 h2 => by rw [eJ e h2]; rw [va_up_ne _ _ h2] at h1; exact b5 e he h1)) wc_M_edgeBetween w_507 w_5 wi_M_edgeBetween ws_M_edgeBetween (by decide +kernel) rfl rfl ⟨Nat.le_of_ble_eq_true rfl, Nat.le_of_ble_eq_true rfl⟩ (md_in hd (k := 0) rfl) md_at_0 rfl rfl rfl rfl (Nat.le_of_ble_eq_true rfl) hl.1 d_M_keep_325 ⟨Nat.le_of_ble_eq_true rfl, Nat.le_of_ble_eq_true rfl⟩) (fun r u H locs hp hh => ?_)
                  obtain ⟨rfl, rfl⟩ := hp
                  refine stp v b2 u1 ((eJ v vsp).2 b4) (fun h => absurd h hkq) (fun _ => ⟨vsp, ?_⟩) H locs hh
                  rw [← y3]
                  constructor
                  · intro h
                    refine jf_G_edge hG y2 hqc (e := vq) ?_ (by rw [hzq]; exact bq)
                    rw [← etk, b1, h]
                  · intro h
                    rw [etk, h, hzq, bq] at b1
                    omega
                have hc : fk = a := hc
                have hkq : k = q := by
                  by_cases h : k = q
                  · exact h
                  · obtain ⟨y1, y2, _⟩ := ix5 h
                    have := jf_G_inj hG (i := (q + (c0 + 1) - k) % (c0 + 1)) (j := 0) (by omega) (by omega) (by rw [← efk, hc, hz0])
                    omega
                obtain ⟨y1, y2⟩ := ix4 hkq
                refine lv_iload X.1 X.2.1 d_M_keep_313 (lv_at hl 3 rfl) ?_
                refine lv_goto (tgt := 328) X.1 X.2.1 d_M_keep_315 (by decide) ?_
                refine stp sp hsp (va_up_self _ _ _) (Or.inl ⟨by rw [va_up_self, hc], by rw [va_up_self, etk, y2, hzc]⟩) (fun _ => rfl) (fun h => absurd hkq h) H locs hh
            have zend : z ((q + (c0 + 1) - (c0 + 1)) % (c0 + 1)) = lst := by
              rw [show q + (c0 + 1) - (c0 + 1) = q by omega, Nat.mod_eq_of_lt (by omega)]; exact hzq
            have zbeg : z ((q + (c0 + 1) - 0) % (c0 + 1)) = lst := by
              rw [show q + (c0 + 1) - 0 = q + (c0 + 1) by omega, Nat.add_mod_right, Nat.mod_eq_of_lt (by omega)]; exact hzq
            rcases hcase with ⟨hl1, h6⟩ | ⟨hl1, h6, h7⟩
            · -- the new edge goes again
              have hq0 : q = 0 := jf_G_inj hG (by omega) (by omega) (by rw [hzq, hz0, hl1])
              refine go (fun k w3 => (k = 0 → jf_Q0 n lst (va_up us sp 1) (va_up lo sp a) (va_up hi sp (w a)) (va_up la2 sp w) sp (z ((q + (c0 + 1) - k) % (c0 + 1))) w3) ∧ (0 < k → jf_Q1 n lst (va_up us sp 1) (va_up lo sp a) (va_up hi sp (w a)) (va_up la2 sp w) sp (z ((q + (c0 + 1) - k) % (c0 + 1))) w3)) ?_ ?_ ?_ (c0 + 1 + 1) 0 id rd H locs ls (by omega) (by omega) ⟨fun _ => by rw [zbeg]; exact jf_Q0_id, fun h => absurd h (Nat.not_lt_zero _)⟩ hh hl
              · rintro k w3 ⟨j0, j1⟩
                by_cases h : k = 0
                · exact (j0 h).1
                · exact (j1 (by omega)).1
              · rintro k w3 tt v hk ⟨j0, j1⟩ hv hv1 hvj hv2 hv3 g1 g4 g5 g6
                refine ⟨fun h => absurd h (Nat.succ_ne_zero _), fun _ => ?_⟩
                by_cases h : k = 0
                · have := hv2 (by omega)
                  subst this
                  exact jf_Q01 (j0 h) g1 g4 g5 g6
                · exact jf_Q11 hV1 (j1 (by omega)) hv hv1 (hv3 (by omega)).1 g1 g4 g5 g6
              · rintro w3 rd H locs ls ⟨_, j1⟩ hh hl
                have hQ := j1 (by omega)
                rw [zend] at hQ
                subst h6
                have hQ2 := hQ
                rw [hl1] at hQ2
                obtain ⟨n1, n2, n3⟩ := jf_new hI2 hsp hsp0 hw2 hab hbn rfl hfx hQ2
                refine lv_aload_n X.1 X.2.1 d_M_keep_359 rfl (lv_at hl 9 rfl) ?_
                refine hl_get X hK hh (ref := "CycleGroupsModel") i_M (ci := 5) rfl 14 (by decide) w_365 rfl (md_in hd (k := 0) rfl) md_at_0 rfl d_M_keep_360 ?_
                refine lv_iload X.1 X.2.1 d_M_keep_363 (lv_at hl 3 rfl) ?_
                refine lv_if_eq (tgt := 373) X.1 X.2.1 d_M_keep_365 (by decide) (fun hc => absurd hc (by decide)) (fun _ => ?_)
                refine lv_iload X.1 X.2.1 d_M_keep_368 (lv_at hl 1 rfl) ?_
                refine lv_goto (tgt := 375) X.1 X.2.1 d_M_keep_370 (by decide) ?_
                refine lv_iconst (v := nI 0) X.1 X.2.1 d_M_keep_375 (by decide) ?_
                refine hl_zastN X hK hh (md_in hd (k := 14) rfl) (md_at_14 hd) (by omega) (by decide) (by first | exact Or.inl rfl | exact Or.inr rfl) d_M_keep_376 (fun H locs hh => ?_)
                have hh : hl_H g (hm_A sz L) s.heap L (mf g d f0 n mm sm kn mk r3 r5 r7 r8 r10 (va_up lo sp a) (va_up hi sp (w a)) (fw lab sp w 24) (va_up (va_up us sp 1) sp 0) qu by' sn w3 rd r20 r21 z r23) H locs := md_set_14 hd hh
                refine tail _ w3 rd H locs ls n1 (fun e he h1 => ?_) hQ.1 n3 (fun x hx => ?_) (by omega) hh hl
                · by_cases e0 : e = sp
                  · rw [e0, va_up_self] at h1; exact absurd h1 (by decide)
                  · rwa [va_up_ne _ _ e0] at h1
                · rcases Nat.lt_or_eq_of_le hx with h | h
                  · exact hQ.2.1 x h
                  · rw [h]; exact hQ.2.2.1
            · -- an old one goes
              have hq1 : q ≠ 0 := fun h => hl1 (by rw [← hzq, h, hz0])
              have zc : z ((q + (c0 + 1) - c0) % (c0 + 1)) = z (q + 1) := by
                rw [show q + (c0 + 1) - c0 = q + 1 by omega, Nat.mod_eq_of_lt (by omega)]
              refine go (fun k w3 => (k ≤ c0 → jf_Q0 n lst (va_up us sp 1) (va_up lo sp a) (va_up hi sp (w a)) (va_up la2 sp w) vq (z ((q + (c0 + 1) - k) % (c0 + 1))) w3) ∧ (c0 < k → jf_Q1 n lst (va_up us sp 1) (va_up lo sp a) (va_up hi sp (w a)) (va_up la2 sp w) vq (z ((q + (c0 + 1) - k) % (c0 + 1))) w3 ∧ jf_cn (va_up (va_up us sp 1) vq 0) (va_up lo sp a) (va_up hi sp (w a)) lst (z (q + 1)))) ?_ ?_ ?_ (c0 + 1 + 1) 0 id rd H locs ls (by omega) (by omega) ⟨fun _ => by rw [zbeg]; exact jf_Q0_id, fun h => absurd h (Nat.not_lt_zero _)⟩ hh hl
              · rintro k w3 ⟨j0, j1⟩
                by_cases h : k ≤ c0
                · exact (j0 h).1
                · exact (j1 (by omega)).1.1
              · rintro k w3 tt v hk ⟨j0, j1⟩ hv hv1 hvj hv2 hv3 g1 g4 g5 g6
                have hQ := j0 (by omega)
                by_cases h : k = c0
                · subst h
                  have hvq := ((hv3 (by omega)).2).2 rfl
                  subst hvq
                  refine ⟨fun h => absurd h (by omega), fun _ => ⟨jf_Q01 hQ g1 g4 g5 g6, ?_⟩⟩
                  have := hQ.2.2.2.2
                  rwa [zc] at this
                · refine ⟨fun _ => ?_, fun h2 => absurd h2 (by omega)⟩
                  refine jf_Q00 hV1 hQ hv hv1 ?_ hvj g1 g4 g5 g6
                  by_cases h2 : k = q
                  · rw [hv2 h2]; exact fun h3 => old vq uq h3.symm
                  · exact fun h3 => h (((hv3 h2).2).1 h3)
              · rintro w3 rd H locs ls ⟨_, j1⟩ hh hl
                obtain ⟨hQ, hcn⟩ := j1 (by omega)
                rw [zend] at hQ
                subst h6
                subst h7
                obtain ⟨n1, n2, n3⟩ := jf_swap hI2 hsp hsp0 hw2 hab hbn rfl hfx vq24 uq hloq.1 (by rw [hloq.2]; exact hcn) hQ
                refine lv_aload_n X.1 X.2.1 d_M_keep_359 rfl (lv_at hl 9 rfl) ?_
                refine hl_get X hK hh (ref := "CycleGroupsModel") i_M (ci := 5) rfl 14 (by decide) w_365 rfl (md_in hd (k := 0) rfl) md_at_0 rfl d_M_keep_360 ?_
                refine lv_iload X.1 X.2.1 d_M_keep_363 (lv_at hl 3 rfl) ?_
                refine lv_if_eq (tgt := 373) X.1 X.2.1 d_M_keep_365 (by decide) (fun _ => ?_) (fun hc => absurd (by decide) hc)
                refine lv_iload X.1 X.2.1 d_M_keep_373 (lv_at hl 2 rfl) ?_
                refine lv_iconst (v := nI 0) X.1 X.2.1 d_M_keep_375 (by decide) ?_
                refine hl_zastN X hK hh (md_in hd (k := 14) rfl) (md_at_14 hd) (by omega) (by decide) (by first | exact Or.inl rfl | exact Or.inr rfl) d_M_keep_376 (fun H locs hh => ?_)
                have hh : hl_H g (hm_A sz L) s.heap L (mf g d f0 n mm sm kn mk r3 r5 r7 r8 r10 (va_up lo sp a) (va_up hi sp (w a)) (fw lab sp w 24) (va_up (va_up us sp 1) vq 0) qu by' sn w3 rd r20 r21 z r23) H locs := md_set_14 hd hh
                refine tail _ w3 rd H locs ls n1 (fun e he h1 => ?_) hQ.1 n3 (fun x hx => ?_) (by omega) hh hl
                · by_cases e0 : e = vq
                  · rw [e0, va_up_self] at h1; exact absurd h1 (by decide)
                  · rwa [va_up_ne _ _ e0] at h1
                · rcases Nat.lt_or_eq_of_le hx with h | h
                  · exact hQ.2.1 x h
                  · rw [h]; exact hQ.2.2.1
          have copy : ∀ (sp : Nat), sp < 24 → us sp = 0 → ∀ (t2 i : Nat) (y : Nat → Nat) (H : Heap) (locs : List Loc) (ls : Array Slot), 24 + 1 ≤ i + t2 → i ≤ 24 → (∀ p, p < i → y p = p) → (∀ p, i ≤ p → y p = w p) → hl_H g (hm_A sz L) s.heap L (mf g d f0 n mm sm kn mk r3 r5 r7 r8 r10 (va_up lo sp a) (va_up hi sp (w a)) (fw lab sp w i) (va_up us sp 1) qu by' sn y rd r20 r21 z r23) H locs → lv_has ls 13 [(9, .int (nI i)), (8, .int (nI sp)), (7, .int i7), (6, .int i6), (5, .int (nI q)), (4, .int (nI lst)), (3, .int (nI (c0 + 1))), (2, .int (nI (w a))), (1, .int (nI a)), (0, .ref (d 0))] → W p l e { frames := 1, cells := 0, slots := 0, locals := 30 } s m #[.ref (d 0)] below meth c H locs 0 0 (MQ below (va_Qv (post) (hm_B g sz L) (hm_A sz L)) #[.ref (d 0)] s 0 0 (hm_A sz L)) (F0 m 220 ls []) := by
            intro sp hsp hsp0 t2
            induction t2 with
            | zero => intros; omega
            | succ t2 ih2 =>
              intro i y H locs ls hkt hin hy hy2 hh hl
              refine lv_iload X.1 X.2.1 d_M_keep_220 (lv_at hl 0 rfl) ?_
              refine lv_bipush (v := nI 24) X.1 X.2.1 d_M_keep_222 (by decide) ?_
              refine hn_ige (tgt := 262) X (by omega) (by omega) d_M_keep_224 (by decide) (fun hc => ?_) (fun hc => ?_)
              · have hi9 : i = 24 := by omega
                rw [hi9] at hh
                have hh := md_nrm_18 (x := id) hd hh (fun p hp => hy p (by omega))
                refine lv_iconst (v := nI 0) X.1 X.2.1 d_M_keep_262 (by decide) ?_
                refine lv_istore (lv' := [(9, .int (nI 0)), (8, .int (nI sp)), (7, .int i7), (6, .int i6), (5, .int (nI q)), (4, .int (nI lst)), (3, .int (nI (c0 + 1))), (2, .int (nI (w a))), (1, .int (nI a)), (0, .ref (d 0))]) X.1 X.2.1 d_M_keep_263 hl (by decide) rfl (fun ls hl => ?_)
                exact body sp hsp hsp0 H locs _ rd hh hl
              have hi9 : i < 24 := hc
              have yi := hy2 i (Nat.le_refl _)
              have wi := hw24 i hi9
              refine lv_aload_n X.1 X.2.1 d_M_keep_227 rfl (lv_at hl 9 rfl) ?_
              refine hl_get X hK hh (ref := "CycleGroupsModel") i_M (ci := 5) rfl 13 (by decide) w_364 rfl (md_in hd (k := 0) rfl) md_at_0 rfl d_M_keep_228 ?_
              refine lv_bipush (v := nI 24) X.1 X.2.1 d_M_keep_231 (by decide) ?_
              refine lv_iload X.1 X.2.1 d_M_keep_233 (lv_at hl 1 rfl) ?_
              refine hn_mul X d_M_keep_235 ?_
              refine lv_iload X.1 X.2.1 d_M_keep_236 (lv_at hl 0 rfl) ?_
              refine hn_add X d_M_keep_238 ?_
              refine lv_aload_n X.1 X.2.1 d_M_keep_239 rfl (lv_at hl 9 rfl) ?_
              refine hl_get X hK hh (ref := "CycleGroupsModel") i_M (ci := 5) rfl 18 (by decide) w_369 rfl (md_in hd (k := 0) rfl) md_at_0 rfl d_M_keep_240 ?_
              refine lv_iload X.1 X.2.1 d_M_keep_243 (lv_at hl 0 rfl) ?_
              refine hl_iald X hK hh (md_in hd (k := 18) rfl) (md_at_18 hd) (by omega) (by decide) d_M_keep_245 ?_
              refine hl_iastN X hK hh (md_in hd (k := 13) rfl) (md_at_13 hd) (by omega) (by decide) d_M_keep_246 (fun H locs hh => ?_)
              have hh : hl_H g (hm_A sz L) s.heap L (mf g d f0 n mm sm kn mk r3 r5 r7 r8 r10 (va_up lo sp a) (va_up hi sp (w a)) (va_up (fw lab sp w i) ((24 * sp) + i) (y i)) (va_up us sp 1) qu by' sn y rd r20 r21 z r23) H locs := md_set_13 hd hh
              refine lv_aload_n X.1 X.2.1 d_M_keep_247 rfl (lv_at hl 9 rfl) ?_
              refine hl_get X hK hh (ref := "CycleGroupsModel") i_M (ci := 5) rfl 18 (by decide) w_369 rfl (md_in hd (k := 0) rfl) md_at_0 rfl d_M_keep_248 ?_
              refine lv_iload X.1 X.2.1 d_M_keep_251 (lv_at hl 0 rfl) ?_
              refine lv_iload X.1 X.2.1 d_M_keep_253 (lv_at hl 0 rfl) ?_
              refine hl_iastN X hK hh (md_in hd (k := 18) rfl) (md_at_18 hd) (by omega) (by decide) d_M_keep_255 (fun H locs hh => ?_)
              have hh : hl_H g (hm_A sz L) s.heap L (mf g d f0 n mm sm kn mk r3 r5 r7 r8 r10 (va_up lo sp a) (va_up hi sp (w a)) (va_up (fw lab sp w i) ((24 * sp) + i) (y i)) (va_up us sp 1) qu by' sn (va_up y i i) rd r20 r21 z r23) H locs := md_set_18 hd hh
              refine lv_iinc (v := nI (i + 1)) (lv' := [(9, .int (nI (i + 1))), (8, .int (nI sp)), (7, .int i7), (6, .int i6), (5, .int (nI q)), (4, .int (nI lst)), (3, .int (nI (c0 + 1))), (2, .int (nI (w a))), (1, .int (nI a)), (0, .ref (d 0))]) X.1 X.2.1 d_M_keep_256 hl (k := 0) rfl (hn_inc _) (by decide) rfl (fun ls hl => ?_)
              refine lv_goto (tgt := 220) X.1 X.2.1 d_M_keep_259 (by decide) ?_
              rw [yi, fw_s] at hh
              refine ih2 (i + 1) (va_up y i i) H locs _ (by omega) (by omega) (fun p hp => ?_) (fun p hp => ?_) hh hl
              · by_cases e0 : p = i
                · rw [e0, va_up_self]
                · rw [va_up_ne _ _ e0]; exact hy p (by omega)
              · rw [va_up_ne _ _ (by omega)]; exact hy2 p (by omega)
          refine lv_aload_n X.1 X.2.1 d_M_keep_187 rfl (lv_at hl 7 rfl) ?_
          refine hl_calli hh (hl_runV (k := 0) X hK hh (c_M_free l g _ L d f0 hd n mm sm kn mk r3 r5 r7 r8 r10 lo hi lab us qu by' sn w rd r20 r21 z r23 hu hsu (fun r u => ∃ e, e < 24 ∧ us e = 0 ∧ r = nI e ∧ u = (L, mf g d f0 n mm sm kn mk r3 r5 r7 r8 r10 lo hi lab us qu by' sn w rd r20 r21 z r23)) (fun e h1 h2 => ⟨e, h1, h2, rfl, rfl⟩)) wc_M_free w_503 w_5 wi_M_free ws_M_free (by decide +kernel) rfl rfl ⟨Nat.le_of_ble_eq_true rfl, Nat.le_of_ble_eq_true rfl⟩ (md_in hd (k := 0) rfl) md_at_0 rfl rfl rfl rfl (Nat.le_of_ble_eq_true rfl) hl.1 d_M_keep_188 ⟨Nat.le_of_ble_eq_true rfl, Nat.le_of_ble_eq_true rfl⟩) (fun r u H locs hp hh => ?_)
          obtain ⟨sp, hsp, hsp0, rfl, rfl⟩ := hp
          refine lv_istore (lv' := [(8, .int (nI sp)), (7, .int i7), (6, .int i6), (5, .int (nI q)), (4, .int (nI lst)), (3, .int (nI (c0 + 1))), (2, .int (nI (w a))), (1, .int (nI a)), (0, .ref (d 0))]) X.1 X.2.1 d_M_keep_191 hl (by decide) rfl (fun ls hl => ?_)
          refine lv_aload_n X.1 X.2.1 d_M_keep_193 rfl (lv_at hl 8 rfl) ?_
          refine hl_get X hK hh (ref := "CycleGroupsModel") i_M (ci := 5) rfl 14 (by decide) w_365 rfl (md_in hd (k := 0) rfl) md_at_0 rfl d_M_keep_194 ?_
          refine lv_iload X.1 X.2.1 d_M_keep_197 (lv_at hl 0 rfl) ?_
          refine lv_iconst (v := nI 1) X.1 X.2.1 d_M_keep_199 (by decide) ?_
          refine hl_zastN X hK hh (md_in hd (k := 14) rfl) (md_at_14 hd) (by omega) (by decide) (by first | exact Or.inl rfl | exact Or.inr rfl) d_M_keep_200 (fun H locs hh => ?_)
          have hh : hl_H g (hm_A sz L) s.heap L (mf g d f0 n mm sm kn mk r3 r5 r7 r8 r10 lo hi lab (va_up us sp 1) qu by' sn w rd r20 r21 z r23) H locs := md_set_14 hd hh
          refine lv_aload_n X.1 X.2.1 d_M_keep_201 rfl (lv_at hl 8 rfl) ?_
          refine hl_get X hK hh (ref := "CycleGroupsModel") i_M (ci := 5) rfl 11 (by decide) w_362 rfl (md_in hd (k := 0) rfl) md_at_0 rfl d_M_keep_202 ?_
          refine lv_iload X.1 X.2.1 d_M_keep_205 (lv_at hl 0 rfl) ?_
          refine lv_iload_n X.1 X.2.1 d_M_keep_207 rfl (lv_at hl 7 rfl) ?_
          refine hl_iastN X hK hh (md_in hd (k := 11) rfl) (md_at_11 hd) (by omega) (by decide) d_M_keep_208 (fun H locs hh => ?_)
          have hh : hl_H g (hm_A sz L) s.heap L (mf g d f0 n mm sm kn mk r3 r5 r7 r8 r10 (va_up lo sp a) hi lab (va_up us sp 1) qu by' sn w rd r20 r21 z r23) H locs := md_set_11 hd hh
          refine lv_aload_n X.1 X.2.1 d_M_keep_209 rfl (lv_at hl 8 rfl) ?_
          refine hl_get X hK hh (ref := "CycleGroupsModel") i_M (ci := 5) rfl 12 (by decide) w_363 rfl (md_in hd (k := 0) rfl) md_at_0 rfl d_M_keep_210 ?_
          refine lv_iload X.1 X.2.1 d_M_keep_213 (lv_at hl 0 rfl) ?_
          refine lv_iload_n X.1 X.2.1 d_M_keep_215 rfl (lv_at hl 6 rfl) ?_
          refine hl_iastN X hK hh (md_in hd (k := 12) rfl) (md_at_12 hd) (by omega) (by decide) d_M_keep_216 (fun H locs hh => ?_)
          have hh : hl_H g (hm_A sz L) s.heap L (mf g d f0 n mm sm kn mk r3 r5 r7 r8 r10 (va_up lo sp a) (va_up hi sp (w a)) lab (va_up us sp 1) qu by' sn w rd r20 r21 z r23) H locs := md_set_12 hd hh
          refine lv_iconst (v := nI 0) X.1 X.2.1 d_M_keep_217 (by decide) ?_
          refine lv_istore (lv' := [(9, .int (nI 0)), (8, .int (nI sp)), (7, .int i7), (6, .int i6), (5, .int (nI q)), (4, .int (nI lst)), (3, .int (nI (c0 + 1))), (2, .int (nI (w a))), (1, .int (nI a)), (0, .ref (d 0))]) X.1 X.2.1 d_M_keep_218 hl (by decide) rfl (fun ls hl => ?_)
          refine copy sp hsp hsp0 25 0 w H locs _ (by omega) (by omega) (fun p hp => absurd hp (Nat.not_lt_zero _)) (fun _ _ => rfl) ?_ hl
          rw [fw_0]; exact hh
        have find : ∀ (t2 i : Nat) (H : Heap) (locs : List Loc) (ls : Array Slot), q + 1 ≤ i + t2 → i ≤ q → hl_H g (hm_A sz L) s.heap L (mf g d f0 n mm sm kn mk r3 r5 r7 r8 r10 lo hi lab us qu by' sn w rd r20 r21 z r23) H locs → lv_has ls 13 [(5, .int (nI i)), (4, .int (nI lst)), (3, .int (nI (c0 + 1))), (2, .int (nI (w a))), (1, .int (nI a)), (0, .ref (d 0))] → W p l e { frames := 1, cells := 0, slots := 0, locals := 30 } s m #[.ref (d 0)] below meth c H locs 0 0 (MQ below (va_Qv (post) (hm_B g sz L) (hm_A sz L)) #[.ref (d 0)] s 0 0 (hm_A sz L)) (F0 m 138 ls []) := by
          intro t2
          induction t2 with
          | zero => intros; omega
          | succ t2 ih2 =>
            intro i H locs ls hkt hin hh hl
            have zi := hz24 i (by omega)
            refine lv_aload_n X.1 X.2.1 d_M_keep_138 rfl (lv_at hl 5 rfl) ?_
            refine hl_get X hK hh (ref := "CycleGroupsModel") i_M (ci := 5) rfl 22 (by decide) w_373 rfl (md_in hd (k := 0) rfl) md_at_0 rfl d_M_keep_139 ?_
            refine lv_iload X.1 X.2.1 d_M_keep_142 (lv_at hl 0 rfl) ?_
            refine hl_iald X hK hh (md_in hd (k := 22) rfl) (md_at_22 hd) (by omega) (by decide) d_M_keep_144 ?_
            refine lv_iload X.1 X.2.1 d_M_keep_145 (lv_at hl 1 rfl) ?_
            refine hn_ieq (tgt := 156) X (by omega) (by omega) d_M_keep_147 (by decide) (fun hc => ?_) (fun hc => ?_)
            · have hc : z i = lst := hc
              have hiq : i = q := jf_G_inj hG (by omega) (by omega) (by rw [hc, hzq])
              subst hiq
              refine lv_iload X.1 X.2.1 d_M_keep_156 (lv_at hl 1 rfl) ?_
              refine lv_iload_n X.1 X.2.1 d_M_keep_158 rfl (lv_at hl 4 rfl) ?_
              refine hn_ine (tgt := 166) X (by omega) (by omega) d_M_keep_159 (by decide) (fun hc => ?_) (fun hc => ?_)
              · have hc2 : ¬ lst = a := hc
                refine lv_iconst (v := nI 0) X.1 X.2.1 d_M_keep_166 (by decide) ?_
                refine lv_istore (lv' := [(6, .int (nI 0)), (5, .int (nI i)), (4, .int (nI lst)), (3, .int (nI (c0 + 1))), (2, .int (nI (w a))), (1, .int (nI a)), (0, .ref (d 0))]) X.1 X.2.1 d_M_keep_167 hl (by decide) rfl (fun ls hl => ?_)
                refine lv_iload X.1 X.2.1 d_M_keep_169 (lv_at hl 0 rfl) ?_
                refine lv_if_eq (tgt := 178) X.1 X.2.1 d_M_keep_171 (by decide) (fun _ => ?_) (fun hc => absurd (by decide) hc)
                refine lv_aload_n X.1 X.2.1 d_M_keep_178 rfl (lv_at hl 6 rfl) ?_
                refine hl_get X hK hh (ref := "CycleGroupsModel") i_M (ci := 5) rfl 16 (by decide) w_367 rfl (md_in hd (k := 0) rfl) md_at_0 rfl d_M_keep_179 ?_
                refine lv_iload X.1 X.2.1 d_M_keep_182 (lv_at hl 2 rfl) ?_
                refine hl_bald X hK hh (md_in hd (k := 16) rfl) (md_at_16 hd) (by omega) bq d_M_keep_184 ?_
                refine lv_istore (lv' := [(7, .int (nI vq)), (6, .int (nI 0)), (5, .int (nI i)), (4, .int (nI lst)), (3, .int (nI (c0 + 1))), (2, .int (nI (w a))), (1, .int (nI a)), (0, .ref (d 0))]) X.1 X.2.1 d_M_keep_185 hl (by decide) rfl (fun ls hl => ?_)
                exact rest (nI 0) (nI vq) (Or.inr ⟨hc2, rfl, rfl⟩) H locs _ hh hl
              have hc2 : lst = a := hc
              refine lv_iconst (v := nI 1) X.1 X.2.1 d_M_keep_162 (by decide) ?_
              refine lv_goto (tgt := 167) X.1 X.2.1 d_M_keep_163 (by decide) ?_
              refine lv_istore (lv' := [(6, .int (nI 1)), (5, .int (nI i)), (4, .int (nI lst)), (3, .int (nI (c0 + 1))), (2, .int (nI (w a))), (1, .int (nI a)), (0, .ref (d 0))]) X.1 X.2.1 d_M_keep_167 hl (by decide) rfl (fun ls hl => ?_)
              refine lv_iload X.1 X.2.1 d_M_keep_169 (lv_at hl 0 rfl) ?_
              refine lv_if_eq (tgt := 178) X.1 X.2.1 d_M_keep_171 (by decide) (fun hc => absurd hc (by decide)) (fun _ => ?_)
              refine lv_iconst (v := -1) X.1 X.2.1 d_M_keep_174 (by decide) ?_
              refine lv_goto (tgt := 185) X.1 X.2.1 d_M_keep_175 (by decide) ?_
              refine lv_istore (lv' := [(7, .int (-1)), (6, .int (nI 1)), (5, .int (nI i)), (4, .int (nI lst)), (3, .int (nI (c0 + 1))), (2, .int (nI (w a))), (1, .int (nI a)), (0, .ref (d 0))]) X.1 X.2.1 d_M_keep_185 hl (by decide) rfl (fun ls hl => ?_)
              exact rest (nI 1) (-1) (Or.inl ⟨hc2, rfl⟩) H locs _ hh hl
            have hc : ¬ z i = lst := hc
            have hne2 : i ≠ q := fun h => hc (by rw [h]; exact hzq)
            refine lv_iinc (v := nI (i + 1)) (lv' := [(5, .int (nI (i + 1))), (4, .int (nI lst)), (3, .int (nI (c0 + 1))), (2, .int (nI (w a))), (1, .int (nI a)), (0, .ref (d 0))]) X.1 X.2.1 d_M_keep_150 hl (k := 0) rfl (hn_inc _) (by decide) rfl (fun ls hl => ?_)
            refine lv_goto (tgt := 138) X.1 X.2.1 d_M_keep_153 (by decide) ?_
            exact ih2 (i + 1) H locs _ (by omega) (by omega) hh hl
        refine lv_iconst (v := nI 0) X.1 X.2.1 d_M_keep_135 (by decide) ?_
        refine lv_istore (lv' := [(5, .int (nI 0)), (4, .int (nI lst)), (3, .int (nI (c0 + 1))), (2, .int (nI (w a))), (1, .int (nI a)), (0, .ref (d 0))]) X.1 X.2.1 d_M_keep_136 hl (by decide) rfl (fun ls hl => ?_)
        exact find (q + 1) 0 H locs _ (by omega) (by omega) hh hl
      -- the way back
      have back : ∀ (qu by' sn dep : Nat → Nat), jf_B us lo hi (w a) sn by' dep → ∀ (t2 c0 v lst : Nat) (y : Nat → Nat) (H : Heap) (locs : List Loc) (ls : Array Slot), dep v < t2 → jf_G us lo hi (w a) sn by' dep a (va_up y c0 v) c0 → (∀ i, i < c0 → lst ≤ y i) → lst ≤ a → (lst = a ∨ ∃ i, i < c0 ∧ y i = lst) →
          hl_H g (hm_A sz L) s.heap L (mf g d f0 n mm sm kn mk r3 r5 r7 r8 r10 lo hi lab us qu by' sn w rd r20 r21 y r23) H locs → lv_has ls 13 [(5, .int (nI v)), (4, .int (nI lst)), (3, .int (nI c0)), (2, .int (nI (w a))), (1, .int (nI a)), (0, .ref (d 0))] → W p l e { frames := 1, cells := 0, slots := 0, locals := 30 } s m #[.ref (d 0)] below meth c H locs 0 0 (MQ below (va_Qv (post) (hm_B g sz L) (hm_A sz L)) #[.ref (d 0)] s 0 0 (hm_A sz L)) (F0 m 40 ls []) := by
        intro qu by' sn dep hB t2
        induction t2 with
        | zero => intros; omega
        | succ t2 ih2 =>
          intro c0 v lst y H locs ls hdv hG hly hlsa hex hh hl
          have g2 := hG.2.1
          have g3 := hG.2.2.1
          have g4 := hG.2.2.2.1
          rw [va_up_self] at g2 g3 g4
          have yo : ∀ i, i < c0 → va_up y c0 v i = y i := fun i hi => va_up_ne _ _ (by omega)
          have cont : ∀ l2, l2 ≤ lst → l2 ≤ v → (l2 = lst ∨ l2 = v) → ∀ (H : Heap) (locs : List Loc) (ls : Array Slot), hl_H g (hm_A sz L) s.heap L (mf g d f0 n mm sm kn mk r3 r5 r7 r8 r10 lo hi lab us qu by' sn w rd r20 r21 (va_up y c0 v) r23) H locs → lv_has ls 13 [(5, .int (nI v)), (4, .int (nI lst)), (3, .int (nI c0)), (2, .int (nI (w a))), (1, .int (nI a)), (0, .ref (d 0))] → W p l e { frames := 1, cells := 0, slots := 0, locals := 30 } s m #[.ref (d 0)] below meth c H locs 0 0 (MQ below (va_Qv (post) (hm_B g sz L) (hm_A sz L)) #[.ref (d 0)] s 0 0 (hm_A sz L)) (F0 m 67 ls [.int (nI l2)]) := by
            intro l2 k1 k2 k3 H locs ls hh hl
            have k4 : ∀ i, i < c0 + 1 → l2 ≤ va_up y c0 v i := fun i hi => by
              by_cases e0 : i = c0
              · rw [e0, va_up_self]; exact k2
              · rw [yo i (by omega)]; have := hly i (by omega); omega
            have k5 : l2 = a ∨ ∃ i, i < c0 + 1 ∧ va_up y c0 v i = l2 := by
              rcases k3 with h | h
              · rcases hex with h2 | ⟨i, h2, h3⟩
                · left; omega
                · right; exact ⟨i, by omega, by rw [yo i h2, h3, h]⟩
              · right; exact ⟨c0, by omega, by rw [va_up_self, h]⟩
            by_cases hvb : v = w a
            · have b0 : by' v = 0 := by rw [hvb]; exact hB.2.2.2.1
              refine lv_istore (lv' := [(4, .int (nI l2)), (5, .int (nI v)), (3, .int (nI c0)), (2, .int (nI (w a))), (1, .int (nI a)), (0, .ref (d 0))]) X.1 X.2.1 d_M_keep_67 hl (by decide) rfl (fun ls hl => ?_)
              refine lv_iinc (v := nI (c0 + 1)) (lv' := [(3, .int (nI (c0 + 1))), (4, .int (nI l2)), (5, .int (nI v)), (2, .int (nI (w a))), (1, .int (nI a)), (0, .ref (d 0))]) X.1 X.2.1 d_M_keep_69 hl (k := 2) rfl (hn_inc _) (by decide) rfl (fun ls hl => ?_)
              refine lv_aload_n X.1 X.2.1 d_M_keep_72 rfl (lv_at hl 5 rfl) ?_
              refine hl_get X hK hh (ref := "CycleGroupsModel") i_M (ci := 5) rfl 16 (by decide) w_367 rfl (md_in hd (k := 0) rfl) md_at_0 rfl d_M_keep_73 ?_
              refine lv_iload X.1 X.2.1 d_M_keep_76 (lv_at hl 2 rfl) ?_
              refine hl_baldM X hK hh (md_in hd (k := 16) rfl) (md_at_16 hd) (by omega) b0 d_M_keep_78 ?_
              refine lv_if_ge (tgt := 86) X.1 X.2.1 d_M_keep_79 (by decide) (fun hc => ?_) (fun hc => ?_)
              · exact absurd hc (by decide)
              refine lv_iconst (v := -1) X.1 X.2.1 d_M_keep_82 (by decide) ?_
              refine lv_goto (tgt := 130) X.1 X.2.1 d_M_keep_83 (by decide) ?_
              refine lv_istore (lv' := [(5, .int (-1)), (3, .int (nI (c0 + 1))), (4, .int (nI l2)), (2, .int (nI (w a))), (1, .int (nI a)), (0, .ref (d 0))]) X.1 X.2.1 d_M_keep_130 hl (by decide) rfl (fun ls hl => ?_)
              refine lv_goto (tgt := 40) X.1 X.2.1 d_M_keep_132 (by decide) ?_
              refine lv_iload X.1 X.2.1 d_M_keep_40 (lv_at hl 0 rfl) ?_
              refine lv_if_lt (tgt := 135) X.1 X.2.1 d_M_keep_42 (by decide) (fun hc => ?_) (fun hc => ?_)
              · skip
                refine ring qu by' sn dep hB c0 l2 (va_up y c0 v) hG (by rw [va_up_self]; exact hvb) (fun i hi => k4 i (by omega)) ?_ H locs _ hh (lv_sub hl [2, 1, 3, 4, 5] rfl)
                rcases k5 with h | ⟨i, h1, h2⟩
                · exact ⟨0, by omega, by rw [hG.1, h]⟩
                · exact ⟨i, by omega, h2⟩
              · exact absurd (show (-1 : Int32) < 0 by decide) hc
            obtain ⟨x, par, p1, p2, p3, p4, p5, p6, p7, p8⟩ := hB.2.2.2.2.2 v g2 g3 hvb
            obtain ⟨x1, x2⟩ := hlb x p2 p3
            obtain ⟨_, v1, _, _, _⟩ := hV x p2 p3
            have hG2 := jf_Gs hG (e := x) (p := par) (by rw [va_up_self]; exact hvb) (by rw [va_up_self]; exact p1) p2 p3 (by rw [va_up_self]; exact p4) (by rw [va_up_self]; exact p5) p6 p7 (by rw [va_up_self]; exact p8)
            refine lv_istore (lv' := [(4, .int (nI l2)), (5, .int (nI v)), (3, .int (nI c0)), (2, .int (nI (w a))), (1, .int (nI a)), (0, .ref (d 0))]) X.1 X.2.1 d_M_keep_67 hl (by decide) rfl (fun ls hl => ?_)
            refine lv_iinc (v := nI (c0 + 1)) (lv' := [(3, .int (nI (c0 + 1))), (4, .int (nI l2)), (5, .int (nI v)), (2, .int (nI (w a))), (1, .int (nI a)), (0, .ref (d 0))]) X.1 X.2.1 d_M_keep_69 hl (k := 2) rfl (hn_inc _) (by decide) rfl (fun ls hl => ?_)
            refine lv_aload_n X.1 X.2.1 d_M_keep_72 rfl (lv_at hl 5 rfl) ?_
            refine hl_get X hK hh (ref := "CycleGroupsModel") i_M (ci := 5) rfl 16 (by decide) w_367 rfl (md_in hd (k := 0) rfl) md_at_0 rfl d_M_keep_73 ?_
            refine lv_iload X.1 X.2.1 d_M_keep_76 (lv_at hl 2 rfl) ?_
            refine hl_bald X hK hh (md_in hd (k := 16) rfl) (md_at_16 hd) (by omega) p1 d_M_keep_78 ?_
            refine lv_if_ge (tgt := 86) X.1 X.2.1 d_M_keep_79 (by decide) (fun hc => ?_) (fun hc => ?_)
            · skip
              refine lv_aload_n X.1 X.2.1 d_M_keep_86 rfl (lv_at hl 5 rfl) ?_
              refine hl_get X hK hh (ref := "CycleGroupsModel") i_M (ci := 5) rfl 11 (by decide) w_362 rfl (md_in hd (k := 0) rfl) md_at_0 rfl d_M_keep_87 ?_
              refine lv_aload_n X.1 X.2.1 d_M_keep_90 rfl (lv_at hl 5 rfl) ?_
              refine hl_get X hK hh (ref := "CycleGroupsModel") i_M (ci := 5) rfl 16 (by decide) w_367 rfl (md_in hd (k := 0) rfl) md_at_0 rfl d_M_keep_91 ?_
              refine lv_iload X.1 X.2.1 d_M_keep_94 (lv_at hl 2 rfl) ?_
              refine hl_bald X hK hh (md_in hd (k := 16) rfl) (md_at_16 hd) (by omega) p1 d_M_keep_96 ?_
              refine hl_iald X hK hh (md_in hd (k := 11) rfl) (md_at_11 hd) (by omega) (by decide) d_M_keep_97 ?_
              refine lv_iload X.1 X.2.1 d_M_keep_98 (lv_at hl 2 rfl) ?_
              refine hn_ine (tgt := 118) X (by omega) (by omega) d_M_keep_100 (by decide) (fun hc => ?_) (fun hc => ?_)
              · have hc2 : ¬ lo x = v := hc
                have ep : lo x = par := by rcases p4 with ⟨q1, q2⟩ | ⟨q1, q2⟩ <;> omega
                refine lv_aload_n X.1 X.2.1 d_M_keep_118 rfl (lv_at hl 5 rfl) ?_
                refine hl_get X hK hh (ref := "CycleGroupsModel") i_M (ci := 5) rfl 11 (by decide) w_362 rfl (md_in hd (k := 0) rfl) md_at_0 rfl d_M_keep_119 ?_
                refine lv_aload_n X.1 X.2.1 d_M_keep_122 rfl (lv_at hl 5 rfl) ?_
                refine hl_get X hK hh (ref := "CycleGroupsModel") i_M (ci := 5) rfl 16 (by decide) w_367 rfl (md_in hd (k := 0) rfl) md_at_0 rfl d_M_keep_123 ?_
                refine lv_iload X.1 X.2.1 d_M_keep_126 (lv_at hl 2 rfl) ?_
                refine hl_bald X hK hh (md_in hd (k := 16) rfl) (md_at_16 hd) (by omega) p1 d_M_keep_128 ?_
                refine hl_iald X hK hh (md_in hd (k := 11) rfl) (md_at_11 hd) (by omega) (by decide) d_M_keep_129 ?_
                refine lv_istore (lv' := [(5, .int (nI (lo x))), (3, .int (nI (c0 + 1))), (4, .int (nI l2)), (2, .int (nI (w a))), (1, .int (nI a)), (0, .ref (d 0))]) X.1 X.2.1 d_M_keep_130 hl (by decide) rfl (fun ls hl => ?_)
                refine lv_goto (tgt := 40) X.1 X.2.1 d_M_keep_132 (by decide) ?_
                rw [ep] at hl
                exact ih2 (c0 + 1) par l2 _ H locs _ (by omega) hG2 k4 (by omega) k5 hh (lv_sub hl [0, 2, 1, 3, 4, 5] rfl)
              have hc2 : lo x = v := hc
              have ep : hi x = par := by rcases p4 with ⟨q1, q2⟩ | ⟨q1, q2⟩ <;> omega
              refine lv_aload_n X.1 X.2.1 d_M_keep_103 rfl (lv_at hl 5 rfl) ?_
              refine hl_get X hK hh (ref := "CycleGroupsModel") i_M (ci := 5) rfl 12 (by decide) w_363 rfl (md_in hd (k := 0) rfl) md_at_0 rfl d_M_keep_104 ?_
              refine lv_aload_n X.1 X.2.1 d_M_keep_107 rfl (lv_at hl 5 rfl) ?_
              refine hl_get X hK hh (ref := "CycleGroupsModel") i_M (ci := 5) rfl 16 (by decide) w_367 rfl (md_in hd (k := 0) rfl) md_at_0 rfl d_M_keep_108 ?_
              refine lv_iload X.1 X.2.1 d_M_keep_111 (lv_at hl 2 rfl) ?_
              refine hl_bald X hK hh (md_in hd (k := 16) rfl) (md_at_16 hd) (by omega) p1 d_M_keep_113 ?_
              refine hl_iald X hK hh (md_in hd (k := 12) rfl) (md_at_12 hd) (by omega) (by decide) d_M_keep_114 ?_
              refine lv_goto (tgt := 130) X.1 X.2.1 d_M_keep_115 (by decide) ?_
              refine lv_istore (lv' := [(5, .int (nI (hi x))), (3, .int (nI (c0 + 1))), (4, .int (nI l2)), (2, .int (nI (w a))), (1, .int (nI a)), (0, .ref (d 0))]) X.1 X.2.1 d_M_keep_130 hl (by decide) rfl (fun ls hl => ?_)
              refine lv_goto (tgt := 40) X.1 X.2.1 d_M_keep_132 (by decide) ?_
              rw [ep] at hl
              exact ih2 (c0 + 1) par l2 _ H locs _ (by omega) hG2 k4 (by omega) k5 hh (lv_sub hl [0, 2, 1, 3, 4, 5] rfl)
            · exact absurd (Int32.not_lt.1 (nI_pos (by omega))) hc
          refine lv_iload X.1 X.2.1 d_M_keep_40 (lv_at hl 0 rfl) ?_
          refine lv_if_lt (tgt := 135) X.1 X.2.1 d_M_keep_42 (by decide) (fun hc => ?_) (fun hc => ?_)
          · exact absurd hc (nI_pos (by omega))
          refine lv_aload_n X.1 X.2.1 d_M_keep_45 rfl (lv_at hl 5 rfl) ?_
          refine hl_get X hK hh (ref := "CycleGroupsModel") i_M (ci := 5) rfl 22 (by decide) w_373 rfl (md_in hd (k := 0) rfl) md_at_0 rfl d_M_keep_46 ?_
          refine lv_iload_n X.1 X.2.1 d_M_keep_49 rfl (lv_at hl 2 rfl) ?_
          refine lv_iload X.1 X.2.1 d_M_keep_50 (lv_at hl 0 rfl) ?_
          refine hl_iastN X hK hh (md_in hd (k := 22) rfl) (md_at_22 hd) (by omega) (by decide) d_M_keep_52 (fun H locs hh => ?_)
          have hh : hl_H g (hm_A sz L) s.heap L (mf g d f0 n mm sm kn mk r3 r5 r7 r8 r10 lo hi lab us qu by' sn w rd r20 r21 (va_up y c0 v) r23) H locs := md_set_22 hd hh
          refine lv_iload X.1 X.2.1 d_M_keep_53 (lv_at hl 0 rfl) ?_
          refine lv_iload X.1 X.2.1 d_M_keep_55 (lv_at hl 1 rfl) ?_
          refine hn_ige (tgt := 65) X (by omega) (by omega) d_M_keep_57 (by decide) (fun hc => ?_) (fun hc => ?_)
          · have hc : lst ≤ v := hc
            refine lv_iload X.1 X.2.1 d_M_keep_65 (lv_at hl 1 rfl) ?_
            exact cont lst (Nat.le_refl _) hc (Or.inl rfl) H locs _ hh hl
          have hc : ¬ lst ≤ v := by omega
          refine lv_iload X.1 X.2.1 d_M_keep_60 (lv_at hl 0 rfl) ?_
          refine lv_goto (tgt := 67) X.1 X.2.1 d_M_keep_62 (by decide) ?_
          exact cont v (by omega) (Nat.le_refl _) (Or.inr rfl) H locs _ hh hl
      refine lv_iload_n X.1 X.2.1 d_M_keep_5 rfl (lv_at hl 0 rfl) ?_
      refine lv_if_lt (tgt := 385) X.1 X.2.1 d_M_keep_6 (by decide) (fun hc => ?_) (fun hc => ?_)
      · exact absurd hc (nI_pos (by omega))
      refine lv_aload_n X.1 X.2.1 d_M_keep_9 rfl (lv_at hl 1 rfl) ?_
      refine hl_get X hK hh (ref := "CycleGroupsModel") i_M (ci := 5) rfl 18 (by decide) w_369 rfl (md_in hd (k := 0) rfl) md_at_0 rfl d_M_keep_10 ?_
      refine lv_iload_n X.1 X.2.1 d_M_keep_13 rfl (lv_at hl 0 rfl) ?_
      refine hl_iald X hK hh (md_in hd (k := 18) rfl) (md_at_18 hd) (by omega) (by decide) d_M_keep_14 ?_
      refine lv_istore_n (lv' := [(2, .int (nI (w a))), (1, .int (nI a)), (0, .ref (d 0))]) X.1 X.2.1 d_M_keep_15 rfl hl (by decide) rfl (fun ls hl => ?_)
      refine lv_aload_n X.1 X.2.1 d_M_keep_16 rfl (lv_at hl 2 rfl) ?_
      refine lv_iload_n X.1 X.2.1 d_M_keep_17 rfl (lv_at hl 0 rfl) ?_
      refine lv_iload_n X.1 X.2.1 d_M_keep_18 rfl (lv_at hl 1 rfl) ?_
      refine hl_calli hh (hl_runV (k := 2) X hK hh (c_M_walk l g _ L d f0 hd n mm sm kn mk r3 r5 r7 r8 r10 lo hi lab us qu0 by0 sn0 w rd r20 r21 ri0 r23 hn la2 hV hu (w a) a (hw24 a ha) ha (fun r u => ∃ qu by' sn dep, jf_B us lo hi (w a) sn by' dep ∧ r = nI (sn a) ∧ u = (L, mf g d f0 n mm sm kn mk r3 r5 r7 r8 r10 lo hi lab us qu by' sn w rd r20 r21 ri0 r23)) (fun qu by' sn dep h => ⟨qu, by', sn, dep, h, rfl, rfl⟩)) wc_M_walk w_495 w_5 wi_M_walk ws_M_walk (by decide +kernel) rfl rfl ⟨Nat.le_of_ble_eq_true rfl, Nat.le_of_ble_eq_true rfl⟩ (md_in hd (k := 0) rfl) md_at_0 rfl rfl rfl rfl (Nat.le_of_ble_eq_true rfl) hl.1 d_M_keep_19 ⟨Nat.le_of_ble_eq_true rfl, Nat.le_of_ble_eq_true rfl⟩) (fun r u H locs hp hh => ?_)
      obtain ⟨qu, by', sn, dep, hB, rfl, rfl⟩ := hp
      have sa := hB.1 a
      refine hn_zne (tgt := 32) X (by omega) d_M_keep_22 (by decide) (fun hc => ?_) (fun hc => ?_)
      · have hc : ¬ sn a = 0 := hc
        have hc : sn a = 1 := by omega
        refine lv_iconst (v := nI 0) X.1 X.2.1 d_M_keep_32 (by decide) ?_
        refine lv_istore_n (lv' := [(3, .int (nI 0)), (2, .int (nI (w a))), (1, .int (nI a)), (0, .ref (d 0))]) X.1 X.2.1 d_M_keep_33 rfl hl (by decide) rfl (fun ls hl => ?_)
        refine lv_iload_n X.1 X.2.1 d_M_keep_34 rfl (lv_at hl 2 rfl) ?_
        refine lv_istore (lv' := [(4, .int (nI a)), (3, .int (nI 0)), (2, .int (nI (w a))), (1, .int (nI a)), (0, .ref (d 0))]) X.1 X.2.1 d_M_keep_35 hl (by decide) rfl (fun ls hl => ?_)
        refine lv_iload_n X.1 X.2.1 d_M_keep_37 rfl (lv_at hl 3 rfl) ?_
        refine lv_istore (lv' := [(5, .int (nI a)), (4, .int (nI a)), (3, .int (nI 0)), (2, .int (nI (w a))), (1, .int (nI a)), (0, .ref (d 0))]) X.1 X.2.1 d_M_keep_38 hl (by decide) rfl (fun ls hl => ?_)
        exact back qu by' sn dep hB (dep a + 1) 0 a a ri0 H locs _ (by omega) (jf_G0 hB ha hc) (fun i hi => absurd hi (Nat.not_lt_zero _)) (Nat.le_refl _) (Or.inl rfl) hh (lv_sub hl [0, 1, 2, 3, 4, 5] rfl)
      have hc : sn a = 0 := hc
      refine lv_aload_n X.1 X.2.1 d_M_keep_25 rfl (lv_at hl 2 rfl) ?_
      refine lv_iload_n X.1 X.2.1 d_M_keep_26 rfl (lv_at hl 1 rfl) ?_
      refine lv_iload_n X.1 X.2.1 d_M_keep_27 rfl (lv_at hl 0 rfl) ?_
      refine hl_callv hh (hl_runV (k := 2) X hK hh (c_M_put l g _ L d f0 hd n mm sm kn mk r3 r5 r7 r8 r10 lo hi lab us qu by' sn w rd r20 r21 ri0 r23 a (w a) ha (hw24 a ha) hw24 hu hsu (fun u => ∃ e, e < 24 ∧ us e = 0 ∧ u = (L, mf g d f0 n mm sm kn mk r3 r5 r7 r8 r10 (va_up lo e a) (va_up hi e (w a)) (fw lab e w 24) (va_up us e 1) qu by' sn w rd r20 r21 ri0 r23)) (fun e h1 h2 => ⟨e, h1, h2, rfl⟩)) wc_M_put w_499 w_5 wi_M_put ws_M_put (by decide +kernel) rfl rfl ⟨Nat.le_of_ble_eq_true rfl, Nat.le_of_ble_eq_true rfl⟩ (md_in hd (k := 0) rfl) md_at_0 rfl rfl rfl rfl (Nat.le_of_ble_eq_true rfl) hl.1 d_M_keep_28 ⟨Nat.le_of_ble_eq_true rfl, Nat.le_of_ble_eq_true rfl⟩) (fun u H locs hp hh => ?_)
      obtain ⟨v, hv, hv0, rfl⟩ := hp
      have J1 : jf_I n (va_up us v 1) (va_up lo v a) (va_up hi v (w a)) (va_up la2 v w) :=
        ⟨jf_us_up hu (Or.inr rfl), jf_V_put hV hw2 hab hbn rfl hfx, jf_put_F hI2.2.2 hv hv0 ha (hw24 a ha) (jf_B_no hB (by omega))⟩
      have J2 : ∀ e, e < 24 → va_up us v 1 e = 1 → fr (fw lab v w 24) e (va_up la2 v w e) := by
        intro e he hu1
        by_cases e0 : e = v
        · rw [e0, va_up_self]; exact fr_fw lab v w
        · rw [va_up_ne _ _ e0] at hu1
          rw [va_up_ne _ _ e0]; exact fr_fo (hla2 e he hu1) e0
      exact hm_vret X hr hlk hh (hpo _ _ _ _ (va_up la2 v w) _ _ _ _ _ _ J1 J2 (fun y => (gp_gen_congr (jf_T_put hv hv0) y).trans (hK2 y))) (Nat.le_of_ble_eq_true rfl) (Nat.le_of_ble_eq_true rfl) d_M_keep_31
  have hw24 : ∀ p, p < 24 → r18 p < 24 := fun p hp => sym_24 hw hn hp
  refine lv_aload_n X.1 X.2.1 d_M_keep_0 rfl (lv_at hl 0 rfl) ?_
  refine hl_calli hh (hl_runV (k := 0) X hK hh (c_M_leastMoved l g _ L d f0 hd n mm sm kn mk r3 r5 r7 r8 r10 r11 r12 r13 r14 r15 r16 r17 r18 r19 r20 r21 r22 r23 hw24 (fun r u => ((r = -1 ∧ ∀ p, p < 24 → r18 p = p) ∨ (∃ a, a < 24 ∧ r = nI a ∧ r18 a ≠ a ∧ ∀ p, p < a → r18 p = p)) ∧ u = (L, mf g d f0 n mm sm kn mk r3 r5 r7 r8 r10 r11 r12 r13 r14 r15 r16 r17 r18 r19 r20 r21 r22 r23)) (fun r h => ⟨h, rfl⟩)) wc_M_leastMoved w_491 w_5 wi_M_leastMoved ws_M_leastMoved (by decide +kernel) rfl rfl ⟨Nat.le_of_ble_eq_true rfl, Nat.le_of_ble_eq_true rfl⟩ (md_in hd (k := 0) rfl) md_at_0 rfl rfl rfl rfl (Nat.le_of_ble_eq_true rfl) hl.1 d_M_keep_1 ⟨Nat.le_of_ble_eq_true rfl, Nat.le_of_ble_eq_true rfl⟩) (fun r u H locs hp hh => ?_)
  obtain ⟨hr3, rfl⟩ := hp
  refine lv_istore_n (lv' := [(1, .int r), (0, .ref (d 0))]) X.1 X.2.1 d_M_keep_4 rfl hl (by decide) rfl (fun ls hl => ?_)
  refine main (24 * 24 + 25) r14 r11 r12 r13 la r18 _ _ _ _ _ r H locs _ hI hla hw (fun _ => Iff.rfl) ?_ hh hl
  rcases hr3 with h | ⟨a, x1, x2, x3, x4⟩
  · exact Or.inl h
  · exact Or.inr ⟨a, x1, x2, x3, x4, by omega⟩

end

