/-! The reference: nextPart, know. -/
section
/-- private void nextPart(int i) -/
theorem c_M_nextPart (l : Launch) (g : hl_G) (sz : Nat) (L : List Nat) (d : Nat → Nat) (f0 : Nat → va_E) (hd : md_D L d) (n mm sm kn mk : Nat) (r3 r5 r7 r8 r10 r11 r12 r13 r14 r15 r16 r17 r18 r19 r20 r21 r22 r23 : Nat → Nat) (hn : n ≤ 24) (a : Nat) (ha : a < n) (gm : Nat → gp_f) (hmk : mk ≤ 24) (hgm : ∀ i, i < mk → gp_sym (ch_D n 0) (gm i)) (h10 : ∀ i, i < mk → fr r10 i (gm i)) (ro : Nat → gp_f) (hE : sp_E mk gm a r7 r8 ro) (post : List Nat × (Nat → va_E) → Prop)
    (hpo : ∀ mk2 gm2 y10 lo hi lab us qu by' sn wk rd ri mo, mk2 ≤ 24 → (∀ i, i < mk2 → gp_sym (ch_D n 0) (gm2 i)) → (∀ i, i < mk2 → fr y10 i (gm2 i)) → (∀ x, gp_gen (gm_T gm2 mk2) x ↔ gp_gen (gm_T gm mk) x ∧ x a = a) → post (L, mf g d f0 n mm sm kn mk2 r3 r5 r7 r8 y10 lo hi lab us qu by' sn wk rd r20 r21 ri mo)) :
    Met l y_M_nextPart (hq y_M_nextPart b_M_nextPart 5 none) { frames := 2, cells := 0, slots := 0, locals := 70 } (hm_P g [.ref (d 0), .int (nI a)] sz L (mf g d f0 n mm sm kn mk r3 r5 r7 r8 r10 r11 r12 r13 r14 r15 r16 r17 r18 r19 r20 r21 r22 r23)) (va_Qv (post) (hm_B g sz L) (hm_A sz L)) 0 0 (hm_A sz L) := by
  refine hm_ofW (by decide) (Nat.le_of_ble_eq_true rfl) ?_
  intro p e s m below meth c X hr hlk hnm hK hsz hh ls hl
  have hl : lv_has ls 5 [(0, .ref (d 0)), (1, .int (nI a))] := hl
  obtain ⟨rv, hrv⟩ := sp_iv hgm hE
  have ha24 : a < 24 := by omega
  have h8 := hE.1
  have rosym : ∀ j, j < 24 → r8 (24 * a + j) = 1 → gp_sym (ch_D n 0) (ro j) := fun j hj h1 => sp_sym hgm hE hj h1
  have fincopy : ∀ (mk2 : Nat) (gm2 : Nat → gp_f) (us lo hi lab : Nat → Nat) (la : Nat → gp_f) (qu by' sn wk rd ri : Nat → Nat) (mo : Nat → Nat), mk2 ≤ 24 → (∀ i, i < mk2 → gp_sym (ch_D n 0) (gm2 i)) → (∀ i, i < mk2 → fr mo i (gm2 i)) → (∀ x, gp_gen (gm_T gm2 mk2) x ↔ gp_gen (gm_T gm mk) x ∧ x a = a) →
      ∀ (t i : Nat) (y : Nat → Nat) (H : Heap) (locs : List Loc) (ls : Array Slot), 24 * mk2 + 1 ≤ i + t → i ≤ 24 * mk2 → (∀ k, k < i → y k = mo k) → hl_H g (hm_A sz L) s.heap L (mf g d f0 n mm sm kn mk2 r3 r5 r7 r8 y lo hi lab us qu by' sn wk rd r20 r21 ri mo) H locs → lv_has ls 5 [(2, .int (nI i)), (0, .ref (d 0)), (1, .int (nI a))] → W p l e { frames := 2, cells := 0, slots := 0, locals := 70 } s m #[.ref (d 0), .int (nI a)] below meth c H locs 0 0 (MQ below (va_Qv (post) (hm_B g sz L) (hm_A sz L)) #[.ref (d 0), .int (nI a)] s 0 0 (hm_A sz L)) (F0 m 222 ls []) := by
    intro mk2 gm2 us lo hi lab la qu by' sn wk rd ri mo hm2 hs2 hf2 hg2 t
    have mo24 : ∀ k, k < 24 * mk2 → mo k < 24 := fun k hk => by
      have h1 := hf2 (k / 24) (by omega) (k % 24) (Nat.mod_lt _ (by decide))
      rw [show 24 * (k / 24) + k % 24 = k by omega] at h1
      rw [h1]; exact sym_24 (hs2 _ (by omega)) hn (Nat.mod_lt _ (by decide))
    induction t with
    | zero => intros; omega
    | succ t ih =>
      intro i y H locs ls hkt hin hy hh hl
      refine lv_iload_n X.1 X.2.1 d_M_nextPart_222 rfl (lv_at hl 0 rfl) ?_
      refine lv_bipush (v := nI 24) X.1 X.2.1 d_M_nextPart_223 (by decide) ?_
      refine lv_aload_n X.1 X.2.1 d_M_nextPart_225 rfl (lv_at hl 1 rfl) ?_
      refine hl_get X hK hh (ref := "CycleGroupsModel") i_M (ci := 5) rfl 9 (by decide) w_360 rfl (md_in hd (k := 0) rfl) md_at_0 rfl d_M_nextPart_226 ?_
      refine hn_mul X d_M_nextPart_229 ?_
      refine hn_ige (tgt := 251) X (by omega) (by omega) d_M_nextPart_230 (by decide) (fun hc => ?_) (fun hc => ?_)
      · skip
        exact hm_vret X hr hlk hh (hpo mk2 gm2 y lo hi lab us qu by' sn wk rd ri mo hm2 hs2 (fun x hx p hp => by rw [hy _ (by omega)]; exact hf2 x hx p hp) hg2) (Nat.le_of_ble_eq_true rfl) (Nat.le_of_ble_eq_true rfl) d_M_nextPart_251
      have hi9 : i < 24 * mk2 := hc
      have mi := mo24 i hi9
      refine lv_aload_n X.1 X.2.1 d_M_nextPart_233 rfl (lv_at hl 1 rfl) ?_
      refine hl_get X hK hh (ref := "CycleGroupsModel") i_M (ci := 5) rfl 10 (by decide) w_361 rfl (md_in hd (k := 0) rfl) md_at_0 rfl d_M_nextPart_234 ?_
      refine lv_iload_n X.1 X.2.1 d_M_nextPart_237 rfl (lv_at hl 0 rfl) ?_
      refine lv_aload_n X.1 X.2.1 d_M_nextPart_238 rfl (lv_at hl 1 rfl) ?_
      refine hl_get X hK hh (ref := "CycleGroupsModel") i_M (ci := 5) rfl 23 (by decide) w_374 rfl (md_in hd (k := 0) rfl) md_at_0 rfl d_M_nextPart_239 ?_
      refine lv_iload_n X.1 X.2.1 d_M_nextPart_242 rfl (lv_at hl 0 rfl) ?_
      refine hl_iald X hK hh (md_in hd (k := 23) rfl) (md_at_23 hd) (by omega) (by decide) d_M_nextPart_243 ?_
      refine hl_iastN X hK hh (md_in hd (k := 10) rfl) (md_at_10 hd) (by omega) (by decide) d_M_nextPart_244 (fun H locs hh => ?_)
      have hh : hl_H g (hm_A sz L) s.heap L (mf g d f0 n mm sm kn mk2 r3 r5 r7 r8 (va_up y i (mo i)) lo hi lab us qu by' sn wk rd r20 r21 ri mo) H locs := md_set_10 hd hh
      refine lv_iinc (v := nI (i + 1)) (lv' := [(2, .int (nI (i + 1))), (0, .ref (d 0)), (1, .int (nI a))]) X.1 X.2.1 d_M_nextPart_245 hl (k := 0) rfl (hn_inc _) (by decide) rfl (fun ls hl => ?_)
      refine lv_goto (tgt := 222) X.1 X.2.1 d_M_nextPart_248 (by decide) ?_
      refine ih (i + 1) (va_up y i (mo i)) H locs _ (by omega) (by omega) (fun p hp => ?_) hh hl
      by_cases e0 : p = i
      · rw [e0, va_up_self]
      · rw [va_up_ne _ _ e0]; exact hy p (by omega)
  have coll : ∀ (us lo hi lab : Nat → Nat) (la : Nat → gp_f) (qu by' sn wk rd ri : Nat → Nat), jf_I n us lo hi la → (∀ e, e < 24 → us e = 1 → fr lab e (la e)) → (∀ y, gp_gen (jf_T us la) y → gp_gen (gm_T gm mk) y ∧ y a = a) → (∀ j9, j9 < 24 → r8 (24 * a + j9) = 1 → ∀ x, x < mk → gp_gen (jf_T us la) (rv (gm x j9) ∘ (gm x ∘ ro j9))) → ∀ (t i mk2 : Nat) (gm2 : Nat → gp_f) (mo : Nat → Nat) (H : Heap) (locs : List Loc) (ls : Array Slot), 24 + 1 ≤ i + t → i ≤ 24 → mk2 ≤ i → (∀ x, x < mk2 → fr mo x (gm2 x) ∧ ∃ e, e < i ∧ us e = 1 ∧ gm2 x = la e) → (∀ e, e < i → us e = 1 → ∃ x, x < mk2 ∧ gm2 x = la e) → hl_H g (hm_A sz L) s.heap L (mf g d f0 n mm sm kn mk2 r3 r5 r7 r8 r10 lo hi lab us qu by' sn wk rd r20 r21 ri mo) H locs → lv_has ls 5 [(2, .int (nI i)), (0, .ref (d 0)), (1, .int (nI a))] → W p l e { frames := 2, cells := 0, slots := 0, locals := 70 } s m #[.ref (d 0), .int (nI a)] below meth c H locs 0 0 (MQ below (va_Qv (post) (hm_B g sz L) (hm_A sz L)) #[.ref (d 0), .int (nI a)] s 0 0 (hm_A sz L)) (F0 m 147 ls []) := by
    intro us lo hi lab la qu by' sn wk rd ri hI hla hP1 hP2 t
    have hV := hI.2.1
    induction t with
    | zero => intros; omega
    | succ t ih =>
      intro i mk2 gm2 mo H locs ls hkt hin hmi hg1 hg2 hh hl
      refine lv_iload_n X.1 X.2.1 d_M_nextPart_147 rfl (lv_at hl 0 rfl) ?_
      refine lv_bipush (v := nI 24) X.1 X.2.1 d_M_nextPart_148 (by decide) ?_
      refine hn_ige (tgt := 220) X (by omega) (by omega) d_M_nextPart_150 (by decide) (fun hc => ?_) (fun hc => ?_)
      · have hi9 : i = 24 := by omega
        subst hi9
        have eT : ∀ x, gm_T gm2 mk2 x ↔ jf_T us la x := fun x => by
          constructor
          · rintro ⟨k, hk, rfl⟩
            obtain ⟨_, e, e1, e2, e3⟩ := hg1 k hk
            exact ⟨e, e1, e2, e3⟩
          · rintro ⟨e, e1, e2, rfl⟩
            obtain ⟨k, hk, h1⟩ := hg2 e e1 e2
            exact ⟨k, hk, h1.symm⟩
        have sK : gp_sg (gp_gen (jf_T us la)) := gp_gen_sg (ch_D_nodup n 0) (by rintro x ⟨e, e1, e2, rfl⟩; exact (hV e e1 e2).1)
        refine lv_iconst (v := nI 0) X.1 X.2.1 d_M_nextPart_220 (by decide) ?_
        refine lv_istore_n (lv' := [(2, .int (nI 0)), (0, .ref (d 0)), (1, .int (nI a))]) X.1 X.2.1 d_M_nextPart_221 rfl hl (by decide) rfl (fun ls hl => ?_)
        refine fincopy mk2 gm2 us lo hi lab la qu by' sn wk rd ri mo hmi (fun x hx => ?_) (fun x hx => (hg1 x hx).1) (fun x => ?_) (24 * mk2 + 1) 0 r10 H locs _ (by omega) (by omega) (fun k hk => absurd hk (Nat.not_lt_zero _)) hh (lv_sub hl [0, 1, 2] rfl)
        · obtain ⟨_, e, e1, e2, e3⟩ := hg1 x hx
          rw [e3]; exact (hV e e1 e2).1
        · rw [gp_gen_congr eT x]
          exact ⟨hP1 x, fun h => sp_sch hn ha24 hgm hE hrv sK hP2 x h.1 h.2⟩
      have hi9 : i < 24 := hc
      have ui := hI.1 i
      have skip : (us i = 1 → ∃ x, x < mk2 ∧ gm2 x = la i) → W p l e { frames := 2, cells := 0, slots := 0, locals := 70 } s m #[.ref (d 0), .int (nI a)] below meth c H locs 0 0 (MQ below (va_Qv (post) (hm_B g sz L) (hm_A sz L)) #[.ref (d 0), .int (nI a)] s 0 0 (hm_A sz L)) (F0 m 214 ls []) := by
        intro h
        refine lv_iinc (v := nI (i + 1)) (lv' := [(2, .int (nI (i + 1))), (0, .ref (d 0)), (1, .int (nI a))]) X.1 X.2.1 d_M_nextPart_214 hl (k := 0) rfl (hn_inc _) (by decide) rfl (fun ls hl => ?_)
        refine lv_goto (tgt := 147) X.1 X.2.1 d_M_nextPart_217 (by decide) ?_
        refine ih (i + 1) mk2 gm2 mo H locs _ (by omega) (by omega) (by omega) (fun x hx => ?_) (fun e he h1 => ?_) hh hl
        · obtain ⟨x1, e, e1, e2, e3⟩ := hg1 x hx
          exact ⟨x1, e, by omega, e2, e3⟩
        · by_cases e0 : e = i
          · rw [e0] at h1 ⊢; exact h h1
          · exact hg2 e (by omega) h1
      refine lv_aload_n X.1 X.2.1 d_M_nextPart_153 rfl (lv_at hl 1 rfl) ?_
      refine hl_get X hK hh (ref := "CycleGroupsModel") i_M (ci := 5) rfl 14 (by decide) w_365 rfl (md_in hd (k := 0) rfl) md_at_0 rfl d_M_nextPart_154 ?_
      refine lv_iload_n X.1 X.2.1 d_M_nextPart_157 rfl (lv_at hl 0 rfl) ?_
      refine hl_zald X hK hh (md_in hd (k := 14) rfl) (md_at_14 hd) (by omega) (by decide) d_M_nextPart_158 ?_
      refine hn_zne (tgt := 165) X (by omega) d_M_nextPart_159 (by decide) (fun hc => ?_) (fun hc => ?_)
      · have hc : ¬ us i = 0 := hc
        have hui : us i = 1 := by omega
        have li := hla i hi9 hui
        have si := (hV i hi9 hui).1
        have cpy : ∀ (t2 x : Nat) (H : Heap) (locs : List Loc) (ls : Array Slot), 24 + 1 ≤ x + t2 → x ≤ 24 → hl_H g (hm_A sz L) s.heap L (mf g d f0 n mm sm kn mk2 r3 r5 r7 r8 r10 lo hi lab us qu by' sn wk rd r20 r21 ri (fw mo mk2 (la i) x)) H locs → lv_has ls 5 [(3, .int (nI x)), (2, .int (nI i)), (0, .ref (d 0)), (1, .int (nI a))] → W p l e { frames := 2, cells := 0, slots := 0, locals := 70 } s m #[.ref (d 0), .int (nI a)] below meth c H locs 0 0 (MQ below (va_Qv (post) (hm_B g sz L) (hm_A sz L)) #[.ref (d 0), .int (nI a)] s 0 0 (hm_A sz L)) (F0 m 167 ls []) := by
          intro t2
          induction t2 with
          | zero => intros; omega
          | succ t2 ih2 =>
            intro x H locs ls hkt2 hx24 hh hl
            refine lv_iload_n X.1 X.2.1 d_M_nextPart_167 rfl (lv_at hl 0 rfl) ?_
            refine lv_bipush (v := nI 24) X.1 X.2.1 d_M_nextPart_168 (by decide) ?_
            refine hn_ige (tgt := 204) X (by omega) (by omega) d_M_nextPart_170 (by decide) (fun hc => ?_) (fun hc => ?_)
            · have hx : x = 24 := by omega
              rw [hx] at hh
              refine lv_aload_n X.1 X.2.1 d_M_nextPart_204 rfl (lv_at hl 2 rfl) ?_
              refine lv_dup X.1 X.2.1 d_M_nextPart_205 rfl ?_
              refine hl_get X hK hh (ref := "CycleGroupsModel") i_M (ci := 5) rfl 9 (by decide) w_360 rfl (md_in hd (k := 0) rfl) md_at_0 rfl d_M_nextPart_206 ?_
              refine lv_iconst (v := nI 1) X.1 X.2.1 d_M_nextPart_209 (by decide) ?_
              refine hn_add X d_M_nextPart_210 ?_
              refine hl_put X hK hh (ref := "CycleGroupsModel") i_M t_M t_M_ok n_M (ci := 5) rfl 9 (by decide) w_360 rfl rfl (md_in hd (k := 0) rfl) md_at_0 (by first | rfl | decide) (by first | rfl | decide) (Nat.le_of_ble_eq_true rfl) d_M_nextPart_211 (fun H locs hh => ?_)
              have hh : hl_H g (hm_A sz L) s.heap L (mf g d f0 n mm sm kn (mk2 + 1) r3 r5 r7 r8 r10 lo hi lab us qu by' sn wk rd r20 r21 ri (fw mo mk2 (la i) 24)) H locs := md_set_0 hh
              refine lv_iinc (v := nI (i + 1)) (lv' := [(2, .int (nI (i + 1))), (3, .int (nI x)), (0, .ref (d 0)), (1, .int (nI a))]) X.1 X.2.1 d_M_nextPart_214 hl (k := 1) rfl (hn_inc _) (by decide) rfl (fun ls hl => ?_)
              refine lv_goto (tgt := 147) X.1 X.2.1 d_M_nextPart_217 (by decide) ?_
              refine ih (i + 1) (mk2 + 1) (va_up gm2 mk2 (la i)) _ H locs _ (by omega) (by omega) (by omega) (fun y hy => ?_) (fun e he h1 => ?_) hh (lv_sub hl [0, 2, 3] rfl)
              · by_cases e0 : y = mk2
                · rw [e0, va_up_self]; exact ⟨fr_fw mo _ _, i, by omega, hui, rfl⟩
                · rw [va_up_ne _ _ e0]
                  obtain ⟨x1, e, e1, e2, e3⟩ := hg1 y (by omega)
                  exact ⟨fr_fo x1 e0, e, by omega, e2, e3⟩
              · by_cases e0 : e = i
                · rw [e0]; exact ⟨mk2, by omega, va_up_self _ _ _⟩
                · obtain ⟨y, y1, y2⟩ := hg2 e (by omega) h1
                  exact ⟨y, by omega, by rw [va_up_ne _ _ (by omega)]; exact y2⟩
            have hx : x < 24 := hc
            have f1 := li x hx
            have f2 := sym_24 si hn hx
            refine lv_aload_n X.1 X.2.1 d_M_nextPart_173 rfl (lv_at hl 2 rfl) ?_
            refine hl_get X hK hh (ref := "CycleGroupsModel") i_M (ci := 5) rfl 23 (by decide) w_374 rfl (md_in hd (k := 0) rfl) md_at_0 rfl d_M_nextPart_174 ?_
            refine lv_bipush (v := nI 24) X.1 X.2.1 d_M_nextPart_177 (by decide) ?_
            refine lv_aload_n X.1 X.2.1 d_M_nextPart_179 rfl (lv_at hl 2 rfl) ?_
            refine hl_get X hK hh (ref := "CycleGroupsModel") i_M (ci := 5) rfl 9 (by decide) w_360 rfl (md_in hd (k := 0) rfl) md_at_0 rfl d_M_nextPart_180 ?_
            refine hn_mul X d_M_nextPart_183 ?_
            refine lv_iload_n X.1 X.2.1 d_M_nextPart_184 rfl (lv_at hl 0 rfl) ?_
            refine hn_add X d_M_nextPart_185 ?_
            refine lv_aload_n X.1 X.2.1 d_M_nextPart_186 rfl (lv_at hl 2 rfl) ?_
            refine hl_get X hK hh (ref := "CycleGroupsModel") i_M (ci := 5) rfl 13 (by decide) w_364 rfl (md_in hd (k := 0) rfl) md_at_0 rfl d_M_nextPart_187 ?_
            refine lv_bipush (v := nI 24) X.1 X.2.1 d_M_nextPart_190 (by decide) ?_
            refine lv_iload_n X.1 X.2.1 d_M_nextPart_192 rfl (lv_at hl 1 rfl) ?_
            refine hn_mul X d_M_nextPart_193 ?_
            refine lv_iload_n X.1 X.2.1 d_M_nextPart_194 rfl (lv_at hl 0 rfl) ?_
            refine hn_add X d_M_nextPart_195 ?_
            refine hl_iald X hK hh (md_in hd (k := 13) rfl) (md_at_13 hd) (by omega) (by decide) d_M_nextPart_196 ?_
            refine hl_iastN X hK hh (md_in hd (k := 23) rfl) (md_at_23 hd) (by omega) (by decide) d_M_nextPart_197 (fun H locs hh => ?_)
            have hh : hl_H g (hm_A sz L) s.heap L (mf g d f0 n mm sm kn mk2 r3 r5 r7 r8 r10 lo hi lab us qu by' sn wk rd r20 r21 ri (va_up (fw mo mk2 (la i) x) ((24 * mk2) + x) (lab ((24 * i) + x)))) H locs := md_set_23 hd hh
            refine lv_iinc (v := nI (x + 1)) (lv' := [(3, .int (nI (x + 1))), (2, .int (nI i)), (0, .ref (d 0)), (1, .int (nI a))]) X.1 X.2.1 d_M_nextPart_198 hl (k := 0) rfl (hn_inc _) (by decide) rfl (fun ls hl => ?_)
            refine lv_goto (tgt := 167) X.1 X.2.1 d_M_nextPart_201 (by decide) ?_
            rw [f1, fw_s] at hh
            exact ih2 (x + 1) H locs _ (by omega) (by omega) hh hl
        refine lv_iconst (v := nI 0) X.1 X.2.1 d_M_nextPart_165 (by decide) ?_
        refine lv_istore_n (lv' := [(3, .int (nI 0)), (2, .int (nI i)), (0, .ref (d 0)), (1, .int (nI a))]) X.1 X.2.1 d_M_nextPart_166 rfl hl (by decide) rfl (fun ls hl => ?_)
        refine cpy 25 0 H locs _ (by omega) (by omega) ?_ hl
        rw [fw_0]; exact hh
      have hc : us i = 0 := hc
      refine lv_goto (tgt := 214) X.1 X.2.1 d_M_nextPart_162 (by decide) ?_
      exact skip (fun h => by omega)
  have mid : ∀ (j : Nat), j < n → r8 (24 * a + j) = 1 → (∀ (us lo hi lab : Nat → Nat) (la : Nat → gp_f) (qu by' sn wk rd ri : Nat → Nat) (H : Heap) (locs : List Loc) (ls : Array Slot), jf_I n us lo hi la → (∀ e, e < 24 → us e = 1 → fr lab e (la e)) → (∀ y, gp_gen (jf_T us la) y → gp_gen (gm_T gm mk) y ∧ y a = a) → (∀ j9, j9 < j → r8 (24 * a + j9) = 1 → ∀ x, x < mk → gp_gen (jf_T us la) (rv (gm x j9) ∘ (gm x ∘ ro j9))) → (∀ x, x < mk → gp_gen (jf_T us la) (rv (gm x j) ∘ (gm x ∘ ro j))) → hl_H g (hm_A sz L) s.heap L (mf g d f0 n mm sm kn mk r3 r5 r7 r8 r10 lo hi lab us qu by' sn wk rd r20 r21 ri r23) H locs → lv_has ls 5 [(2, .int (nI j)), (0, .ref (d 0)), (1, .int (nI a))] → W p l e { frames := 2, cells := 0, slots := 0, locals := 70 } s m #[.ref (d 0), .int (nI a)] below meth c H locs 0 0 (MQ below (va_Qv (post) (hm_B g sz L) (hm_A sz L)) #[.ref (d 0), .int (nI a)] s 0 0 (hm_A sz L)) (F0 m 134 ls [])) →
      ∀ (t i : Nat) (us lo hi lab : Nat → Nat) (la : Nat → gp_f) (qu by' sn wk rd ri : Nat → Nat) (H : Heap) (locs : List Loc) (ls : Array Slot), mk + 1 ≤ i + t → i ≤ mk → jf_I n us lo hi la → (∀ e, e < 24 → us e = 1 → fr lab e (la e)) → (∀ y, gp_gen (jf_T us la) y → gp_gen (gm_T gm mk) y ∧ y a = a) → (∀ j9, j9 < j → r8 (24 * a + j9) = 1 → ∀ x, x < mk → gp_gen (jf_T us la) (rv (gm x j9) ∘ (gm x ∘ ro j9))) → (∀ x, x < i → gp_gen (jf_T us la) (rv (gm x j) ∘ (gm x ∘ ro j))) → hl_H g (hm_A sz L) s.heap L (mf g d f0 n mm sm kn mk r3 r5 r7 r8 r10 lo hi lab us qu by' sn wk rd r20 r21 ri r23) H locs → lv_has ls 5 [(3, .int (nI i)), (2, .int (nI j)), (0, .ref (d 0)), (1, .int (nI a))] → W p l e { frames := 2, cells := 0, slots := 0, locals := 70 } s m #[.ref (d 0), .int (nI a)] below meth c H locs 0 0 (MQ below (va_Qv (post) (hm_B g sz L) (hm_A sz L)) #[.ref (d 0), .int (nI a)] s 0 0 (hm_A sz L)) (F0 m 50 ls []) := by
    intro j hj hj1 kk t
    obtain ⟨_, _, rj⟩ := hE.2.2.2.1 j (by omega) hj1
    have rs := rosym j (by omega) hj1
    induction t with
    | zero => intros; omega
    | succ t ih =>
      intro i us lo hi lab la qu by' sn wk rd ri H locs ls hkt hin hI hla hP1 hP2 hP3 hh hl
      refine lv_iload_n X.1 X.2.1 d_M_nextPart_50 rfl (lv_at hl 0 rfl) ?_
      refine lv_aload_n X.1 X.2.1 d_M_nextPart_51 rfl (lv_at hl 2 rfl) ?_
      refine hl_get X hK hh (ref := "CycleGroupsModel") i_M (ci := 5) rfl 9 (by decide) w_360 rfl (md_in hd (k := 0) rfl) md_at_0 rfl d_M_nextPart_52 ?_
      refine hn_ige (tgt := 134) X (by omega) (by omega) d_M_nextPart_55 (by decide) (fun hc => ?_) (fun hc => ?_)
      · have hi9 : i = mk := by omega
        exact kk us lo hi lab la qu by' sn wk rd ri H locs _ hI hla hP1 hP2 (fun x hx => hP3 x (by omega)) hh (lv_sub hl [1, 2, 3] rfl)
      have hi9 : i < mk := hc
      have sm9 := hgm i hi9
      have t24 : gm i j < 24 := sym_24 sm9 hn (by omega)
      have t1 := hE.2.2.2.2 j (by omega) hj1 i hi9
      obtain ⟨_, _, rt⟩ := hE.2.2.2.1 _ t24 t1
      obtain ⟨s1, s2⟩ := sp_one hn hgm hE hrv (by omega) hj1 hi9
      have sw : gp_sym (ch_D n 0) (rv (gm i j) ∘ (gm i ∘ ro j)) := gp_gen_in (gp_sym_sg _) (by rintro t ⟨x, hx, rfl⟩; exact hgm x hx) _ s1
      have w24 : ∀ p, p < 24 → (gm i ∘ ro j) p < 24 := fun p hp => sym_24 (σ := gm i) (p := ro j p) sm9 hn (sym_24 rs hn hp)
      have cpy : ∀ (t2 x : Nat) (y : Nat → Nat) (H : Heap) (locs : List Loc) (ls : Array Slot), 24 + 1 ≤ x + t2 → x ≤ 24 → (∀ p, p < x → y p = gm i (ro j p)) → hl_H g (hm_A sz L) s.heap L (mf g d f0 n mm sm kn mk r3 r5 r7 r8 r10 lo hi lab us qu by' sn y rd r20 r21 ri r23) H locs → lv_has ls 5 [(4, .int (nI x)), (3, .int (nI i)), (2, .int (nI j)), (0, .ref (d 0)), (1, .int (nI a))] → W p l e { frames := 2, cells := 0, slots := 0, locals := 70 } s m #[.ref (d 0), .int (nI a)] below meth c H locs 0 0 (MQ below (va_Qv (post) (hm_B g sz L) (hm_A sz L)) #[.ref (d 0), .int (nI a)] s 0 0 (hm_A sz L)) (F0 m 61 ls []) := by
        intro t2
        induction t2 with
        | zero => intros; omega
        | succ t2 ih2 =>
          intro x y H locs ls hkt2 hx24 hy hh hl
          refine lv_iload X.1 X.2.1 d_M_nextPart_61 (lv_at hl 0 rfl) ?_
          refine lv_bipush (v := nI 24) X.1 X.2.1 d_M_nextPart_63 (by decide) ?_
          refine hn_ige (tgt := 108) X (by omega) (by omega) d_M_nextPart_65 (by decide) (fun hc => ?_) (fun hc => ?_)
          · have hh := md_nrm_18 (x := gm i ∘ ro j) hd hh (fun p hp => hy p (by omega))
            have e1 := h10 i hi9 j (by omega)
            refine lv_aload_n X.1 X.2.1 d_M_nextPart_108 rfl (lv_at hl 3 rfl) ?_
            refine lv_iload_n X.1 X.2.1 d_M_nextPart_109 rfl (lv_at hl 4 rfl) ?_
            refine lv_aload_n X.1 X.2.1 d_M_nextPart_110 rfl (lv_at hl 3 rfl) ?_
            refine hl_get X hK hh (ref := "CycleGroupsModel") i_M (ci := 5) rfl 10 (by decide) w_361 rfl (md_in hd (k := 0) rfl) md_at_0 rfl d_M_nextPart_111 ?_
            refine lv_bipush (v := nI 24) X.1 X.2.1 d_M_nextPart_114 (by decide) ?_
            refine lv_iload_n X.1 X.2.1 d_M_nextPart_116 rfl (lv_at hl 1 rfl) ?_
            refine hn_mul X d_M_nextPart_117 ?_
            refine lv_iload_n X.1 X.2.1 d_M_nextPart_118 rfl (lv_at hl 2 rfl) ?_
            refine hn_add X d_M_nextPart_119 ?_
            refine hl_iald X hK hh (md_in hd (k := 10) rfl) (md_at_10 hd) (by omega) (by decide) d_M_nextPart_120 ?_
            rw [e1]
            refine hl_callv hh (hl_runV (k := 2) X hK hh (c_M_undo l g _ L d f0 hd n mm sm kn mk r3 r5 r7 r8 r10 lo hi lab us qu by' sn (gm i ∘ ro j) rd r20 r21 ri r23 hn a (gm i j) (by omega) (ro (gm i j)) (rv (gm i j)) (rosym _ t24 t1) (hrv _ t24 t1) rt w24) wc_M_undo w_483 w_5 wi_M_undo ws_M_undo (by decide +kernel) rfl rfl ⟨Nat.le_of_ble_eq_true rfl, Nat.le_of_ble_eq_true rfl⟩ (md_in hd (k := 0) rfl) md_at_0 rfl rfl rfl rfl (Nat.le_of_ble_eq_true rfl) hl.1 d_M_nextPart_121 ⟨Nat.le_of_ble_eq_true rfl, Nat.le_of_ble_eq_true rfl⟩) (fun u H locs hp hh => ?_)
            subst hp
            refine lv_aload_n X.1 X.2.1 d_M_nextPart_124 rfl (lv_at hl 3 rfl) ?_
            refine hl_callv hh (hl_runV (k := 0) X hK hh (c_M_keep l g _ L d f0 hd n mm sm kn mk r3 r5 r7 r8 r10 lo hi lab us qu by' sn (rv (gm i j) ∘ (gm i ∘ ro j)) (rv (gm i j)) r20 r21 ri r23 hn la hI hla sw (fun u => ∃ us2 lo2 hi2 lab2 la2 qu2 by2 sn2 wk2 rd2 ri2, jf_I n us2 lo2 hi2 la2 ∧ (∀ e, e < 24 → us2 e = 1 → fr lab2 e (la2 e)) ∧ (∀ y, gp_gen (jf_T us2 la2) y ↔ jf_K us la (rv (gm i j) ∘ (gm i ∘ ro j)) y) ∧ u = (L, mf g d f0 n mm sm kn mk r3 r5 r7 r8 r10 lo2 hi2 lab2 us2 qu2 by2 sn2 wk2 rd2 r20 r21 ri2 r23)) (fun us2 lo2 hi2 lab2 la2 qu2 by2 sn2 wk2 rd2 ri2 k1 k2 k3 => ⟨us2, lo2, hi2, lab2, la2, qu2, by2, sn2, wk2, rd2, ri2, k1, k2, k3, rfl⟩)) wc_M_keep w_487 w_5 wi_M_keep ws_M_keep (by decide +kernel) rfl rfl ⟨Nat.le_of_ble_eq_true rfl, Nat.le_of_ble_eq_true rfl⟩ (md_in hd (k := 0) rfl) md_at_0 rfl rfl rfl rfl (Nat.le_of_ble_eq_true rfl) hl.1 d_M_nextPart_125 ⟨Nat.le_of_ble_eq_true rfl, Nat.le_of_ble_eq_true rfl⟩) (fun u H locs hp hh => ?_)
            obtain ⟨us2, lo2, hi2, lab2, la2, qu2, by2, sn2, wk2, rd2, ri2, k1, k2, k3, rfl⟩ := hp
            refine lv_iinc (v := nI (i + 1)) (lv' := [(3, .int (nI (i + 1))), (4, .int (nI x)), (2, .int (nI j)), (0, .ref (d 0)), (1, .int (nI a))]) X.1 X.2.1 d_M_nextPart_128 hl (k := 1) rfl (hn_inc _) (by decide) rfl (fun ls hl => ?_)
            refine lv_goto (tgt := 50) X.1 X.2.1 d_M_nextPart_131 (by decide) ?_
            have up : ∀ y, gp_gen (jf_T us la) y → gp_gen (jf_T us2 la2) y := fun y hy => (k3 y).2 (gp_gen_mono (fun t ht => Or.inl ht) y hy)
            refine ih (i + 1) us2 lo2 hi2 lab2 la2 qu2 by2 sn2 wk2 rd2 ri2 H locs _ (by omega) (by omega) k1 k2 (fun y hy => ?_) (fun j2 x1 x2 x3 x4 => up _ (hP2 j2 x1 x2 x3 x4)) (fun x hx => ?_) hh (lv_sub hl [0, 2, 3, 4] rfl)
            · refine gp_gen_min (M := fun y => gp_gen (gm_T gm mk) y ∧ y a = a) ⟨gp_gen_id, rfl⟩ ?_ y ((k3 y).1 hy)
              rintro t y (ht | rfl) ⟨y1, y2⟩
              · obtain ⟨z1, z2⟩ := hP1 t (gp_gen_mem ht)
                exact ⟨gp_gen_comp z1 y1, by show t (y a) = a; rw [y2, z2]⟩
              · refine ⟨gp_gen_comp s1 y1, ?_⟩
                show (rv (gm i j) ∘ (gm i ∘ ro j)) (y a) = a
                rw [y2]; exact s2
            · by_cases e0 : x = i
              · rw [e0]; exact (k3 _).2 (gp_gen_mem (Or.inr rfl))
              · exact up _ (hP3 x (by omega))
          have hx : x < 24 := hc
          have f1 := rj x hx
          have f2 := sym_24 rs hn hx
          have f3 := h10 i hi9 (ro j x) f2
          have f4 := sym_24 sm9 hn f2
          refine lv_aload_n X.1 X.2.1 d_M_nextPart_68 rfl (lv_at hl 3 rfl) ?_
          refine hl_get X hK hh (ref := "CycleGroupsModel") i_M (ci := 5) rfl 18 (by decide) w_369 rfl (md_in hd (k := 0) rfl) md_at_0 rfl d_M_nextPart_69 ?_
          refine lv_iload X.1 X.2.1 d_M_nextPart_72 (lv_at hl 0 rfl) ?_
          refine lv_aload_n X.1 X.2.1 d_M_nextPart_74 rfl (lv_at hl 3 rfl) ?_
          refine hl_get X hK hh (ref := "CycleGroupsModel") i_M (ci := 5) rfl 10 (by decide) w_361 rfl (md_in hd (k := 0) rfl) md_at_0 rfl d_M_nextPart_75 ?_
          refine lv_bipush (v := nI 24) X.1 X.2.1 d_M_nextPart_78 (by decide) ?_
          refine lv_iload_n X.1 X.2.1 d_M_nextPart_80 rfl (lv_at hl 1 rfl) ?_
          refine hn_mul X d_M_nextPart_81 ?_
          refine lv_aload_n X.1 X.2.1 d_M_nextPart_82 rfl (lv_at hl 3 rfl) ?_
          refine hl_get X hK hh (ref := "CycleGroupsModel") i_M (ci := 5) rfl 7 (by decide) w_358 rfl (md_in hd (k := 0) rfl) md_at_0 rfl d_M_nextPart_83 ?_
          refine lv_bipush (v := nI 24) X.1 X.2.1 d_M_nextPart_86 (by decide) ?_
          refine lv_bipush (v := nI 24) X.1 X.2.1 d_M_nextPart_88 (by decide) ?_
          refine lv_iload_n X.1 X.2.1 d_M_nextPart_90 rfl (lv_at hl 4 rfl) ?_
          refine hn_mul X d_M_nextPart_91 ?_
          refine lv_iload_n X.1 X.2.1 d_M_nextPart_92 rfl (lv_at hl 2 rfl) ?_
          refine hn_add X d_M_nextPart_93 ?_
          refine hn_mul X d_M_nextPart_94 ?_
          refine lv_iload X.1 X.2.1 d_M_nextPart_95 (lv_at hl 0 rfl) ?_
          refine hn_add X d_M_nextPart_97 ?_
          refine hl_iald X hK hh (md_in hd (k := 7) rfl) (md_at_7 hd) (by omega) (by decide) d_M_nextPart_98 ?_
          refine hn_add X d_M_nextPart_99 ?_
          rw [f1]
          refine hl_iald X hK hh (md_in hd (k := 10) rfl) (md_at_10 hd) (by omega) (by decide) d_M_nextPart_100 ?_
          refine hl_iastN X hK hh (md_in hd (k := 18) rfl) (md_at_18 hd) (by omega) (by decide) d_M_nextPart_101 (fun H locs hh => ?_)
          have hh : hl_H g (hm_A sz L) s.heap L (mf g d f0 n mm sm kn mk r3 r5 r7 r8 r10 lo hi lab us qu by' sn (va_up y x (r10 ((24 * i) + (ro j x)))) rd r20 r21 ri r23) H locs := md_set_18 hd hh
          refine lv_iinc (v := nI (x + 1)) (lv' := [(4, .int (nI (x + 1))), (3, .int (nI i)), (2, .int (nI j)), (0, .ref (d 0)), (1, .int (nI a))]) X.1 X.2.1 d_M_nextPart_102 hl (k := 0) rfl (hn_inc _) (by decide) rfl (fun ls hl => ?_)
          refine lv_goto (tgt := 61) X.1 X.2.1 d_M_nextPart_105 (by decide) ?_
          rw [f3] at hh
          refine ih2 (x + 1) (va_up y x (gm i (ro j x))) H locs _ (by omega) (by omega) (fun p hp => ?_) hh hl
          by_cases e0 : p = x
          · rw [e0, va_up_self]
          · rw [va_up_ne _ _ e0]; exact hy p (by omega)
      refine lv_iconst (v := nI 0) X.1 X.2.1 d_M_nextPart_58 (by decide) ?_
      refine lv_istore (lv' := [(4, .int (nI 0)), (3, .int (nI i)), (2, .int (nI j)), (0, .ref (d 0)), (1, .int (nI a))]) X.1 X.2.1 d_M_nextPart_59 hl (by decide) rfl (fun ls hl => ?_)
      exact cpy 25 0 wk H locs _ (by omega) (by omega) (fun p hp => absurd hp (Nat.not_lt_zero _)) hh hl
  have outer : ∀ (t j : Nat) (us lo hi lab : Nat → Nat) (la : Nat → gp_f) (qu by' sn wk rd ri : Nat → Nat) (H : Heap) (locs : List Loc) (ls : Array Slot), n + 1 ≤ j + t → j ≤ n → jf_I n us lo hi la → (∀ e, e < 24 → us e = 1 → fr lab e (la e)) → (∀ y, gp_gen (jf_T us la) y → gp_gen (gm_T gm mk) y ∧ y a = a) → (∀ j9, j9 < j → r8 (24 * a + j9) = 1 → ∀ x, x < mk → gp_gen (jf_T us la) (rv (gm x j9) ∘ (gm x ∘ ro j9))) → hl_H g (hm_A sz L) s.heap L (mf g d f0 n mm sm kn mk r3 r5 r7 r8 r10 lo hi lab us qu by' sn wk rd r20 r21 ri r23) H locs → lv_has ls 5 [(2, .int (nI j)), (0, .ref (d 0)), (1, .int (nI a))] → W p l e { frames := 2, cells := 0, slots := 0, locals := 70 } s m #[.ref (d 0), .int (nI a)] below meth c H locs 0 0 (MQ below (va_Qv (post) (hm_B g sz L) (hm_A sz L)) #[.ref (d 0), .int (nI a)] s 0 0 (hm_A sz L)) (F0 m 23 ls []) := by
    intro t
    induction t with
    | zero => intros; omega
    | succ t ih =>
      intro j us lo hi lab la qu by' sn wk rd ri H locs ls hkt hin hI hla hP1 hP2 hh hl
      refine lv_iload_n X.1 X.2.1 d_M_nextPart_23 rfl (lv_at hl 0 rfl) ?_
      refine lv_aload_n X.1 X.2.1 d_M_nextPart_24 rfl (lv_at hl 1 rfl) ?_
      refine hl_get X hK hh (ref := "CycleGroupsModel") i_M (ci := 5) rfl 0 (by decide) w_352 rfl (md_in hd (k := 0) rfl) md_at_0 rfl d_M_nextPart_25 ?_
      refine hn_ige (tgt := 140) X (by omega) (by omega) d_M_nextPart_28 (by decide) (fun hc => ?_) (fun hc => ?_)
      · have hj : j = n := by omega
        have hP24 : (∀ j9, j9 < 24 → r8 (24 * a + j9) = 1 → ∀ x, x < mk → gp_gen (jf_T us la) (rv (gm x j9) ∘ (gm x ∘ ro j9))) := fun j2 x1 x2 => by
          refine hP2 j2 ?_ x2
          have h1 := rosym j2 x1 x2
          have h2 := (hE.2.2.2.1 j2 x1 x2).2.1
          have h3 := (ch_D_mem.1 (gp_sym_mem h1 (ch_D_mem.2 ⟨Nat.zero_le _, ha⟩))).2
          omega
        refine lv_aload_n X.1 X.2.1 d_M_nextPart_140 rfl (lv_at hl 1 rfl) ?_
        refine lv_iconst (v := nI 0) X.1 X.2.1 d_M_nextPart_141 (by decide) ?_
        refine hl_put X hK hh (ref := "CycleGroupsModel") i_M t_M t_M_ok n_M (ci := 5) rfl 9 (by decide) w_360 rfl rfl (md_in hd (k := 0) rfl) md_at_0 (by first | rfl | decide) (by first | rfl | decide) (Nat.le_of_ble_eq_true rfl) d_M_nextPart_142 (fun H locs hh => ?_)
        have hh : hl_H g (hm_A sz L) s.heap L (mf g d f0 n mm sm kn 0 r3 r5 r7 r8 r10 lo hi lab us qu by' sn wk rd r20 r21 ri r23) H locs := md_set_0 hh
        refine lv_iconst (v := nI 0) X.1 X.2.1 d_M_nextPart_145 (by decide) ?_
        refine lv_istore_n (lv' := [(2, .int (nI 0)), (0, .ref (d 0)), (1, .int (nI a))]) X.1 X.2.1 d_M_nextPart_146 rfl hl (by decide) rfl (fun ls hl => ?_)
        exact coll us lo hi lab la qu by' sn wk rd ri hI hla hP1 hP24 25 0 0 (fun _ => id) r23 H locs _ (by omega) (by omega) (by omega) (fun x hx => absurd hx (Nat.not_lt_zero _)) (fun x hx => absurd hx (Nat.not_lt_zero _)) hh (lv_sub hl [0, 1, 2] rfl)
      have hj : j < n := hc
      have b8 := h8 (24 * a + j)
      refine lv_aload_n X.1 X.2.1 d_M_nextPart_31 rfl (lv_at hl 1 rfl) ?_
      refine hl_get X hK hh (ref := "CycleGroupsModel") i_M (ci := 5) rfl 8 (by decide) w_359 rfl (md_in hd (k := 0) rfl) md_at_0 rfl d_M_nextPart_32 ?_
      refine lv_bipush (v := nI 24) X.1 X.2.1 d_M_nextPart_35 (by decide) ?_
      refine lv_iload_n X.1 X.2.1 d_M_nextPart_37 rfl (lv_at hl 2 rfl) ?_
      refine hn_mul X d_M_nextPart_38 ?_
      refine lv_iload_n X.1 X.2.1 d_M_nextPart_39 rfl (lv_at hl 0 rfl) ?_
      refine hn_add X d_M_nextPart_40 ?_
      refine hl_zald X hK hh (md_in hd (k := 8) rfl) (md_at_8 hd) (by omega) (by decide) d_M_nextPart_41 ?_
      refine hn_zne (tgt := 48) X (by omega) d_M_nextPart_42 (by decide) (fun hc => ?_) (fun hc => ?_)
      · have hc : ¬ r8 (24 * a + j) = 0 := hc
        have hc : r8 (24 * a + j) = 1 := by omega
        refine lv_iconst (v := nI 0) X.1 X.2.1 d_M_nextPart_48 (by decide) ?_
        refine lv_istore_n (lv' := [(3, .int (nI 0)), (2, .int (nI j)), (0, .ref (d 0)), (1, .int (nI a))]) X.1 X.2.1 d_M_nextPart_49 rfl hl (by decide) rfl (fun ls hl => ?_)
        refine mid j hj hc ?_ (mk + 1) 0 us lo hi lab la qu by' sn wk rd ri H locs _ (by omega) (by omega) hI hla hP1 hP2 (fun x hx => absurd hx (Nat.not_lt_zero _)) hh hl
        intro us lo hi lab la qu by' sn wk rd ri H locs ls hI hla hP1 hP2 hP3 hh hl
        refine lv_iinc (v := nI (j + 1)) (lv' := [(2, .int (nI (j + 1))), (0, .ref (d 0)), (1, .int (nI a))]) X.1 X.2.1 d_M_nextPart_134 hl (k := 0) rfl (hn_inc _) (by decide) rfl (fun ls hl => ?_)
        refine lv_goto (tgt := 23) X.1 X.2.1 d_M_nextPart_137 (by decide) ?_
        refine ih (j + 1) us lo hi lab la qu by' sn wk rd ri H locs _ (by omega) (by omega) hI hla hP1 (fun j2 x1 x2 => ?_) hh hl
        by_cases e0 : j2 = j
        · rw [e0]; exact hP3
        · exact hP2 j2 (by omega) x2
      have hc : r8 (24 * a + j) = 0 := hc
      refine lv_goto (tgt := 134) X.1 X.2.1 d_M_nextPart_45 (by decide) ?_
      refine lv_iinc (v := nI (j + 1)) (lv' := [(2, .int (nI (j + 1))), (0, .ref (d 0)), (1, .int (nI a))]) X.1 X.2.1 d_M_nextPart_134 hl (k := 0) rfl (hn_inc _) (by decide) rfl (fun ls hl => ?_)
      refine lv_goto (tgt := 23) X.1 X.2.1 d_M_nextPart_137 (by decide) ?_
      refine ih (j + 1) us lo hi lab la qu by' sn wk rd ri H locs _ (by omega) (by omega) hI hla hP1 (fun j2 x1 x2 => ?_) hh hl
      by_cases e0 : j2 = j
      · rw [e0, hc] at x2; omega
      · exact hP2 j2 (by omega) x2
  have clr : ∀ (t i : Nat) (y : Nat → Nat) (H : Heap) (locs : List Loc) (ls : Array Slot), 24 + 1 ≤ i + t → i ≤ 24 → (∀ p, p < i → y p = 0) → hl_H g (hm_A sz L) s.heap L (mf g d f0 n mm sm kn mk r3 r5 r7 r8 r10 r11 r12 r13 y r15 r16 r17 r18 r19 r20 r21 r22 r23) H locs → lv_has ls 5 [(2, .int (nI i)), (0, .ref (d 0)), (1, .int (nI a))] → W p l e { frames := 2, cells := 0, slots := 0, locals := 70 } s m #[.ref (d 0), .int (nI a)] below meth c H locs 0 0 (MQ below (va_Qv (post) (hm_B g sz L) (hm_A sz L)) #[.ref (d 0), .int (nI a)] s 0 0 (hm_A sz L)) (F0 m 2 ls []) := by
    intro t
    induction t with
    | zero => intros; omega
    | succ t ih =>
      intro i y H locs ls hkt hin hy hh hl
      refine lv_iload_n X.1 X.2.1 d_M_nextPart_2 rfl (lv_at hl 0 rfl) ?_
      refine lv_bipush (v := nI 24) X.1 X.2.1 d_M_nextPart_3 (by decide) ?_
      refine hn_ige (tgt := 21) X (by omega) (by omega) d_M_nextPart_5 (by decide) (fun hc => ?_) (fun hc => ?_)
      · have hh := md_nrm_14 (x := fun _ => 0) hd hh (fun p hp => hy p (by omega))
        refine lv_iconst (v := nI 0) X.1 X.2.1 d_M_nextPart_21 (by decide) ?_
        refine lv_istore_n (lv' := [(2, .int (nI 0)), (0, .ref (d 0)), (1, .int (nI a))]) X.1 X.2.1 d_M_nextPart_22 rfl hl (by decide) rfl (fun ls hl => ?_)
        refine outer (n + 1) 0 _ r11 r12 r13 (fun _ => id) _ _ _ _ _ _ H locs _ (by omega) (by omega) ⟨fun _ => Or.inl rfl, fun e he h1 => absurd (show (0 : Nat) = 1 from h1) (by decide), jf_F0 (fun _ _ => rfl)⟩ (fun e he h1 => absurd (show (0 : Nat) = 1 from h1) (by decide)) (fun y hy => ?_) (fun x hx => absurd hx (Nat.not_lt_zero _)) hh (lv_sub hl [0, 1, 2] rfl)
        refine gp_gen_min (M := fun y => gp_gen (gm_T gm mk) y ∧ y a = a) ⟨gp_gen_id, rfl⟩ ?_ y hy
        rintro t y ⟨e, _, h1, _⟩
        exact absurd (show (0 : Nat) = 1 from h1) (by decide)
      have hi9 : i < 24 := hc
      refine lv_aload_n X.1 X.2.1 d_M_nextPart_8 rfl (lv_at hl 1 rfl) ?_
      refine hl_get X hK hh (ref := "CycleGroupsModel") i_M (ci := 5) rfl 14 (by decide) w_365 rfl (md_in hd (k := 0) rfl) md_at_0 rfl d_M_nextPart_9 ?_
      refine lv_iload_n X.1 X.2.1 d_M_nextPart_12 rfl (lv_at hl 0 rfl) ?_
      refine lv_iconst (v := nI 0) X.1 X.2.1 d_M_nextPart_13 (by decide) ?_
      refine hl_zastN X hK hh (md_in hd (k := 14) rfl) (md_at_14 hd) (by omega) (by decide) (by first | exact Or.inl rfl | exact Or.inr rfl) d_M_nextPart_14 (fun H locs hh => ?_)
      have hh : hl_H g (hm_A sz L) s.heap L (mf g d f0 n mm sm kn mk r3 r5 r7 r8 r10 r11 r12 r13 (va_up y i 0) r15 r16 r17 r18 r19 r20 r21 r22 r23) H locs := md_set_14 hd hh
      refine lv_iinc (v := nI (i + 1)) (lv' := [(2, .int (nI (i + 1))), (0, .ref (d 0)), (1, .int (nI a))]) X.1 X.2.1 d_M_nextPart_15 hl (k := 0) rfl (hn_inc _) (by decide) rfl (fun ls hl => ?_)
      refine lv_goto (tgt := 2) X.1 X.2.1 d_M_nextPart_18 (by decide) ?_
      refine ih (i + 1) (va_up y i 0) H locs _ (by omega) (by omega) (fun p hp => ?_) hh hl
      by_cases e0 : p = i
      · rw [e0, va_up_self]
      · rw [va_up_ne _ _ e0]; exact hy p (by omega)
  refine lv_iconst (v := nI 0) X.1 X.2.1 d_M_nextPart_0 (by decide) ?_
  refine lv_istore_n (lv' := [(2, .int (nI 0)), (0, .ref (d 0)), (1, .int (nI a))]) X.1 X.2.1 d_M_nextPart_1 rfl hl (by decide) rfl (fun ls hl => ?_)
  exact clr 25 0 r14 _ _ _ (by omega) (by omega) (fun p hp => absurd hp (Nat.not_lt_zero _)) hh hl

/-- private void know() -/
theorem c_M_know (l : Launch) (g : hl_G) (sz : Nat) (L : List Nat) (d : Nat → Nat) (f0 : Nat → va_E) (hd : md_D L d) (n mm sm kn mk : Nat) (r3 r5 r7 r8 r10 r11 r12 r13 r14 r15 r16 r17 r18 r19 r20 r21 r22 r23 : Nat → Nat) (mv st : Nat → Nat → Nat) (hW : cg_W n mm sm mv st) (h3 : ∀ i, i < mm → fr r3 i (mv i)) (h5 : ∀ j, j < sm → fr r5 j (st j)) (hkn : kn = 0 ∨ kn = 1) (h8 : ∀ p, r8 p = 0 ∨ r8 p = 1) (hKn : kn = 1 → md_K n mm mv n r7 r8) (post : List Nat × (Nat → va_E) → Prop)
    (hpo : ∀ mk2 y7 y8 y10 lo hi lab us qu by' sn wk rd ri mo, md_K n mm mv n y7 y8 → (∀ p, y8 p = 0 ∨ y8 p = 1) → post (L, mf g d f0 n mm sm 1 mk2 r3 r5 y7 y8 y10 lo hi lab us qu by' sn wk rd r20 r21 ri mo)) :
    Met l y_M_know (hq y_M_know b_M_know 2 none) { frames := 3, cells := 0, slots := 0, locals := 100 } (hm_P g [.ref (d 0)] sz L (mf g d f0 n mm sm kn mk r3 r5 r7 r8 r10 r11 r12 r13 r14 r15 r16 r17 r18 r19 r20 r21 r22 r23)) (va_Qv (post) (hm_B g sz L) (hm_A sz L)) 0 0 (hm_A sz L) := by
  refine hm_ofW (by decide) (Nat.le_of_ble_eq_true rfl) ?_
  intro p e s m below meth c X hr hlk hnm hK hsz hh ls hl
  have hl : lv_has ls 2 [(0, .ref (d 0))] := hl
  obtain ⟨hn0, hn, hmm, hsm, hmv, hst⟩ := id hW
  rcases hkn with e0 | rfl
  case inr =>
    refine lv_aload_n X.1 X.2.1 d_M_know_0 rfl (lv_at hl 0 rfl) ?_
    refine hl_get X hK hh (ref := "CycleGroupsModel") i_M (ci := 5) rfl 6 (by decide) w_357 rfl (md_in hd (k := 0) rfl) md_at_0 rfl d_M_know_1 ?_
    refine lv_if_eq (tgt := 8) X.1 X.2.1 d_M_know_4 (by decide) (fun hc => absurd hc (by decide)) (fun _ => ?_)
    exact hm_vret X hr hlk hh (hpo _ _ _ _ _ _ _ _ _ _ _ _ _ _ _ (hKn rfl) h8) (Nat.le_of_ble_eq_true rfl) (Nat.le_of_ble_eq_true rfl) d_M_know_7
  subst e0
  have outer : ∀ (t i mk2 : Nat) (gm : Nat → gp_f) (y7 y8 y10 lo hi lab us qu by' sn wk rd ri mo : Nat → Nat) (H : Heap) (locs : List Loc) (ls : Array Slot), n + 1 ≤ i + t → i ≤ n → mk2 ≤ 24 → (∀ x, x < mk2 → gp_sym (ch_D n 0) (gm x)) → (∀ x, x < mk2 → fr y10 x (gm x)) → (∀ x, gp_gen (gm_T gm mk2) x ↔ gp_gen (mv_T mv mm) x ∧ ∀ k, k < i → x k = k) → md_K n mm mv i y7 y8 → (∀ p, y8 p = 0 ∨ y8 p = 1) → hl_H g (hm_A sz L) s.heap L (mf g d f0 n mm sm 1 mk2 r3 r5 y7 y8 y10 lo hi lab us qu by' sn wk rd r20 r21 ri mo) H locs → lv_has ls 2 [(1, .int (nI i)), (0, .ref (d 0))] → W p l e { frames := 3, cells := 0, slots := 0, locals := 100 } s m #[.ref (d 0)] below meth c H locs 0 0 (MQ below (va_Qv (post) (hm_B g sz L) (hm_A sz L)) #[.ref (d 0)] s 0 0 (hm_A sz L)) (F0 m 54 ls []) := by
    intro t
    induction t with
    | zero => intros; omega
    | succ t ih =>
      intro i mk2 gm y7 y8 y10 lo hi lab us qu by' sn wk rd ri mo H locs ls hkt hin k1 k2 k3 k4 k5 k6 hh hl
      refine lv_iload_n X.1 X.2.1 d_M_know_54 rfl (lv_at hl 0 rfl) ?_
      refine lv_aload_n X.1 X.2.1 d_M_know_55 rfl (lv_at hl 1 rfl) ?_
      refine hl_get X hK hh (ref := "CycleGroupsModel") i_M (ci := 5) rfl 0 (by decide) w_352 rfl (md_in hd (k := 0) rfl) md_at_0 rfl d_M_know_56 ?_
      refine hn_ige (tgt := 78) X (by omega) (by omega) d_M_know_59 (by decide) (fun hc => ?_) (fun hc => ?_)
      · have hi9 : i = n := by omega
        subst hi9
        exact hm_vret X hr hlk hh (hpo mk2 y7 y8 y10 lo hi lab us qu by' sn wk rd ri mo k5 k6) (Nat.le_of_ble_eq_true rfl) (Nat.le_of_ble_eq_true rfl) d_M_know_78
      have hi9 : i < n := hc
      refine lv_aload_n X.1 X.2.1 d_M_know_62 rfl (lv_at hl 1 rfl) ?_
      refine lv_iload_n X.1 X.2.1 d_M_know_63 rfl (lv_at hl 0 rfl) ?_
      refine hl_callv hh (hl_runV (k := 1) X hK hh (c_M_spreadOf l g _ L d f0 hd n mm sm 1 mk2 r3 r5 y7 y8 y10 lo hi lab us qu by' sn wk rd r20 r21 ri mo hn i (by omega) gm k1 k2 k3 k6 (fun u => ∃ z7 z8 qz ro, sp_E mk2 gm i z7 z8 ro ∧ sp_o i y7 y8 z7 z8 ∧ u = (L, mf g d f0 n mm sm 1 mk2 r3 r5 z7 z8 y10 lo hi lab us qz by' sn wk rd r20 r21 ri mo)) (fun z7 z8 qz ro x1 x2 => ⟨z7, z8, qz, ro, x1, x2, rfl⟩)) wc_M_spreadOf w_475 w_5 wi_M_spreadOf ws_M_spreadOf (by decide +kernel) rfl rfl ⟨Nat.le_of_ble_eq_true rfl, Nat.le_of_ble_eq_true rfl⟩ (md_in hd (k := 0) rfl) md_at_0 rfl rfl rfl rfl (Nat.le_of_ble_eq_true rfl) hl.1 d_M_know_64 ⟨Nat.le_of_ble_eq_true rfl, Nat.le_of_ble_eq_true rfl⟩) (fun u H locs hp hh => ?_)
      obtain ⟨z7, z8, qz, ro, x1, x2, rfl⟩ := hp
      refine lv_aload_n X.1 X.2.1 d_M_know_67 rfl (lv_at hl 1 rfl) ?_
      refine lv_iload_n X.1 X.2.1 d_M_know_68 rfl (lv_at hl 0 rfl) ?_
      refine hl_callv hh (hl_runV (k := 1) X hK hh (c_M_nextPart l g _ L d f0 hd n mm sm 1 mk2 r3 r5 z7 z8 y10 lo hi lab us qz by' sn wk rd r20 r21 ri mo hn i hi9 gm k1 k2 k3 ro x1 (fun u => ∃ mk3 gm3 z10 lo2 hi2 lab2 us2 qu2 by2 sn2 wk2 rd2 ri2 mo2, mk3 ≤ 24 ∧ (∀ i, i < mk3 → gp_sym (ch_D n 0) (gm3 i)) ∧ (∀ i, i < mk3 → fr z10 i (gm3 i)) ∧ (∀ x, gp_gen (gm_T gm3 mk3) x ↔ gp_gen (gm_T gm mk2) x ∧ x i = i) ∧ u = (L, mf g d f0 n mm sm 1 mk3 r3 r5 z7 z8 z10 lo2 hi2 lab2 us2 qu2 by2 sn2 wk2 rd2 r20 r21 ri2 mo2)) (fun mk3 gm3 z10 lo2 hi2 lab2 us2 qu2 by2 sn2 wk2 rd2 ri2 mo2 a1 a2 a3 a4 => ⟨mk3, gm3, z10, lo2, hi2, lab2, us2, qu2, by2, sn2, wk2, rd2, ri2, mo2, a1, a2, a3, a4, rfl⟩)) wc_M_nextPart w_479 w_5 wi_M_nextPart ws_M_nextPart (by decide +kernel) rfl rfl ⟨Nat.le_of_ble_eq_true rfl, Nat.le_of_ble_eq_true rfl⟩ (md_in hd (k := 0) rfl) md_at_0 rfl rfl rfl rfl (Nat.le_of_ble_eq_true rfl) hl.1 d_M_know_69 ⟨Nat.le_of_ble_eq_true rfl, Nat.le_of_ble_eq_true rfl⟩) (fun u H locs hp hh => ?_)
      obtain ⟨mk3, gm3, z10, lo2, hi2, lab2, us2, qu2, by2, sn2, wk2, rd2, ri2, mo2, a1, a2, a3, a4, rfl⟩ := hp
      refine lv_iinc (v := nI (i + 1)) (lv' := [(1, .int (nI (i + 1))), (0, .ref (d 0))]) X.1 X.2.1 d_M_know_72 hl (k := 0) rfl (hn_inc _) (by decide) rfl (fun ls hl => ?_)
      refine lv_goto (tgt := 54) X.1 X.2.1 d_M_know_75 (by decide) ?_
      refine ih (i + 1) mk3 gm3 z7 z8 z10 lo2 hi2 lab2 us2 qu2 by2 sn2 wk2 rd2 ri2 mo2 H locs _ (by omega) (by omega) a1 a2 a3 (fun x => ?_) (md_K_s hn (by omega) k2 (md_K_o hn hmv (Nat.le_refl _) hi9 k5 x2) x1 k4) x1.1 hh hl
      rw [a4 x, k4 x]
      constructor
      · rintro ⟨⟨g1, g2⟩, g3⟩
        refine ⟨g1, fun k hk => ?_⟩
        by_cases e0 : k = i
        · rw [e0]; exact g3
        · exact g2 k (by omega)
      · rintro ⟨g1, g2⟩
        exact ⟨⟨g1, fun k hk => g2 k (by omega)⟩, g2 i (by omega)⟩
  have r3b : ∀ k, k < 24 * mm → r3 k < 24 := fun k hk => by
    have h1 := h3 (k / 24) (by omega) (k % 24) (Nat.mod_lt _ (by decide))
    rw [show 24 * (k / 24) + k % 24 = k by omega] at h1
    rw [h1]; exact sym_24 (hmv _ (by omega)) hn (Nat.mod_lt _ (by decide))
  have cpy : ∀ (t i : Nat) (y : Nat → Nat) (H : Heap) (locs : List Loc) (ls : Array Slot), 24 * mm + 1 ≤ i + t → i ≤ 24 * mm → (∀ k, k < i → y k = r3 k) → hl_H g (hm_A sz L) s.heap L (mf g d f0 n mm sm 1 mm r3 r5 r7 r8 y r11 r12 r13 r14 r15 r16 r17 r18 r19 r20 r21 r22 r23) H locs → lv_has ls 2 [(1, .int (nI i)), (0, .ref (d 0))] → W p l e { frames := 3, cells := 0, slots := 0, locals := 100 } s m #[.ref (d 0)] below meth c H locs 0 0 (MQ below (va_Qv (post) (hm_B g sz L) (hm_A sz L)) #[.ref (d 0)] s 0 0 (hm_A sz L)) (F0 m 23 ls []) := by
    intro t
    induction t with
    | zero => intros; omega
    | succ t ih =>
      intro i y H locs ls hkt hin hy hh hl
      refine lv_iload_n X.1 X.2.1 d_M_know_23 rfl (lv_at hl 0 rfl) ?_
      refine lv_bipush (v := nI 24) X.1 X.2.1 d_M_know_24 (by decide) ?_
      refine lv_aload_n X.1 X.2.1 d_M_know_26 rfl (lv_at hl 1 rfl) ?_
      refine hl_get X hK hh (ref := "CycleGroupsModel") i_M (ci := 5) rfl 2 (by decide) w_353 rfl (md_in hd (k := 0) rfl) md_at_0 rfl d_M_know_27 ?_
      refine hn_mul X d_M_know_30 ?_
      refine hn_ige (tgt := 52) X (by omega) (by omega) d_M_know_31 (by decide) (fun hc => ?_) (fun hc => ?_)
      · skip
        refine lv_iconst (v := nI 0) X.1 X.2.1 d_M_know_52 (by decide) ?_
        refine lv_istore_n (lv' := [(1, .int (nI 0)), (0, .ref (d 0))]) X.1 X.2.1 d_M_know_53 rfl hl (by decide) rfl (fun ls hl => ?_)
        exact outer (n + 1) 0 mm mv _ _ _ _ _ _ _ _ _ _ _ _ _ _ H locs _ (by omega) (by omega) (by omega) hmv (fun x hx p hp => by rw [hy _ (by omega)]; exact h3 x hx p hp) (fun x => ⟨fun h => ⟨h, fun k hk => absurd hk (Nat.not_lt_zero _)⟩, fun h => h.1⟩) (fun x hx => absurd hx (Nat.not_lt_zero _)) h8 hh hl
      have hi9 : i < 24 * mm := hc
      have mi := r3b i hi9
      refine lv_aload_n X.1 X.2.1 d_M_know_34 rfl (lv_at hl 1 rfl) ?_
      refine hl_get X hK hh (ref := "CycleGroupsModel") i_M (ci := 5) rfl 10 (by decide) w_361 rfl (md_in hd (k := 0) rfl) md_at_0 rfl d_M_know_35 ?_
      refine lv_iload_n X.1 X.2.1 d_M_know_38 rfl (lv_at hl 0 rfl) ?_
      refine lv_aload_n X.1 X.2.1 d_M_know_39 rfl (lv_at hl 1 rfl) ?_
      refine hl_get X hK hh (ref := "CycleGroupsModel") i_M (ci := 5) rfl 3 (by decide) w_354 rfl (md_in hd (k := 0) rfl) md_at_0 rfl d_M_know_40 ?_
      refine lv_iload_n X.1 X.2.1 d_M_know_43 rfl (lv_at hl 0 rfl) ?_
      refine hl_iald X hK hh (md_in hd (k := 3) rfl) (md_at_3 hd) (by omega) (by decide) d_M_know_44 ?_
      refine hl_iastN X hK hh (md_in hd (k := 10) rfl) (md_at_10 hd) (by omega) (by decide) d_M_know_45 (fun H locs hh => ?_)
      have hh : hl_H g (hm_A sz L) s.heap L (mf g d f0 n mm sm 1 mm r3 r5 r7 r8 (va_up y i (r3 i)) r11 r12 r13 r14 r15 r16 r17 r18 r19 r20 r21 r22 r23) H locs := md_set_10 hd hh
      refine lv_iinc (v := nI (i + 1)) (lv' := [(1, .int (nI (i + 1))), (0, .ref (d 0))]) X.1 X.2.1 d_M_know_46 hl (k := 0) rfl (hn_inc _) (by decide) rfl (fun ls hl => ?_)
      refine lv_goto (tgt := 23) X.1 X.2.1 d_M_know_49 (by decide) ?_
      refine ih (i + 1) (va_up y i (r3 i)) H locs _ (by omega) (by omega) (fun p hp => ?_) hh hl
      by_cases e0 : p = i
      · rw [e0, va_up_self]
      · rw [va_up_ne _ _ e0]; exact hy p (by omega)
  refine lv_aload_n X.1 X.2.1 d_M_know_0 rfl (lv_at hl 0 rfl) ?_
  refine hl_get X hK hh (ref := "CycleGroupsModel") i_M (ci := 5) rfl 6 (by decide) w_357 rfl (md_in hd (k := 0) rfl) md_at_0 rfl d_M_know_1 ?_
  refine lv_if_eq (tgt := 8) X.1 X.2.1 d_M_know_4 (by decide) (fun _ => ?_) (fun hc => absurd (by decide) hc)
  refine lv_aload_n X.1 X.2.1 d_M_know_8 rfl (lv_at hl 0 rfl) ?_
  refine lv_iconst (v := nI 1) X.1 X.2.1 d_M_know_9 (by decide) ?_
  refine hl_put X hK hh (ref := "CycleGroupsModel") i_M t_M t_M_ok n_M (ci := 5) rfl 6 (by decide) w_357 rfl rfl (md_in hd (k := 0) rfl) md_at_0 (by first | rfl | decide) (by first | rfl | decide) (Nat.le_of_ble_eq_true rfl) d_M_know_10 (fun H locs hh => ?_)
  have hh : hl_H g (hm_A sz L) s.heap L (mf g d f0 n mm sm 1 mk r3 r5 r7 r8 r10 r11 r12 r13 r14 r15 r16 r17 r18 r19 r20 r21 r22 r23) H locs := md_set_0 hh
  refine lv_aload_n X.1 X.2.1 d_M_know_13 rfl (lv_at hl 0 rfl) ?_
  refine lv_aload_n X.1 X.2.1 d_M_know_14 rfl (lv_at hl 0 rfl) ?_
  refine hl_get X hK hh (ref := "CycleGroupsModel") i_M (ci := 5) rfl 2 (by decide) w_353 rfl (md_in hd (k := 0) rfl) md_at_0 rfl d_M_know_15 ?_
  refine hl_put X hK hh (ref := "CycleGroupsModel") i_M t_M t_M_ok n_M (ci := 5) rfl 9 (by decide) w_360 rfl rfl (md_in hd (k := 0) rfl) md_at_0 (by first | rfl | decide) (by first | rfl | decide) (Nat.le_of_ble_eq_true rfl) d_M_know_18 (fun H locs hh => ?_)
  have hh : hl_H g (hm_A sz L) s.heap L (mf g d f0 n mm sm 1 mm r3 r5 r7 r8 r10 r11 r12 r13 r14 r15 r16 r17 r18 r19 r20 r21 r22 r23) H locs := md_set_0 hh
  refine lv_iconst (v := nI 0) X.1 X.2.1 d_M_know_21 (by decide) ?_
  refine lv_istore_n (lv' := [(1, .int (nI 0)), (0, .ref (d 0))]) X.1 X.2.1 d_M_know_22 rfl hl (by decide) rfl (fun ls hl => ?_)
  exact cpy (24 * mm + 1) 0 r10 _ _ _ (by omega) (by omega) (fun p hp => absurd hp (Nat.not_lt_zero _)) hh hl

end

