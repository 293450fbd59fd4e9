/-! The reference: spreadOf. -/
section
/-- private void spreadOf(int i) -/
theorem c_M_spreadOf (l : Launch) (g : hl_G) (sz : Nat) (L : List Nat) (d : Nat → Nat) (f0 : Nat → va_E) (hd : md_D L d) (n mm sm kn mk : Nat) (r3 r5 r7 r8 r10 r11 r12 r13 r14 r15 r16 r17 r18 r19 r20 r21 r22 r23 : Nat → Nat) (hn : n ≤ 24) (a : Nat) (ha : a < 24) (gm : Nat → gp_f) (hmk : mk ≤ 24) (hgm : ∀ i, i < mk → gp_sym (ch_D n 0) (gm i)) (h10 : ∀ i, i < mk → fr r10 i (gm i)) (h8 : ∀ p, r8 p = 0 ∨ r8 p = 1) (post : List Nat × (Nat → va_E) → Prop)
    (hpo : ∀ y7 y8 qu ro, sp_E mk gm a y7 y8 ro → sp_o a r7 r8 y7 y8 → post (L, mf g d f0 n mm sm kn mk r3 r5 y7 y8 r10 r11 r12 r13 r14 qu r16 r17 r18 r19 r20 r21 r22 r23)) :
    Met l y_M_spreadOf (hq y_M_spreadOf b_M_spreadOf 8 none) { frames := 0, cells := 0, slots := 0, locals := 0 } (hm_P g [.ref (d 0), .int (nI a)] sz L (mf g d f0 n mm sm kn mk r3 r5 r7 r8 r10 r11 r12 r13 r14 r15 r16 r17 r18 r19 r20 r21 r22 r23)) (va_Qv (post) (hm_B g sz L) (hm_A sz L)) 0 0 (hm_A sz L) := by
  refine hm_ofW (by decide) (Nat.le_of_ble_eq_true rfl) ?_
  intro p e s m below meth c X hr hlk hnm hK hsz hh ls hl
  have hl : lv_has ls 8 [(0, .ref (d 0)), (1, .int (nI a))] := hl
  have c24 : ∀ {c0 : Nat} {y7 y8 qu : Nat → Nat} {ro : Nat → gp_f}, sp_I n mk gm a c0 y7 y8 qu ro → c0 ≤ 24 := by
    intro c0 y7 y8 qu ro h
    have h1 := su_le (F := fun j => y8 (24 * a + j)) (m := 1) (fun j => by rcases h.1 (24 * a + j) with q | q <;> omega) 24
    have := h.2.1
    omega
  have inner : ∀ (k : Nat), (∀ (c0 : Nat) (y7 y8 qu : Nat → Nat) (ro : Nat → gp_f) (H : Heap) (locs : List Loc) (ls : Array Slot), sp_I n mk gm a c0 y7 y8 qu ro → sp_o a r7 r8 y7 y8 → k < c0 → (∀ i, i < k + 1 → ∀ j, j < mk → y8 (24 * a + gm j (qu i)) = 1) → hl_H g (hm_A sz L) s.heap L (mf g d f0 n mm sm kn mk r3 r5 y7 y8 r10 r11 r12 r13 r14 qu r16 r17 r18 r19 r20 r21 r22 r23) H locs → lv_has ls 8 [(3, .int (nI (k + 1))), (2, .int (nI c0)), (0, .ref (d 0)), (1, .int (nI a))] → W p l e { frames := 0, cells := 0, slots := 0, locals := 0 } s m #[.ref (d 0), .int (nI a)] below meth c H locs 0 0 (MQ below (va_Qv (post) (hm_B g sz L) (hm_A sz L)) #[.ref (d 0), .int (nI a)] s 0 0 (hm_A sz L)) (F0 m 80 ls [])) →
      ∀ (t i c0 : Nat) (y7 y8 qu : Nat → Nat) (ro : Nat → gp_f) (H : Heap) (locs : List Loc) (ls : Array Slot), mk + 1 ≤ i + t → i ≤ mk → sp_I n mk gm a c0 y7 y8 qu ro → sp_o a r7 r8 y7 y8 → k < c0 → (∀ i, i < k → ∀ j, j < mk → y8 (24 * a + gm j (qu i)) = 1) → (∀ j, j < i → y8 (24 * a + gm j (qu k)) = 1) → hl_H g (hm_A sz L) s.heap L (mf g d f0 n mm sm kn mk r3 r5 y7 y8 r10 r11 r12 r13 r14 qu r16 r17 r18 r19 r20 r21 r22 r23) H locs → lv_has ls 8 [(4, .int (nI i)), (3, .int (nI k)), (2, .int (nI c0)), (0, .ref (d 0)), (1, .int (nI a))] → W p l e { frames := 0, cells := 0, slots := 0, locals := 0 } s m #[.ref (d 0), .int (nI a)] below meth c H locs 0 0 (MQ below (va_Qv (post) (hm_B g sz L) (hm_A sz L)) #[.ref (d 0), .int (nI a)] s 0 0 (hm_A sz L)) (F0 m 88 ls []) := by
    intro k kk t
    induction t with
    | zero => intros; omega
    | succ t ih =>
      intro i c0 y7 y8 qu ro H locs ls hkt hin hI hO hkc hP hPk hh hl
      have hc24 := c24 hI
      refine lv_iload X.1 X.2.1 d_M_spreadOf_88 (lv_at hl 0 rfl) ?_
      refine lv_aload_n X.1 X.2.1 d_M_spreadOf_90 rfl (lv_at hl 3 rfl) ?_
      refine hl_get X hK hh (ref := "CycleGroupsModel") i_M (ci := 5) rfl 9 (by decide) w_360 rfl (md_in hd (k := 0) rfl) md_at_0 rfl d_M_spreadOf_91 ?_
      refine hn_ige (tgt := 231) X (by omega) (by omega) d_M_spreadOf_94 (by decide) (fun hc => ?_) (fun hc => ?_)
      · have hi : i = mk := by omega
        refine lv_iinc (v := nI (k + 1)) (lv' := [(3, .int (nI (k + 1))), (4, .int (nI i)), (2, .int (nI c0)), (0, .ref (d 0)), (1, .int (nI a))]) X.1 X.2.1 d_M_spreadOf_231 hl (k := 1) rfl (hn_inc _) (by decide) rfl (fun ls hl => ?_)
        refine lv_goto (tgt := 80) X.1 X.2.1 d_M_spreadOf_234 (by decide) ?_
        refine kk c0 y7 y8 qu ro H locs ls hI hO hkc (fun x hx => ?_) hh (lv_sub hl [0, 2, 3, 4] rfl)
        by_cases e0 : x = k
        · rw [e0]; exact fun j hj => hPk j (by omega)
        · exact hP x (by omega)
      have hi : i < mk := hc
      obtain ⟨q1, q2⟩ := hI.2.2.1 k hkc
      have e1 := h10 i hi (qu k) q1
      have t24 := sym_24 (hgm i hi) hn q1
      obtain ⟨v, ev⟩ : ∃ v, v = gm i (qu k) := ⟨_, rfl⟩
      rw [← ev] at e1 t24
      have b8 := hI.1 (24 * a + v)
      refine lv_aload_n X.1 X.2.1 d_M_spreadOf_97 rfl (lv_at hl 3 rfl) ?_
      refine hl_get X hK hh (ref := "CycleGroupsModel") i_M (ci := 5) rfl 15 (by decide) w_366 rfl (md_in hd (k := 0) rfl) md_at_0 rfl d_M_spreadOf_98 ?_
      refine lv_iload_n X.1 X.2.1 d_M_spreadOf_101 rfl (lv_at hl 1 rfl) ?_
      refine hl_iald X hK hh (md_in hd (k := 15) rfl) (md_at_15 hd) (by omega) (by decide) d_M_spreadOf_102 ?_
      refine lv_istore (lv' := [(5, .int (nI (qu k))), (4, .int (nI i)), (3, .int (nI k)), (2, .int (nI c0)), (0, .ref (d 0)), (1, .int (nI a))]) X.1 X.2.1 d_M_spreadOf_103 hl (by decide) rfl (fun ls hl => ?_)
      refine lv_aload_n X.1 X.2.1 d_M_spreadOf_105 rfl (lv_at hl 4 rfl) ?_
      refine hl_get X hK hh (ref := "CycleGroupsModel") i_M (ci := 5) rfl 10 (by decide) w_361 rfl (md_in hd (k := 0) rfl) md_at_0 rfl d_M_spreadOf_106 ?_
      refine lv_bipush (v := nI 24) X.1 X.2.1 d_M_spreadOf_109 (by decide) ?_
      refine lv_iload X.1 X.2.1 d_M_spreadOf_111 (lv_at hl 1 rfl) ?_
      refine hn_mul X d_M_spreadOf_113 ?_
      refine lv_iload X.1 X.2.1 d_M_spreadOf_114 (lv_at hl 0 rfl) ?_
      refine hn_add X d_M_spreadOf_116 ?_
      refine hl_iald X hK hh (md_in hd (k := 10) rfl) (md_at_10 hd) (by omega) (by decide) d_M_spreadOf_117 ?_
      rw [e1]
      refine lv_istore (lv' := [(6, .int (nI v)), (5, .int (nI (qu k))), (4, .int (nI i)), (3, .int (nI k)), (2, .int (nI c0)), (0, .ref (d 0)), (1, .int (nI a))]) X.1 X.2.1 d_M_spreadOf_118 hl (by decide) rfl (fun ls hl => ?_)
      refine lv_aload_n X.1 X.2.1 d_M_spreadOf_120 rfl (lv_at hl 5 rfl) ?_
      refine hl_get X hK hh (ref := "CycleGroupsModel") i_M (ci := 5) rfl 8 (by decide) w_359 rfl (md_in hd (k := 0) rfl) md_at_0 rfl d_M_spreadOf_121 ?_
      refine lv_bipush (v := nI 24) X.1 X.2.1 d_M_spreadOf_124 (by decide) ?_
      refine lv_iload_n X.1 X.2.1 d_M_spreadOf_126 rfl (lv_at hl 6 rfl) ?_
      refine hn_mul X d_M_spreadOf_127 ?_
      refine lv_iload X.1 X.2.1 d_M_spreadOf_128 (lv_at hl 0 rfl) ?_
      refine hn_add X d_M_spreadOf_130 ?_
      refine hl_zald X hK hh (md_in hd (k := 8) rfl) (md_at_8 hd) (by omega) (by decide) d_M_spreadOf_131 ?_
      refine hn_zeq (tgt := 138) X (by omega) d_M_spreadOf_132 (by decide) (fun hc => ?_) (fun hc => ?_)
      · have hc0 : y8 (24 * a + v) = 0 := hc
        obtain ⟨hcl, hI2, hO2⟩ := sp_s ha hI hO hkc hi (by rw [← ev]; exact t24) (by rw [← ev]; exact hc0)
        rw [← ev] at hI2 hO2
        have vne : v ≠ qu k := fun h => by rw [h, q2] at hc0; omega
        obtain ⟨g1, g2, g3⟩ := hI.2.2.2.2.2.2 (qu k) q1 q2
        have rsym : gp_sym (ch_D n 0) (ro (qu k)) := gp_gen_in (gp_sym_sg _) (by rintro t ⟨x, hx, rfl⟩; exact hgm x hx) _ g1
        have cpy : ∀ (t2 x : Nat) (H : Heap) (locs : List Loc) (ls : Array Slot), 24 + 1 ≤ x + t2 → x ≤ 24 → hl_H g (hm_A sz L) s.heap L (mf g d f0 n mm sm kn mk r3 r5 (fw y7 (24 * a + v) (gm i ∘ ro (qu k)) x) (va_up y8 (24 * a + v) 1) r10 r11 r12 r13 r14 qu r16 r17 r18 r19 r20 r21 r22 r23) H locs → lv_has ls 8 [(7, .int (nI x)), (6, .int (nI v)), (5, .int (nI (qu k))), (4, .int (nI i)), (3, .int (nI k)), (2, .int (nI c0)), (0, .ref (d 0)), (1, .int (nI a))] → W p l e { frames := 0, cells := 0, slots := 0, locals := 0 } s m #[.ref (d 0), .int (nI a)] below meth c H locs 0 0 (MQ below (va_Qv (post) (hm_B g sz L) (hm_A sz L)) #[.ref (d 0), .int (nI a)] s 0 0 (hm_A sz L)) (F0 m 154 ls []) := by
          intro t2
          induction t2 with
          | zero => intros; omega
          | succ t2 ih2 =>
            intro x H locs ls hkt2 hx24 hh hl
            refine lv_iload X.1 X.2.1 d_M_spreadOf_154 (lv_at hl 0 rfl) ?_
            refine lv_bipush (v := nI 24) X.1 X.2.1 d_M_spreadOf_156 (by decide) ?_
            refine hn_ige (tgt := 214) X (by omega) (by omega) d_M_spreadOf_158 (by decide) (fun hc => ?_) (fun hc => ?_)
            · have hx : x = 24 := by omega
              rw [hx] at hh
              refine lv_aload_n X.1 X.2.1 d_M_spreadOf_214 rfl (lv_at hl 6 rfl) ?_
              refine hl_get X hK hh (ref := "CycleGroupsModel") i_M (ci := 5) rfl 15 (by decide) w_366 rfl (md_in hd (k := 0) rfl) md_at_0 rfl d_M_spreadOf_215 ?_
              refine lv_iload_n X.1 X.2.1 d_M_spreadOf_218 rfl (lv_at hl 5 rfl) ?_
              refine lv_iload X.1 X.2.1 d_M_spreadOf_219 (lv_at hl 1 rfl) ?_
              refine hl_iastN X hK hh (md_in hd (k := 15) rfl) (md_at_15 hd) (by omega) (by decide) d_M_spreadOf_221 (fun H locs hh => ?_)
              have hh : hl_H g (hm_A sz L) s.heap L (mf g d f0 n mm sm kn mk r3 r5 (fw y7 (24 * a + v) (gm i ∘ ro (qu k)) 24) (va_up y8 (24 * a + v) 1) r10 r11 r12 r13 r14 (va_up qu c0 v) r16 r17 r18 r19 r20 r21 r22 r23) H locs := md_set_15 hd hh
              refine lv_iinc (v := nI (c0 + 1)) (lv' := [(2, .int (nI (c0 + 1))), (7, .int (nI x)), (6, .int (nI v)), (5, .int (nI (qu k))), (4, .int (nI i)), (3, .int (nI k)), (0, .ref (d 0)), (1, .int (nI a))]) X.1 X.2.1 d_M_spreadOf_222 hl (k := 5) rfl (hn_inc _) (by decide) rfl (fun ls hl => ?_)
              refine lv_iinc (v := nI (i + 1)) (lv' := [(4, .int (nI (i + 1))), (2, .int (nI (c0 + 1))), (7, .int (nI x)), (6, .int (nI v)), (5, .int (nI (qu k))), (3, .int (nI k)), (0, .ref (d 0)), (1, .int (nI a))]) X.1 X.2.1 d_M_spreadOf_225 hl (k := 4) rfl (hn_inc _) (by decide) rfl (fun ls hl => ?_)
              refine lv_goto (tgt := 88) X.1 X.2.1 d_M_spreadOf_228 (by decide) ?_
              have qe : ∀ j, j < c0 → va_up qu c0 v j = qu j := fun j hj => va_up_ne _ _ (by omega)
              have ke : ∀ j, y8 j = 1 → va_up y8 (24 * a + v) 1 j = 1 := fun j hj => by
                by_cases e0 : j = 24 * a + v
                · rw [e0, va_up_self]
                · rw [va_up_ne _ _ e0]; exact hj
              refine ih (i + 1) (c0 + 1) _ _ _ _ H locs _ (by omega) (by omega) hI2 hO2 (by omega) (fun y hy j hj => ?_) (fun j hj => ?_) hh (lv_sub hl [0, 5, 1, 6, 7] rfl)
              · rw [qe y (by omega)]; exact ke _ (hP y hy j hj)
              · rw [qe k hkc]
                by_cases e0 : j = i
                · rw [e0, ← ev, va_up_self]
                · exact ke _ (hPk j (by omega))
            have hx : x < 24 := hc
            have f1 : fw y7 (24 * a + v) (gm i ∘ ro (qu k)) x (24 * (24 * a + qu k) + x) = ro (qu k) x := by
              rw [fw_out y7 _ _ hx24 hx (by omega)]; exact g3 x hx
            have f2 := sym_24 rsym hn hx
            have f3 := h10 i hi (ro (qu k) x) f2
            have f4 := sym_24 (hgm i hi) hn f2
            refine lv_aload_n X.1 X.2.1 d_M_spreadOf_161 rfl (lv_at hl 6 rfl) ?_
            refine hl_get X hK hh (ref := "CycleGroupsModel") i_M (ci := 5) rfl 7 (by decide) w_358 rfl (md_in hd (k := 0) rfl) md_at_0 rfl d_M_spreadOf_162 ?_
            refine lv_bipush (v := nI 24) X.1 X.2.1 d_M_spreadOf_165 (by decide) ?_
            refine lv_bipush (v := nI 24) X.1 X.2.1 d_M_spreadOf_167 (by decide) ?_
            refine lv_iload_n X.1 X.2.1 d_M_spreadOf_169 rfl (lv_at hl 7 rfl) ?_
            refine hn_mul X d_M_spreadOf_170 ?_
            refine lv_iload X.1 X.2.1 d_M_spreadOf_171 (lv_at hl 1 rfl) ?_
            refine hn_add X d_M_spreadOf_173 ?_
            refine hn_mul X d_M_spreadOf_174 ?_
            refine lv_iload X.1 X.2.1 d_M_spreadOf_175 (lv_at hl 0 rfl) ?_
            refine hn_add X d_M_spreadOf_177 ?_
            refine lv_aload_n X.1 X.2.1 d_M_spreadOf_178 rfl (lv_at hl 6 rfl) ?_
            refine hl_get X hK hh (ref := "CycleGroupsModel") i_M (ci := 5) rfl 10 (by decide) w_361 rfl (md_in hd (k := 0) rfl) md_at_0 rfl d_M_spreadOf_179 ?_
            refine lv_bipush (v := nI 24) X.1 X.2.1 d_M_spreadOf_182 (by decide) ?_
            refine lv_iload X.1 X.2.1 d_M_spreadOf_184 (lv_at hl 3 rfl) ?_
            refine hn_mul X d_M_spreadOf_186 ?_
            refine lv_aload_n X.1 X.2.1 d_M_spreadOf_187 rfl (lv_at hl 6 rfl) ?_
            refine hl_get X hK hh (ref := "CycleGroupsModel") i_M (ci := 5) rfl 7 (by decide) w_358 rfl (md_in hd (k := 0) rfl) md_at_0 rfl d_M_spreadOf_188 ?_
            refine lv_bipush (v := nI 24) X.1 X.2.1 d_M_spreadOf_191 (by decide) ?_
            refine lv_bipush (v := nI 24) X.1 X.2.1 d_M_spreadOf_193 (by decide) ?_
            refine lv_iload_n X.1 X.2.1 d_M_spreadOf_195 rfl (lv_at hl 7 rfl) ?_
            refine hn_mul X d_M_spreadOf_196 ?_
            refine lv_iload X.1 X.2.1 d_M_spreadOf_197 (lv_at hl 2 rfl) ?_
            refine hn_add X d_M_spreadOf_199 ?_
            refine hn_mul X d_M_spreadOf_200 ?_
            refine lv_iload X.1 X.2.1 d_M_spreadOf_201 (lv_at hl 0 rfl) ?_
            refine hn_add X d_M_spreadOf_203 ?_
            refine hl_iald X hK hh (md_in hd (k := 7) rfl) (md_at_7 hd) (by omega) (by decide) d_M_spreadOf_204 ?_
            refine hn_add X d_M_spreadOf_205 ?_
            rw [f1]
            refine hl_iald X hK hh (md_in hd (k := 10) rfl) (md_at_10 hd) (by omega) (by decide) d_M_spreadOf_206 ?_
            refine hl_iastN X hK hh (md_in hd (k := 7) rfl) (md_at_7 hd) (by omega) (by decide) d_M_spreadOf_207 (fun H locs hh => ?_)
            have hh : hl_H g (hm_A sz L) s.heap L (mf g d f0 n mm sm kn mk r3 r5 (va_up (fw y7 (24 * a + v) (gm i ∘ ro (qu k)) x) ((24 * ((24 * a) + v)) + x) (r10 ((24 * i) + (ro (qu k) x)))) (va_up y8 (24 * a + v) 1) r10 r11 r12 r13 r14 qu r16 r17 r18 r19 r20 r21 r22 r23) H locs := md_set_7 hd hh
            refine lv_iinc (v := nI (x + 1)) (lv' := [(7, .int (nI (x + 1))), (6, .int (nI v)), (5, .int (nI (qu k))), (4, .int (nI i)), (3, .int (nI k)), (2, .int (nI c0)), (0, .ref (d 0)), (1, .int (nI a))]) X.1 X.2.1 d_M_spreadOf_208 hl (k := 0) rfl (hn_inc _) (by decide) rfl (fun ls hl => ?_)
            refine lv_goto (tgt := 154) X.1 X.2.1 d_M_spreadOf_211 (by decide) ?_
            rw [f3, show gm i (ro (qu k) x) = (gm i ∘ ro (qu k)) x from rfl, fw_s] at hh
            exact ih2 (x + 1) H locs _ (by omega) (by omega) hh hl
        refine lv_aload_n X.1 X.2.1 d_M_spreadOf_138 rfl (lv_at hl 5 rfl) ?_
        refine hl_get X hK hh (ref := "CycleGroupsModel") i_M (ci := 5) rfl 8 (by decide) w_359 rfl (md_in hd (k := 0) rfl) md_at_0 rfl d_M_spreadOf_139 ?_
        refine lv_bipush (v := nI 24) X.1 X.2.1 d_M_spreadOf_142 (by decide) ?_
        refine lv_iload_n X.1 X.2.1 d_M_spreadOf_144 rfl (lv_at hl 6 rfl) ?_
        refine hn_mul X d_M_spreadOf_145 ?_
        refine lv_iload X.1 X.2.1 d_M_spreadOf_146 (lv_at hl 0 rfl) ?_
        refine hn_add X d_M_spreadOf_148 ?_
        refine lv_iconst (v := nI 1) X.1 X.2.1 d_M_spreadOf_149 (by decide) ?_
        refine hl_zastN X hK hh (md_in hd (k := 8) rfl) (md_at_8 hd) (by omega) (by decide) (by first | exact Or.inl rfl | exact Or.inr rfl) d_M_spreadOf_150 (fun H locs hh => ?_)
        have hh : hl_H g (hm_A sz L) s.heap L (mf g d f0 n mm sm kn mk r3 r5 y7 (va_up y8 ((24 * a) + v) 1) r10 r11 r12 r13 r14 qu r16 r17 r18 r19 r20 r21 r22 r23) H locs := md_set_8 hd hh
        refine lv_iconst (v := nI 0) X.1 X.2.1 d_M_spreadOf_151 (by decide) ?_
        refine lv_istore (lv' := [(7, .int (nI 0)), (6, .int (nI v)), (5, .int (nI (qu k))), (4, .int (nI i)), (3, .int (nI k)), (2, .int (nI c0)), (0, .ref (d 0)), (1, .int (nI a))]) X.1 X.2.1 d_M_spreadOf_152 hl (by decide) rfl (fun ls hl => ?_)
        refine cpy 25 0 H locs _ (by omega) (by omega) ?_ hl
        rw [fw_0]; exact hh
      have hc : ¬ y8 (24 * a + v) = 0 := hc
      refine lv_goto (tgt := 225) X.1 X.2.1 d_M_spreadOf_135 (by decide) ?_
      refine lv_iinc (v := nI (i + 1)) (lv' := [(4, .int (nI (i + 1))), (6, .int (nI v)), (5, .int (nI (qu k))), (3, .int (nI k)), (2, .int (nI c0)), (0, .ref (d 0)), (1, .int (nI a))]) X.1 X.2.1 d_M_spreadOf_225 hl (k := 2) rfl (hn_inc _) (by decide) rfl (fun ls hl => ?_)
      refine lv_goto (tgt := 88) X.1 X.2.1 d_M_spreadOf_228 (by decide) ?_
      refine ih (i + 1) c0 y7 y8 qu ro H locs _ (by omega) (by omega) hI hO hkc hP (fun j hj => ?_) hh (lv_sub hl [0, 3, 4, 5, 6] rfl)
      by_cases e0 : j = i
      · rw [e0, ← ev]; omega
      · exact hPk j (by omega)
  have outer : ∀ (t k c0 : Nat) (y7 y8 qu : Nat → Nat) (ro : Nat → gp_f) (H : Heap) (locs : List Loc) (ls : Array Slot), 24 + 1 ≤ k + t → k ≤ c0 → sp_I n mk gm a c0 y7 y8 qu ro → sp_o a r7 r8 y7 y8 → (∀ i, i < k → ∀ j, j < mk → y8 (24 * a + gm j (qu i)) = 1) → hl_H g (hm_A sz L) s.heap L (mf g d f0 n mm sm kn mk r3 r5 y7 y8 r10 r11 r12 r13 r14 qu r16 r17 r18 r19 r20 r21 r22 r23) H locs → lv_has ls 8 [(3, .int (nI k)), (2, .int (nI c0)), (0, .ref (d 0)), (1, .int (nI a))] → W p l e { frames := 0, cells := 0, slots := 0, locals := 0 } s m #[.ref (d 0), .int (nI a)] below meth c H locs 0 0 (MQ below (va_Qv (post) (hm_B g sz L) (hm_A sz L)) #[.ref (d 0), .int (nI a)] s 0 0 (hm_A sz L)) (F0 m 80 ls []) := by
    intro t
    induction t with
    | zero => intro k c0 y7 y8 qu ro H locs ls hkt hin hI; have := c24 hI; omega
    | succ t ih =>
      intro k c0 y7 y8 qu ro H locs ls hkt hin hI hO hP hh hl
      have hc24 := c24 hI
      refine lv_iload_n X.1 X.2.1 d_M_spreadOf_80 rfl (lv_at hl 0 rfl) ?_
      refine lv_iload_n X.1 X.2.1 d_M_spreadOf_81 rfl (lv_at hl 1 rfl) ?_
      refine hn_ige (tgt := 237) X (by omega) (by omega) d_M_spreadOf_82 (by decide) (fun hc => ?_) (fun hc => ?_)
      · have hi : k = c0 := by omega
        subst hi
        exact hm_vret X hr hlk hh (hpo y7 y8 qu ro (sp_end hI hP) hO) (Nat.le_of_ble_eq_true rfl) (Nat.le_of_ble_eq_true rfl) d_M_spreadOf_237
      have hi : k < c0 := hc
      refine lv_iconst (v := nI 0) X.1 X.2.1 d_M_spreadOf_85 (by decide) ?_
      refine lv_istore (lv' := [(4, .int (nI 0)), (3, .int (nI k)), (2, .int (nI c0)), (0, .ref (d 0)), (1, .int (nI a))]) X.1 X.2.1 d_M_spreadOf_86 hl (by decide) rfl (fun ls hl => ?_)
      exact inner k (fun c0 y7 y8 qu ro H locs ls hI hO hk2 hP hh hl => ih (k + 1) c0 y7 y8 qu ro H locs ls (by omega) (by omega) hI hO hP hh hl) (mk + 1) 0 c0 y7 y8 qu ro H locs _ (by omega) (by omega) hI hO hi hP (fun j hj => absurd hj (Nat.not_lt_zero _)) hh hl
  have idl : ∀ (t i : Nat) (H : Heap) (locs : List Loc) (ls : Array Slot), 24 + 1 ≤ i + t → i ≤ 24 → hl_H g (hm_A sz L) s.heap L (mf g d f0 n mm sm kn mk r3 r5 (fw r7 (24 * a + a) id i) (va_up (fw r8 a (fun _ => 0) 24) (24 * a + a) 1) r10 r11 r12 r13 r14 r15 r16 r17 r18 r19 r20 r21 r22 r23) H locs → lv_has ls 8 [(2, .int (nI i)), (0, .ref (d 0)), (1, .int (nI a))] → W p l e { frames := 0, cells := 0, slots := 0, locals := 0 } s m #[.ref (d 0), .int (nI a)] below meth c H locs 0 0 (MQ below (va_Qv (post) (hm_B g sz L) (hm_A sz L)) #[.ref (d 0), .int (nI a)] s 0 0 (hm_A sz L)) (F0 m 40 ls []) := by
    intro t
    induction t with
    | zero => intros; omega
    | succ t ih =>
      intro i H locs ls hkt hin hh hl
      refine lv_iload_n X.1 X.2.1 d_M_spreadOf_40 rfl (lv_at hl 0 rfl) ?_
      refine lv_bipush (v := nI 24) X.1 X.2.1 d_M_spreadOf_41 (by decide) ?_
      refine hn_ige (tgt := 69) X (by omega) (by omega) d_M_spreadOf_43 (by decide) (fun hc => ?_) (fun hc => ?_)
      · have hi : i = 24 := by omega
        rw [hi] at hh
        refine lv_aload_n X.1 X.2.1 d_M_spreadOf_69 rfl (lv_at hl 1 rfl) ?_
        refine hl_get X hK hh (ref := "CycleGroupsModel") i_M (ci := 5) rfl 15 (by decide) w_366 rfl (md_in hd (k := 0) rfl) md_at_0 rfl d_M_spreadOf_70 ?_
        refine lv_iconst (v := nI 0) X.1 X.2.1 d_M_spreadOf_73 (by decide) ?_
        refine lv_iload_n X.1 X.2.1 d_M_spreadOf_74 rfl (lv_at hl 2 rfl) ?_
        refine hl_iastN X hK hh (md_in hd (k := 15) rfl) (md_at_15 hd) (by omega) (by decide) d_M_spreadOf_75 (fun H locs hh => ?_)
        have hh : hl_H g (hm_A sz L) s.heap L (mf g d f0 n mm sm kn mk r3 r5 (fw r7 (24 * a + a) id 24) (va_up (fw r8 a (fun _ => 0) 24) (24 * a + a) 1) r10 r11 r12 r13 r14 (va_up r15 0 a) r16 r17 r18 r19 r20 r21 r22 r23) H locs := md_set_15 hd hh
        refine lv_iconst (v := nI 1) X.1 X.2.1 d_M_spreadOf_76 (by decide) ?_
        refine lv_istore_n (lv' := [(2, .int (nI 1)), (0, .ref (d 0)), (1, .int (nI a))]) X.1 X.2.1 d_M_spreadOf_77 rfl hl (by decide) rfl (fun ls hl => ?_)
        refine lv_iconst (v := nI 0) X.1 X.2.1 d_M_spreadOf_78 (by decide) ?_
        refine lv_istore_n (lv' := [(3, .int (nI 0)), (2, .int (nI 1)), (0, .ref (d 0)), (1, .int (nI a))]) X.1 X.2.1 d_M_spreadOf_79 rfl hl (by decide) rfl (fun ls hl => ?_)
        obtain ⟨z1, z2⟩ := sp_0 (n := n) (mk := mk) (gm := gm) (r7 := r7) (qu := r15) ha h8
        exact outer 25 0 1 _ _ _ _ H locs _ (by omega) (by omega) z1 z2 (fun i hi => absurd hi (Nat.not_lt_zero _)) hh hl
      have hi : i < 24 := hc
      refine lv_aload_n X.1 X.2.1 d_M_spreadOf_46 rfl (lv_at hl 1 rfl) ?_
      refine hl_get X hK hh (ref := "CycleGroupsModel") i_M (ci := 5) rfl 7 (by decide) w_358 rfl (md_in hd (k := 0) rfl) md_at_0 rfl d_M_spreadOf_47 ?_
      refine lv_bipush (v := nI 24) X.1 X.2.1 d_M_spreadOf_50 (by decide) ?_
      refine lv_bipush (v := nI 24) X.1 X.2.1 d_M_spreadOf_52 (by decide) ?_
      refine lv_iload_n X.1 X.2.1 d_M_spreadOf_54 rfl (lv_at hl 2 rfl) ?_
      refine hn_mul X d_M_spreadOf_55 ?_
      refine lv_iload_n X.1 X.2.1 d_M_spreadOf_56 rfl (lv_at hl 2 rfl) ?_
      refine hn_add X d_M_spreadOf_57 ?_
      refine hn_mul X d_M_spreadOf_58 ?_
      refine lv_iload_n X.1 X.2.1 d_M_spreadOf_59 rfl (lv_at hl 0 rfl) ?_
      refine hn_add X d_M_spreadOf_60 ?_
      refine lv_iload_n X.1 X.2.1 d_M_spreadOf_61 rfl (lv_at hl 0 rfl) ?_
      refine hl_iastN X hK hh (md_in hd (k := 7) rfl) (md_at_7 hd) (by omega) (by decide) d_M_spreadOf_62 (fun H locs hh => ?_)
      have hh : hl_H g (hm_A sz L) s.heap L (mf g d f0 n mm sm kn mk r3 r5 (va_up (fw r7 (24 * a + a) id i) ((24 * ((24 * a) + a)) + i) i) (va_up (fw r8 a (fun _ => 0) 24) (24 * a + a) 1) r10 r11 r12 r13 r14 r15 r16 r17 r18 r19 r20 r21 r22 r23) H locs := md_set_7 hd hh
      refine lv_iinc (v := nI (i + 1)) (lv' := [(2, .int (nI (i + 1))), (0, .ref (d 0)), (1, .int (nI a))]) X.1 X.2.1 d_M_spreadOf_63 hl (k := 0) rfl (hn_inc _) (by decide) rfl (fun ls hl => ?_)
      refine lv_goto (tgt := 40) X.1 X.2.1 d_M_spreadOf_66 (by decide) ?_
      rw [show va_up (fw r7 (24 * a + a) id i) (24 * (24 * a + a) + i) i = fw r7 (24 * a + a) id (i + 1) from fw_s r7 (24 * a + a) id i] at hh
      exact ih (i + 1) H locs _ (by omega) (by omega) hh hl
  have clr : ∀ (t i : Nat) (H : Heap) (locs : List Loc) (ls : Array Slot), 24 + 1 ≤ i + t → i ≤ 24 → hl_H g (hm_A sz L) s.heap L (mf g d f0 n mm sm kn mk r3 r5 r7 (fw r8 a (fun _ => 0) i) r10 r11 r12 r13 r14 r15 r16 r17 r18 r19 r20 r21 r22 r23) H locs → lv_has ls 8 [(2, .int (nI i)), (0, .ref (d 0)), (1, .int (nI a))] → W p l e { frames := 0, cells := 0, slots := 0, locals := 0 } s m #[.ref (d 0), .int (nI a)] below meth c H locs 0 0 (MQ below (va_Qv (post) (hm_B g sz L) (hm_A sz L)) #[.ref (d 0), .int (nI a)] s 0 0 (hm_A sz L)) (F0 m 2 ls []) := by
    intro t
    induction t with
    | zero => intros; omega
    | succ t ih =>
      intro i H locs ls hkt hin hh hl
      refine lv_iload_n X.1 X.2.1 d_M_spreadOf_2 rfl (lv_at hl 0 rfl) ?_
      refine lv_bipush (v := nI 24) X.1 X.2.1 d_M_spreadOf_3 (by decide) ?_
      refine hn_ige (tgt := 26) X (by omega) (by omega) d_M_spreadOf_5 (by decide) (fun hc => ?_) (fun hc => ?_)
      · have hi : i = 24 := by omega
        rw [hi] at hh
        refine lv_aload_n X.1 X.2.1 d_M_spreadOf_26 rfl (lv_at hl 1 rfl) ?_
        refine hl_get X hK hh (ref := "CycleGroupsModel") i_M (ci := 5) rfl 8 (by decide) w_359 rfl (md_in hd (k := 0) rfl) md_at_0 rfl d_M_spreadOf_27 ?_
        refine lv_bipush (v := nI 24) X.1 X.2.1 d_M_spreadOf_30 (by decide) ?_
        refine lv_iload_n X.1 X.2.1 d_M_spreadOf_32 rfl (lv_at hl 2 rfl) ?_
        refine hn_mul X d_M_spreadOf_33 ?_
        refine lv_iload_n X.1 X.2.1 d_M_spreadOf_34 rfl (lv_at hl 2 rfl) ?_
        refine hn_add X d_M_spreadOf_35 ?_
        refine lv_iconst (v := nI 1) X.1 X.2.1 d_M_spreadOf_36 (by decide) ?_
        refine hl_zastN X hK hh (md_in hd (k := 8) rfl) (md_at_8 hd) (by omega) (by decide) (by first | exact Or.inl rfl | exact Or.inr rfl) d_M_spreadOf_37 (fun H locs hh => ?_)
        have hh : hl_H g (hm_A sz L) s.heap L (mf g d f0 n mm sm kn mk r3 r5 r7 (va_up (fw r8 a (fun _ => 0) 24) ((24 * a) + a) 1) r10 r11 r12 r13 r14 r15 r16 r17 r18 r19 r20 r21 r22 r23) H locs := md_set_8 hd hh
        refine lv_iconst (v := nI 0) X.1 X.2.1 d_M_spreadOf_38 (by decide) ?_
        refine lv_istore_n (lv' := [(2, .int (nI 0)), (0, .ref (d 0)), (1, .int (nI a))]) X.1 X.2.1 d_M_spreadOf_39 rfl hl (by decide) rfl (fun ls hl => ?_)
        refine idl 25 0 H locs _ (by omega) (by omega) ?_ hl
        rw [fw_0]; exact hh
      have hi : i < 24 := hc
      refine lv_aload_n X.1 X.2.1 d_M_spreadOf_8 rfl (lv_at hl 1 rfl) ?_
      refine hl_get X hK hh (ref := "CycleGroupsModel") i_M (ci := 5) rfl 8 (by decide) w_359 rfl (md_in hd (k := 0) rfl) md_at_0 rfl d_M_spreadOf_9 ?_
      refine lv_bipush (v := nI 24) X.1 X.2.1 d_M_spreadOf_12 (by decide) ?_
      refine lv_iload_n X.1 X.2.1 d_M_spreadOf_14 rfl (lv_at hl 2 rfl) ?_
      refine hn_mul X d_M_spreadOf_15 ?_
      refine lv_iload_n X.1 X.2.1 d_M_spreadOf_16 rfl (lv_at hl 0 rfl) ?_
      refine hn_add X d_M_spreadOf_17 ?_
      refine lv_iconst (v := nI 0) X.1 X.2.1 d_M_spreadOf_18 (by decide) ?_
      refine hl_zastN X hK hh (md_in hd (k := 8) rfl) (md_at_8 hd) (by omega) (by decide) (by first | exact Or.inl rfl | exact Or.inr rfl) d_M_spreadOf_19 (fun H locs hh => ?_)
      have hh : hl_H g (hm_A sz L) s.heap L (mf g d f0 n mm sm kn mk r3 r5 r7 (va_up (fw r8 a (fun _ => 0) i) ((24 * a) + i) 0) r10 r11 r12 r13 r14 r15 r16 r17 r18 r19 r20 r21 r22 r23) H locs := md_set_8 hd hh
      refine lv_iinc (v := nI (i + 1)) (lv' := [(2, .int (nI (i + 1))), (0, .ref (d 0)), (1, .int (nI a))]) X.1 X.2.1 d_M_spreadOf_20 hl (k := 0) rfl (hn_inc _) (by decide) rfl (fun ls hl => ?_)
      refine lv_goto (tgt := 2) X.1 X.2.1 d_M_spreadOf_23 (by decide) ?_
      rw [show va_up (fw r8 a (fun _ => 0) i) (24 * a + i) 0 = fw r8 a (fun _ => 0) (i + 1) from fw_s r8 a (fun _ => 0) i] at hh
      exact ih (i + 1) H locs _ (by omega) (by omega) hh hl
  refine lv_iconst (v := nI 0) X.1 X.2.1 d_M_spreadOf_0 (by decide) ?_
  refine lv_istore_n (lv' := [(2, .int (nI 0)), (0, .ref (d 0)), (1, .int (nI a))]) X.1 X.2.1 d_M_spreadOf_1 rfl hl (by decide) rfl (fun ls hl => ?_)
  refine clr 25 0 _ _ _ (by omega) (by omega) ?_ hl
  rw [fw_0]; exact hh

end

