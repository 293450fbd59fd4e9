/-! The reference: walk. -/
section
/-- private boolean walk(int from, int to) -/
theorem c_M_walk (l : Launch) (g : hl_G) (sz : Nat) (L : List Nat) (d : Nat → Nat) (f0 : Nat → va_E) (hd : md_D L d) (n mm sm kn mk : Nat) (r3 r5 r7 r8 r10 r11 r12 r13 r14 r15 r16 r17 r18 r19 r20 r21 r22 r23 : Nat → Nat) (hn : n ≤ 24) (la : Nat → gp_f) (hV : jf_V n r14 r11 r12 la) (hu : ∀ e, r14 e = 0 ∨ r14 e = 1) (b a : Nat) (hb0 : b < 24) (ha : a < 24) (post : Int32 → List Nat × (Nat → va_E) → Prop)
    (hpo : ∀ qu by' sn dep, jf_B r14 r11 r12 b sn by' dep → post (nI (sn a)) (L, mf g d f0 n mm sm kn mk r3 r5 r7 r8 r10 r11 r12 r13 r14 qu by' sn r18 r19 r20 r21 r22 r23)) :
    Met l y_M_walk (hq y_M_walk b_M_walk 7 (some .boolean)) { frames := 0, cells := 0, slots := 0, locals := 0 } (hm_P g [.ref (d 0), .int (nI b), .int (nI a)] sz L (mf g d f0 n mm sm kn mk r3 r5 r7 r8 r10 r11 r12 r13 r14 r15 r16 r17 r18 r19 r20 r21 r22 r23)) (va_Qi (post) (hm_B g sz L) (hm_A sz L)) 0 0 (hm_A sz L) := by
  refine hm_ofW (by decide) (Nat.le_of_ble_eq_true rfl) ?_
  intro p e s m below meth c X hr hlk hnm hK hsz hh ls hl
  have hl : lv_has ls 7 [(0, .ref (d 0)), (1, .int (nI b)), (2, .int (nI a))] := hl
  have inner : ∀ (k : Nat), (∀ (c0 : Nat) (qu by' sn dep : Nat → Nat) (H : Heap) (locs : List Loc) (ls : Array Slot), jf_W r14 r11 r12 b c0 qu sn by' dep → k < c0 → (∀ i, i < k + 1 → jf_P r14 r11 r12 sn (qu i) 24) → hl_H g (hm_A sz L) s.heap L (mf g d f0 n mm sm kn mk r3 r5 r7 r8 r10 r11 r12 r13 r14 qu by' sn r18 r19 r20 r21 r22 r23) H locs → lv_has ls 7 [(4, .int (nI (k + 1))), (3, .int (nI c0)), (0, .ref (d 0)), (1, .int (nI b)), (2, .int (nI a))] → W p l e { frames := 0, cells := 0, slots := 0, locals := 0 } s m #[.ref (d 0), .int (nI b), .int (nI a)] below meth c H locs 0 0 (MQ below (va_Qi (post) (hm_B g sz L) (hm_A sz L)) #[.ref (d 0), .int (nI b), .int (nI a)] s 0 0 (hm_A sz L)) (F0 m 47 ls [])) →
      ∀ (t i c0 : Nat) (qu by' sn dep : Nat → Nat) (H : Heap) (locs : List Loc) (ls : Array Slot), 24 + 1 ≤ i + t → i ≤ 24 → jf_W r14 r11 r12 b c0 qu sn by' dep → k < c0 → (∀ i, i < k → jf_P r14 r11 r12 sn (qu i) 24) → jf_P r14 r11 r12 sn (qu k) i → hl_H g (hm_A sz L) s.heap L (mf g d f0 n mm sm kn mk r3 r5 r7 r8 r10 r11 r12 r13 r14 qu by' sn r18 r19 r20 r21 r22 r23) H locs → lv_has ls 7 [(5, .int (nI i)), (4, .int (nI k)), (3, .int (nI c0)), (0, .ref (d 0)), (1, .int (nI b)), (2, .int (nI a))] → W p l e { frames := 0, cells := 0, slots := 0, locals := 0 } s m #[.ref (d 0), .int (nI b), .int (nI a)] below meth c H locs 0 0 (MQ below (va_Qi (post) (hm_B g sz L) (hm_A sz L)) #[.ref (d 0), .int (nI b), .int (nI a)] s 0 0 (hm_A sz L)) (F0 m 56 ls []) := by
    intro k kk t
    induction t with
    | zero => intros; omega
    | succ t ih =>
      intro i c0 qu by' sn dep H locs ls hkt hin hW hkc hP hPk hh hl
      have hc24 : c0 ≤ 24 := by
        have := su_le (F := sn) (m := 1) (fun i => by rcases hW.1 i with e | e <;> rw [e] <;> omega) 24
        have := hW.2.1
        omega
      refine lv_iload X.1 X.2.1 d_M_walk_56 (lv_at hl 0 rfl) ?_
      refine lv_bipush (v := nI 24) X.1 X.2.1 d_M_walk_58 (by decide) ?_
      refine hn_ige (tgt := 193) X (by omega) (by omega) d_M_walk_60 (by decide) (fun hc => ?_) (fun hc => ?_)
      · have hi : i = 24 := by omega
        rw [hi] at hPk
        refine lv_iinc (v := nI (k + 1)) (lv' := [(4, .int (nI (k + 1))), (5, .int (nI i)), (3, .int (nI c0)), (0, .ref (d 0)), (1, .int (nI b)), (2, .int (nI a))]) X.1 X.2.1 d_M_walk_193 hl (k := 1) rfl (hn_inc _) (by decide) rfl (fun ls hl => ?_)
        refine lv_goto (tgt := 47) X.1 X.2.1 d_M_walk_196 (by decide) ?_
        refine kk c0 qu by' sn dep H locs ls hW hkc (fun j hj => ?_) hh (lv_sub hl [0, 2, 3, 4, 5] rfl)
        by_cases e0 : j = k
        · rw [e0]; exact hPk
        · exact hP j (by omega)
      have hi : i < 24 := hc
      obtain ⟨qk1, qk2, qk3⟩ := hW.2.2.1 k hkc
      have go : (r14 i = 1 → (r11 i = qu k → sn (r12 i) = 1) ∧ (r12 i = qu k → sn (r11 i) = 1)) → ∀ (ls : Array Slot), lv_has ls 7 [(5, .int (nI i)), (4, .int (nI k)), (3, .int (nI c0)), (0, .ref (d 0)), (1, .int (nI b)), (2, .int (nI a))] → W p l e { frames := 0, cells := 0, slots := 0, locals := 0 } s m #[.ref (d 0), .int (nI b), .int (nI a)] below meth c H locs 0 0 (MQ below (va_Qi (post) (hm_B g sz L) (hm_A sz L)) #[.ref (d 0), .int (nI b), .int (nI a)] s 0 0 (hm_A sz L)) (F0 m 187 ls []) := by
        intro hg ls hl
        refine lv_iinc (v := nI (i + 1)) (lv' := [(5, .int (nI (i + 1))), (4, .int (nI k)), (3, .int (nI c0)), (0, .ref (d 0)), (1, .int (nI b)), (2, .int (nI a))]) X.1 X.2.1 d_M_walk_187 hl (k := 0) rfl (hn_inc _) (by decide) rfl (fun ls hl => ?_)
        refine lv_goto (tgt := 56) X.1 X.2.1 d_M_walk_190 (by decide) ?_
        refine ih (i + 1) c0 qu by' sn dep H locs _ (by omega) (by omega) hW hkc hP (fun e2 h2 hu2 => ?_) hh hl
        by_cases e0 : e2 = i
        · rw [e0] at hu2 ⊢; exact hg hu2
        · exact hPk e2 (by omega) hu2
      have ui := hu i
      refine lv_aload_n X.1 X.2.1 d_M_walk_63 rfl (lv_at hl 3 rfl) ?_
      refine hl_get X hK hh (ref := "CycleGroupsModel") i_M (ci := 5) rfl 14 (by decide) w_365 rfl (md_in hd (k := 0) rfl) md_at_0 rfl d_M_walk_64 ?_
      refine lv_iload X.1 X.2.1 d_M_walk_67 (lv_at hl 0 rfl) ?_
      refine hl_zald X hK hh (md_in hd (k := 14) rfl) (md_at_14 hd) (by omega) (by decide) d_M_walk_69 ?_
      refine hn_zeq (tgt := 187) X (by omega) d_M_walk_70 (by decide) (fun hc => ?_) (fun hc => ?_)
      · have hc : r14 i = 0 := hc
        exact go (fun h => by omega) _ (lv_sub hl [0, 1, 2, 3, 4, 5] rfl)
      have hc1 : ¬ r14 i = 0 := hc
      have hc1 : r14 i = 1 := by omega
      obtain ⟨_, v1, v2, _, _⟩ := hV i hi hc1
      have far : ∀ q, jf_J r11 r12 i (qu k) q → q < 24 → ∀ (ls : Array Slot), lv_has ls 7 [(6, .int (nI q)), (5, .int (nI i)), (4, .int (nI k)), (3, .int (nI c0)), (0, .ref (d 0)), (1, .int (nI b)), (2, .int (nI a))] → W p l e { frames := 0, cells := 0, slots := 0, locals := 0 } s m #[.ref (d 0), .int (nI b), .int (nI a)] below meth c H locs 0 0 (MQ below (va_Qi (post) (hm_B g sz L) (hm_A sz L)) #[.ref (d 0), .int (nI b), .int (nI a)] s 0 0 (hm_A sz L)) (F0 m 146 ls []) := by
        intro q hj hq ls hl
        have sq := hW.1 q
        refine lv_aload_n X.1 X.2.1 d_M_walk_146 rfl (lv_at hl 4 rfl) ?_
        refine hl_get X hK hh (ref := "CycleGroupsModel") i_M (ci := 5) rfl 17 (by decide) w_368 rfl (md_in hd (k := 0) rfl) md_at_0 rfl d_M_walk_147 ?_
        refine lv_iload X.1 X.2.1 d_M_walk_150 (lv_at hl 0 rfl) ?_
        refine hl_zald X hK hh (md_in hd (k := 17) rfl) (md_at_17 hd) (by omega) (by decide) d_M_walk_152 ?_
        refine hn_zeq (tgt := 159) X (by omega) d_M_walk_153 (by decide) (fun hc => ?_) (fun hc => ?_)
        · have hc : sn q = 0 := hc
          obtain ⟨hc24, hW2⟩ := jf_Wp hW hq hc hi hc1 hj (fun e2 h2 hu2 hj2 => by
            rcases hj2 with ⟨x1, x2⟩ | ⟨x1, x2⟩
            · have := (hPk e2 h2 hu2).1 x1; rw [x2] at this; omega
            · have := (hPk e2 h2 hu2).2 x2; rw [x1] at this; omega) qk1 qk2
          refine lv_aload_n X.1 X.2.1 d_M_walk_159 rfl (lv_at hl 4 rfl) ?_
          refine hl_get X hK hh (ref := "CycleGroupsModel") i_M (ci := 5) rfl 17 (by decide) w_368 rfl (md_in hd (k := 0) rfl) md_at_0 rfl d_M_walk_160 ?_
          refine lv_iload X.1 X.2.1 d_M_walk_163 (lv_at hl 0 rfl) ?_
          refine lv_iconst (v := nI 1) X.1 X.2.1 d_M_walk_165 (by decide) ?_
          refine hl_zastN X hK hh (md_in hd (k := 17) rfl) (md_at_17 hd) (by omega) (by decide) (by first | exact Or.inl rfl | exact Or.inr rfl) d_M_walk_166 (fun H locs hh => ?_)
          have hh : hl_H g (hm_A sz L) s.heap L (mf g d f0 n mm sm kn mk r3 r5 r7 r8 r10 r11 r12 r13 r14 qu by' (va_up sn q 1) r18 r19 r20 r21 r22 r23) H locs := md_set_17 hd hh
          refine lv_aload_n X.1 X.2.1 d_M_walk_167 rfl (lv_at hl 4 rfl) ?_
          refine hl_get X hK hh (ref := "CycleGroupsModel") i_M (ci := 5) rfl 16 (by decide) w_367 rfl (md_in hd (k := 0) rfl) md_at_0 rfl d_M_walk_168 ?_
          refine lv_iload X.1 X.2.1 d_M_walk_171 (lv_at hl 0 rfl) ?_
          refine lv_iload X.1 X.2.1 d_M_walk_173 (lv_at hl 1 rfl) ?_
          refine hl_bastE X hK hh (md_in hd (k := 16) rfl) (md_at_16 hd) (by omega) d_M_walk_175 (fun H locs hh => ?_)
          have hh : hl_H g (hm_A sz L) s.heap L (mf g d f0 n mm sm kn mk r3 r5 r7 r8 r10 r11 r12 r13 r14 qu (va_up by' q (i + 1)) (va_up sn q 1) r18 r19 r20 r21 r22 r23) H locs := md_set_16 hd hh
          refine lv_aload_n X.1 X.2.1 d_M_walk_176 rfl (lv_at hl 4 rfl) ?_
          refine hl_get X hK hh (ref := "CycleGroupsModel") i_M (ci := 5) rfl 15 (by decide) w_366 rfl (md_in hd (k := 0) rfl) md_at_0 rfl d_M_walk_177 ?_
          refine lv_iload_n X.1 X.2.1 d_M_walk_180 rfl (lv_at hl 3 rfl) ?_
          refine lv_iload X.1 X.2.1 d_M_walk_181 (lv_at hl 0 rfl) ?_
          refine hl_iastN X hK hh (md_in hd (k := 15) rfl) (md_at_15 hd) (by omega) (by decide) d_M_walk_183 (fun H locs hh => ?_)
          have hh : hl_H g (hm_A sz L) s.heap L (mf g d f0 n mm sm kn mk r3 r5 r7 r8 r10 r11 r12 r13 r14 (va_up qu c0 q) (va_up by' q (i + 1)) (va_up sn q 1) r18 r19 r20 r21 r22 r23) H locs := md_set_15 hd hh
          refine lv_iinc (v := nI (c0 + 1)) (lv' := [(3, .int (nI (c0 + 1))), (6, .int (nI q)), (5, .int (nI i)), (4, .int (nI k)), (0, .ref (d 0)), (1, .int (nI b)), (2, .int (nI a))]) X.1 X.2.1 d_M_walk_184 hl (k := 3) rfl (hn_inc _) (by decide) rfl (fun ls hl => ?_)
          refine lv_iinc (v := nI (i + 1)) (lv' := [(5, .int (nI (i + 1))), (3, .int (nI (c0 + 1))), (6, .int (nI q)), (4, .int (nI k)), (0, .ref (d 0)), (1, .int (nI b)), (2, .int (nI a))]) X.1 X.2.1 d_M_walk_187 hl (k := 2) rfl (hn_inc _) (by decide) rfl (fun ls hl => ?_)
          refine lv_goto (tgt := 56) X.1 X.2.1 d_M_walk_190 (by decide) ?_
          have qe : ∀ j, j < c0 → va_up qu c0 q j = qu j := fun j hj => va_up_ne _ _ (by omega)
          refine ih (i + 1) (c0 + 1) _ _ _ _ H locs ls (by omega) (by omega) hW2 (by omega) (fun j hj => ?_) (fun e2 h2 hu2 => ?_) hh (lv_sub hl [0, 3, 1, 4, 5, 6] rfl)
          · rw [qe j (by omega)]; exact jf_P_up (hP j hj)
          · rw [qe k hkc]
            by_cases e0 : e2 = i
            · subst e0
              rcases hj with ⟨x1, x2⟩ | ⟨x1, x2⟩
              · refine ⟨fun _ => by rw [x2, va_up_self], fun h => ?_⟩
                omega
              · refine ⟨fun h => ?_, fun _ => by rw [x1, va_up_self]⟩
                omega
            · exact jf_P_up hPk e2 (by omega) hu2
        have hc : ¬ sn q = 0 := hc
        have hc : sn q = 1 := by omega
        refine lv_goto (tgt := 187) X.1 X.2.1 d_M_walk_156 (by decide) ?_
        refine go (fun _ => ?_) _ (lv_sub hl [1, 2, 3, 4, 5, 6] rfl)
        rcases hj with ⟨x1, x2⟩ | ⟨x1, x2⟩
        · refine ⟨fun _ => by rw [x2]; exact hc, fun h => ?_⟩
          omega
        · refine ⟨fun h => ?_, fun _ => by rw [x1]; exact hc⟩
          omega
      have near : (r11 i = qu k ∨ r12 i = qu k) → W p l e { frames := 0, cells := 0, slots := 0, locals := 0 } s m #[.ref (d 0), .int (nI b), .int (nI a)] below meth c H locs 0 0 (MQ below (va_Qi (post) (hm_B g sz L) (hm_A sz L)) #[.ref (d 0), .int (nI b), .int (nI a)] s 0 0 (hm_A sz L)) (F0 m 110 ls []) := by
        intro hor
        refine lv_aload_n X.1 X.2.1 d_M_walk_110 rfl (lv_at hl 3 rfl) ?_
        refine hl_get X hK hh (ref := "CycleGroupsModel") i_M (ci := 5) rfl 11 (by decide) w_362 rfl (md_in hd (k := 0) rfl) md_at_0 rfl d_M_walk_111 ?_
        refine lv_iload X.1 X.2.1 d_M_walk_114 (lv_at hl 0 rfl) ?_
        refine hl_iald X hK hh (md_in hd (k := 11) rfl) (md_at_11 hd) (by omega) (by decide) d_M_walk_116 ?_
        refine lv_aload_n X.1 X.2.1 d_M_walk_117 rfl (lv_at hl 3 rfl) ?_
        refine hl_get X hK hh (ref := "CycleGroupsModel") i_M (ci := 5) rfl 15 (by decide) w_366 rfl (md_in hd (k := 0) rfl) md_at_0 rfl d_M_walk_118 ?_
        refine lv_iload X.1 X.2.1 d_M_walk_121 (lv_at hl 1 rfl) ?_
        refine hl_iald X hK hh (md_in hd (k := 15) rfl) (md_at_15 hd) (by omega) (by decide) d_M_walk_123 ?_
        refine hn_ine (tgt := 137) X (by omega) (by omega) d_M_walk_124 (by decide) (fun hc => ?_) (fun hc => ?_)
        · have hc : ¬ r11 i = qu k := hc
          refine lv_aload_n X.1 X.2.1 d_M_walk_137 rfl (lv_at hl 3 rfl) ?_
          refine hl_get X hK hh (ref := "CycleGroupsModel") i_M (ci := 5) rfl 11 (by decide) w_362 rfl (md_in hd (k := 0) rfl) md_at_0 rfl d_M_walk_138 ?_
          refine lv_iload X.1 X.2.1 d_M_walk_141 (lv_at hl 0 rfl) ?_
          refine hl_iald X hK hh (md_in hd (k := 11) rfl) (md_at_11 hd) (by omega) (by decide) d_M_walk_143 ?_
          refine lv_istore (lv' := [(6, .int (nI (r11 i))), (5, .int (nI i)), (4, .int (nI k)), (3, .int (nI c0)), (0, .ref (d 0)), (1, .int (nI b)), (2, .int (nI a))]) X.1 X.2.1 d_M_walk_144 hl (by decide) rfl (fun ls hl => ?_)
          exact far (r11 i) (Or.inr ⟨rfl, by omega⟩) (by omega) _ hl
        have hc : r11 i = qu k := hc
        refine lv_aload_n X.1 X.2.1 d_M_walk_127 rfl (lv_at hl 3 rfl) ?_
        refine hl_get X hK hh (ref := "CycleGroupsModel") i_M (ci := 5) rfl 12 (by decide) w_363 rfl (md_in hd (k := 0) rfl) md_at_0 rfl d_M_walk_128 ?_
        refine lv_iload X.1 X.2.1 d_M_walk_131 (lv_at hl 0 rfl) ?_
        refine hl_iald X hK hh (md_in hd (k := 12) rfl) (md_at_12 hd) (by omega) (by decide) d_M_walk_133 ?_
        refine lv_goto (tgt := 144) X.1 X.2.1 d_M_walk_134 (by decide) ?_
        refine lv_istore (lv' := [(6, .int (nI (r12 i))), (5, .int (nI i)), (4, .int (nI k)), (3, .int (nI c0)), (0, .ref (d 0)), (1, .int (nI b)), (2, .int (nI a))]) X.1 X.2.1 d_M_walk_144 hl (by decide) rfl (fun ls hl => ?_)
        exact far (r12 i) (Or.inl ⟨hc, rfl⟩) (by omega) _ hl
      refine lv_aload_n X.1 X.2.1 d_M_walk_73 rfl (lv_at hl 3 rfl) ?_
      refine hl_get X hK hh (ref := "CycleGroupsModel") i_M (ci := 5) rfl 11 (by decide) w_362 rfl (md_in hd (k := 0) rfl) md_at_0 rfl d_M_walk_74 ?_
      refine lv_iload X.1 X.2.1 d_M_walk_77 (lv_at hl 0 rfl) ?_
      refine hl_iald X hK hh (md_in hd (k := 11) rfl) (md_at_11 hd) (by omega) (by decide) d_M_walk_79 ?_
      refine lv_aload_n X.1 X.2.1 d_M_walk_80 rfl (lv_at hl 3 rfl) ?_
      refine hl_get X hK hh (ref := "CycleGroupsModel") i_M (ci := 5) rfl 15 (by decide) w_366 rfl (md_in hd (k := 0) rfl) md_at_0 rfl d_M_walk_81 ?_
      refine lv_iload X.1 X.2.1 d_M_walk_84 (lv_at hl 1 rfl) ?_
      refine hl_iald X hK hh (md_in hd (k := 15) rfl) (md_at_15 hd) (by omega) (by decide) d_M_walk_86 ?_
      refine hn_ieq (tgt := 110) X (by omega) (by omega) d_M_walk_87 (by decide) (fun hc => ?_) (fun hc => ?_)
      · have hc : r11 i = qu k := hc
        exact near (Or.inl hc)
      have hc2 : ¬ r11 i = qu k := hc
      refine lv_aload_n X.1 X.2.1 d_M_walk_90 rfl (lv_at hl 3 rfl) ?_
      refine hl_get X hK hh (ref := "CycleGroupsModel") i_M (ci := 5) rfl 12 (by decide) w_363 rfl (md_in hd (k := 0) rfl) md_at_0 rfl d_M_walk_91 ?_
      refine lv_iload X.1 X.2.1 d_M_walk_94 (lv_at hl 0 rfl) ?_
      refine hl_iald X hK hh (md_in hd (k := 12) rfl) (md_at_12 hd) (by omega) (by decide) d_M_walk_96 ?_
      refine lv_aload_n X.1 X.2.1 d_M_walk_97 rfl (lv_at hl 3 rfl) ?_
      refine hl_get X hK hh (ref := "CycleGroupsModel") i_M (ci := 5) rfl 15 (by decide) w_366 rfl (md_in hd (k := 0) rfl) md_at_0 rfl d_M_walk_98 ?_
      refine lv_iload X.1 X.2.1 d_M_walk_101 (lv_at hl 1 rfl) ?_
      refine hl_iald X hK hh (md_in hd (k := 15) rfl) (md_at_15 hd) (by omega) (by decide) d_M_walk_103 ?_
      refine hn_ieq (tgt := 110) X (by omega) (by omega) d_M_walk_104 (by decide) (fun hc => ?_) (fun hc => ?_)
      · have hc : r12 i = qu k := hc
        exact near (Or.inr hc)
      have hc3 : ¬ r12 i = qu k := hc
      refine lv_goto (tgt := 187) X.1 X.2.1 d_M_walk_107 (by decide) ?_
      exact go (fun _ => ⟨fun h => absurd h hc2, fun h => absurd h hc3⟩) _ hl
  have outer : ∀ (t k c0 : Nat) (qu by' sn dep : Nat → Nat) (H : Heap) (locs : List Loc) (ls : Array Slot), 24 + 1 ≤ k + t → k ≤ c0 → jf_W r14 r11 r12 b c0 qu sn by' dep → (∀ i, i < k → jf_P r14 r11 r12 sn (qu i) 24) → hl_H g (hm_A sz L) s.heap L (mf g d f0 n mm sm kn mk r3 r5 r7 r8 r10 r11 r12 r13 r14 qu by' sn r18 r19 r20 r21 r22 r23) H locs → lv_has ls 7 [(4, .int (nI k)), (3, .int (nI c0)), (0, .ref (d 0)), (1, .int (nI b)), (2, .int (nI a))] → W p l e { frames := 0, cells := 0, slots := 0, locals := 0 } s m #[.ref (d 0), .int (nI b), .int (nI a)] below meth c H locs 0 0 (MQ below (va_Qi (post) (hm_B g sz L) (hm_A sz L)) #[.ref (d 0), .int (nI b), .int (nI a)] s 0 0 (hm_A sz L)) (F0 m 47 ls []) := by
    intro t
    induction t with
    | zero =>
      intro k c0 qu by' sn dep H locs ls hkt hin hW
      have := su_le (F := sn) (m := 1) (fun i => by rcases hW.1 i with e | e <;> rw [e] <;> omega) 24
      have := hW.2.1
      omega
    | succ t ih =>
      intro k c0 qu by' sn dep H locs ls hkt hin hW hP hh hl
      have hc24 : c0 ≤ 24 := by
        have := su_le (F := sn) (m := 1) (fun i => by rcases hW.1 i with e | e <;> rw [e] <;> omega) 24
        have := hW.2.1
        omega
      refine lv_iload X.1 X.2.1 d_M_walk_47 (lv_at hl 0 rfl) ?_
      refine lv_iload_n X.1 X.2.1 d_M_walk_49 rfl (lv_at hl 1 rfl) ?_
      refine hn_ige (tgt := 199) X (by omega) (by omega) d_M_walk_50 (by decide) (fun hc => ?_) (fun hc => ?_)
      · have hi : k = c0 := by omega
        subst hi
        refine lv_aload_n X.1 X.2.1 d_M_walk_199 rfl (lv_at hl 2 rfl) ?_
        refine hl_get X hK hh (ref := "CycleGroupsModel") i_M (ci := 5) rfl 17 (by decide) w_368 rfl (md_in hd (k := 0) rfl) md_at_0 rfl d_M_walk_200 ?_
        refine lv_iload_n X.1 X.2.1 d_M_walk_203 rfl (lv_at hl 4 rfl) ?_
        refine hl_zald X hK hh (md_in hd (k := 17) rfl) (md_at_17 hd) (by omega) (by decide) d_M_walk_204 ?_
        have zz := hW.1 a
        exact hm_zret X hr hlk hh (by rcases zz with q | q <;> rw [q]; exact Or.inl rfl; exact Or.inr rfl) (hpo qu by' sn dep (jf_WB hn hV hW hP)) (Nat.le_of_ble_eq_true rfl) (Nat.le_of_ble_eq_true rfl) d_M_walk_205
      have hi : k < c0 := hc
      refine lv_iconst (v := nI 0) X.1 X.2.1 d_M_walk_53 (by decide) ?_
      refine lv_istore (lv' := [(5, .int (nI 0)), (4, .int (nI k)), (3, .int (nI c0)), (0, .ref (d 0)), (1, .int (nI b)), (2, .int (nI a))]) X.1 X.2.1 d_M_walk_54 hl (by decide) rfl (fun ls hl => ?_)
      exact inner k (fun c0 qu by' sn dep H locs ls hW hk2 hP hh hl => ih (k + 1) c0 qu by' sn dep H locs ls (by omega) (by omega) hW hP hh hl) 25 0 c0 qu by' sn dep H locs _ (by omega) (by omega) hW hi hP (fun e2 h2 => absurd h2 (Nat.not_lt_zero _)) hh hl
  have clear : ∀ (t i : Nat) (y : Nat → Nat) (H : Heap) (locs : List Loc) (ls : Array Slot), 24 + 1 ≤ i + t → i ≤ 24 → (∀ p, p < i → y p = 0) → hl_H g (hm_A sz L) s.heap L (mf g d f0 n mm sm kn mk r3 r5 r7 r8 r10 r11 r12 r13 r14 r15 r16 y r18 r19 r20 r21 r22 r23) H locs → lv_has ls 7 [(3, .int (nI i)), (0, .ref (d 0)), (1, .int (nI b)), (2, .int (nI a))] → W p l e { frames := 0, cells := 0, slots := 0, locals := 0 } s m #[.ref (d 0), .int (nI b), .int (nI a)] below meth c H locs 0 0 (MQ below (va_Qi (post) (hm_B g sz L) (hm_A sz L)) #[.ref (d 0), .int (nI b), .int (nI a)] s 0 0 (hm_A sz L)) (F0 m 2 ls []) := by
    intro t
    induction t with
    | zero => intros; omega
    | succ t ih =>
      intro i y H locs ls hk hin hy hh hl
      refine lv_iload_n X.1 X.2.1 d_M_walk_2 rfl (lv_at hl 0 rfl) ?_
      refine lv_bipush (v := nI 24) X.1 X.2.1 d_M_walk_3 (by decide) ?_
      refine hn_ige (tgt := 21) X (by omega) (by omega) d_M_walk_5 (by decide) (fun hc => ?_) (fun hc => ?_)
      · have hh := md_nrm_17 (x := fun _ => 0) hd hh (fun p hp => hy p (by omega))
        refine lv_aload_n X.1 X.2.1 d_M_walk_21 rfl (lv_at hl 1 rfl) ?_
        refine hl_get X hK hh (ref := "CycleGroupsModel") i_M (ci := 5) rfl 15 (by decide) w_366 rfl (md_in hd (k := 0) rfl) md_at_0 rfl d_M_walk_22 ?_
        refine lv_iconst (v := nI 0) X.1 X.2.1 d_M_walk_25 (by decide) ?_
        refine lv_iload_n X.1 X.2.1 d_M_walk_26 rfl (lv_at hl 2 rfl) ?_
        refine hl_iastN X hK hh (md_in hd (k := 15) rfl) (md_at_15 hd) (by omega) (by decide) d_M_walk_27 (fun H locs hh => ?_)
        have hh : hl_H g (hm_A sz L) s.heap L (mf g d f0 n mm sm kn mk r3 r5 r7 r8 r10 r11 r12 r13 r14 (va_up r15 0 b) r16 (fun _ => 0) r18 r19 r20 r21 r22 r23) H locs := md_set_15 hd hh
        refine lv_aload_n X.1 X.2.1 d_M_walk_28 rfl (lv_at hl 1 rfl) ?_
        refine hl_get X hK hh (ref := "CycleGroupsModel") i_M (ci := 5) rfl 17 (by decide) w_368 rfl (md_in hd (k := 0) rfl) md_at_0 rfl d_M_walk_29 ?_
        refine lv_iload_n X.1 X.2.1 d_M_walk_32 rfl (lv_at hl 2 rfl) ?_
        refine lv_iconst (v := nI 1) X.1 X.2.1 d_M_walk_33 (by decide) ?_
        refine hl_zastN X hK hh (md_in hd (k := 17) rfl) (md_at_17 hd) (by omega) (by decide) (by first | exact Or.inl rfl | exact Or.inr rfl) d_M_walk_34 (fun H locs hh => ?_)
        have hh : hl_H g (hm_A sz L) s.heap L (mf g d f0 n mm sm kn mk r3 r5 r7 r8 r10 r11 r12 r13 r14 (va_up r15 0 b) r16 (va_up (fun _ => 0) b 1) r18 r19 r20 r21 r22 r23) H locs := md_set_17 hd hh
        refine lv_aload_n X.1 X.2.1 d_M_walk_35 rfl (lv_at hl 1 rfl) ?_
        refine hl_get X hK hh (ref := "CycleGroupsModel") i_M (ci := 5) rfl 16 (by decide) w_367 rfl (md_in hd (k := 0) rfl) md_at_0 rfl d_M_walk_36 ?_
        refine lv_iload_n X.1 X.2.1 d_M_walk_39 rfl (lv_at hl 2 rfl) ?_
        refine lv_iconst (v := -1) X.1 X.2.1 d_M_walk_40 (by decide) ?_
        refine hl_bastM X hK hh (md_in hd (k := 16) rfl) (md_at_16 hd) (by omega) d_M_walk_41 (fun H locs hh => ?_)
        have hh : hl_H g (hm_A sz L) s.heap L (mf g d f0 n mm sm kn mk r3 r5 r7 r8 r10 r11 r12 r13 r14 (va_up r15 0 b) (va_up r16 b 0) (va_up (fun _ => 0) b 1) r18 r19 r20 r21 r22 r23) H locs := md_set_16 hd hh
        refine lv_iconst (v := nI 1) X.1 X.2.1 d_M_walk_42 (by decide) ?_
        refine lv_istore_n (lv' := [(3, .int (nI 1)), (0, .ref (d 0)), (1, .int (nI b)), (2, .int (nI a))]) X.1 X.2.1 d_M_walk_43 rfl hl (by decide) rfl (fun ls hl => ?_)
        refine lv_iconst (v := nI 0) X.1 X.2.1 d_M_walk_44 (by decide) ?_
        refine lv_istore (lv' := [(4, .int (nI 0)), (3, .int (nI 1)), (0, .ref (d 0)), (1, .int (nI b)), (2, .int (nI a))]) X.1 X.2.1 d_M_walk_45 hl (by decide) rfl (fun ls hl => ?_)
        exact outer 25 0 1 _ _ _ (fun _ => 0) _ _ _ (by omega) (by omega) (jf_W0 hb0 (fun _ => rfl)) (fun i hi => absurd hi (Nat.not_lt_zero _)) hh hl
      have hi : i < 24 := hc
      refine lv_aload_n X.1 X.2.1 d_M_walk_8 rfl (lv_at hl 1 rfl) ?_
      refine hl_get X hK hh (ref := "CycleGroupsModel") i_M (ci := 5) rfl 17 (by decide) w_368 rfl (md_in hd (k := 0) rfl) md_at_0 rfl d_M_walk_9 ?_
      refine lv_iload_n X.1 X.2.1 d_M_walk_12 rfl (lv_at hl 0 rfl) ?_
      refine lv_iconst (v := nI 0) X.1 X.2.1 d_M_walk_13 (by decide) ?_
      refine hl_zastN X hK hh (md_in hd (k := 17) rfl) (md_at_17 hd) (by omega) (by decide) (by first | exact Or.inl rfl | exact Or.inr rfl) d_M_walk_14 (fun H locs hh => ?_)
      have hh : hl_H g (hm_A sz L) s.heap L (mf g d f0 n mm sm kn mk r3 r5 r7 r8 r10 r11 r12 r13 r14 r15 r16 (va_up y i 0) r18 r19 r20 r21 r22 r23) H locs := md_set_17 hd hh
      refine lv_iinc (v := nI (i + 1)) (lv' := [(3, .int (nI (i + 1))), (0, .ref (d 0)), (1, .int (nI b)), (2, .int (nI a))]) X.1 X.2.1 d_M_walk_15 hl (k := 0) rfl (hn_inc _) (by decide) rfl (fun ls hl => ?_)
      refine lv_goto (tgt := 2) X.1 X.2.1 d_M_walk_18 (by decide) ?_
      refine ih (i + 1) (va_up y i 0) H locs _ (by omega) (by omega) (fun p hp => ?_) hh hl
      by_cases e0 : p = i
      · rw [e0, va_up_self]
      · rw [va_up_ne _ _ e0]; exact hy p (by omega)
  refine lv_iconst (v := nI 0) X.1 X.2.1 d_M_walk_0 (by decide) ?_
  refine lv_istore_n (lv' := [(3, .int (nI 0)), (0, .ref (d 0)), (1, .int (nI b)), (2, .int (nI a))]) X.1 X.2.1 d_M_walk_1 rfl hl (by decide) rfl (fun ls hl => ?_)
  exact clear 25 0 r17 _ _ _ (by omega) (by omega) (fun p hp => absurd hp (Nat.not_lt_zero _)) hh hl

end

