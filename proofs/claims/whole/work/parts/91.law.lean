/-! The law's cases, one by one. -/
section
/-- the law's objects: the class's and the reference's, alike -/
def lw_J (g : hl_G) (s : State) (L : List Nat) (f : Nat → va_E) (T b d : Nat → Nat) (n mm sm : Nat) (mv st : Nat → Nat → Nat) (made : Bool) (H : Heap) (locs : List Loc) : Prop :=
  cg_I g L f T b n mm sm mv st made ∧ md_I g L f T d n mm sm mv st ∧ hl_H g (fun q => s.heap.size ≤ q) s.heap L f H locs
theorem cg_ob0 {g : hl_G} {L : List Nat} {f : Nat → va_E} {T b : Nat → Nat} {n mm sm : Nat} {mv st : Nat → Nat → Nat} {made : Bool} (h : cg_I g L f T b n mm sm mv st made) : ∃ fs, b 0 ∈ L ∧ f (b 0) = .inr (0, fs) := by
  obtain ⟨zp, zd, cv, fl, hB, _⟩ := h
  exact ⟨_, (hB.1 0 (by omega)).1, hB.2.1⟩
theorem md_ob0 {g : hl_G} {L : List Nat} {f : Nat → va_E} {T d : Nat → Nat} {n mm sm : Nat} {mv st : Nat → Nat → Nat} (h : md_I g L f T d n mm sm mv st) : ∃ fs, d 0 ∈ L ∧ f (d 0) = .inr (5, fs) := by
  obtain ⟨hd, f0, kn, mk, r3, r5, r7, r8, r10, r11, r12, r13, r14, r15, r16, r17, r18, r19, r20, r21, r22, r23, k1, k2, k3, k4, k5, rfl⟩ := h
  exact ⟨_, (hd 0 rfl).1, md_at_0⟩
theorem cg_Wn {g : hl_G} {L : List Nat} {f : Nat → va_E} {T b : Nat → Nat} {n mm sm : Nat} {mv st : Nat → Nat → Nat} {made : Bool} (h : cg_I g L f T b n mm sm mv st made) : cg_W n mm sm mv st := by
  obtain ⟨zp, zd, cv, fl, hB, hC, hW, _⟩ := h
  exact hW

theorem law_move {p : Program} {l : Launch} {e : Env} {s : State} {m : MethodId} {below : List Frame} {meth : Method} {c : Code} {b0 N : Nat} {xs : Nat → Int32} (g : hl_G) (hN : N ≤ 2561) (X : CallFix p m c code 4 s #[Value.ref b0] tg "CycleGroupsLaw") (hK : hl_K g s) (hX : va_X b0 N xs s s.heap) (hbl : b0 < s.heap.size) (b d : Nat → Nat) (n i : Nat) (hi : i + 5 ≤ N)
    (kk : ∀ (L : List Nat) (f : Nat → va_E) (T : Nat → Nat) (mm sm : Nat) (mv st : Nat → Nat → Nat) (made : Bool) (H : Heap) (locs : List Loc) (ls : Array Slot), lw_J g s L f T b d n mm sm mv st made H locs → lv_has ls 4 [(3, .int (nI i)), (2, .ref (d 0)), (1, .ref (b 0)), (0, .ref b0)] → W p l e room_1 s m #[Value.ref b0] below meth c H locs (lw_c made) (lw_s made) (lw_Z below #[Value.ref b0] s) (F0 m 643 ls [])) :
    ∀ (L : List Nat) (f : Nat → va_E) (T : Nat → Nat) (mm sm : Nat) (mv st : Nat → Nat → Nat) (made : Bool) (H : Heap) (locs : List Loc) (ls : Array Slot), lw_J g s L f T b d n mm sm mv st made H locs → lv_has ls 4 [(3, .int (nI i)), (2, .ref (d 0)), (1, .ref (b 0)), (0, .ref b0)] → W p l e room_1 s m #[Value.ref b0] below meth c H locs (lw_c made) (lw_s made) (lw_Z below #[Value.ref b0] s) (F0 m 128 ls []) := by
  intro L f T mm sm mv st made H locs ls hJ hl
  obtain ⟨hC, hM, hh⟩ := hJ
  have hbA : ¬ (fun q : Nat => s.heap.size ≤ q) b0 := Nat.not_le.mpr hbl
  obtain ⟨fs1, o1, o2⟩ := cg_ob0 hC
  have hW := cg_Wn hC
  have hn31 : n < 2 ^ 31 := by have := hW.2.1; omega
  have hm31 : mm < 2 ^ 31 := by have := hW.2.2.1; omega
  have hs31 : sm < 2 ^ 31 := by have := hW.2.2.2.1; omega
  refine lv_aload_n X.1 X.2.1 d_L_law_128 rfl (lv_at hl 2 rfl) ?_
  refine hl_calli hh (hl_runV (k := 0) X hK hh (c_C_move l g _ L f T b n mm sm mv st made hC) wc_C_move w_75 w_1 wi_C_move ws_C_move (by decide +kernel) rfl rfl ⟨Nat.le_of_ble_eq_true rfl, Nat.le_of_ble_eq_true rfl⟩ o1 o2 rfl rfl rfl rfl (Nat.le_of_ble_eq_true rfl) hl.1 d_L_law_129 (lw_le made)) (fun r1 u1 H locs hp hh => ?_)
  have hq : ∃ mm2 mv2, ls_move mm mv r1 mm2 mv2 ∧ cg_R g L f T b n mm2 sm mv2 st made u1 := by
    rcases hp with ⟨a1, a2, a3⟩ | ⟨a1, a2, rfl⟩
    · exact ⟨_, _, Or.inl ⟨a1, a2, rfl, rfl⟩, a3⟩
    · exact ⟨_, _, Or.inr ⟨a1, a2, rfl, rfl⟩, cg_R_same hC⟩
  obtain ⟨L1, f1⟩ := u1
  obtain ⟨mm2, mv2, h1, T1, hL1, hf1, hC1⟩ := hq
  have hh : hl_H g (fun q => s.heap.size ≤ q) s.heap L1 f1 H locs := hh
  have hM1 : md_I g L1 f1 T1 d n mm sm mv st := md_I_to hM hL1 hf1
  obtain ⟨fs2, o3, o4⟩ := md_ob0 hM1
  refine lv_aload_n X.1 X.2.1 d_L_law_132 rfl (lv_at hl 1 rfl) ?_
  refine hl_calli hh (hl_runV (k := 0) X hK hh (kM_move l g _ L1 f1 T1 d n mm sm mv st hM1 hW) wc_M_move w_425 w_5 wi_M_move ws_M_move (by decide +kernel) rfl rfl ⟨Nat.le_of_ble_eq_true rfl, Nat.le_of_ble_eq_true rfl⟩ o3 o4 rfl rfl rfl rfl (Nat.le_of_ble_eq_true rfl) hl.1 d_L_law_133 (lw_le made)) (fun r2 u2 H locs hp hh => ?_)
  obtain ⟨mm3, mv3, f2, h2, rfl, hM2, hfr⟩ := hp
  have hC2 := cg_I_to hC1 hfr
  obtain ⟨e0, e1, e2⟩ := ls_move_det h1 h2
  subst e1; subst e2
  refine lv_icmp_eq (tgt := 643) X.1 X.2.1 d_L_law_136 (by decide) (fun hc => ?_) (fun hc => ?_)
  · exact kk L1 f2 T1 mm2 sm mv2 st made H locs _ ⟨hC2, hM2, hh⟩ hl
  · exact absurd e0 hc
theorem law_cycle {p : Program} {l : Launch} {e : Env} {s : State} {m : MethodId} {below : List Frame} {meth : Method} {c : Code} {b0 N : Nat} {xs : Nat → Int32} (g : hl_G) (hN : N ≤ 2561) (X : CallFix p m c code 4 s #[Value.ref b0] tg "CycleGroupsLaw") (hK : hl_K g s) (hX : va_X b0 N xs s s.heap) (hbl : b0 < s.heap.size) (b d : Nat → Nat) (n i : Nat) (hi : i + 5 ≤ N)
    (kk : ∀ (L : List Nat) (f : Nat → va_E) (T : Nat → Nat) (mm sm : Nat) (mv st : Nat → Nat → Nat) (made : Bool) (H : Heap) (locs : List Loc) (ls : Array Slot), lw_J g s L f T b d n mm sm mv st made H locs → lv_has ls 4 [(3, .int (nI i)), (2, .ref (d 0)), (1, .ref (b 0)), (0, .ref b0)] → W p l e room_1 s m #[Value.ref b0] below meth c H locs (lw_c made) (lw_s made) (lw_Z below #[Value.ref b0] s) (F0 m 643 ls [])) :
    ∀ (L : List Nat) (f : Nat → va_E) (T : Nat → Nat) (mm sm : Nat) (mv st : Nat → Nat → Nat) (made : Bool) (H : Heap) (locs : List Loc) (ls : Array Slot), lw_J g s L f T b d n mm sm mv st made H locs → lv_has ls 4 [(3, .int (nI i)), (2, .ref (d 0)), (1, .ref (b 0)), (0, .ref b0)] → W p l e room_1 s m #[Value.ref b0] below meth c H locs (lw_c made) (lw_s made) (lw_Z below #[Value.ref b0] s) (F0 m 141 ls []) := by
  intro L f T mm sm mv st made H locs ls hJ hl
  obtain ⟨hC, hM, hh⟩ := hJ
  have hbA : ¬ (fun q : Nat => s.heap.size ≤ q) b0 := Nat.not_le.mpr hbl
  obtain ⟨fs1, o1, o2⟩ := cg_ob0 hC
  have hW := cg_Wn hC
  have hn31 : n < 2 ^ 31 := by have := hW.2.1; omega
  have hm31 : mm < 2 ^ 31 := by have := hW.2.2.1; omega
  have hs31 : sm < 2 ^ 31 := by have := hW.2.2.2.1; omega
  refine lv_aload_n X.1 X.2.1 d_L_law_141 rfl (lv_at hl 2 rfl) ?_
  refine lv_aload_n X.1 X.2.1 d_L_law_142 rfl (lv_at hl 3 rfl) ?_
  refine lv_iload_n X.1 X.2.1 d_L_law_143 rfl (lv_at hl 0 rfl) ?_
  refine lv_iconst (v := nI 1) X.1 X.2.1 d_L_law_144 (by decide) ?_
  refine hn_add X d_L_law_145 ?_
  refine va_sld X.1 X.2.1 hX hbl hbA hh.2.2.1 (vp_in_nI (by omega) (by omega)) d_L_law_146 ?_
  refine lv_aload_n X.1 X.2.1 d_L_law_147 rfl (lv_at hl 3 rfl) ?_
  refine lv_iload_n X.1 X.2.1 d_L_law_148 rfl (lv_at hl 0 rfl) ?_
  refine lv_iconst (v := nI 2) X.1 X.2.1 d_L_law_149 (by decide) ?_
  refine hn_add X d_L_law_150 ?_
  refine va_sld X.1 X.2.1 hX hbl hbA hh.2.2.1 (vp_in_nI (by omega) (by omega)) d_L_law_151 ?_
  refine lv_aload_n X.1 X.2.1 d_L_law_152 rfl (lv_at hl 3 rfl) ?_
  refine lv_iload_n X.1 X.2.1 d_L_law_153 rfl (lv_at hl 0 rfl) ?_
  refine lv_iconst (v := nI 3) X.1 X.2.1 d_L_law_154 (by decide) ?_
  refine hn_add X d_L_law_155 ?_
  refine va_sld X.1 X.2.1 hX hbl hbA hh.2.2.1 (vp_in_nI (by omega) (by omega)) d_L_law_156 ?_
  refine hl_calli hh (hl_runV (k := 3) X hK hh (c_C_cycle l g _ L f T b n mm sm mv st made hC (xs (nI (i + 1)).toNatClampNeg) (xs (nI (i + 2)).toNatClampNeg) (xs (nI (i + 3)).toNatClampNeg)) wc_C_cycle w_82 w_1 wi_C_cycle ws_C_cycle (by decide +kernel) rfl rfl ⟨Nat.le_of_ble_eq_true rfl, Nat.le_of_ble_eq_true rfl⟩ o1 o2 rfl rfl rfl rfl (Nat.le_of_ble_eq_true rfl) hl.1 d_L_law_157 (lw_le made)) (fun r1 u1 H locs hp hh => ?_)
  have hq : ∃ mv2, ls_cycle n mm mv (xs (nI (i + 1)).toNatClampNeg) (xs (nI (i + 2)).toNatClampNeg) (xs (nI (i + 3)).toNatClampNeg) r1 mv2 ∧ cg_R g L f T b n mm sm mv2 st made u1 := by
    rcases hp with ⟨a1, a2, rfl⟩ | ⟨j, a, c9, k1, k2, k3, k4, k5, k6, k7, k8, k9, a3⟩
    · exact ⟨_, Or.inl ⟨a1, a2, rfl⟩, cg_R_same hC⟩
    · exact ⟨_, Or.inr ⟨j, a, c9, k1, k2, k3, k4, k5, k6, k7, k8, k9, rfl⟩, a3⟩
  obtain ⟨L1, f1⟩ := u1
  obtain ⟨mv2, h1, T1, hL1, hf1, hC1⟩ := hq
  have hh : hl_H g (fun q => s.heap.size ≤ q) s.heap L1 f1 H locs := hh
  have hM1 : md_I g L1 f1 T1 d n mm sm mv st := md_I_to hM hL1 hf1
  obtain ⟨fs2, o3, o4⟩ := md_ob0 hM1
  refine lv_aload_n X.1 X.2.1 d_L_law_160 rfl (lv_at hl 1 rfl) ?_
  refine lv_aload_n X.1 X.2.1 d_L_law_161 rfl (lv_at hl 3 rfl) ?_
  refine lv_iload_n X.1 X.2.1 d_L_law_162 rfl (lv_at hl 0 rfl) ?_
  refine lv_iconst (v := nI 1) X.1 X.2.1 d_L_law_163 (by decide) ?_
  refine hn_add X d_L_law_164 ?_
  refine va_sld X.1 X.2.1 hX hbl hbA hh.2.2.1 (vp_in_nI (by omega) (by omega)) d_L_law_165 ?_
  refine lv_aload_n X.1 X.2.1 d_L_law_166 rfl (lv_at hl 3 rfl) ?_
  refine lv_iload_n X.1 X.2.1 d_L_law_167 rfl (lv_at hl 0 rfl) ?_
  refine lv_iconst (v := nI 2) X.1 X.2.1 d_L_law_168 (by decide) ?_
  refine hn_add X d_L_law_169 ?_
  refine va_sld X.1 X.2.1 hX hbl hbA hh.2.2.1 (vp_in_nI (by omega) (by omega)) d_L_law_170 ?_
  refine lv_aload_n X.1 X.2.1 d_L_law_171 rfl (lv_at hl 3 rfl) ?_
  refine lv_iload_n X.1 X.2.1 d_L_law_172 rfl (lv_at hl 0 rfl) ?_
  refine lv_iconst (v := nI 3) X.1 X.2.1 d_L_law_173 (by decide) ?_
  refine hn_add X d_L_law_174 ?_
  refine va_sld X.1 X.2.1 hX hbl hbA hh.2.2.1 (vp_in_nI (by omega) (by omega)) d_L_law_175 ?_
  refine hl_calli hh (hl_runV (k := 3) X hK hh (kM_cycle l g _ L1 f1 T1 d n mm sm mv st hM1 hW (xs (nI (i + 1)).toNatClampNeg) (xs (nI (i + 2)).toNatClampNeg) (xs (nI (i + 3)).toNatClampNeg)) wc_M_cycle w_429 w_5 wi_M_cycle ws_M_cycle (by decide +kernel) rfl rfl ⟨Nat.le_of_ble_eq_true rfl, Nat.le_of_ble_eq_true rfl⟩ o3 o4 rfl rfl rfl rfl (Nat.le_of_ble_eq_true rfl) hl.1 d_L_law_176 (lw_le made)) (fun r2 u2 H locs hp hh => ?_)
  obtain ⟨mv3, f2, h2, rfl, hM2, hfr⟩ := hp
  have hC2 := cg_I_to hC1 hfr
  obtain ⟨e0, e1⟩ := ls_cycle_det hn31 hm31 h1 h2
  subst e1
  refine lv_icmp_eq (tgt := 643) X.1 X.2.1 d_L_law_179 (by decide) (fun hc => ?_) (fun hc => ?_)
  · exact kk L1 f2 T1 mm sm mv2 st made H locs _ ⟨hC2, hM2, hh⟩ hl
  · exact absurd e0 hc
theorem law_state {p : Program} {l : Launch} {e : Env} {s : State} {m : MethodId} {below : List Frame} {meth : Method} {c : Code} {b0 N : Nat} {xs : Nat → Int32} (g : hl_G) (hN : N ≤ 2561) (X : CallFix p m c code 4 s #[Value.ref b0] tg "CycleGroupsLaw") (hK : hl_K g s) (hX : va_X b0 N xs s s.heap) (hbl : b0 < s.heap.size) (b d : Nat → Nat) (n i : Nat) (hi : i + 5 ≤ N)
    (kk : ∀ (L : List Nat) (f : Nat → va_E) (T : Nat → Nat) (mm sm : Nat) (mv st : Nat → Nat → Nat) (made : Bool) (H : Heap) (locs : List Loc) (ls : Array Slot), lw_J g s L f T b d n mm sm mv st made H locs → lv_has ls 4 [(3, .int (nI i)), (2, .ref (d 0)), (1, .ref (b 0)), (0, .ref b0)] → W p l e room_1 s m #[Value.ref b0] below meth c H locs (lw_c made) (lw_s made) (lw_Z below #[Value.ref b0] s) (F0 m 643 ls [])) :
    ∀ (L : List Nat) (f : Nat → va_E) (T : Nat → Nat) (mm sm : Nat) (mv st : Nat → Nat → Nat) (made : Bool) (H : Heap) (locs : List Loc) (ls : Array Slot), lw_J g s L f T b d n mm sm mv st made H locs → lv_has ls 4 [(3, .int (nI i)), (2, .ref (d 0)), (1, .ref (b 0)), (0, .ref b0)] → W p l e room_1 s m #[Value.ref b0] below meth c H locs (lw_c made) (lw_s made) (lw_Z below #[Value.ref b0] s) (F0 m 355 ls []) := by
  intro L f T mm sm mv st made H locs ls hJ hl
  obtain ⟨hC, hM, hh⟩ := hJ
  have hbA : ¬ (fun q : Nat => s.heap.size ≤ q) b0 := Nat.not_le.mpr hbl
  obtain ⟨fs1, o1, o2⟩ := cg_ob0 hC
  have hW := cg_Wn hC
  have hn31 : n < 2 ^ 31 := by have := hW.2.1; omega
  have hm31 : mm < 2 ^ 31 := by have := hW.2.2.1; omega
  have hs31 : sm < 2 ^ 31 := by have := hW.2.2.2.1; omega
  refine lv_aload_n X.1 X.2.1 d_L_law_355 rfl (lv_at hl 2 rfl) ?_
  refine hl_calli hh (hl_runV (k := 0) X hK hh (c_C_state l g _ L f T b n mm sm mv st made hC) wc_C_state w_290 w_1 wi_C_state ws_C_state (by decide +kernel) rfl rfl ⟨Nat.le_of_ble_eq_true rfl, Nat.le_of_ble_eq_true rfl⟩ o1 o2 rfl rfl rfl rfl (Nat.le_of_ble_eq_true rfl) hl.1 d_L_law_356 (lw_le made)) (fun r1 u1 H locs hp hh => ?_)
  have hq : ∃ sm2 st2, ls_state sm st r1 sm2 st2 ∧ cg_R g L f T b n mm sm2 mv st2 made u1 := by
    rcases hp with ⟨a1, a2, a3⟩ | ⟨a1, a2, rfl⟩
    · exact ⟨_, _, Or.inl ⟨a1, a2, rfl, rfl⟩, a3⟩
    · exact ⟨_, _, Or.inr ⟨a1, a2, rfl, rfl⟩, cg_R_same hC⟩
  obtain ⟨L1, f1⟩ := u1
  obtain ⟨sm2, st2, h1, T1, hL1, hf1, hC1⟩ := hq
  have hh : hl_H g (fun q => s.heap.size ≤ q) s.heap L1 f1 H locs := hh
  have hM1 : md_I g L1 f1 T1 d n mm sm mv st := md_I_to hM hL1 hf1
  obtain ⟨fs2, o3, o4⟩ := md_ob0 hM1
  refine lv_aload_n X.1 X.2.1 d_L_law_359 rfl (lv_at hl 1 rfl) ?_
  refine hl_calli hh (hl_runV (k := 0) X hK hh (kM_state l g _ L1 f1 T1 d n mm sm mv st hM1 hW) wc_M_state w_437 w_5 wi_M_state ws_M_state (by decide +kernel) rfl rfl ⟨Nat.le_of_ble_eq_true rfl, Nat.le_of_ble_eq_true rfl⟩ o3 o4 rfl rfl rfl rfl (Nat.le_of_ble_eq_true rfl) hl.1 d_L_law_360 (lw_le made)) (fun r2 u2 H locs hp hh => ?_)
  obtain ⟨sm3, st3, f2, h2, rfl, hM2, hfr⟩ := hp
  have hC2 := cg_I_to hC1 hfr
  obtain ⟨e0, e1, e2⟩ := ls_state_det h1 h2
  subst e1; subst e2
  refine lv_icmp_eq (tgt := 643) X.1 X.2.1 d_L_law_363 (by decide) (fun hc => ?_) (fun hc => ?_)
  · exact kk L1 f2 T1 mm sm2 mv st2 made H locs _ ⟨hC2, hM2, hh⟩ hl
  · exact absurd e0 hc
theorem law_apply {p : Program} {l : Launch} {e : Env} {s : State} {m : MethodId} {below : List Frame} {meth : Method} {c : Code} {b0 N : Nat} {xs : Nat → Int32} (g : hl_G) (hN : N ≤ 2561) (X : CallFix p m c code 4 s #[Value.ref b0] tg "CycleGroupsLaw") (hK : hl_K g s) (hX : va_X b0 N xs s s.heap) (hbl : b0 < s.heap.size) (b d : Nat → Nat) (n i : Nat) (hi : i + 5 ≤ N)
    (kk : ∀ (L : List Nat) (f : Nat → va_E) (T : Nat → Nat) (mm sm : Nat) (mv st : Nat → Nat → Nat) (made : Bool) (H : Heap) (locs : List Loc) (ls : Array Slot), lw_J g s L f T b d n mm sm mv st made H locs → lv_has ls 4 [(3, .int (nI i)), (2, .ref (d 0)), (1, .ref (b 0)), (0, .ref b0)] → W p l e room_1 s m #[Value.ref b0] below meth c H locs (lw_c made) (lw_s made) (lw_Z below #[Value.ref b0] s) (F0 m 643 ls [])) :
    ∀ (L : List Nat) (f : Nat → va_E) (T : Nat → Nat) (mm sm : Nat) (mv st : Nat → Nat → Nat) (made : Bool) (H : Heap) (locs : List Loc) (ls : Array Slot), lw_J g s L f T b d n mm sm mv st made H locs → lv_has ls 4 [(3, .int (nI i)), (2, .ref (d 0)), (1, .ref (b 0)), (0, .ref b0)] → W p l e room_1 s m #[Value.ref b0] below meth c H locs (lw_c made) (lw_s made) (lw_Z below #[Value.ref b0] s) (F0 m 368 ls []) := by
  intro L f T mm sm mv st made H locs ls hJ hl
  obtain ⟨hC, hM, hh⟩ := hJ
  have hbA : ¬ (fun q : Nat => s.heap.size ≤ q) b0 := Nat.not_le.mpr hbl
  obtain ⟨fs1, o1, o2⟩ := cg_ob0 hC
  have hW := cg_Wn hC
  have hn31 : n < 2 ^ 31 := by have := hW.2.1; omega
  have hm31 : mm < 2 ^ 31 := by have := hW.2.2.1; omega
  have hs31 : sm < 2 ^ 31 := by have := hW.2.2.2.1; omega
  refine lv_aload_n X.1 X.2.1 d_L_law_368 rfl (lv_at hl 2 rfl) ?_
  refine lv_aload_n X.1 X.2.1 d_L_law_369 rfl (lv_at hl 3 rfl) ?_
  refine lv_iload_n X.1 X.2.1 d_L_law_370 rfl (lv_at hl 0 rfl) ?_
  refine lv_iconst (v := nI 1) X.1 X.2.1 d_L_law_371 (by decide) ?_
  refine hn_add X d_L_law_372 ?_
  refine va_sld X.1 X.2.1 hX hbl hbA hh.2.2.1 (vp_in_nI (by omega) (by omega)) d_L_law_373 ?_
  refine lv_aload_n X.1 X.2.1 d_L_law_374 rfl (lv_at hl 3 rfl) ?_
  refine lv_iload_n X.1 X.2.1 d_L_law_375 rfl (lv_at hl 0 rfl) ?_
  refine lv_iconst (v := nI 2) X.1 X.2.1 d_L_law_376 (by decide) ?_
  refine hn_add X d_L_law_377 ?_
  refine va_sld X.1 X.2.1 hX hbl hbA hh.2.2.1 (vp_in_nI (by omega) (by omega)) d_L_law_378 ?_
  refine hl_calli hh (hl_runV (k := 2) X hK hh (c_C_apply l g _ L f T b n mm sm mv st made hC (xs (nI (i + 1)).toNatClampNeg) (xs (nI (i + 2)).toNatClampNeg)) wc_C_apply w_294 w_1 wi_C_apply ws_C_apply (by decide +kernel) rfl rfl ⟨Nat.le_of_ble_eq_true rfl, Nat.le_of_ble_eq_true rfl⟩ o1 o2 rfl rfl rfl rfl (Nat.le_of_ble_eq_true rfl) hl.1 d_L_law_379 (lw_le made)) (fun r1 u1 H locs hp hh => ?_)
  have hq : ∃ st2, ls_apply mm sm mv st (xs (nI (i + 1)).toNatClampNeg) (xs (nI (i + 2)).toNatClampNeg) r1 st2 ∧ cg_R g L f T b n mm sm mv st2 made u1 := by
    rcases hp with ⟨a1, a2, rfl⟩ | ⟨j, a, k1, k2, k3, k4, k5, a3⟩
    · exact ⟨_, Or.inl ⟨a1, a2, rfl⟩, cg_R_same hC⟩
    · exact ⟨_, Or.inr ⟨j, a, k1, k2, k3, k4, k5, rfl⟩, a3⟩
  obtain ⟨L1, f1⟩ := u1
  obtain ⟨st2, h1, T1, hL1, hf1, hC1⟩ := hq
  have hh : hl_H g (fun q => s.heap.size ≤ q) s.heap L1 f1 H locs := hh
  have hM1 : md_I g L1 f1 T1 d n mm sm mv st := md_I_to hM hL1 hf1
  obtain ⟨fs2, o3, o4⟩ := md_ob0 hM1
  refine lv_aload_n X.1 X.2.1 d_L_law_382 rfl (lv_at hl 1 rfl) ?_
  refine lv_aload_n X.1 X.2.1 d_L_law_383 rfl (lv_at hl 3 rfl) ?_
  refine lv_iload_n X.1 X.2.1 d_L_law_384 rfl (lv_at hl 0 rfl) ?_
  refine lv_iconst (v := nI 1) X.1 X.2.1 d_L_law_385 (by decide) ?_
  refine hn_add X d_L_law_386 ?_
  refine va_sld X.1 X.2.1 hX hbl hbA hh.2.2.1 (vp_in_nI (by omega) (by omega)) d_L_law_387 ?_
  refine lv_aload_n X.1 X.2.1 d_L_law_388 rfl (lv_at hl 3 rfl) ?_
  refine lv_iload_n X.1 X.2.1 d_L_law_389 rfl (lv_at hl 0 rfl) ?_
  refine lv_iconst (v := nI 2) X.1 X.2.1 d_L_law_390 (by decide) ?_
  refine hn_add X d_L_law_391 ?_
  refine va_sld X.1 X.2.1 hX hbl hbA hh.2.2.1 (vp_in_nI (by omega) (by omega)) d_L_law_392 ?_
  refine hl_calli hh (hl_runV (k := 2) X hK hh (kM_apply l g _ L1 f1 T1 d n mm sm mv st hM1 hW (xs (nI (i + 1)).toNatClampNeg) (xs (nI (i + 2)).toNatClampNeg)) wc_M_apply w_441 w_5 wi_M_apply ws_M_apply (by decide +kernel) rfl rfl ⟨Nat.le_of_ble_eq_true rfl, Nat.le_of_ble_eq_true rfl⟩ o3 o4 rfl rfl rfl rfl (Nat.le_of_ble_eq_true rfl) hl.1 d_L_law_393 (lw_le made)) (fun r2 u2 H locs hp hh => ?_)
  obtain ⟨st3, f2, h2, rfl, hM2, hfr⟩ := hp
  have hC2 := cg_I_to hC1 hfr
  obtain ⟨e0, e1⟩ := ls_apply_det hs31 hm31 h1 h2
  subst e1
  refine lv_icmp_eq (tgt := 643) X.1 X.2.1 d_L_law_396 (by decide) (fun hc => ?_) (fun hc => ?_)
  · exact kk L1 f2 T1 mm sm mv st2 made H locs _ ⟨hC2, hM2, hh⟩ hl
  · exact absurd e0 hc
theorem law_exchange {p : Program} {l : Launch} {e : Env} {s : State} {m : MethodId} {below : List Frame} {meth : Method} {c : Code} {b0 N : Nat} {xs : Nat → Int32} (g : hl_G) (hN : N ≤ 2561) (X : CallFix p m c code 4 s #[Value.ref b0] tg "CycleGroupsLaw") (hK : hl_K g s) (hX : va_X b0 N xs s s.heap) (hbl : b0 < s.heap.size) (b d : Nat → Nat) (n i : Nat) (hi : i + 5 ≤ N)
    (kk : ∀ (L : List Nat) (f : Nat → va_E) (T : Nat → Nat) (mm sm : Nat) (mv st : Nat → Nat → Nat) (made : Bool) (H : Heap) (locs : List Loc) (ls : Array Slot), lw_J g s L f T b d n mm sm mv st made H locs → lv_has ls 4 [(3, .int (nI i)), (2, .ref (d 0)), (1, .ref (b 0)), (0, .ref b0)] → W p l e room_1 s m #[Value.ref b0] below meth c H locs (lw_c made) (lw_s made) (lw_Z below #[Value.ref b0] s) (F0 m 643 ls [])) :
    ∀ (L : List Nat) (f : Nat → va_E) (T : Nat → Nat) (mm sm : Nat) (mv st : Nat → Nat → Nat) (made : Bool) (H : Heap) (locs : List Loc) (ls : Array Slot), lw_J g s L f T b d n mm sm mv st made H locs → lv_has ls 4 [(3, .int (nI i)), (2, .ref (d 0)), (1, .ref (b 0)), (0, .ref b0)] → W p l e room_1 s m #[Value.ref b0] below meth c H locs (lw_c made) (lw_s made) (lw_Z below #[Value.ref b0] s) (F0 m 401 ls []) := by
  intro L f T mm sm mv st made H locs ls hJ hl
  obtain ⟨hC, hM, hh⟩ := hJ
  have hbA : ¬ (fun q : Nat => s.heap.size ≤ q) b0 := Nat.not_le.mpr hbl
  obtain ⟨fs1, o1, o2⟩ := cg_ob0 hC
  have hW := cg_Wn hC
  have hn31 : n < 2 ^ 31 := by have := hW.2.1; omega
  have hm31 : mm < 2 ^ 31 := by have := hW.2.2.1; omega
  have hs31 : sm < 2 ^ 31 := by have := hW.2.2.2.1; omega
  refine lv_aload_n X.1 X.2.1 d_L_law_401 rfl (lv_at hl 2 rfl) ?_
  refine lv_aload_n X.1 X.2.1 d_L_law_402 rfl (lv_at hl 3 rfl) ?_
  refine lv_iload_n X.1 X.2.1 d_L_law_403 rfl (lv_at hl 0 rfl) ?_
  refine lv_iconst (v := nI 1) X.1 X.2.1 d_L_law_404 (by decide) ?_
  refine hn_add X d_L_law_405 ?_
  refine va_sld X.1 X.2.1 hX hbl hbA hh.2.2.1 (vp_in_nI (by omega) (by omega)) d_L_law_406 ?_
  refine lv_aload_n X.1 X.2.1 d_L_law_407 rfl (lv_at hl 3 rfl) ?_
  refine lv_iload_n X.1 X.2.1 d_L_law_408 rfl (lv_at hl 0 rfl) ?_
  refine lv_iconst (v := nI 2) X.1 X.2.1 d_L_law_409 (by decide) ?_
  refine hn_add X d_L_law_410 ?_
  refine va_sld X.1 X.2.1 hX hbl hbA hh.2.2.1 (vp_in_nI (by omega) (by omega)) d_L_law_411 ?_
  refine lv_aload_n X.1 X.2.1 d_L_law_412 rfl (lv_at hl 3 rfl) ?_
  refine lv_iload_n X.1 X.2.1 d_L_law_413 rfl (lv_at hl 0 rfl) ?_
  refine lv_iconst (v := nI 3) X.1 X.2.1 d_L_law_414 (by decide) ?_
  refine hn_add X d_L_law_415 ?_
  refine va_sld X.1 X.2.1 hX hbl hbA hh.2.2.1 (vp_in_nI (by omega) (by omega)) d_L_law_416 ?_
  refine hl_calli hh (hl_runV (k := 3) X hK hh (c_C_exchange l g _ L f T b n mm sm mv st made hC (xs (nI (i + 1)).toNatClampNeg) (xs (nI (i + 2)).toNatClampNeg) (xs (nI (i + 3)).toNatClampNeg)) wc_C_exchange w_305 w_1 wi_C_exchange ws_C_exchange (by decide +kernel) rfl rfl ⟨Nat.le_of_ble_eq_true rfl, Nat.le_of_ble_eq_true rfl⟩ o1 o2 rfl rfl rfl rfl (Nat.le_of_ble_eq_true rfl) hl.1 d_L_law_417 (lw_le made)) (fun r1 u1 H locs hp hh => ?_)
  have hq : ∃ st2, ls_exch n sm st (xs (nI (i + 1)).toNatClampNeg) (xs (nI (i + 2)).toNatClampNeg) (xs (nI (i + 3)).toNatClampNeg) r1 st2 ∧ cg_R g L f T b n mm sm mv st2 made u1 := by
    rcases hp with ⟨a1, a2, rfl⟩ | ⟨j, a, c9, k1, k2, k3, k4, k6, k7, k8, k9, a3⟩
    · exact ⟨_, Or.inl ⟨a1, a2, rfl⟩, cg_R_same hC⟩
    · exact ⟨_, Or.inr ⟨j, a, c9, k1, k2, k3, k4, k6, k7, k8, k9, rfl⟩, a3⟩
  obtain ⟨L1, f1⟩ := u1
  obtain ⟨st2, h1, T1, hL1, hf1, hC1⟩ := hq
  have hh : hl_H g (fun q => s.heap.size ≤ q) s.heap L1 f1 H locs := hh
  have hM1 : md_I g L1 f1 T1 d n mm sm mv st := md_I_to hM hL1 hf1
  obtain ⟨fs2, o3, o4⟩ := md_ob0 hM1
  refine lv_aload_n X.1 X.2.1 d_L_law_420 rfl (lv_at hl 1 rfl) ?_
  refine lv_aload_n X.1 X.2.1 d_L_law_421 rfl (lv_at hl 3 rfl) ?_
  refine lv_iload_n X.1 X.2.1 d_L_law_422 rfl (lv_at hl 0 rfl) ?_
  refine lv_iconst (v := nI 1) X.1 X.2.1 d_L_law_423 (by decide) ?_
  refine hn_add X d_L_law_424 ?_
  refine va_sld X.1 X.2.1 hX hbl hbA hh.2.2.1 (vp_in_nI (by omega) (by omega)) d_L_law_425 ?_
  refine lv_aload_n X.1 X.2.1 d_L_law_426 rfl (lv_at hl 3 rfl) ?_
  refine lv_iload_n X.1 X.2.1 d_L_law_427 rfl (lv_at hl 0 rfl) ?_
  refine lv_iconst (v := nI 2) X.1 X.2.1 d_L_law_428 (by decide) ?_
  refine hn_add X d_L_law_429 ?_
  refine va_sld X.1 X.2.1 hX hbl hbA hh.2.2.1 (vp_in_nI (by omega) (by omega)) d_L_law_430 ?_
  refine lv_aload_n X.1 X.2.1 d_L_law_431 rfl (lv_at hl 3 rfl) ?_
  refine lv_iload_n X.1 X.2.1 d_L_law_432 rfl (lv_at hl 0 rfl) ?_
  refine lv_iconst (v := nI 3) X.1 X.2.1 d_L_law_433 (by decide) ?_
  refine hn_add X d_L_law_434 ?_
  refine va_sld X.1 X.2.1 hX hbl hbA hh.2.2.1 (vp_in_nI (by omega) (by omega)) d_L_law_435 ?_
  refine hl_calli hh (hl_runV (k := 3) X hK hh (kM_exchange l g _ L1 f1 T1 d n mm sm mv st hM1 hW (xs (nI (i + 1)).toNatClampNeg) (xs (nI (i + 2)).toNatClampNeg) (xs (nI (i + 3)).toNatClampNeg)) wc_M_exchange w_453 w_5 wi_M_exchange ws_M_exchange (by decide +kernel) rfl rfl ⟨Nat.le_of_ble_eq_true rfl, Nat.le_of_ble_eq_true rfl⟩ o3 o4 rfl rfl rfl rfl (Nat.le_of_ble_eq_true rfl) hl.1 d_L_law_436 (lw_le made)) (fun r2 u2 H locs hp hh => ?_)
  obtain ⟨st3, f2, h2, rfl, hM2, hfr⟩ := hp
  have hC2 := cg_I_to hC1 hfr
  obtain ⟨e0, e1⟩ := ls_exch_det hn31 hs31 h1 h2
  subst e1
  refine lv_icmp_eq (tgt := 643) X.1 X.2.1 d_L_law_439 (by decide) (fun hc => ?_) (fun hc => ?_)
  · exact kk L1 f2 T1 mm sm mv st2 made H locs _ ⟨hC2, hM2, hh⟩ hl
  · exact absurd e0 hc
theorem law_image {p : Program} {l : Launch} {e : Env} {s : State} {m : MethodId} {below : List Frame} {meth : Method} {c : Code} {b0 N : Nat} {xs : Nat → Int32} (g : hl_G) (hN : N ≤ 2561) (X : CallFix p m c code 4 s #[Value.ref b0] tg "CycleGroupsLaw") (hK : hl_K g s) (hX : va_X b0 N xs s s.heap) (hbl : b0 < s.heap.size) (b d : Nat → Nat) (n i : Nat) (hi : i + 5 ≤ N)
    (kk : ∀ (L : List Nat) (f : Nat → va_E) (T : Nat → Nat) (mm sm : Nat) (mv st : Nat → Nat → Nat) (made : Bool) (H : Heap) (locs : List Loc) (ls : Array Slot), lw_J g s L f T b d n mm sm mv st made H locs → lv_has ls 4 [(3, .int (nI i)), (2, .ref (d 0)), (1, .ref (b 0)), (0, .ref b0)] → W p l e room_1 s m #[Value.ref b0] below meth c H locs (lw_c made) (lw_s made) (lw_Z below #[Value.ref b0] s) (F0 m 643 ls [])) :
    ∀ (L : List Nat) (f : Nat → va_E) (T : Nat → Nat) (mm sm : Nat) (mv st : Nat → Nat → Nat) (made : Bool) (H : Heap) (locs : List Loc) (ls : Array Slot), lw_J g s L f T b d n mm sm mv st made H locs → lv_has ls 4 [(3, .int (nI i)), (2, .ref (d 0)), (1, .ref (b 0)), (0, .ref b0)] → W p l e room_1 s m #[Value.ref b0] below meth c H locs (lw_c made) (lw_s made) (lw_Z below #[Value.ref b0] s) (F0 m 517 ls []) := by
  intro L f T mm sm mv st made H locs ls hJ hl
  obtain ⟨hC, hM, hh⟩ := hJ
  have hbA : ¬ (fun q : Nat => s.heap.size ≤ q) b0 := Nat.not_le.mpr hbl
  obtain ⟨fs1, o1, o2⟩ := cg_ob0 hC
  have hW := cg_Wn hC
  have hn31 : n < 2 ^ 31 := by have := hW.2.1; omega
  have hm31 : mm < 2 ^ 31 := by have := hW.2.2.1; omega
  have hs31 : sm < 2 ^ 31 := by have := hW.2.2.2.1; omega
  refine lv_aload_n X.1 X.2.1 d_L_law_517 rfl (lv_at hl 2 rfl) ?_
  refine lv_aload_n X.1 X.2.1 d_L_law_518 rfl (lv_at hl 3 rfl) ?_
  refine lv_iload_n X.1 X.2.1 d_L_law_519 rfl (lv_at hl 0 rfl) ?_
  refine lv_iconst (v := nI 1) X.1 X.2.1 d_L_law_520 (by decide) ?_
  refine hn_add X d_L_law_521 ?_
  refine va_sld X.1 X.2.1 hX hbl hbA hh.2.2.1 (vp_in_nI (by omega) (by omega)) d_L_law_522 ?_
  refine lv_aload_n X.1 X.2.1 d_L_law_523 rfl (lv_at hl 3 rfl) ?_
  refine lv_iload_n X.1 X.2.1 d_L_law_524 rfl (lv_at hl 0 rfl) ?_
  refine lv_iconst (v := nI 2) X.1 X.2.1 d_L_law_525 (by decide) ?_
  refine hn_add X d_L_law_526 ?_
  refine va_sld X.1 X.2.1 hX hbl hbA hh.2.2.1 (vp_in_nI (by omega) (by omega)) d_L_law_527 ?_
  refine hl_calli hh (hl_runV (k := 2) X hK hh (c_C_image l g _ L f T b n mm sm mv st made hC (xs (nI (i + 1)).toNatClampNeg) (xs (nI (i + 2)).toNatClampNeg)) wc_C_image w_315 w_1 wi_C_image ws_C_image (by decide +kernel) rfl rfl ⟨Nat.le_of_ble_eq_true rfl, Nat.le_of_ble_eq_true rfl⟩ o1 o2 rfl rfl rfl rfl (Nat.le_of_ble_eq_true rfl) hl.1 d_L_law_528 (lw_le made)) (fun r1 u1 H locs hp hh => ?_)
  have hq : ls_2 sm n (xs (nI (i + 1)).toNatClampNeg) (xs (nI (i + 2)).toNatClampNeg) (fun j k => nI (st j k)) r1 ∧ cg_R g L f T b n mm sm mv st made u1 := by
    obtain ⟨a1, rfl⟩ := hp
    exact ⟨a1, cg_R_same hC⟩
  obtain ⟨L1, f1⟩ := u1
  obtain ⟨h1, T1, hL1, hf1, hC1⟩ := hq
  have hh : hl_H g (fun q => s.heap.size ≤ q) s.heap L1 f1 H locs := hh
  have hM1 : md_I g L1 f1 T1 d n mm sm mv st := md_I_to hM hL1 hf1
  obtain ⟨fs2, o3, o4⟩ := md_ob0 hM1
  refine lv_aload_n X.1 X.2.1 d_L_law_531 rfl (lv_at hl 1 rfl) ?_
  refine lv_aload_n X.1 X.2.1 d_L_law_532 rfl (lv_at hl 3 rfl) ?_
  refine lv_iload_n X.1 X.2.1 d_L_law_533 rfl (lv_at hl 0 rfl) ?_
  refine lv_iconst (v := nI 1) X.1 X.2.1 d_L_law_534 (by decide) ?_
  refine hn_add X d_L_law_535 ?_
  refine va_sld X.1 X.2.1 hX hbl hbA hh.2.2.1 (vp_in_nI (by omega) (by omega)) d_L_law_536 ?_
  refine lv_aload_n X.1 X.2.1 d_L_law_537 rfl (lv_at hl 3 rfl) ?_
  refine lv_iload_n X.1 X.2.1 d_L_law_538 rfl (lv_at hl 0 rfl) ?_
  refine lv_iconst (v := nI 2) X.1 X.2.1 d_L_law_539 (by decide) ?_
  refine hn_add X d_L_law_540 ?_
  refine va_sld X.1 X.2.1 hX hbl hbA hh.2.2.1 (vp_in_nI (by omega) (by omega)) d_L_law_541 ?_
  refine hl_calli hh (hl_runV (k := 2) X hK hh (kM_image l g _ L1 f1 T1 d n mm sm mv st hM1 hW (xs (nI (i + 1)).toNatClampNeg) (xs (nI (i + 2)).toNatClampNeg)) wc_M_image w_463 w_5 wi_M_image ws_M_image (by decide +kernel) rfl rfl ⟨Nat.le_of_ble_eq_true rfl, Nat.le_of_ble_eq_true rfl⟩ o3 o4 rfl rfl rfl rfl (Nat.le_of_ble_eq_true rfl) hl.1 d_L_law_542 (lw_le made)) (fun r2 u2 H locs hp hh => ?_)
  obtain ⟨f2, h2, rfl, hM2, hfr⟩ := hp
  have hC2 := cg_I_to hC1 hfr
  have e0 := ls_2_det hs31 hn31 h1 h2
  refine lv_icmp_eq (tgt := 643) X.1 X.2.1 d_L_law_545 (by decide) (fun hc => ?_) (fun hc => ?_)
  · exact kk L1 f2 T1 mm sm mv st made H locs _ ⟨hC2, hM2, hh⟩ hl
  · exact absurd e0 hc
theorem law_parity {p : Program} {l : Launch} {e : Env} {s : State} {m : MethodId} {below : List Frame} {meth : Method} {c : Code} {b0 N : Nat} {xs : Nat → Int32} (g : hl_G) (hN : N ≤ 2561) (X : CallFix p m c code 4 s #[Value.ref b0] tg "CycleGroupsLaw") (hK : hl_K g s) (hX : va_X b0 N xs s s.heap) (hbl : b0 < s.heap.size) (b d : Nat → Nat) (n i : Nat) (hi : i + 5 ≤ N)
    (kk : ∀ (L : List Nat) (f : Nat → va_E) (T : Nat → Nat) (mm sm : Nat) (mv st : Nat → Nat → Nat) (made : Bool) (H : Heap) (locs : List Loc) (ls : Array Slot), lw_J g s L f T b d n mm sm mv st made H locs → lv_has ls 4 [(3, .int (nI i)), (2, .ref (d 0)), (1, .ref (b 0)), (0, .ref b0)] → W p l e room_1 s m #[Value.ref b0] below meth c H locs (lw_c made) (lw_s made) (lw_Z below #[Value.ref b0] s) (F0 m 643 ls [])) :
    ∀ (L : List Nat) (f : Nat → va_E) (T : Nat → Nat) (mm sm : Nat) (mv st : Nat → Nat → Nat) (made : Bool) (H : Heap) (locs : List Loc) (ls : Array Slot), lw_J g s L f T b d n mm sm mv st made H locs → lv_has ls 4 [(3, .int (nI i)), (2, .ref (d 0)), (1, .ref (b 0)), (0, .ref b0)] → W p l e room_1 s m #[Value.ref b0] below meth c H locs (lw_c made) (lw_s made) (lw_Z below #[Value.ref b0] s) (F0 m 596 ls []) := by
  intro L f T mm sm mv st made H locs ls hJ hl
  obtain ⟨hC, hM, hh⟩ := hJ
  have hbA : ¬ (fun q : Nat => s.heap.size ≤ q) b0 := Nat.not_le.mpr hbl
  obtain ⟨fs1, o1, o2⟩ := cg_ob0 hC
  have hW := cg_Wn hC
  have hn31 : n < 2 ^ 31 := by have := hW.2.1; omega
  have hm31 : mm < 2 ^ 31 := by have := hW.2.2.1; omega
  have hs31 : sm < 2 ^ 31 := by have := hW.2.2.2.1; omega
  refine lv_aload_n X.1 X.2.1 d_L_law_596 rfl (lv_at hl 2 rfl) ?_
  refine lv_aload_n X.1 X.2.1 d_L_law_597 rfl (lv_at hl 3 rfl) ?_
  refine lv_iload_n X.1 X.2.1 d_L_law_598 rfl (lv_at hl 0 rfl) ?_
  refine lv_iconst (v := nI 1) X.1 X.2.1 d_L_law_599 (by decide) ?_
  refine hn_add X d_L_law_600 ?_
  refine va_sld X.1 X.2.1 hX hbl hbA hh.2.2.1 (vp_in_nI (by omega) (by omega)) d_L_law_601 ?_
  refine hl_calli hh (hl_runV (k := 1) X hK hh (c_C_parity l g _ L f T b n mm sm mv st made hC (xs (nI (i + 1)).toNatClampNeg) (fun r u => ls_1 sm (xs (nI (i + 1)).toNatClampNeg) (-1) (fun j r => r = nI (pa_n (st j) n % 2)) r ∧ cg_R g L f T b n mm sm mv st made u) (fun r h => ⟨h, cg_R_same hC⟩)) wc_C_parity w_328 w_1 wi_C_parity ws_C_parity (by decide +kernel) rfl rfl ⟨Nat.le_of_ble_eq_true rfl, Nat.le_of_ble_eq_true rfl⟩ o1 o2 rfl rfl rfl rfl (Nat.le_of_ble_eq_true rfl) hl.1 d_L_law_602 (lw_le made)) (fun r1 u1 H locs hp hh => ?_)
  have hq := hp
  obtain ⟨L1, f1⟩ := u1
  obtain ⟨h1, T1, hL1, hf1, hC1⟩ := hq
  have hh : hl_H g (fun q => s.heap.size ≤ q) s.heap L1 f1 H locs := hh
  have hM1 : md_I g L1 f1 T1 d n mm sm mv st := md_I_to hM hL1 hf1
  obtain ⟨fs2, o3, o4⟩ := md_ob0 hM1
  refine lv_aload_n X.1 X.2.1 d_L_law_605 rfl (lv_at hl 1 rfl) ?_
  refine lv_aload_n X.1 X.2.1 d_L_law_606 rfl (lv_at hl 3 rfl) ?_
  refine lv_iload_n X.1 X.2.1 d_L_law_607 rfl (lv_at hl 0 rfl) ?_
  refine lv_iconst (v := nI 1) X.1 X.2.1 d_L_law_608 (by decide) ?_
  refine hn_add X d_L_law_609 ?_
  refine va_sld X.1 X.2.1 hX hbl hbA hh.2.2.1 (vp_in_nI (by omega) (by omega)) d_L_law_610 ?_
  refine hl_calli hh (hl_runV (k := 1) X hK hh (kM_parity l g _ L1 f1 T1 d n mm sm mv st hM1 hW (xs (nI (i + 1)).toNatClampNeg)) wc_M_parity w_572 w_5 wi_M_parity ws_M_parity (by decide +kernel) rfl rfl ⟨Nat.le_of_ble_eq_true rfl, Nat.le_of_ble_eq_true rfl⟩ o3 o4 rfl rfl rfl rfl (Nat.le_of_ble_eq_true rfl) hl.1 d_L_law_611 (lw_le made)) (fun r2 u2 H locs hp hh => ?_)
  obtain ⟨f2, h2, rfl, hM2, hfr⟩ := hp
  have hC2 := cg_I_to hC1 hfr
  have e0 := ls_1_det hs31 (fun j x x2 _ a1 a2 => a1.trans a2.symm) h1 h2
  refine lv_icmp_eq (tgt := 643) X.1 X.2.1 d_L_law_614 (by decide) (fun hc => ?_) (fun hc => ?_)
  · exact kk L1 f2 T1 mm sm mv st made H locs _ ⟨hC2, hM2, hh⟩ hl
  · exact absurd e0 hc
theorem law_orbit {p : Program} {l : Launch} {e : Env} {s : State} {m : MethodId} {below : List Frame} {meth : Method} {c : Code} {b0 N : Nat} {xs : Nat → Int32} (g : hl_G) (hN : N ≤ 2561) (X : CallFix p m c code 4 s #[Value.ref b0] tg "CycleGroupsLaw") (hK : hl_K g s) (hX : va_X b0 N xs s s.heap) (hbl : b0 < s.heap.size) (b d : Nat → Nat) (n i : Nat) (hi : i + 5 ≤ N)
    (kk : ∀ (L : List Nat) (f : Nat → va_E) (T : Nat → Nat) (mm sm : Nat) (mv st : Nat → Nat → Nat) (made : Bool) (H : Heap) (locs : List Loc) (ls : Array Slot), lw_J g s L f T b d n mm sm mv st made H locs → lv_has ls 4 [(3, .int (nI i)), (2, .ref (d 0)), (1, .ref (b 0)), (0, .ref b0)] → W p l e room_1 s m #[Value.ref b0] below meth c H locs (lw_c made) (lw_s made) (lw_Z below #[Value.ref b0] s) (F0 m 643 ls [])) :
    ∀ (L : List Nat) (f : Nat → va_E) (T : Nat → Nat) (mm sm : Nat) (mv st : Nat → Nat → Nat) (made : Bool) (H : Heap) (locs : List Loc) (ls : Array Slot), lw_J g s L f T b d n mm sm mv st made H locs → lv_has ls 4 [(3, .int (nI i)), (2, .ref (d 0)), (1, .ref (b 0)), (0, .ref b0)] → W p l e room_1 s m #[Value.ref b0] below meth c H locs (lw_c made) (lw_s made) (lw_Z below #[Value.ref b0] s) (F0 m 299 ls []) := by
  intro L f T mm sm mv st made H locs ls hJ hl
  obtain ⟨hC, hM, hh⟩ := hJ
  have hbA : ¬ (fun q : Nat => s.heap.size ≤ q) b0 := Nat.not_le.mpr hbl
  obtain ⟨fs1, o1, o2⟩ := cg_ob0 hC
  have hW := cg_Wn hC
  have hn31 : n < 2 ^ 31 := by have := hW.2.1; omega
  have hm31 : mm < 2 ^ 31 := by have := hW.2.2.1; omega
  have hs31 : sm < 2 ^ 31 := by have := hW.2.2.2.1; omega
  refine lv_aload_n X.1 X.2.1 d_L_law_299 rfl (lv_at hl 2 rfl) ?_
  refine lv_aload_n X.1 X.2.1 d_L_law_300 rfl (lv_at hl 3 rfl) ?_
  refine lv_iload_n X.1 X.2.1 d_L_law_301 rfl (lv_at hl 0 rfl) ?_
  refine lv_iconst (v := nI 1) X.1 X.2.1 d_L_law_302 (by decide) ?_
  refine hn_add X d_L_law_303 ?_
  refine va_sld X.1 X.2.1 hX hbl hbA hh.2.2.1 (vp_in_nI (by omega) (by omega)) d_L_law_304 ?_
  refine hl_calli hh (hl_runV (k := 1) X hK hh (c_C_orbit l g _ L f T b n mm sm mv st made hC (xs (nI (i + 1)).toNatClampNeg) (fun r u => ls_1 n (xs (nI (i + 1)).toNatClampNeg) (-1) (fun j r => r = nI (pt_orb mv n id mm j)) r ∧ cg_R g L f T b n mm sm mv st made u) (fun r u h => by rcases h with ⟨a1, a2, rfl⟩ | ⟨j, a1, a2, a3, a4⟩; exact ⟨Or.inl ⟨a1, a2⟩, cg_R_same hC⟩; exact ⟨Or.inr ⟨j, a1, a2, a3⟩, a4⟩)) wc_C_orbit w_269 w_1 wi_C_orbit ws_C_orbit (by decide +kernel) rfl rfl ⟨Nat.le_of_ble_eq_true rfl, Nat.le_of_ble_eq_true rfl⟩ o1 o2 rfl rfl rfl rfl (Nat.le_of_ble_eq_true rfl) hl.1 d_L_law_305 (lw_le made)) (fun r1 u1 H locs hp hh => ?_)
  have hq := hp
  obtain ⟨L1, f1⟩ := u1
  obtain ⟨h1, T1, hL1, hf1, hC1⟩ := hq
  have hh : hl_H g (fun q => s.heap.size ≤ q) s.heap L1 f1 H locs := hh
  have hM1 : md_I g L1 f1 T1 d n mm sm mv st := md_I_to hM hL1 hf1
  obtain ⟨fs2, o3, o4⟩ := md_ob0 hM1
  refine lv_aload_n X.1 X.2.1 d_L_law_308 rfl (lv_at hl 1 rfl) ?_
  refine lv_aload_n X.1 X.2.1 d_L_law_309 rfl (lv_at hl 3 rfl) ?_
  refine lv_iload_n X.1 X.2.1 d_L_law_310 rfl (lv_at hl 0 rfl) ?_
  refine lv_iconst (v := nI 1) X.1 X.2.1 d_L_law_311 (by decide) ?_
  refine hn_add X d_L_law_312 ?_
  refine va_sld X.1 X.2.1 hX hbl hbA hh.2.2.1 (vp_in_nI (by omega) (by omega)) d_L_law_313 ?_
  refine hl_calli hh (hl_runV (k := 1) X hK hh (kM_orbit l g _ L1 f1 T1 d n mm sm mv st hM1 hW (xs (nI (i + 1)).toNatClampNeg)) wc_M_orbit w_535 w_5 wi_M_orbit ws_M_orbit (by decide +kernel) rfl rfl ⟨Nat.le_of_ble_eq_true rfl, Nat.le_of_ble_eq_true rfl⟩ o3 o4 rfl rfl rfl rfl (Nat.le_of_ble_eq_true rfl) hl.1 d_L_law_314 (lw_le made)) (fun r2 u2 H locs hp hh => ?_)
  obtain ⟨f2, h2, rfl, hM2, hfr⟩ := hp
  have hC2 := cg_I_to hC1 hfr
  have e0 := ls_1_det hn31 (fun j x x2 _ a1 a2 => a1.trans a2.symm) h1 h2
  refine lv_icmp_eq (tgt := 643) X.1 X.2.1 d_L_law_317 (by decide) (fun hc => ?_) (fun hc => ?_)
  · exact kk L1 f2 T1 mm sm mv st made H locs _ ⟨hC2, hM2, hh⟩ hl
  · exact absurd e0 hc
theorem law_block {p : Program} {l : Launch} {e : Env} {s : State} {m : MethodId} {below : List Frame} {meth : Method} {c : Code} {b0 N : Nat} {xs : Nat → Int32} (g : hl_G) (hN : N ≤ 2561) (X : CallFix p m c code 4 s #[Value.ref b0] tg "CycleGroupsLaw") (hK : hl_K g s) (hX : va_X b0 N xs s s.heap) (hbl : b0 < s.heap.size) (b d : Nat → Nat) (n i : Nat) (hi : i + 5 ≤ N)
    (kk : ∀ (L : List Nat) (f : Nat → va_E) (T : Nat → Nat) (mm sm : Nat) (mv st : Nat → Nat → Nat) (made : Bool) (H : Heap) (locs : List Loc) (ls : Array Slot), lw_J g s L f T b d n mm sm mv st made H locs → lv_has ls 4 [(3, .int (nI i)), (2, .ref (d 0)), (1, .ref (b 0)), (0, .ref b0)] → W p l e room_1 s m #[Value.ref b0] below meth c H locs (lw_c made) (lw_s made) (lw_Z below #[Value.ref b0] s) (F0 m 643 ls [])) :
    ∀ (L : List Nat) (f : Nat → va_E) (T : Nat → Nat) (mm sm : Nat) (mv st : Nat → Nat → Nat) (made : Bool) (H : Heap) (locs : List Loc) (ls : Array Slot), lw_J g s L f T b d n mm sm mv st made H locs → lv_has ls 4 [(3, .int (nI i)), (2, .ref (d 0)), (1, .ref (b 0)), (0, .ref b0)] → W p l e room_1 s m #[Value.ref b0] below meth c H locs (lw_c made) (lw_s made) (lw_Z below #[Value.ref b0] s) (F0 m 322 ls []) := by
  intro L f T mm sm mv st made H locs ls hJ hl
  obtain ⟨hC, hM, hh⟩ := hJ
  have hbA : ¬ (fun q : Nat => s.heap.size ≤ q) b0 := Nat.not_le.mpr hbl
  obtain ⟨fs1, o1, o2⟩ := cg_ob0 hC
  have hW := cg_Wn hC
  have hn31 : n < 2 ^ 31 := by have := hW.2.1; omega
  have hm31 : mm < 2 ^ 31 := by have := hW.2.2.1; omega
  have hs31 : sm < 2 ^ 31 := by have := hW.2.2.2.1; omega
  refine lv_aload_n X.1 X.2.1 d_L_law_322 rfl (lv_at hl 2 rfl) ?_
  refine lv_aload_n X.1 X.2.1 d_L_law_323 rfl (lv_at hl 3 rfl) ?_
  refine lv_iload_n X.1 X.2.1 d_L_law_324 rfl (lv_at hl 0 rfl) ?_
  refine lv_iconst (v := nI 1) X.1 X.2.1 d_L_law_325 (by decide) ?_
  refine hn_add X d_L_law_326 ?_
  refine va_sld X.1 X.2.1 hX hbl hbA hh.2.2.1 (vp_in_nI (by omega) (by omega)) d_L_law_327 ?_
  refine lv_aload_n X.1 X.2.1 d_L_law_328 rfl (lv_at hl 3 rfl) ?_
  refine lv_iload_n X.1 X.2.1 d_L_law_329 rfl (lv_at hl 0 rfl) ?_
  refine lv_iconst (v := nI 2) X.1 X.2.1 d_L_law_330 (by decide) ?_
  refine hn_add X d_L_law_331 ?_
  refine va_sld X.1 X.2.1 hX hbl hbA hh.2.2.1 (vp_in_nI (by omega) (by omega)) d_L_law_332 ?_
  refine hl_calli hh (hl_runV (k := 2) X hK hh (c_C_block l g _ L f T b n mm sm mv st made hC (xs (nI (i + 1)).toNatClampNeg) (xs (nI (i + 2)).toNatClampNeg) (fun r u => ls_2 n n (xs (nI (i + 1)).toNatClampNeg) (xs (nI (i + 2)).toNatClampNeg) (fun j k => nI (pt_size (pt_blk mv n mm n (pt_join id j k)) j n)) r ∧ cg_R g L f T b n mm sm mv st made u) (fun r u h => by rcases h with ⟨a1, a2, rfl⟩ | ⟨j, k, a1, a2, a3, a4, a5, a6⟩; exact ⟨Or.inl ⟨a1, a2⟩, cg_R_same hC⟩; exact ⟨Or.inr ⟨j, k, a1, a2, a3, a4, a5⟩, a6⟩)) wc_C_block w_277 w_1 wi_C_block ws_C_block (by decide +kernel) rfl rfl ⟨Nat.le_of_ble_eq_true rfl, Nat.le_of_ble_eq_true rfl⟩ o1 o2 rfl rfl rfl rfl (Nat.le_of_ble_eq_true rfl) hl.1 d_L_law_333 (lw_le made)) (fun r1 u1 H locs hp hh => ?_)
  have hq := hp
  obtain ⟨L1, f1⟩ := u1
  obtain ⟨h1, T1, hL1, hf1, hC1⟩ := hq
  have hh : hl_H g (fun q => s.heap.size ≤ q) s.heap L1 f1 H locs := hh
  have hM1 : md_I g L1 f1 T1 d n mm sm mv st := md_I_to hM hL1 hf1
  obtain ⟨fs2, o3, o4⟩ := md_ob0 hM1
  refine lv_aload_n X.1 X.2.1 d_L_law_336 rfl (lv_at hl 1 rfl) ?_
  refine lv_aload_n X.1 X.2.1 d_L_law_337 rfl (lv_at hl 3 rfl) ?_
  refine lv_iload_n X.1 X.2.1 d_L_law_338 rfl (lv_at hl 0 rfl) ?_
  refine lv_iconst (v := nI 1) X.1 X.2.1 d_L_law_339 (by decide) ?_
  refine hn_add X d_L_law_340 ?_
  refine va_sld X.1 X.2.1 hX hbl hbA hh.2.2.1 (vp_in_nI (by omega) (by omega)) d_L_law_341 ?_
  refine lv_aload_n X.1 X.2.1 d_L_law_342 rfl (lv_at hl 3 rfl) ?_
  refine lv_iload_n X.1 X.2.1 d_L_law_343 rfl (lv_at hl 0 rfl) ?_
  refine lv_iconst (v := nI 2) X.1 X.2.1 d_L_law_344 (by decide) ?_
  refine hn_add X d_L_law_345 ?_
  refine va_sld X.1 X.2.1 hX hbl hbA hh.2.2.1 (vp_in_nI (by omega) (by omega)) d_L_law_346 ?_
  refine hl_calli hh (hl_runV (k := 2) X hK hh (kM_block l g _ L1 f1 T1 d n mm sm mv st hM1 hW (xs (nI (i + 1)).toNatClampNeg) (xs (nI (i + 2)).toNatClampNeg)) wc_M_block w_559 w_5 wi_M_block ws_M_block (by decide +kernel) rfl rfl ⟨Nat.le_of_ble_eq_true rfl, Nat.le_of_ble_eq_true rfl⟩ o3 o4 rfl rfl rfl rfl (Nat.le_of_ble_eq_true rfl) hl.1 d_L_law_347 (lw_le made)) (fun r2 u2 H locs hp hh => ?_)
  obtain ⟨f2, h2, rfl, hM2, hfr⟩ := hp
  have hC2 := cg_I_to hC1 hfr
  have e0 := ls_2_det hn31 hn31 h1 h2
  refine lv_icmp_eq (tgt := 643) X.1 X.2.1 d_L_law_350 (by decide) (fun hc => ?_) (fun hc => ?_)
  · exact kk L1 f2 T1 mm sm mv st made H locs _ ⟨hC2, hM2, hh⟩ hl
  · exact absurd e0 hc
theorem law_run {p : Program} {l : Launch} {e : Env} {s : State} {m : MethodId} {below : List Frame} {meth : Method} {c : Code} {b0 N : Nat} {xs : Nat → Int32} (g : hl_G) (hN : N ≤ 2561) (X : CallFix p m c code 4 s #[Value.ref b0] tg "CycleGroupsLaw") (hK : hl_K g s) (hX : va_X b0 N xs s s.heap) (hbl : b0 < s.heap.size) (b d : Nat → Nat) (n i : Nat) (hi : i + 5 ≤ N)
    (kk : ∀ (L : List Nat) (f : Nat → va_E) (T : Nat → Nat) (mm sm : Nat) (mv st : Nat → Nat → Nat) (made : Bool) (H : Heap) (locs : List Loc) (ls : Array Slot), lw_J g s L f T b d n mm sm mv st made H locs → lv_has ls 4 [(3, .int (nI i)), (2, .ref (d 0)), (1, .ref (b 0)), (0, .ref b0)] → W p l e room_1 s m #[Value.ref b0] below meth c H locs (lw_c made) (lw_s made) (lw_Z below #[Value.ref b0] s) (F0 m 643 ls [])) :
    ∀ (L : List Nat) (f : Nat → va_E) (T : Nat → Nat) (mm sm : Nat) (mv st : Nat → Nat → Nat) (made : Bool) (H : Heap) (locs : List Loc) (ls : Array Slot), lw_J g s L f T b d n mm sm mv st made H locs → lv_has ls 4 [(3, .int (nI i)), (2, .ref (d 0)), (1, .ref (b 0)), (0, .ref b0)] → W p l e room_1 s m #[Value.ref b0] below meth c H locs (lw_c made) (lw_s made) (lw_Z below #[Value.ref b0] s) (F0 m 184 ls []) := by
  intro L f T mm sm mv st made H locs ls hJ hl
  obtain ⟨hC, hM, hh⟩ := hJ
  have hbA : ¬ (fun q : Nat => s.heap.size ≤ q) b0 := Nat.not_le.mpr hbl
  obtain ⟨fs1, o1, o2⟩ := cg_ob0 hC
  have hW := cg_Wn hC
  have hn31 : n < 2 ^ 31 := by have := hW.2.1; omega
  have hm31 : mm < 2 ^ 31 := by have := hW.2.2.1; omega
  have hs31 : sm < 2 ^ 31 := by have := hW.2.2.2.1; omega
  obtain ⟨mc, ms, made2, hbud, hMet⟩ := kC_run l g H.size L f T b n mm sm mv st made hC
  refine lv_aload_n X.1 X.2.1 d_L_law_184 rfl (lv_at hl 2 rfl) ?_
  refine hl_calli hh (hl_runV (k := 0) X hK hh hMet wc_C_run w_94 w_1 wi_C_run ws_C_run (by decide +kernel) rfl rfl ⟨Nat.le_of_ble_eq_true rfl, Nat.le_of_ble_eq_true rfl⟩ o1 o2 rfl rfl rfl rfl (Nat.le_of_ble_eq_true rfl) hl.1 d_L_law_185 (lw_fit hbud)) (fun r1 u1 H locs hp hh => ?_)
  rw [(lw_bud_c hbud).1, (lw_bud_c hbud).2]
  have hq := hp
  obtain ⟨L1, f1⟩ := u1
  obtain ⟨h1, T1, hL1, hf1, hC1⟩ := hq
  have hh : hl_H g (fun q => s.heap.size ≤ q) s.heap L1 f1 H locs := hh
  have hM1 : md_I g L1 f1 T1 d n mm sm mv st := md_I_to hM hL1 hf1
  obtain ⟨fs2, o3, o4⟩ := md_ob0 hM1
  refine lv_aload_n X.1 X.2.1 d_L_law_188 rfl (lv_at hl 1 rfl) ?_
  refine hl_calli hh (hl_runV (k := 0) X hK hh (kM_run l g _ L1 f1 T1 d n mm sm mv st hM1 hW) wc_M_run w_519 w_5 wi_M_run ws_M_run (by decide +kernel) rfl rfl ⟨Nat.le_of_ble_eq_true rfl, Nat.le_of_ble_eq_true rfl⟩ o3 o4 rfl rfl rfl rfl (Nat.le_of_ble_eq_true rfl) hl.1 d_L_law_189 (lw_le made2)) (fun r2 u2 H locs hp hh => ?_)
  obtain ⟨f2, h2, rfl, hM2, hfr⟩ := hp
  have hC2 := cg_I_to hC1 hfr
  have e0 := ls_S_det (fun S S2 h => by rw [rn_congr h]) h1 h2
  refine lv_icmp_eq (tgt := 643) X.1 X.2.1 d_L_law_192 (by decide) (fun hc => ?_) (fun hc => ?_)
  · exact kk L1 f2 T1 mm sm mv st made2 H locs _ ⟨hC2, hM2, hh⟩ hl
  · exact absurd e0 hc
theorem law_base {p : Program} {l : Launch} {e : Env} {s : State} {m : MethodId} {below : List Frame} {meth : Method} {c : Code} {b0 N : Nat} {xs : Nat → Int32} (g : hl_G) (hN : N ≤ 2561) (X : CallFix p m c code 4 s #[Value.ref b0] tg "CycleGroupsLaw") (hK : hl_K g s) (hX : va_X b0 N xs s s.heap) (hbl : b0 < s.heap.size) (b d : Nat → Nat) (n i : Nat) (hi : i + 5 ≤ N)
    (kk : ∀ (L : List Nat) (f : Nat → va_E) (T : Nat → Nat) (mm sm : Nat) (mv st : Nat → Nat → Nat) (made : Bool) (H : Heap) (locs : List Loc) (ls : Array Slot), lw_J g s L f T b d n mm sm mv st made H locs → lv_has ls 4 [(3, .int (nI i)), (2, .ref (d 0)), (1, .ref (b 0)), (0, .ref b0)] → W p l e room_1 s m #[Value.ref b0] below meth c H locs (lw_c made) (lw_s made) (lw_Z below #[Value.ref b0] s) (F0 m 643 ls [])) :
    ∀ (L : List Nat) (f : Nat → va_E) (T : Nat → Nat) (mm sm : Nat) (mv st : Nat → Nat → Nat) (made : Bool) (H : Heap) (locs : List Loc) (ls : Array Slot), lw_J g s L f T b d n mm sm mv st made H locs → lv_has ls 4 [(3, .int (nI i)), (2, .ref (d 0)), (1, .ref (b 0)), (0, .ref b0)] → W p l e room_1 s m #[Value.ref b0] below meth c H locs (lw_c made) (lw_s made) (lw_Z below #[Value.ref b0] s) (F0 m 197 ls []) := by
  intro L f T mm sm mv st made H locs ls hJ hl
  obtain ⟨hC, hM, hh⟩ := hJ
  have hbA : ¬ (fun q : Nat => s.heap.size ≤ q) b0 := Nat.not_le.mpr hbl
  obtain ⟨fs1, o1, o2⟩ := cg_ob0 hC
  have hW := cg_Wn hC
  have hn31 : n < 2 ^ 31 := by have := hW.2.1; omega
  have hm31 : mm < 2 ^ 31 := by have := hW.2.2.1; omega
  have hs31 : sm < 2 ^ 31 := by have := hW.2.2.2.1; omega
  obtain ⟨mc, ms, made2, hbud, hMet⟩ := kC_base l g H.size L f T b n mm sm mv st made hC (xs (nI (i + 1)).toNatClampNeg)
  refine lv_aload_n X.1 X.2.1 d_L_law_197 rfl (lv_at hl 2 rfl) ?_
  refine lv_aload_n X.1 X.2.1 d_L_law_198 rfl (lv_at hl 3 rfl) ?_
  refine lv_iload_n X.1 X.2.1 d_L_law_199 rfl (lv_at hl 0 rfl) ?_
  refine lv_iconst (v := nI 1) X.1 X.2.1 d_L_law_200 (by decide) ?_
  refine hn_add X d_L_law_201 ?_
  refine va_sld X.1 X.2.1 hX hbl hbA hh.2.2.1 (vp_in_nI (by omega) (by omega)) d_L_law_202 ?_
  refine hl_calli hh (hl_runV (k := 1) X hK hh hMet wc_C_base w_209 w_1 wi_C_base ws_C_base (by decide +kernel) rfl rfl ⟨Nat.le_of_ble_eq_true rfl, Nat.le_of_ble_eq_true rfl⟩ o1 o2 rfl rfl rfl rfl (Nat.le_of_ble_eq_true rfl) hl.1 d_L_law_203 (lw_fit hbud)) (fun r1 u1 H locs hp hh => ?_)
  rw [(lw_bud_c hbud).1, (lw_bud_c hbud).2]
  have hq := hp
  obtain ⟨L1, f1⟩ := u1
  obtain ⟨h1, T1, hL1, hf1, hC1⟩ := hq
  have hh : hl_H g (fun q => s.heap.size ≤ q) s.heap L1 f1 H locs := hh
  have hM1 : md_I g L1 f1 T1 d n mm sm mv st := md_I_to hM hL1 hf1
  obtain ⟨fs2, o3, o4⟩ := md_ob0 hM1
  refine lv_aload_n X.1 X.2.1 d_L_law_206 rfl (lv_at hl 1 rfl) ?_
  refine lv_aload_n X.1 X.2.1 d_L_law_207 rfl (lv_at hl 3 rfl) ?_
  refine lv_iload_n X.1 X.2.1 d_L_law_208 rfl (lv_at hl 0 rfl) ?_
  refine lv_iconst (v := nI 1) X.1 X.2.1 d_L_law_209 (by decide) ?_
  refine hn_add X d_L_law_210 ?_
  refine va_sld X.1 X.2.1 hX hbl hbA hh.2.2.1 (vp_in_nI (by omega) (by omega)) d_L_law_211 ?_
  refine hl_calli hh (hl_runV (k := 1) X hK hh (kM_base l g _ L1 f1 T1 d n mm sm mv st hM1 hW (xs (nI (i + 1)).toNatClampNeg)) wc_M_base w_523 w_5 wi_M_base ws_M_base (by decide +kernel) rfl rfl ⟨Nat.le_of_ble_eq_true rfl, Nat.le_of_ble_eq_true rfl⟩ o3 o4 rfl rfl rfl rfl (Nat.le_of_ble_eq_true rfl) hl.1 d_L_law_212 (lw_le made2)) (fun r2 u2 H locs hp hh => ?_)
  obtain ⟨f2, h2, rfl, hM2, hfr⟩ := hp
  have hC2 := cg_I_to hC1 hfr
  have e0 := ls_S_det (fun S S2 h => ba_congr h _ n 0 0 (by omega)) h1 h2
  refine lv_icmp_eq (tgt := 643) X.1 X.2.1 d_L_law_215 (by decide) (fun hc => ?_) (fun hc => ?_)
  · exact kk L1 f2 T1 mm sm mv st made2 H locs _ ⟨hC2, hM2, hh⟩ hl
  · exact absurd e0 hc
theorem law_order {p : Program} {l : Launch} {e : Env} {s : State} {m : MethodId} {below : List Frame} {meth : Method} {c : Code} {b0 N : Nat} {xs : Nat → Int32} (g : hl_G) (hN : N ≤ 2561) (X : CallFix p m c code 4 s #[Value.ref b0] tg "CycleGroupsLaw") (hK : hl_K g s) (hX : va_X b0 N xs s s.heap) (hbl : b0 < s.heap.size) (b d : Nat → Nat) (n i : Nat) (hi : i + 5 ≤ N)
    (kk : ∀ (L : List Nat) (f : Nat → va_E) (T : Nat → Nat) (mm sm : Nat) (mv st : Nat → Nat → Nat) (made : Bool) (H : Heap) (locs : List Loc) (ls : Array Slot), lw_J g s L f T b d n mm sm mv st made H locs → lv_has ls 4 [(3, .int (nI i)), (2, .ref (d 0)), (1, .ref (b 0)), (0, .ref b0)] → W p l e room_1 s m #[Value.ref b0] below meth c H locs (lw_c made) (lw_s made) (lw_Z below #[Value.ref b0] s) (F0 m 643 ls [])) :
    ∀ (L : List Nat) (f : Nat → va_E) (T : Nat → Nat) (mm sm : Nat) (mv st : Nat → Nat → Nat) (made : Bool) (H : Heap) (locs : List Loc) (ls : Array Slot), lw_J g s L f T b d n mm sm mv st made H locs → lv_has ls 4 [(3, .int (nI i)), (2, .ref (d 0)), (1, .ref (b 0)), (0, .ref b0)] → W p l e room_1 s m #[Value.ref b0] below meth c H locs (lw_c made) (lw_s made) (lw_Z below #[Value.ref b0] s) (F0 m 243 ls []) := by
  intro L f T mm sm mv st made H locs ls hJ hl
  obtain ⟨hC, hM, hh⟩ := hJ
  have hbA : ¬ (fun q : Nat => s.heap.size ≤ q) b0 := Nat.not_le.mpr hbl
  obtain ⟨fs1, o1, o2⟩ := cg_ob0 hC
  have hW := cg_Wn hC
  have hn31 : n < 2 ^ 31 := by have := hW.2.1; omega
  have hm31 : mm < 2 ^ 31 := by have := hW.2.2.1; omega
  have hs31 : sm < 2 ^ 31 := by have := hW.2.2.2.1; omega
  obtain ⟨mc, ms, made2, hbud, hMet⟩ := kC_order l g H.size L f T b n mm sm mv st made hC (xs (nI (i + 1)).toNatClampNeg)
  refine lv_aload_n X.1 X.2.1 d_L_law_243 rfl (lv_at hl 2 rfl) ?_
  refine lv_aload_n X.1 X.2.1 d_L_law_244 rfl (lv_at hl 3 rfl) ?_
  refine lv_iload_n X.1 X.2.1 d_L_law_245 rfl (lv_at hl 0 rfl) ?_
  refine lv_iconst (v := nI 1) X.1 X.2.1 d_L_law_246 (by decide) ?_
  refine hn_add X d_L_law_247 ?_
  refine va_sld X.1 X.2.1 hX hbl hbA hh.2.2.1 (vp_in_nI (by omega) (by omega)) d_L_law_248 ?_
  refine hl_calli hh (hl_runV (k := 1) X hK hh hMet wc_C_order w_217 w_1 wi_C_order ws_C_order (by decide +kernel) rfl rfl ⟨Nat.le_of_ble_eq_true rfl, Nat.le_of_ble_eq_true rfl⟩ o1 o2 rfl rfl rfl rfl (Nat.le_of_ble_eq_true rfl) hl.1 d_L_law_249 (lw_fit hbud)) (fun r1 u1 H locs hp hh => ?_)
  rw [(lw_bud_c hbud).1, (lw_bud_c hbud).2]
  have hq := hp
  obtain ⟨L1, f1⟩ := u1
  obtain ⟨h1, T1, hL1, hf1, hC1⟩ := hq
  have hh : hl_H g (fun q => s.heap.size ≤ q) s.heap L1 f1 H locs := hh
  have hM1 : md_I g L1 f1 T1 d n mm sm mv st := md_I_to hM hL1 hf1
  obtain ⟨fs2, o3, o4⟩ := md_ob0 hM1
  refine lv_aload_n X.1 X.2.1 d_L_law_252 rfl (lv_at hl 1 rfl) ?_
  refine lv_aload_n X.1 X.2.1 d_L_law_253 rfl (lv_at hl 3 rfl) ?_
  refine lv_iload_n X.1 X.2.1 d_L_law_254 rfl (lv_at hl 0 rfl) ?_
  refine lv_iconst (v := nI 1) X.1 X.2.1 d_L_law_255 (by decide) ?_
  refine hn_add X d_L_law_256 ?_
  refine va_sld X.1 X.2.1 hX hbl hbA hh.2.2.1 (vp_in_nI (by omega) (by omega)) d_L_law_257 ?_
  refine hl_calli hh (hl_runV (k := 1) X hK hh (kM_order l g _ L1 f1 T1 d n mm sm mv st hM1 hW (xs (nI (i + 1)).toNatClampNeg)) wc_M_order w_527 w_5 wi_M_order ws_M_order (by decide +kernel) rfl rfl ⟨Nat.le_of_ble_eq_true rfl, Nat.le_of_ble_eq_true rfl⟩ o3 o4 rfl rfl rfl rfl (Nat.le_of_ble_eq_true rfl) hl.1 d_L_law_258 (lw_le made2)) (fun r2 u2 H locs hp hh => ?_)
  obtain ⟨f2, h2, rfl, hM2, hfr⟩ := hp
  have hC2 := cg_I_to hC1 hfr
  have e0 := ls_S_det (fun S S2 h => by rw [ls_pr h]) h1 h2
  refine lv_icmp_eq (tgt := 643) X.1 X.2.1 d_L_law_261 (by decide) (fun hc => ?_) (fun hc => ?_)
  · exact kk L1 f2 T1 mm sm mv st made2 H locs _ ⟨hC2, hM2, hh⟩ hl
  · exact absurd e0 hc
theorem law_spread {p : Program} {l : Launch} {e : Env} {s : State} {m : MethodId} {below : List Frame} {meth : Method} {c : Code} {b0 N : Nat} {xs : Nat → Int32} (g : hl_G) (hN : N ≤ 2561) (X : CallFix p m c code 4 s #[Value.ref b0] tg "CycleGroupsLaw") (hK : hl_K g s) (hX : va_X b0 N xs s s.heap) (hbl : b0 < s.heap.size) (b d : Nat → Nat) (n i : Nat) (hi : i + 5 ≤ N)
    (kk : ∀ (L : List Nat) (f : Nat → va_E) (T : Nat → Nat) (mm sm : Nat) (mv st : Nat → Nat → Nat) (made : Bool) (H : Heap) (locs : List Loc) (ls : Array Slot), lw_J g s L f T b d n mm sm mv st made H locs → lv_has ls 4 [(3, .int (nI i)), (2, .ref (d 0)), (1, .ref (b 0)), (0, .ref b0)] → W p l e room_1 s m #[Value.ref b0] below meth c H locs (lw_c made) (lw_s made) (lw_Z below #[Value.ref b0] s) (F0 m 643 ls [])) :
    ∀ (L : List Nat) (f : Nat → va_E) (T : Nat → Nat) (mm sm : Nat) (mv st : Nat → Nat → Nat) (made : Bool) (H : Heap) (locs : List Loc) (ls : Array Slot), lw_J g s L f T b d n mm sm mv st made H locs → lv_has ls 4 [(3, .int (nI i)), (2, .ref (d 0)), (1, .ref (b 0)), (0, .ref b0)] → W p l e room_1 s m #[Value.ref b0] below meth c H locs (lw_c made) (lw_s made) (lw_Z below #[Value.ref b0] s) (F0 m 220 ls []) := by
  intro L f T mm sm mv st made H locs ls hJ hl
  obtain ⟨hC, hM, hh⟩ := hJ
  have hbA : ¬ (fun q : Nat => s.heap.size ≤ q) b0 := Nat.not_le.mpr hbl
  obtain ⟨fs1, o1, o2⟩ := cg_ob0 hC
  have hW := cg_Wn hC
  have hn31 : n < 2 ^ 31 := by have := hW.2.1; omega
  have hm31 : mm < 2 ^ 31 := by have := hW.2.2.1; omega
  have hs31 : sm < 2 ^ 31 := by have := hW.2.2.2.1; omega
  obtain ⟨mc, ms, made2, hbud, hMet⟩ := kC_spread l g H.size L f T b n mm sm mv st made hC (xs (nI (i + 1)).toNatClampNeg)
  refine lv_aload_n X.1 X.2.1 d_L_law_220 rfl (lv_at hl 2 rfl) ?_
  refine lv_aload_n X.1 X.2.1 d_L_law_221 rfl (lv_at hl 3 rfl) ?_
  refine lv_iload_n X.1 X.2.1 d_L_law_222 rfl (lv_at hl 0 rfl) ?_
  refine lv_iconst (v := nI 1) X.1 X.2.1 d_L_law_223 (by decide) ?_
  refine hn_add X d_L_law_224 ?_
  refine va_sld X.1 X.2.1 hX hbl hbA hh.2.2.1 (vp_in_nI (by omega) (by omega)) d_L_law_225 ?_
  refine hl_calli hh (hl_runV (k := 1) X hK hh hMet wc_C_spread w_213 w_1 wi_C_spread ws_C_spread (by decide +kernel) rfl rfl ⟨Nat.le_of_ble_eq_true rfl, Nat.le_of_ble_eq_true rfl⟩ o1 o2 rfl rfl rfl rfl (Nat.le_of_ble_eq_true rfl) hl.1 d_L_law_226 (lw_fit hbud)) (fun r1 u1 H locs hp hh => ?_)
  rw [(lw_bud_c hbud).1, (lw_bud_c hbud).2]
  have hq := hp
  obtain ⟨L1, f1⟩ := u1
  obtain ⟨h1, T1, hL1, hf1, hC1⟩ := hq
  have hh : hl_H g (fun q => s.heap.size ≤ q) s.heap L1 f1 H locs := hh
  have hM1 : md_I g L1 f1 T1 d n mm sm mv st := md_I_to hM hL1 hf1
  obtain ⟨fs2, o3, o4⟩ := md_ob0 hM1
  refine lv_aload_n X.1 X.2.1 d_L_law_229 rfl (lv_at hl 1 rfl) ?_
  refine lv_aload_n X.1 X.2.1 d_L_law_230 rfl (lv_at hl 3 rfl) ?_
  refine lv_iload_n X.1 X.2.1 d_L_law_231 rfl (lv_at hl 0 rfl) ?_
  refine lv_iconst (v := nI 1) X.1 X.2.1 d_L_law_232 (by decide) ?_
  refine hn_add X d_L_law_233 ?_
  refine va_sld X.1 X.2.1 hX hbl hbA hh.2.2.1 (vp_in_nI (by omega) (by omega)) d_L_law_234 ?_
  refine hl_calli hh (hl_runV (k := 1) X hK hh (kM_spread l g _ L1 f1 T1 d n mm sm mv st hM1 hW (xs (nI (i + 1)).toNatClampNeg)) wc_M_spread w_467 w_5 wi_M_spread ws_M_spread (by decide +kernel) rfl rfl ⟨Nat.le_of_ble_eq_true rfl, Nat.le_of_ble_eq_true rfl⟩ o3 o4 rfl rfl rfl rfl (Nat.le_of_ble_eq_true rfl) hl.1 d_L_law_235 (lw_le made2)) (fun r2 u2 H locs hp hh => ?_)
  obtain ⟨f2, h2, rfl, hM2, hfr⟩ := hp
  have hC2 := cg_I_to hC1 hfr
  have e0 : r1 = r2 := by
    refine ls_1_det hn31 ?_ h1 h2
    intro j x x2 hj a1 a2
    exact ls_S_det (G := gp_gen (mv_T mv mm)) (n := n) (F := fun S => nI (S j)) (fun S S2 h => by show nI (S j) = nI (S2 j); rw [h j hj]) a1 a2
  refine lv_icmp_eq (tgt := 643) X.1 X.2.1 d_L_law_238 (by decide) (fun hc => ?_) (fun hc => ?_)
  · exact kk L1 f2 T1 mm sm mv st made2 H locs _ ⟨hC2, hM2, hh⟩ hl
  · exact absurd e0 hc
theorem law_stabiliser {p : Program} {l : Launch} {e : Env} {s : State} {m : MethodId} {below : List Frame} {meth : Method} {c : Code} {b0 N : Nat} {xs : Nat → Int32} (g : hl_G) (hN : N ≤ 2561) (X : CallFix p m c code 4 s #[Value.ref b0] tg "CycleGroupsLaw") (hK : hl_K g s) (hX : va_X b0 N xs s s.heap) (hbl : b0 < s.heap.size) (b d : Nat → Nat) (n i : Nat) (hi : i + 5 ≤ N)
    (kk : ∀ (L : List Nat) (f : Nat → va_E) (T : Nat → Nat) (mm sm : Nat) (mv st : Nat → Nat → Nat) (made : Bool) (H : Heap) (locs : List Loc) (ls : Array Slot), lw_J g s L f T b d n mm sm mv st made H locs → lv_has ls 4 [(3, .int (nI i)), (2, .ref (d 0)), (1, .ref (b 0)), (0, .ref b0)] → W p l e room_1 s m #[Value.ref b0] below meth c H locs (lw_c made) (lw_s made) (lw_Z below #[Value.ref b0] s) (F0 m 643 ls [])) :
    ∀ (L : List Nat) (f : Nat → va_E) (T : Nat → Nat) (mm sm : Nat) (mv st : Nat → Nat → Nat) (made : Bool) (H : Heap) (locs : List Loc) (ls : Array Slot), lw_J g s L f T b d n mm sm mv st made H locs → lv_has ls 4 [(3, .int (nI i)), (2, .ref (d 0)), (1, .ref (b 0)), (0, .ref b0)] → W p l e room_1 s m #[Value.ref b0] below meth c H locs (lw_c made) (lw_s made) (lw_Z below #[Value.ref b0] s) (F0 m 266 ls []) := by
  intro L f T mm sm mv st made H locs ls hJ hl
  obtain ⟨hC, hM, hh⟩ := hJ
  have hbA : ¬ (fun q : Nat => s.heap.size ≤ q) b0 := Nat.not_le.mpr hbl
  obtain ⟨fs1, o1, o2⟩ := cg_ob0 hC
  have hW := cg_Wn hC
  have hn31 : n < 2 ^ 31 := by have := hW.2.1; omega
  have hm31 : mm < 2 ^ 31 := by have := hW.2.2.1; omega
  have hs31 : sm < 2 ^ 31 := by have := hW.2.2.2.1; omega
  obtain ⟨mc, ms, made2, hbud, hMet⟩ := kC_stabiliser l g H.size L f T b n mm sm mv st made hC (xs (nI (i + 1)).toNatClampNeg) (xs (nI (i + 2)).toNatClampNeg)
  refine lv_aload_n X.1 X.2.1 d_L_law_266 rfl (lv_at hl 2 rfl) ?_
  refine lv_aload_n X.1 X.2.1 d_L_law_267 rfl (lv_at hl 3 rfl) ?_
  refine lv_iload_n X.1 X.2.1 d_L_law_268 rfl (lv_at hl 0 rfl) ?_
  refine lv_iconst (v := nI 1) X.1 X.2.1 d_L_law_269 (by decide) ?_
  refine hn_add X d_L_law_270 ?_
  refine va_sld X.1 X.2.1 hX hbl hbA hh.2.2.1 (vp_in_nI (by omega) (by omega)) d_L_law_271 ?_
  refine lv_aload_n X.1 X.2.1 d_L_law_272 rfl (lv_at hl 3 rfl) ?_
  refine lv_iload_n X.1 X.2.1 d_L_law_273 rfl (lv_at hl 0 rfl) ?_
  refine lv_iconst (v := nI 2) X.1 X.2.1 d_L_law_274 (by decide) ?_
  refine hn_add X d_L_law_275 ?_
  refine va_sld X.1 X.2.1 hX hbl hbA hh.2.2.1 (vp_in_nI (by omega) (by omega)) d_L_law_276 ?_
  refine hl_calli hh (hl_runV (k := 2) X hK hh hMet wc_C_stabiliser w_242 w_1 wi_C_stabiliser ws_C_stabiliser (by decide +kernel) rfl rfl ⟨Nat.le_of_ble_eq_true rfl, Nat.le_of_ble_eq_true rfl⟩ o1 o2 rfl rfl rfl rfl (Nat.le_of_ble_eq_true rfl) hl.1 d_L_law_277 (lw_fit hbud)) (fun r1 u1 H locs hp hh => ?_)
  rw [(lw_bud_c hbud).1, (lw_bud_c hbud).2]
  have hq := hp
  obtain ⟨L1, f1⟩ := u1
  obtain ⟨h1, T1, hL1, hf1, hC1⟩ := hq
  have hh : hl_H g (fun q => s.heap.size ≤ q) s.heap L1 f1 H locs := hh
  have hM1 : md_I g L1 f1 T1 d n mm sm mv st := md_I_to hM hL1 hf1
  obtain ⟨fs2, o3, o4⟩ := md_ob0 hM1
  refine lv_aload_n X.1 X.2.1 d_L_law_280 rfl (lv_at hl 1 rfl) ?_
  refine lv_aload_n X.1 X.2.1 d_L_law_281 rfl (lv_at hl 3 rfl) ?_
  refine lv_iload_n X.1 X.2.1 d_L_law_282 rfl (lv_at hl 0 rfl) ?_
  refine lv_iconst (v := nI 1) X.1 X.2.1 d_L_law_283 (by decide) ?_
  refine hn_add X d_L_law_284 ?_
  refine va_sld X.1 X.2.1 hX hbl hbA hh.2.2.1 (vp_in_nI (by omega) (by omega)) d_L_law_285 ?_
  refine lv_aload_n X.1 X.2.1 d_L_law_286 rfl (lv_at hl 3 rfl) ?_
  refine lv_iload_n X.1 X.2.1 d_L_law_287 rfl (lv_at hl 0 rfl) ?_
  refine lv_iconst (v := nI 2) X.1 X.2.1 d_L_law_288 (by decide) ?_
  refine hn_add X d_L_law_289 ?_
  refine va_sld X.1 X.2.1 hX hbl hbA hh.2.2.1 (vp_in_nI (by omega) (by omega)) d_L_law_290 ?_
  refine hl_calli hh (hl_runV (k := 2) X hK hh (kM_stabiliser l g _ L1 f1 T1 d n mm sm mv st hM1 hW (xs (nI (i + 1)).toNatClampNeg) (xs (nI (i + 2)).toNatClampNeg)) wc_M_stabiliser w_551 w_5 wi_M_stabiliser ws_M_stabiliser (by decide +kernel) rfl rfl ⟨Nat.le_of_ble_eq_true rfl, Nat.le_of_ble_eq_true rfl⟩ o3 o4 rfl rfl rfl rfl (Nat.le_of_ble_eq_true rfl) hl.1 d_L_law_291 (lw_le made2)) (fun r2 u2 H locs hp hh => ?_)
  obtain ⟨f2, h2, rfl, hM2, hfr⟩ := hp
  have hC2 := cg_I_to hC1 hfr
  have e0 : r1 = r2 := by
    refine ls_1_det hn31 ?_ h1 h2
    intro j x x2 hj a1 a2
    exact ls_S_det (G := gp_gen (mv_T mv mm)) (n := n) (F := fun S => dg_at (dgt (ch_pr S 0 n / pt_size (pt_orb mv n id mm) j n)) 24 (xs (nI (i + 2)).toNatClampNeg)) (fun S S2 h => by show dg_at (dgt (ch_pr S 0 n / pt_size (pt_orb mv n id mm) j n)) 24 (xs (nI (i + 2)).toNatClampNeg) = dg_at (dgt (ch_pr S2 0 n / pt_size (pt_orb mv n id mm) j n)) 24 (xs (nI (i + 2)).toNatClampNeg); rw [ls_pr h]) a1 a2
  refine lv_icmp_eq (tgt := 643) X.1 X.2.1 d_L_law_294 (by decide) (fun hc => ?_) (fun hc => ?_)
  · exact kk L1 f2 T1 mm sm mv st made2 H locs _ ⟨hC2, hM2, hh⟩ hl
  · exact absurd e0 hc
theorem law_level {p : Program} {l : Launch} {e : Env} {s : State} {m : MethodId} {below : List Frame} {meth : Method} {c : Code} {b0 N : Nat} {xs : Nat → Int32} (g : hl_G) (hN : N ≤ 2561) (X : CallFix p m c code 4 s #[Value.ref b0] tg "CycleGroupsLaw") (hK : hl_K g s) (hX : va_X b0 N xs s s.heap) (hbl : b0 < s.heap.size) (b d : Nat → Nat) (n i : Nat) (hi : i + 5 ≤ N)
    (kk : ∀ (L : List Nat) (f : Nat → va_E) (T : Nat → Nat) (mm sm : Nat) (mv st : Nat → Nat → Nat) (made : Bool) (H : Heap) (locs : List Loc) (ls : Array Slot), lw_J g s L f T b d n mm sm mv st made H locs → lv_has ls 4 [(3, .int (nI i)), (2, .ref (d 0)), (1, .ref (b 0)), (0, .ref b0)] → W p l e room_1 s m #[Value.ref b0] below meth c H locs (lw_c made) (lw_s made) (lw_Z below #[Value.ref b0] s) (F0 m 643 ls [])) :
    ∀ (L : List Nat) (f : Nat → va_E) (T : Nat → Nat) (mm sm : Nat) (mv st : Nat → Nat → Nat) (made : Bool) (H : Heap) (locs : List Loc) (ls : Array Slot), lw_J g s L f T b d n mm sm mv st made H locs → lv_has ls 4 [(3, .int (nI i)), (2, .ref (d 0)), (1, .ref (b 0)), (0, .ref b0)] → W p l e room_1 s m #[Value.ref b0] below meth c H locs (lw_c made) (lw_s made) (lw_Z below #[Value.ref b0] s) (F0 m 573 ls []) := by
  intro L f T mm sm mv st made H locs ls hJ hl
  obtain ⟨hC, hM, hh⟩ := hJ
  have hbA : ¬ (fun q : Nat => s.heap.size ≤ q) b0 := Nat.not_le.mpr hbl
  obtain ⟨fs1, o1, o2⟩ := cg_ob0 hC
  have hW := cg_Wn hC
  have hn31 : n < 2 ^ 31 := by have := hW.2.1; omega
  have hm31 : mm < 2 ^ 31 := by have := hW.2.2.1; omega
  have hs31 : sm < 2 ^ 31 := by have := hW.2.2.2.1; omega
  obtain ⟨mc, ms, made2, hbud, hMet⟩ := kC_level l g H.size L f T b n mm sm mv st made hC (xs (nI (i + 1)).toNatClampNeg)
  refine lv_aload_n X.1 X.2.1 d_L_law_573 rfl (lv_at hl 2 rfl) ?_
  refine lv_aload_n X.1 X.2.1 d_L_law_574 rfl (lv_at hl 3 rfl) ?_
  refine lv_iload_n X.1 X.2.1 d_L_law_575 rfl (lv_at hl 0 rfl) ?_
  refine lv_iconst (v := nI 1) X.1 X.2.1 d_L_law_576 (by decide) ?_
  refine hn_add X d_L_law_577 ?_
  refine va_sld X.1 X.2.1 hX hbl hbA hh.2.2.1 (vp_in_nI (by omega) (by omega)) d_L_law_578 ?_
  refine hl_calli hh (hl_runV (k := 1) X hK hh hMet wc_C_level w_324 w_1 wi_C_level ws_C_level (by decide +kernel) rfl rfl ⟨Nat.le_of_ble_eq_true rfl, Nat.le_of_ble_eq_true rfl⟩ o1 o2 rfl rfl rfl rfl (Nat.le_of_ble_eq_true rfl) hl.1 d_L_law_579 (lw_fit hbud)) (fun r1 u1 H locs hp hh => ?_)
  rw [(lw_bud_c hbud).1, (lw_bud_c hbud).2]
  have hq := hp
  obtain ⟨L1, f1⟩ := u1
  obtain ⟨h1, T1, hL1, hf1, hC1⟩ := hq
  have hh : hl_H g (fun q => s.heap.size ≤ q) s.heap L1 f1 H locs := hh
  have hM1 : md_I g L1 f1 T1 d n mm sm mv st := md_I_to hM hL1 hf1
  obtain ⟨fs2, o3, o4⟩ := md_ob0 hM1
  refine lv_aload_n X.1 X.2.1 d_L_law_582 rfl (lv_at hl 1 rfl) ?_
  refine lv_aload_n X.1 X.2.1 d_L_law_583 rfl (lv_at hl 3 rfl) ?_
  refine lv_iload_n X.1 X.2.1 d_L_law_584 rfl (lv_at hl 0 rfl) ?_
  refine lv_iconst (v := nI 1) X.1 X.2.1 d_L_law_585 (by decide) ?_
  refine hn_add X d_L_law_586 ?_
  refine va_sld X.1 X.2.1 hX hbl hbA hh.2.2.1 (vp_in_nI (by omega) (by omega)) d_L_law_587 ?_
  refine hl_calli hh (hl_runV (k := 1) X hK hh (kM_level l g _ L1 f1 T1 d n mm sm mv st hM1 hW (xs (nI (i + 1)).toNatClampNeg)) wc_M_level w_563 w_5 wi_M_level ws_M_level (by decide +kernel) rfl rfl ⟨Nat.le_of_ble_eq_true rfl, Nat.le_of_ble_eq_true rfl⟩ o3 o4 rfl rfl rfl rfl (Nat.le_of_ble_eq_true rfl) hl.1 d_L_law_588 (lw_le made2)) (fun r2 u2 H locs hp hh => ?_)
  obtain ⟨f2, h2, rfl, hM2, hfr⟩ := hp
  have hC2 := cg_I_to hC1 hfr
  have e0 := ls_1_det hs31 (fun j x x2 hj ⟨k, a1, a2⟩ ⟨k2, a3, a4⟩ => by rw [a2, a4, ch_lv_uniq a1 a3]) h1 h2
  refine lv_icmp_eq (tgt := 643) X.1 X.2.1 d_L_law_591 (by decide) (fun hc => ?_) (fun hc => ?_)
  · exact kk L1 f2 T1 mm sm mv st made2 H locs _ ⟨hC2, hM2, hh⟩ hl
  · exact absurd e0 hc
theorem law_member {p : Program} {l : Launch} {e : Env} {s : State} {m : MethodId} {below : List Frame} {meth : Method} {c : Code} {b0 N : Nat} {xs : Nat → Int32} (g : hl_G) (hN : N ≤ 2561) (X : CallFix p m c code 4 s #[Value.ref b0] tg "CycleGroupsLaw") (hK : hl_K g s) (hX : va_X b0 N xs s s.heap) (hbl : b0 < s.heap.size) (b d : Nat → Nat) (n i : Nat) (hi : i + 5 ≤ N)
    (kk : ∀ (L : List Nat) (f : Nat → va_E) (T : Nat → Nat) (mm sm : Nat) (mv st : Nat → Nat → Nat) (made : Bool) (H : Heap) (locs : List Loc) (ls : Array Slot), lw_J g s L f T b d n mm sm mv st made H locs → lv_has ls 4 [(3, .int (nI i)), (2, .ref (d 0)), (1, .ref (b 0)), (0, .ref b0)] → W p l e room_1 s m #[Value.ref b0] below meth c H locs (lw_c made) (lw_s made) (lw_Z below #[Value.ref b0] s) (F0 m 643 ls [])) :
    ∀ (L : List Nat) (f : Nat → va_E) (T : Nat → Nat) (mm sm : Nat) (mv st : Nat → Nat → Nat) (made : Bool) (H : Heap) (locs : List Loc) (ls : Array Slot), lw_J g s L f T b d n mm sm mv st made H locs → lv_has ls 4 [(3, .int (nI i)), (2, .ref (d 0)), (1, .ref (b 0)), (0, .ref b0)] → W p l e room_1 s m #[Value.ref b0] below meth c H locs (lw_c made) (lw_s made) (lw_Z below #[Value.ref b0] s) (F0 m 550 ls []) := by
  intro L f T mm sm mv st made H locs ls hJ hl
  obtain ⟨hC, hM, hh⟩ := hJ
  have hbA : ¬ (fun q : Nat => s.heap.size ≤ q) b0 := Nat.not_le.mpr hbl
  obtain ⟨fs1, o1, o2⟩ := cg_ob0 hC
  have hW := cg_Wn hC
  have hn31 : n < 2 ^ 31 := by have := hW.2.1; omega
  have hm31 : mm < 2 ^ 31 := by have := hW.2.2.1; omega
  have hs31 : sm < 2 ^ 31 := by have := hW.2.2.2.1; omega
  obtain ⟨mc, ms, made2, hbud, hMet⟩ := kC_member l g H.size L f T b n mm sm mv st made hC (xs (nI (i + 1)).toNatClampNeg)
  refine lv_aload_n X.1 X.2.1 d_L_law_550 rfl (lv_at hl 2 rfl) ?_
  refine lv_aload_n X.1 X.2.1 d_L_law_551 rfl (lv_at hl 3 rfl) ?_
  refine lv_iload_n X.1 X.2.1 d_L_law_552 rfl (lv_at hl 0 rfl) ?_
  refine lv_iconst (v := nI 1) X.1 X.2.1 d_L_law_553 (by decide) ?_
  refine hn_add X d_L_law_554 ?_
  refine va_sld X.1 X.2.1 hX hbl hbA hh.2.2.1 (vp_in_nI (by omega) (by omega)) d_L_law_555 ?_
  refine hl_calli hh (hl_runV (k := 1) X hK hh hMet wc_C_member w_319 w_1 wi_C_member ws_C_member (by decide +kernel) rfl rfl ⟨Nat.le_of_ble_eq_true rfl, Nat.le_of_ble_eq_true rfl⟩ o1 o2 rfl rfl rfl rfl (Nat.le_of_ble_eq_true rfl) hl.1 d_L_law_556 (lw_fit hbud)) (fun r1 u1 H locs hp hh => ?_)
  rw [(lw_bud_c hbud).1, (lw_bud_c hbud).2]
  have hq := hp
  obtain ⟨L1, f1⟩ := u1
  obtain ⟨h1, T1, hL1, hf1, hC1⟩ := hq
  have hh : hl_H g (fun q => s.heap.size ≤ q) s.heap L1 f1 H locs := hh
  have hM1 : md_I g L1 f1 T1 d n mm sm mv st := md_I_to hM hL1 hf1
  obtain ⟨fs2, o3, o4⟩ := md_ob0 hM1
  refine lv_aload_n X.1 X.2.1 d_L_law_559 rfl (lv_at hl 1 rfl) ?_
  refine lv_aload_n X.1 X.2.1 d_L_law_560 rfl (lv_at hl 3 rfl) ?_
  refine lv_iload_n X.1 X.2.1 d_L_law_561 rfl (lv_at hl 0 rfl) ?_
  refine lv_iconst (v := nI 1) X.1 X.2.1 d_L_law_562 (by decide) ?_
  refine hn_add X d_L_law_563 ?_
  refine va_sld X.1 X.2.1 hX hbl hbA hh.2.2.1 (vp_in_nI (by omega) (by omega)) d_L_law_564 ?_
  refine hl_calli hh (hl_runV (k := 1) X hK hh (kM_member l g _ L1 f1 T1 d n mm sm mv st hM1 hW (xs (nI (i + 1)).toNatClampNeg)) wc_M_member w_567 w_5 wi_M_member ws_M_member (by decide +kernel) rfl rfl ⟨Nat.le_of_ble_eq_true rfl, Nat.le_of_ble_eq_true rfl⟩ o3 o4 rfl rfl rfl rfl (Nat.le_of_ble_eq_true rfl) hl.1 d_L_law_565 (lw_le made2)) (fun r2 u2 H locs hp hh => ?_)
  obtain ⟨f2, h2, rfl, hM2, hfr⟩ := hp
  have hC2 := cg_I_to hC1 hfr
  have e0 := ls_1_det hs31 (fun j x x2 hj ⟨k, a1, a2⟩ ⟨k2, a3, a4⟩ => by rw [a2, a4, ch_lv_uniq a1 a3]) h1 h2
  refine lv_icmp_eq (tgt := 643) X.1 X.2.1 d_L_law_568 (by decide) (fun hc => ?_) (fun hc => ?_)
  · exact kk L1 f2 T1 mm sm mv st made2 H locs _ ⟨hC2, hM2, hh⟩ hl
  · exact absurd e0 hc
theorem law_times {p : Program} {l : Launch} {e : Env} {s : State} {m : MethodId} {below : List Frame} {meth : Method} {c : Code} {b0 N : Nat} {xs : Nat → Int32} (g : hl_G) (hN : N ≤ 2561) (X : CallFix p m c code 4 s #[Value.ref b0] tg "CycleGroupsLaw") (hK : hl_K g s) (hX : va_X b0 N xs s s.heap) (hbl : b0 < s.heap.size) (b d : Nat → Nat) (n i : Nat) (hi : i + 5 ≤ N)
    (kk : ∀ (L : List Nat) (f : Nat → va_E) (T : Nat → Nat) (mm sm : Nat) (mv st : Nat → Nat → Nat) (made : Bool) (H : Heap) (locs : List Loc) (ls : Array Slot), lw_J g s L f T b d n mm sm mv st made H locs → lv_has ls 4 [(3, .int (nI i)), (2, .ref (d 0)), (1, .ref (b 0)), (0, .ref b0)] → W p l e room_1 s m #[Value.ref b0] below meth c H locs (lw_c made) (lw_s made) (lw_Z below #[Value.ref b0] s) (F0 m 643 ls [])) :
    ∀ (L : List Nat) (f : Nat → va_E) (T : Nat → Nat) (mm sm : Nat) (mv st : Nat → Nat → Nat) (made : Bool) (H : Heap) (locs : List Loc) (ls : Array Slot), lw_J g s L f T b d n mm sm mv st made H locs → lv_has ls 4 [(3, .int (nI i)), (2, .ref (d 0)), (1, .ref (b 0)), (0, .ref b0)] → W p l e room_1 s m #[Value.ref b0] below meth c H locs (lw_c made) (lw_s made) (lw_Z below #[Value.ref b0] s) (F0 m 619 ls []) := by
  intro L f T mm sm mv st made H locs ls hJ hl
  obtain ⟨hC, hM, hh⟩ := hJ
  have hbA : ¬ (fun q : Nat => s.heap.size ≤ q) b0 := Nat.not_le.mpr hbl
  obtain ⟨fs1, o1, o2⟩ := cg_ob0 hC
  have hW := cg_Wn hC
  have hn31 : n < 2 ^ 31 := by have := hW.2.1; omega
  have hm31 : mm < 2 ^ 31 := by have := hW.2.2.1; omega
  have hs31 : sm < 2 ^ 31 := by have := hW.2.2.2.1; omega
  refine lv_aload_n X.1 X.2.1 d_L_law_619 rfl (lv_at hl 2 rfl) ?_
  refine lv_aload_n X.1 X.2.1 d_L_law_620 rfl (lv_at hl 3 rfl) ?_
  refine lv_iload_n X.1 X.2.1 d_L_law_621 rfl (lv_at hl 0 rfl) ?_
  refine lv_iconst (v := nI 1) X.1 X.2.1 d_L_law_622 (by decide) ?_
  refine hn_add X d_L_law_623 ?_
  refine va_sld X.1 X.2.1 hX hbl hbA hh.2.2.1 (vp_in_nI (by omega) (by omega)) d_L_law_624 ?_
  refine hl_calll hh (hl_runV (k := 1) X hK hh (c_C_times l g _ L f T b n mm sm mv st made hC (xs (nI (i + 1)).toNatClampNeg) (fun r u => ls_1 sm (xs (nI (i + 1)).toNatClampNeg) (lN 0) (fun j r => ∃ x, tm (st j) n n x ∧ r = lN x) r ∧ cg_R g L f T b n mm sm mv st made u) (fun r h => by rcases h with h | ⟨j, x, a1, a2, a3, a4⟩; exact ⟨Or.inl h, cg_R_same hC⟩; exact ⟨Or.inr ⟨j, a1, a2, x, a3, a4⟩, cg_R_same hC⟩)) wc_C_times w_332 w_1 wi_C_times ws_C_times (by decide +kernel) rfl rfl ⟨Nat.le_of_ble_eq_true rfl, Nat.le_of_ble_eq_true rfl⟩ o1 o2 rfl rfl rfl rfl (Nat.le_of_ble_eq_true rfl) hl.1 d_L_law_625 (lw_le made)) (fun r1 u1 H locs hp hh => ?_)
  have hq := hp
  obtain ⟨L1, f1⟩ := u1
  obtain ⟨h1, T1, hL1, hf1, hC1⟩ := hq
  have hh : hl_H g (fun q => s.heap.size ≤ q) s.heap L1 f1 H locs := hh
  have hM1 : md_I g L1 f1 T1 d n mm sm mv st := md_I_to hM hL1 hf1
  obtain ⟨fs2, o3, o4⟩ := md_ob0 hM1
  refine lv_aload_n X.1 X.2.1 d_L_law_628 rfl (lv_at hl 1 rfl) ?_
  refine lv_aload_n X.1 X.2.1 d_L_law_629 rfl (lv_at hl 3 rfl) ?_
  refine lv_iload_n X.1 X.2.1 d_L_law_630 rfl (lv_at hl 0 rfl) ?_
  refine lv_iconst (v := nI 1) X.1 X.2.1 d_L_law_631 (by decide) ?_
  refine hn_add X d_L_law_632 ?_
  refine va_sld X.1 X.2.1 hX hbl hbA hh.2.2.1 (vp_in_nI (by omega) (by omega)) d_L_law_633 ?_
  refine hl_calll hh (hl_runV (k := 1) X hK hh (kM_times l g _ L1 f1 T1 d n mm sm mv st hM1 hW (xs (nI (i + 1)).toNatClampNeg)) wc_M_times w_576 w_5 wi_M_times ws_M_times (by decide +kernel) rfl rfl ⟨Nat.le_of_ble_eq_true rfl, Nat.le_of_ble_eq_true rfl⟩ o3 o4 rfl rfl rfl rfl (Nat.le_of_ble_eq_true rfl) hl.1 d_L_law_634 (lw_le made)) (fun r2 u2 H locs hp hh => ?_)
  obtain ⟨f2, h2, rfl, hM2, hfr⟩ := hp
  have hC2 := cg_I_to hC1 hfr
  have e0 := ls_1_det hs31 (fun j x x2 hj ⟨k, a1, a2⟩ ⟨k2, a3, a4⟩ => by rw [a2, a4, tm_uniq a1 a3]) h1 h2
  refine lv_lcmp0 X.1 X.2.1 d_L_law_637 (fun v hv => ?_)
  refine lv_if_eq (tgt := 643) X.1 X.2.1 d_L_law_638 (by decide) (fun hc => ?_) (fun hc => ?_)
  · exact kk L1 f2 T1 mm sm mv st made H locs _ ⟨hC2, hM2, hh⟩ hl
  · exact absurd (hv.2 e0) hc
theorem law_scramble {p : Program} {l : Launch} {e : Env} {s : State} {m : MethodId} {below : List Frame} {meth : Method} {c : Code} {b0 N : Nat} {xs : Nat → Int32} (g : hl_G) (hN : N ≤ 2561) (X : CallFix p m c code 4 s #[Value.ref b0] tg "CycleGroupsLaw") (hK : hl_K g s) (hX : va_X b0 N xs s s.heap) (hbl : b0 < s.heap.size) (b d : Nat → Nat) (n i : Nat) (hi : i + 5 ≤ N)
    (kk : ∀ (L : List Nat) (f : Nat → va_E) (T : Nat → Nat) (mm sm : Nat) (mv st : Nat → Nat → Nat) (made : Bool) (H : Heap) (locs : List Loc) (ls : Array Slot), lw_J g s L f T b d n mm sm mv st made H locs → lv_has ls 4 [(3, .int (nI i)), (2, .ref (d 0)), (1, .ref (b 0)), (0, .ref b0)] → W p l e room_1 s m #[Value.ref b0] below meth c H locs (lw_c made) (lw_s made) (lw_Z below #[Value.ref b0] s) (F0 m 643 ls [])) :
    ∀ (L : List Nat) (f : Nat → va_E) (T : Nat → Nat) (mm sm : Nat) (mv st : Nat → Nat → Nat) (made : Bool) (H : Heap) (locs : List Loc) (ls : Array Slot), lw_J g s L f T b d n mm sm mv st made H locs → lv_has ls 4 [(3, .int (nI i)), (2, .ref (d 0)), (1, .ref (b 0)), (0, .ref b0)] → W p l e room_1 s m #[Value.ref b0] below meth c H locs (lw_c made) (lw_s made) (lw_Z below #[Value.ref b0] s) (F0 m 444 ls []) := by
  intro L f T mm sm mv st made H locs ls hJ hl
  obtain ⟨hC, hM, hh⟩ := hJ
  have hbA : ¬ (fun q : Nat => s.heap.size ≤ q) b0 := Nat.not_le.mpr hbl
  obtain ⟨fs1, o1, o2⟩ := cg_ob0 hC
  have hW := cg_Wn hC
  have hn31 : n < 2 ^ 31 := by have := hW.2.1; omega
  have hm31 : mm < 2 ^ 31 := by have := hW.2.2.1; omega
  have hs31 : sm < 2 ^ 31 := by have := hW.2.2.2.1; omega
  refine lv_aload_n X.1 X.2.1 d_L_law_444 rfl (lv_at hl 2 rfl) ?_
  refine lv_aload_n X.1 X.2.1 d_L_law_445 rfl (lv_at hl 3 rfl) ?_
  refine lv_iload_n X.1 X.2.1 d_L_law_446 rfl (lv_at hl 0 rfl) ?_
  refine lv_iconst (v := nI 1) X.1 X.2.1 d_L_law_447 (by decide) ?_
  refine hn_add X d_L_law_448 ?_
  refine va_sld X.1 X.2.1 hX hbl hbA hh.2.2.1 (vp_in_nI (by omega) (by omega)) d_L_law_449 ?_
  refine lv_aload_n X.1 X.2.1 d_L_law_450 rfl (lv_at hl 3 rfl) ?_
  refine lv_iload_n X.1 X.2.1 d_L_law_451 rfl (lv_at hl 0 rfl) ?_
  refine lv_iconst (v := nI 2) X.1 X.2.1 d_L_law_452 (by decide) ?_
  refine hn_add X d_L_law_453 ?_
  refine va_sld X.1 X.2.1 hX hbl hbA hh.2.2.1 (vp_in_nI (by omega) (by omega)) d_L_law_454 ?_
  refine lv_i2l X.1 X.2.1 d_L_law_455 rfl ?_
  refine lv_bipush (v := nI 32) X.1 X.2.1 d_L_law_456 (by decide) ?_
  refine lv_lshl X.1 X.2.1 d_L_law_458 rfl ?_
  refine lv_aload_n X.1 X.2.1 d_L_law_459 rfl (lv_at hl 3 rfl) ?_
  refine lv_iload_n X.1 X.2.1 d_L_law_460 rfl (lv_at hl 0 rfl) ?_
  refine lv_iconst (v := nI 3) X.1 X.2.1 d_L_law_461 (by decide) ?_
  refine hn_add X d_L_law_462 ?_
  refine va_sld X.1 X.2.1 hX hbl hbA hh.2.2.1 (vp_in_nI (by omega) (by omega)) d_L_law_463 ?_
  refine lv_i2l X.1 X.2.1 d_L_law_464 rfl ?_
  refine lv_ldc2 (v := 4294967295) X.1 X.2.1 X.2.2.2.1 (X.2.2.2.2 _ w_584) d_L_law_465 ?_
  refine lv_land X.1 X.2.1 d_L_law_468 ?_
  refine lv_lor X.1 X.2.1 d_L_law_469 ?_
  refine lv_topl (fun x0 ex0 => ?_)
  refine lv_aload_n X.1 X.2.1 d_L_law_470 rfl (lv_at hl 3 rfl) ?_
  refine lv_iload_n X.1 X.2.1 d_L_law_471 rfl (lv_at hl 0 rfl) ?_
  refine lv_iconst (v := nI 4) X.1 X.2.1 d_L_law_472 (by decide) ?_
  refine hn_add X d_L_law_473 ?_
  refine va_sld X.1 X.2.1 hX hbl hbA hh.2.2.1 (vp_in_nI (by omega) (by omega)) d_L_law_474 ?_
  refine hl_calli hh (hl_runV (k := 3) X hK hh (c_C_scramble l g _ L f T b n mm sm mv st made hC (xs (nI (i + 1)).toNatClampNeg) (xs (nI (i + 4)).toNatClampNeg) x0 (fun r u => ∃ st2, ls_scr mm sm mv st (xs (nI (i + 1)).toNatClampNeg) (xs (nI (i + 4)).toNatClampNeg) x0 r st2 ∧ cg_R g L f T b n mm sm mv st2 made u) (fun r u h => by rcases h with ⟨a1, a2, rfl⟩ | ⟨j, k, a1, a2, a3, a4, a5, a6, a7⟩; exact ⟨_, Or.inl ⟨a1, a2, rfl⟩, cg_R_same hC⟩; exact ⟨_, Or.inr ⟨j, k, a1, a2, a3, a4, a5, a6, rfl⟩, a7⟩)) wc_C_scramble w_309 w_1 wi_C_scramble ws_C_scramble (by decide +kernel) rfl rfl ⟨Nat.le_of_ble_eq_true rfl, Nat.le_of_ble_eq_true rfl⟩ o1 o2 rfl rfl rfl rfl (Nat.le_of_ble_eq_true rfl) hl.1 d_L_law_475 (lw_le made)) (fun r1 u1 H locs hp hh => ?_)
  have hq := hp
  obtain ⟨L1, f1⟩ := u1
  obtain ⟨st2, h1, T1, hL1, hf1, hC1⟩ := hq
  have hh : hl_H g (fun q => s.heap.size ≤ q) s.heap L1 f1 H locs := hh
  have hM1 : md_I g L1 f1 T1 d n mm sm mv st := md_I_to hM hL1 hf1
  obtain ⟨fs2, o3, o4⟩ := md_ob0 hM1
  refine lv_aload_n X.1 X.2.1 d_L_law_478 rfl (lv_at hl 1 rfl) ?_
  refine lv_aload_n X.1 X.2.1 d_L_law_479 rfl (lv_at hl 3 rfl) ?_
  refine lv_iload_n X.1 X.2.1 d_L_law_480 rfl (lv_at hl 0 rfl) ?_
  refine lv_iconst (v := nI 1) X.1 X.2.1 d_L_law_481 (by decide) ?_
  refine hn_add X d_L_law_482 ?_
  refine va_sld X.1 X.2.1 hX hbl hbA hh.2.2.1 (vp_in_nI (by omega) (by omega)) d_L_law_483 ?_
  refine lv_aload_n X.1 X.2.1 d_L_law_484 rfl (lv_at hl 3 rfl) ?_
  refine lv_iload_n X.1 X.2.1 d_L_law_485 rfl (lv_at hl 0 rfl) ?_
  refine lv_iconst (v := nI 2) X.1 X.2.1 d_L_law_486 (by decide) ?_
  refine hn_add X d_L_law_487 ?_
  refine va_sld X.1 X.2.1 hX hbl hbA hh.2.2.1 (vp_in_nI (by omega) (by omega)) d_L_law_488 ?_
  refine lv_i2l X.1 X.2.1 d_L_law_489 rfl ?_
  refine lv_bipush (v := nI 32) X.1 X.2.1 d_L_law_490 (by decide) ?_
  refine lv_lshl X.1 X.2.1 d_L_law_492 rfl ?_
  refine lv_aload_n X.1 X.2.1 d_L_law_493 rfl (lv_at hl 3 rfl) ?_
  refine lv_iload_n X.1 X.2.1 d_L_law_494 rfl (lv_at hl 0 rfl) ?_
  refine lv_iconst (v := nI 3) X.1 X.2.1 d_L_law_495 (by decide) ?_
  refine hn_add X d_L_law_496 ?_
  refine va_sld X.1 X.2.1 hX hbl hbA hh.2.2.1 (vp_in_nI (by omega) (by omega)) d_L_law_497 ?_
  refine lv_i2l X.1 X.2.1 d_L_law_498 rfl ?_
  refine lv_ldc2 (v := 4294967295) X.1 X.2.1 X.2.2.2.1 (X.2.2.2.2 _ w_584) d_L_law_499 ?_
  refine lv_land X.1 X.2.1 d_L_law_502 ?_
  refine lv_lor X.1 X.2.1 d_L_law_503 ?_
  refine lv_topl (fun y0 ey0 => ?_)
  refine lv_aload_n X.1 X.2.1 d_L_law_504 rfl (lv_at hl 3 rfl) ?_
  refine lv_iload_n X.1 X.2.1 d_L_law_505 rfl (lv_at hl 0 rfl) ?_
  refine lv_iconst (v := nI 4) X.1 X.2.1 d_L_law_506 (by decide) ?_
  refine hn_add X d_L_law_507 ?_
  refine va_sld X.1 X.2.1 hX hbl hbA hh.2.2.1 (vp_in_nI (by omega) (by omega)) d_L_law_508 ?_
  have exy : y0 = x0 := by rw [ey0, ex0]
  subst exy
  refine hl_calli hh (hl_runV (k := 3) X hK hh (kM_scramble l g _ L1 f1 T1 d n mm sm mv st hM1 hW (xs (nI (i + 1)).toNatClampNeg) (xs (nI (i + 4)).toNatClampNeg) y0) wc_M_scramble w_457 w_5 wi_M_scramble ws_M_scramble (by decide +kernel) rfl rfl ⟨Nat.le_of_ble_eq_true rfl, Nat.le_of_ble_eq_true rfl⟩ o3 o4 rfl rfl rfl rfl (Nat.le_of_ble_eq_true rfl) hl.1 d_L_law_509 (lw_le made)) (fun r2 u2 H locs hp hh => ?_)
  obtain ⟨st3, f2, h2, rfl, hM2, hfr⟩ := hp
  have hC2 := cg_I_to hC1 hfr
  obtain ⟨e0, e1⟩ := ls_scr_det hs31 h1 h2
  subst e1
  refine lv_icmp_eq (tgt := 643) X.1 X.2.1 d_L_law_512 (by decide) (fun hc => ?_) (fun hc => ?_)
  · exact kk L1 f2 T1 mm sm mv st2 made H locs _ ⟨hC2, hM2, hh⟩ hl
  · exact absurd e0 hc
end

