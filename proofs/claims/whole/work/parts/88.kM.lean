/-! The reference's calls, over its picture. -/
section
theorem md_rw {r y : Nat → Nat} {x : Nat → Nat → Nat} {m j : Nat} (h : ∀ i, i < m → fr r i (x i)) : ∀ i, (i < m ∨ i = j) → fr (fw r j y 24) i (va_up x j y i) := by
  intro i hi
  by_cases e : i = j
  · rw [e, va_up_self]; exact fr_fw r j y
  · rw [va_up_ne _ _ e]
    rcases hi with hi | hi
    · exact fr_fo (h i hi) e
    · exact absurd hi e
theorem kM_move (l : Launch) (g : hl_G) (sz : Nat) (L : List Nat) (f : Nat → va_E) (T d : Nat → Nat) (n mm sm : Nat) (mv st : Nat → Nat → Nat) (hM : md_I g L f T d n mm sm mv st) (hW : cg_W n mm sm mv st) :
    Met l y_M_move (hq y_M_move b_M_move 2 (some .int)) { frames := 0, cells := 0, slots := 0, locals := 0 } (hm_P g [.ref (d 0)] sz L f) (va_Qi (fun r u => ∃ mm2 mv2 f2, ls_move mm mv r mm2 mv2 ∧ u = (L, f2) ∧ md_I g L f2 T d n mm2 sm mv2 st ∧ (∀ q, T q < 20000 → f2 q = f q)) (hm_B g sz L) (hm_A sz L)) 0 0 (hm_A sz L) := by
  obtain ⟨hd, f0, kn, mk, r3, r5, r7, r8, r10, r11, r12, r13, r14, r15, r16, r17, r18, r19, r20, r21, r22, r23, k1, k2, k3, k4, k5, rfl⟩ := hM
  refine c_M_move l g sz L d f0 ⟨T, hd⟩ n mm sm kn mk r3 r5 r7 r8 r10 r11 r12 r13 r14 r15 r16 r17 r18 r19 r20 r21 r22 r23 hW.2.2.1 _ ⟨fun h => ?_, fun h => ?_⟩
  · exact ⟨mm, mv, _, Or.inr ⟨h, rfl, rfl, rfl⟩, rfl, ⟨hd, f0, kn, _, _, _, _, _, _, _, _, _, _, _, _, _, _, _, _, _, _, _, k1, k2, k3, k4, k5, rfl⟩, (fun _ _ => rfl)⟩
  · exact ⟨mm + 1, va_up mv mm id, _, Or.inl ⟨h, rfl, rfl, rfl⟩, rfl, ⟨hd, f0, kn, _, _, _, _, _, _, _, _, _, _, _, _, _, _, _, _, _, _, _, (fun i hi => md_rw k1 i (by omega)), k2, k3, k4, (fun h => md_K_id (k5 h)), rfl⟩, (fun q hq => by rw [md_out (md_fr hd hq), md_out (md_fr hd hq)])⟩
theorem kM_state (l : Launch) (g : hl_G) (sz : Nat) (L : List Nat) (f : Nat → va_E) (T d : Nat → Nat) (n mm sm : Nat) (mv st : Nat → Nat → Nat) (hM : md_I g L f T d n mm sm mv st) (hW : cg_W n mm sm mv st) :
    Met l y_M_state (hq y_M_state b_M_state 2 (some .int)) { frames := 0, cells := 0, slots := 0, locals := 0 } (hm_P g [.ref (d 0)] sz L f) (va_Qi (fun r u => ∃ sm2 st2 f2, ls_state sm st r sm2 st2 ∧ u = (L, f2) ∧ md_I g L f2 T d n mm sm2 mv st2 ∧ (∀ q, T q < 20000 → f2 q = f q)) (hm_B g sz L) (hm_A sz L)) 0 0 (hm_A sz L) := by
  obtain ⟨hd, f0, kn, mk, r3, r5, r7, r8, r10, r11, r12, r13, r14, r15, r16, r17, r18, r19, r20, r21, r22, r23, k1, k2, k3, k4, k5, rfl⟩ := hM
  refine c_M_state l g sz L d f0 ⟨T, hd⟩ n mm sm kn mk r3 r5 r7 r8 r10 r11 r12 r13 r14 r15 r16 r17 r18 r19 r20 r21 r22 r23 hW.2.2.2.1 _ ⟨fun h => ?_, fun h => ?_⟩
  · exact ⟨sm, st, _, Or.inr ⟨h, rfl, rfl, rfl⟩, rfl, ⟨hd, f0, kn, _, _, _, _, _, _, _, _, _, _, _, _, _, _, _, _, _, _, _, k1, k2, k3, k4, k5, rfl⟩, (fun _ _ => rfl)⟩
  · exact ⟨sm + 1, va_up st sm id, _, Or.inl ⟨h, rfl, rfl, rfl⟩, rfl, ⟨hd, f0, kn, _, _, _, _, _, _, _, _, _, _, _, _, _, _, _, _, _, _, _, k1, (fun i hi => md_rw k2 i (by omega)), k3, k4, k5, rfl⟩, (fun q hq => by rw [md_out (md_fr hd hq), md_out (md_fr hd hq)])⟩
theorem kM_cycle (l : Launch) (g : hl_G) (sz : Nat) (L : List Nat) (f : Nat → va_E) (T d : Nat → Nat) (n mm sm : Nat) (mv st : Nat → Nat → Nat) (hM : md_I g L f T d n mm sm mv st) (hW : cg_W n mm sm mv st) (q1 q2 q3 : Int32) :
    Met l y_M_cycle (hq y_M_cycle b_M_cycle 4 (some .boolean)) { frames := 1, cells := 0, slots := 0, locals := 30 } (hm_P g [.ref (d 0), .int q1, .int q2, .int q3] sz L f) (va_Qi (fun r u => ∃ mv2 f2, ls_cycle n mm mv q1 q2 q3 r mv2 ∧ u = (L, f2) ∧ md_I g L f2 T d n mm sm mv2 st ∧ (∀ q, T q < 20000 → f2 q = f q)) (hm_B g sz L) (hm_A sz L)) 0 0 (hm_A sz L) := by
  obtain ⟨hd, f0, kn, mk, r3, r5, r7, r8, r10, r11, r12, r13, r14, r15, r16, r17, r18, r19, r20, r21, r22, r23, k1, k2, k3, k4, k5, rfl⟩ := hM
  refine c_M_cycle l g sz L d f0 ⟨T, hd⟩ n mm sm kn mk r3 r5 r7 r8 r10 r11 r12 r13 r14 r15 r16 r17 r18 r19 r20 r21 r22 r23 mv st hW k1 k2 q1 q2 q3 _ (fun r f1 h => ?_)
  rcases h with ⟨h1, h2, rfl⟩ | ⟨j, a, c, h1, h2, h3, h4, h5, h6, h7, h8, h9, rfl⟩
  · exact ⟨mv, _, Or.inl ⟨h1, h2, rfl⟩, rfl, ⟨hd, f0, kn, _, _, _, _, _, _, _, _, _, _, _, _, _, _, _, _, _, _, _, k1, k2, k3, k4, k5, rfl⟩, (fun _ _ => rfl)⟩
  · exact ⟨_, _, Or.inr ⟨j, a, c, h1, h2, h3, h4, h5, h6, h7, h8, h9, rfl⟩, rfl, ⟨hd, f0, 0, _, _, _, _, _, _, _, _, _, _, _, _, _, _, _, _, _, _, _, (fun i hi => md_rw k1 i (Or.inl hi)), k2, (Or.inl rfl), k4, (fun h => absurd h (by decide)), rfl⟩, (fun q hq => by rw [md_out (md_fr hd hq), md_out (md_fr hd hq)])⟩
theorem kM_apply (l : Launch) (g : hl_G) (sz : Nat) (L : List Nat) (f : Nat → va_E) (T d : Nat → Nat) (n mm sm : Nat) (mv st : Nat → Nat → Nat) (hM : md_I g L f T d n mm sm mv st) (hW : cg_W n mm sm mv st) (q1 q2 : Int32) :
    Met l y_M_apply (hq y_M_apply b_M_apply 3 (some .boolean)) { frames := 1, cells := 0, slots := 0, locals := 30 } (hm_P g [.ref (d 0), .int q1, .int q2] sz L f) (va_Qi (fun r u => ∃ st2 f2, ls_apply mm sm mv st q1 q2 r st2 ∧ u = (L, f2) ∧ md_I g L f2 T d n mm sm mv st2 ∧ (∀ q, T q < 20000 → f2 q = f q)) (hm_B g sz L) (hm_A sz L)) 0 0 (hm_A sz L) := by
  obtain ⟨hd, f0, kn, mk, r3, r5, r7, r8, r10, r11, r12, r13, r14, r15, r16, r17, r18, r19, r20, r21, r22, r23, k1, k2, k3, k4, k5, rfl⟩ := hM
  refine c_M_apply l g sz L d f0 ⟨T, hd⟩ n mm sm kn mk r3 r5 r7 r8 r10 r11 r12 r13 r14 r15 r16 r17 r18 r19 r20 r21 r22 r23 mv st hW k1 k2 q1 q2 _ (fun r f1 h => ?_)
  rcases h with ⟨h1, h2, rfl⟩ | ⟨j, a, h1, h2, h3, h4, h5, rfl⟩
  · exact ⟨st, _, Or.inl ⟨h1, h2, rfl⟩, rfl, ⟨hd, f0, kn, _, _, _, _, _, _, _, _, _, _, _, _, _, _, _, _, _, _, _, k1, k2, k3, k4, k5, rfl⟩, (fun _ _ => rfl)⟩
  · exact ⟨_, _, Or.inr ⟨j, a, h1, h2, h3, h4, h5, rfl⟩, rfl, ⟨hd, f0, kn, _, _, _, _, _, _, _, _, _, _, _, _, _, _, _, _, _, _, _, k1, (fun i hi => md_rw k2 i (Or.inl hi)), k3, k4, k5, rfl⟩, (fun q hq => by rw [md_out (md_fr hd hq), md_out (md_fr hd hq)])⟩
theorem kM_exchange (l : Launch) (g : hl_G) (sz : Nat) (L : List Nat) (f : Nat → va_E) (T d : Nat → Nat) (n mm sm : Nat) (mv st : Nat → Nat → Nat) (hM : md_I g L f T d n mm sm mv st) (hW : cg_W n mm sm mv st) (q1 q2 q3 : Int32) :
    Met l y_M_exchange (hq y_M_exchange b_M_exchange 6 (some .boolean)) { frames := 1, cells := 0, slots := 0, locals := 30 } (hm_P g [.ref (d 0), .int q1, .int q2, .int q3] sz L f) (va_Qi (fun r u => ∃ st2 f2, ls_exch n sm st q1 q2 q3 r st2 ∧ u = (L, f2) ∧ md_I g L f2 T d n mm sm mv st2 ∧ (∀ q, T q < 20000 → f2 q = f q)) (hm_B g sz L) (hm_A sz L)) 0 0 (hm_A sz L) := by
  obtain ⟨hd, f0, kn, mk, r3, r5, r7, r8, r10, r11, r12, r13, r14, r15, r16, r17, r18, r19, r20, r21, r22, r23, k1, k2, k3, k4, k5, rfl⟩ := hM
  refine c_M_exchange l g sz L d f0 ⟨T, hd⟩ n mm sm kn mk r3 r5 r7 r8 r10 r11 r12 r13 r14 r15 r16 r17 r18 r19 r20 r21 r22 r23 mv st hW k1 k2 q1 q2 q3 _ (fun r f1 h => ?_)
  rcases h with ⟨h1, h2, rfl⟩ | ⟨j, a, c, h1, h2, h3, h4, h6, h7, h8, h9, rfl⟩
  · exact ⟨st, _, Or.inl ⟨h1, h2, rfl⟩, rfl, ⟨hd, f0, kn, _, _, _, _, _, _, _, _, _, _, _, _, _, _, _, _, _, _, _, k1, k2, k3, k4, k5, rfl⟩, (fun _ _ => rfl)⟩
  · exact ⟨_, _, Or.inr ⟨j, a, c, h1, h2, h3, h4, h6, h7, h8, h9, rfl⟩, rfl, ⟨hd, f0, kn, _, _, _, _, _, _, _, _, _, _, _, _, _, _, _, _, _, _, _, k1, (fun i hi => md_rw k2 i (Or.inl hi)), k3, k4, k5, rfl⟩, (fun q hq => by rw [md_out (md_fr hd hq), md_out (md_fr hd hq)])⟩
theorem kM_scramble (l : Launch) (g : hl_G) (sz : Nat) (L : List Nat) (f : Nat → va_E) (T d : Nat → Nat) (n mm sm : Nat) (mv st : Nat → Nat → Nat) (hM : md_I g L f T d n mm sm mv st) (hW : cg_W n mm sm mv st) (q1 q3 : Int32) (x0 : Int64) :
    Met l y_M_scramble (hq y_M_scramble b_M_scramble 8 (some .boolean)) { frames := 1, cells := 0, slots := 0, locals := 30 } (hm_P g [.ref (d 0), .int q1, .long x0, .int q3] sz L f) (va_Qi (fun r u => ∃ st2 f2, ls_scr mm sm mv st q1 q3 x0 r st2 ∧ u = (L, f2) ∧ md_I g L f2 T d n mm sm mv st2 ∧ (∀ q, T q < 20000 → f2 q = f q)) (hm_B g sz L) (hm_A sz L)) 0 0 (hm_A sz L) := by
  obtain ⟨hd, f0, kn, mk, r3, r5, r7, r8, r10, r11, r12, r13, r14, r15, r16, r17, r18, r19, r20, r21, r22, r23, k1, k2, k3, k4, k5, rfl⟩ := hM
  refine c_M_scramble l g sz L d f0 ⟨T, hd⟩ n mm sm kn mk r3 r5 r7 r8 r10 r11 r12 r13 r14 r15 r16 r17 r18 r19 r20 r21 r22 r23 mv st hW k1 k2 q1 q3 x0 _ (fun r f1 h => ?_)
  rcases h with ⟨h1, h2, rfl⟩ | ⟨j, a, h1, h2, h3, h4, h5, h6, rfl⟩
  · exact ⟨st, _, Or.inl ⟨h1, h2, rfl⟩, rfl, ⟨hd, f0, kn, _, _, _, _, _, _, _, _, _, _, _, _, _, _, _, _, _, _, _, k1, k2, k3, k4, k5, rfl⟩, (fun _ _ => rfl)⟩
  · exact ⟨_, _, Or.inr ⟨j, a, h1, h2, h3, h4, h5, h6, rfl⟩, rfl, ⟨hd, f0, kn, _, _, _, _, _, _, _, _, _, _, _, _, _, _, _, _, _, _, _, k1, (fun i hi => md_rw k2 i (Or.inl hi)), k3, k4, k5, rfl⟩, (fun q hq => by rw [md_out (md_fr hd hq), md_out (md_fr hd hq)])⟩
theorem kM_image (l : Launch) (g : hl_G) (sz : Nat) (L : List Nat) (f : Nat → va_E) (T d : Nat → Nat) (n mm sm : Nat) (mv st : Nat → Nat → Nat) (hM : md_I g L f T d n mm sm mv st) (hW : cg_W n mm sm mv st) (q1 q2 : Int32) :
    Met l y_M_image (hq y_M_image b_M_image 3 (some .int)) { frames := 1, cells := 0, slots := 0, locals := 30 } (hm_P g [.ref (d 0), .int q1, .int q2] sz L f) (va_Qi (fun r u => ∃ f2, ls_2 sm n q1 q2 (fun j k => nI (st j k)) r ∧ u = (L, f2) ∧ md_I g L f2 T d n mm sm mv st ∧ (∀ q, T q < 20000 → f2 q = f q)) (hm_B g sz L) (hm_A sz L)) 0 0 (hm_A sz L) := by
  obtain ⟨hd, f0, kn, mk, r3, r5, r7, r8, r10, r11, r12, r13, r14, r15, r16, r17, r18, r19, r20, r21, r22, r23, k1, k2, k3, k4, k5, rfl⟩ := hM
  exact c_M_image l g sz L d f0 ⟨T, hd⟩ n mm sm kn mk r3 r5 r7 r8 r10 r11 r12 r13 r14 r15 r16 r17 r18 r19 r20 r21 r22 r23 mv st hW k1 k2 q1 q2 _ (fun r h => ⟨_, h, rfl, ⟨hd, f0, kn, _, _, _, _, _, _, _, _, _, _, _, _, _, _, _, _, _, _, _, k1, k2, k3, k4, k5, rfl⟩, (fun _ _ => rfl)⟩)
theorem kM_parity (l : Launch) (g : hl_G) (sz : Nat) (L : List Nat) (f : Nat → va_E) (T d : Nat → Nat) (n mm sm : Nat) (mv st : Nat → Nat → Nat) (hM : md_I g L f T d n mm sm mv st) (hW : cg_W n mm sm mv st) (q1 : Int32) :
    Met l y_M_parity (hq y_M_parity b_M_parity 5 (some .int)) { frames := 1, cells := 0, slots := 0, locals := 30 } (hm_P g [.ref (d 0), .int q1] sz L f) (va_Qi (fun r u => ∃ f2, ls_1 sm q1 (-1) (fun j r => r = nI (pa_n (st j) n % 2)) r ∧ u = (L, f2) ∧ md_I g L f2 T d n mm sm mv st ∧ (∀ q, T q < 20000 → f2 q = f q)) (hm_B g sz L) (hm_A sz L)) 0 0 (hm_A sz L) := by
  obtain ⟨hd, f0, kn, mk, r3, r5, r7, r8, r10, r11, r12, r13, r14, r15, r16, r17, r18, r19, r20, r21, r22, r23, k1, k2, k3, k4, k5, rfl⟩ := hM
  exact c_M_parity l g sz L d f0 ⟨T, hd⟩ n mm sm kn mk r3 r5 r7 r8 r10 r11 r12 r13 r14 r15 r16 r17 r18 r19 r20 r21 r22 r23 mv st hW k1 k2 q1 _ (fun r h => ⟨_, h, rfl, ⟨hd, f0, kn, _, _, _, _, _, _, _, _, _, _, _, _, _, _, _, _, _, _, _, k1, k2, k3, k4, k5, rfl⟩, (fun _ _ => rfl)⟩)
theorem kM_times (l : Launch) (g : hl_G) (sz : Nat) (L : List Nat) (f : Nat → va_E) (T d : Nat → Nat) (n mm sm : Nat) (mv st : Nat → Nat → Nat) (hM : md_I g L f T d n mm sm mv st) (hW : cg_W n mm sm mv st) (q1 : Int32) :
    Met l y_M_times (hq y_M_times b_M_times 6 (some .long)) { frames := 1, cells := 0, slots := 0, locals := 30 } (hm_P g [.ref (d 0), .int q1] sz L f) (va_Ql (fun r u => ∃ f2, ls_1 sm q1 (lN 0) (fun j r => ∃ x, tm (st j) n n x ∧ r = lN x) r ∧ u = (L, f2) ∧ md_I g L f2 T d n mm sm mv st ∧ (∀ q, T q < 20000 → f2 q = f q)) (hm_B g sz L) (hm_A sz L)) 0 0 (hm_A sz L) := by
  obtain ⟨hd, f0, kn, mk, r3, r5, r7, r8, r10, r11, r12, r13, r14, r15, r16, r17, r18, r19, r20, r21, r22, r23, k1, k2, k3, k4, k5, rfl⟩ := hM
  refine c_M_times l g sz L d f0 ⟨T, hd⟩ n mm sm kn mk r3 r5 r7 r8 r10 r11 r12 r13 r14 r15 r16 r17 r18 r19 r20 r21 r22 r23 mv st hW k1 k2 q1 _ (fun r h => ⟨_, ?_, rfl, ⟨hd, f0, kn, _, _, _, _, _, _, _, _, _, _, _, _, _, _, _, _, _, _, _, k1, k2, k3, k4, k5, rfl⟩, (fun _ _ => rfl)⟩)
  rcases h with h | ⟨j, x, h1, h2, h3, h4⟩
  · exact Or.inl h
  · exact Or.inr ⟨j, h1, h2, x, h3, h4⟩
theorem kM_orbit (l : Launch) (g : hl_G) (sz : Nat) (L : List Nat) (f : Nat → va_E) (T d : Nat → Nat) (n mm sm : Nat) (mv st : Nat → Nat → Nat) (hM : md_I g L f T d n mm sm mv st) (hW : cg_W n mm sm mv st) (q1 : Int32) :
    Met l y_M_orbit (hq y_M_orbit b_M_orbit 2 (some .int)) { frames := 2, cells := 0, slots := 0, locals := 60 } (hm_P g [.ref (d 0), .int q1] sz L f) (va_Qi (fun r u => ∃ f2, ls_1 n q1 (-1) (fun j r => r = nI (pt_orb mv n id mm j)) r ∧ u = (L, f2) ∧ md_I g L f2 T d n mm sm mv st ∧ (∀ q, T q < 20000 → f2 q = f q)) (hm_B g sz L) (hm_A sz L)) 0 0 (hm_A sz L) := by
  obtain ⟨hd, f0, kn, mk, r3, r5, r7, r8, r10, r11, r12, r13, r14, r15, r16, r17, r18, r19, r20, r21, r22, r23, k1, k2, k3, k4, k5, rfl⟩ := hM
  refine c_M_orbit l g sz L d f0 ⟨T, hd⟩ n mm sm kn mk r3 r5 r7 r8 r10 r11 r12 r13 r14 r15 r16 r17 r18 r19 r20 r21 r22 r23 mv st hW k1 k2 q1 _ (fun r f1 h => ?_)
  rcases h with ⟨h1, h2, rfl⟩ | ⟨j, h1, h2, h3, rfl⟩
  · exact ⟨_, Or.inl ⟨h1, h2⟩, rfl, ⟨hd, f0, kn, _, _, _, _, _, _, _, _, _, _, _, _, _, _, _, _, _, _, _, k1, k2, k3, k4, k5, rfl⟩, (fun _ _ => rfl)⟩
  · exact ⟨_, Or.inr ⟨j, h1, h2, h3⟩, rfl, ⟨hd, f0, kn, _, _, _, _, _, _, _, _, _, _, _, _, _, _, _, _, _, _, _, k1, k2, k3, k4, k5, rfl⟩, (fun q hq => by rw [md_out (md_fr hd hq), md_out (md_fr hd hq)])⟩
theorem kM_block (l : Launch) (g : hl_G) (sz : Nat) (L : List Nat) (f : Nat → va_E) (T d : Nat → Nat) (n mm sm : Nat) (mv st : Nat → Nat → Nat) (hM : md_I g L f T d n mm sm mv st) (hW : cg_W n mm sm mv st) (q1 q2 : Int32) :
    Met l y_M_block (hq y_M_block b_M_block 6 (some .int)) { frames := 2, cells := 0, slots := 0, locals := 60 } (hm_P g [.ref (d 0), .int q1, .int q2] sz L f) (va_Qi (fun r u => ∃ f2, ls_2 n n q1 q2 (fun j k => nI (pt_size (pt_blk mv n mm n (pt_join id j k)) j n)) r ∧ u = (L, f2) ∧ md_I g L f2 T d n mm sm mv st ∧ (∀ q, T q < 20000 → f2 q = f q)) (hm_B g sz L) (hm_A sz L)) 0 0 (hm_A sz L) := by
  obtain ⟨hd, f0, kn, mk, r3, r5, r7, r8, r10, r11, r12, r13, r14, r15, r16, r17, r18, r19, r20, r21, r22, r23, k1, k2, k3, k4, k5, rfl⟩ := hM
  refine c_M_block l g sz L d f0 ⟨T, hd⟩ n mm sm kn mk r3 r5 r7 r8 r10 r11 r12 r13 r14 r15 r16 r17 r18 r19 r20 r21 r22 r23 mv st hW k1 k2 q1 q2 _ (fun r f1 h => ?_)
  rcases h with ⟨h1, h2, rfl⟩ | ⟨j, k, h1, h2, h3, h4, h5, z, rfl⟩
  · exact ⟨_, Or.inl ⟨h1, h2⟩, rfl, ⟨hd, f0, kn, _, _, _, _, _, _, _, _, _, _, _, _, _, _, _, _, _, _, _, k1, k2, k3, k4, k5, rfl⟩, (fun _ _ => rfl)⟩
  · exact ⟨_, Or.inr ⟨j, k, h1, h2, h3, h4, h5⟩, rfl, ⟨hd, f0, kn, _, _, _, _, _, _, _, _, _, _, _, _, _, _, _, _, _, _, _, k1, k2, k3, k4, k5, rfl⟩, (fun q hq => by rw [md_out (md_fr hd hq), md_out (md_fr hd hq)])⟩
theorem kM_run (l : Launch) (g : hl_G) (sz : Nat) (L : List Nat) (f : Nat → va_E) (T d : Nat → Nat) (n mm sm : Nat) (mv st : Nat → Nat → Nat) (hM : md_I g L f T d n mm sm mv st) (hW : cg_W n mm sm mv st) :
    Met l y_M_run (hq y_M_run b_M_run 3 (some .int)) { frames := 4, cells := 0, slots := 0, locals := 130 } (hm_P g [.ref (d 0)] sz L f) (va_Qi (fun r u => ∃ f2, ls_S (gp_gen (mv_T mv mm)) n (fun S => nI (rn S n)) r ∧ u = (L, f2) ∧ md_I g L f2 T d n mm sm mv st ∧ (∀ q, T q < 20000 → f2 q = f q)) (hm_B g sz L) (hm_A sz L)) 0 0 (hm_A sz L) := by
  obtain ⟨hd, f0, kn, mk, r3, r5, r7, r8, r10, r11, r12, r13, r14, r15, r16, r17, r18, r19, r20, r21, r22, r23, k1, k2, k3, k4, k5, rfl⟩ := hM
  refine c_M_run l g sz L d f0 ⟨T, hd⟩ n mm sm kn mk r3 r5 r7 r8 r10 r11 r12 r13 r14 r15 r16 r17 r18 r19 r20 r21 r22 r23 mv st hW k1 k2 k3 k4 k5 _ (fun r f1 ⟨S, h1, h2, hz⟩ => ?_)
  obtain ⟨mk2, s7, s8, s10, s11, s12, s13, s14, s15, s16, s17, s18, s19, s20, s21, s22, s23, hKz, h8z, rfl⟩ := hz
  exact ⟨_, ⟨S, h1, h2⟩, rfl, ⟨hd, f0, 1, _, _, _, _, _, _, _, _, _, _, _, _, _, _, _, _, _, _, _, k1, k2, (Or.inr rfl), h8z, (fun _ => hKz), rfl⟩, (fun q hq => by rw [md_out (md_fr hd hq), md_out (md_fr hd hq)])⟩
theorem kM_base (l : Launch) (g : hl_G) (sz : Nat) (L : List Nat) (f : Nat → va_E) (T d : Nat → Nat) (n mm sm : Nat) (mv st : Nat → Nat → Nat) (hM : md_I g L f T d n mm sm mv st) (hW : cg_W n mm sm mv st) (q1 : Int32) :
    Met l y_M_base (hq y_M_base b_M_base 4 (some .int)) { frames := 4, cells := 0, slots := 0, locals := 130 } (hm_P g [.ref (d 0), .int q1] sz L f) (va_Qi (fun r u => ∃ f2, ls_S (gp_gen (mv_T mv mm)) n (fun S => ba S q1 n 0 0) r ∧ u = (L, f2) ∧ md_I g L f2 T d n mm sm mv st ∧ (∀ q, T q < 20000 → f2 q = f q)) (hm_B g sz L) (hm_A sz L)) 0 0 (hm_A sz L) := by
  obtain ⟨hd, f0, kn, mk, r3, r5, r7, r8, r10, r11, r12, r13, r14, r15, r16, r17, r18, r19, r20, r21, r22, r23, k1, k2, k3, k4, k5, rfl⟩ := hM
  refine c_M_base l g sz L d f0 ⟨T, hd⟩ n mm sm kn mk r3 r5 r7 r8 r10 r11 r12 r13 r14 r15 r16 r17 r18 r19 r20 r21 r22 r23 mv st hW k1 k2 k3 k4 k5 q1 _ (fun r f1 ⟨S, h1, h2, hz⟩ => ?_)
  obtain ⟨mk2, s7, s8, s10, s11, s12, s13, s14, s15, s16, s17, s18, s19, s20, s21, s22, s23, hKz, h8z, rfl⟩ := hz
  exact ⟨_, ⟨S, h1, h2⟩, rfl, ⟨hd, f0, 1, _, _, _, _, _, _, _, _, _, _, _, _, _, _, _, _, _, _, _, k1, k2, (Or.inr rfl), h8z, (fun _ => hKz), rfl⟩, (fun q hq => by rw [md_out (md_fr hd hq), md_out (md_fr hd hq)])⟩
theorem kM_order (l : Launch) (g : hl_G) (sz : Nat) (L : List Nat) (f : Nat → va_E) (T d : Nat → Nat) (n mm sm : Nat) (mv st : Nat → Nat → Nat) (hM : md_I g L f T d n mm sm mv st) (hW : cg_W n mm sm mv st) (q1 : Int32) :
    Met l y_M_order (hq y_M_order b_M_order 2 (some .int)) { frames := 4, cells := 0, slots := 0, locals := 130 } (hm_P g [.ref (d 0), .int q1] sz L f) (va_Qi (fun r u => ∃ f2, ls_S (gp_gen (mv_T mv mm)) n (fun S => dg_at (dgt (ch_pr S 0 n)) 24 q1) r ∧ u = (L, f2) ∧ md_I g L f2 T d n mm sm mv st ∧ (∀ q, T q < 20000 → f2 q = f q)) (hm_B g sz L) (hm_A sz L)) 0 0 (hm_A sz L) := by
  obtain ⟨hd, f0, kn, mk, r3, r5, r7, r8, r10, r11, r12, r13, r14, r15, r16, r17, r18, r19, r20, r21, r22, r23, k1, k2, k3, k4, k5, rfl⟩ := hM
  refine c_M_order l g sz L d f0 ⟨T, hd⟩ n mm sm kn mk r3 r5 r7 r8 r10 r11 r12 r13 r14 r15 r16 r17 r18 r19 r20 r21 r22 r23 mv st hW k1 k2 k3 k4 k5 q1 _ (fun r f1 ⟨S, h1, h2, hz⟩ => ?_)
  obtain ⟨mk2, s7, s8, s10, s11, s12, s13, s14, s15, s16, s17, s18, s19, s20, s21, s22, s23, hKz, h8z, rfl⟩ := hz
  exact ⟨_, ⟨S, h1, h2⟩, rfl, ⟨hd, f0, 1, _, _, _, _, _, _, _, _, _, _, _, _, _, _, _, _, _, _, _, k1, k2, (Or.inr rfl), h8z, (fun _ => hKz), rfl⟩, (fun q hq => by rw [md_out (md_fr hd hq), md_out (md_fr hd hq)])⟩
theorem kM_spread (l : Launch) (g : hl_G) (sz : Nat) (L : List Nat) (f : Nat → va_E) (T d : Nat → Nat) (n mm sm : Nat) (mv st : Nat → Nat → Nat) (hM : md_I g L f T d n mm sm mv st) (hW : cg_W n mm sm mv st) (q1 : Int32) :
    Met l y_M_spread (hq y_M_spread b_M_spread 2 (some .int)) { frames := 4, cells := 0, slots := 0, locals := 130 } (hm_P g [.ref (d 0), .int q1] sz L f) (va_Qi (fun r u => ∃ f2, ls_1 n q1 (-1) (fun j r => ls_S (gp_gen (mv_T mv mm)) n (fun S => nI (S j)) r) r ∧ u = (L, f2) ∧ md_I g L f2 T d n mm sm mv st ∧ (∀ q, T q < 20000 → f2 q = f q)) (hm_B g sz L) (hm_A sz L)) 0 0 (hm_A sz L) := by
  obtain ⟨hd, f0, kn, mk, r3, r5, r7, r8, r10, r11, r12, r13, r14, r15, r16, r17, r18, r19, r20, r21, r22, r23, k1, k2, k3, k4, k5, rfl⟩ := hM
  refine c_M_spread l g sz L d f0 ⟨T, hd⟩ n mm sm kn mk r3 r5 r7 r8 r10 r11 r12 r13 r14 r15 r16 r17 r18 r19 r20 r21 r22 r23 mv st hW k1 k2 k3 k4 k5 q1 _ (fun r f1 h => ?_)
  rcases h with ⟨h1, h2, rfl⟩ | ⟨j, S, h1, h2, h3, h4, hz⟩
  · exact ⟨_, Or.inl ⟨h1, h2⟩, rfl, ⟨hd, f0, kn, _, _, _, _, _, _, _, _, _, _, _, _, _, _, _, _, _, _, _, k1, k2, k3, k4, k5, rfl⟩, (fun _ _ => rfl)⟩
  · obtain ⟨mk2, s7, s8, s10, s11, s12, s13, s14, s15, s16, s17, s18, s19, s20, s21, s22, s23, hKz, h8z, rfl⟩ := hz
    exact ⟨_, Or.inr ⟨j, h1, h2, S, h3, h4⟩, rfl, ⟨hd, f0, 1, _, _, _, _, _, _, _, _, _, _, _, _, _, _, _, _, _, _, _, k1, k2, (Or.inr rfl), h8z, (fun _ => hKz), rfl⟩, (fun q hq => by rw [md_out (md_fr hd hq), md_out (md_fr hd hq)])⟩
theorem kM_stabiliser (l : Launch) (g : hl_G) (sz : Nat) (L : List Nat) (f : Nat → va_E) (T d : Nat → Nat) (n mm sm : Nat) (mv st : Nat → Nat → Nat) (hM : md_I g L f T d n mm sm mv st) (hW : cg_W n mm sm mv st) (q1 q2 : Int32) :
    Met l y_M_stabiliser (hq y_M_stabiliser b_M_stabiliser 3 (some .int)) { frames := 4, cells := 0, slots := 0, locals := 130 } (hm_P g [.ref (d 0), .int q1, .int q2] sz L f) (va_Qi (fun r u => ∃ f2, ls_1 n q1 (-1) (fun j r => ls_S (gp_gen (mv_T mv mm)) n (fun S => dg_at (dgt (ch_pr S 0 n / pt_size (pt_orb mv n id mm) j n)) 24 q2) r) r ∧ u = (L, f2) ∧ md_I g L f2 T d n mm sm mv st ∧ (∀ q, T q < 20000 → f2 q = f q)) (hm_B g sz L) (hm_A sz L)) 0 0 (hm_A sz L) := by
  obtain ⟨hd, f0, kn, mk, r3, r5, r7, r8, r10, r11, r12, r13, r14, r15, r16, r17, r18, r19, r20, r21, r22, r23, k1, k2, k3, k4, k5, rfl⟩ := hM
  refine c_M_stabiliser l g sz L d f0 ⟨T, hd⟩ n mm sm kn mk r3 r5 r7 r8 r10 r11 r12 r13 r14 r15 r16 r17 r18 r19 r20 r21 r22 r23 mv st hW k1 k2 k3 k4 k5 q1 q2 _ (fun r f1 h => ?_)
  rcases h with ⟨h1, h2, rfl⟩ | ⟨j, S, h1, h2, h3, h4, hz⟩
  · exact ⟨_, Or.inl ⟨h1, h2⟩, rfl, ⟨hd, f0, kn, _, _, _, _, _, _, _, _, _, _, _, _, _, _, _, _, _, _, _, k1, k2, k3, k4, k5, rfl⟩, (fun _ _ => rfl)⟩
  · obtain ⟨mk2, s7, s8, s10, s11, s12, s13, s14, s15, s16, s17, s18, s19, s20, s21, s22, s23, hKz, h8z, rfl⟩ := hz
    exact ⟨_, Or.inr ⟨j, h1, h2, S, h3, h4⟩, rfl, ⟨hd, f0, 1, _, _, _, _, _, _, _, _, _, _, _, _, _, _, _, _, _, _, _, k1, k2, (Or.inr rfl), h8z, (fun _ => hKz), rfl⟩, (fun q hq => by rw [md_out (md_fr hd hq), md_out (md_fr hd hq)])⟩
theorem kM_level (l : Launch) (g : hl_G) (sz : Nat) (L : List Nat) (f : Nat → va_E) (T d : Nat → Nat) (n mm sm : Nat) (mv st : Nat → Nat → Nat) (hM : md_I g L f T d n mm sm mv st) (hW : cg_W n mm sm mv st) (q1 : Int32) :
    Met l y_M_level (hq y_M_level b_M_level 3 (some .int)) { frames := 4, cells := 0, slots := 0, locals := 130 } (hm_P g [.ref (d 0), .int q1] sz L f) (va_Qi (fun r u => ∃ f2, ls_1 sm q1 (-1) (fun j r => ∃ k, ch_lv (gp_gen (mv_T mv mm)) n (st j) k ∧ r = nI k) r ∧ u = (L, f2) ∧ md_I g L f2 T d n mm sm mv st ∧ (∀ q, T q < 20000 → f2 q = f q)) (hm_B g sz L) (hm_A sz L)) 0 0 (hm_A sz L) := by
  obtain ⟨hd, f0, kn, mk, r3, r5, r7, r8, r10, r11, r12, r13, r14, r15, r16, r17, r18, r19, r20, r21, r22, r23, k1, k2, k3, k4, k5, rfl⟩ := hM
  refine c_M_level l g sz L d f0 ⟨T, hd⟩ n mm sm kn mk r3 r5 r7 r8 r10 r11 r12 r13 r14 r15 r16 r17 r18 r19 r20 r21 r22 r23 mv st hW k1 k2 k3 k4 k5 q1 _ (fun r f1 h => ?_)
  rcases h with ⟨h1, h2, rfl⟩ | ⟨j, k, h1, h2, h3, h4, hz⟩
  · exact ⟨_, Or.inl ⟨h1, h2⟩, rfl, ⟨hd, f0, kn, _, _, _, _, _, _, _, _, _, _, _, _, _, _, _, _, _, _, _, k1, k2, k3, k4, k5, rfl⟩, (fun _ _ => rfl)⟩
  · obtain ⟨mk2, s7, s8, s10, s11, s12, s13, s14, s15, s16, s17, s18, s19, s20, s21, s22, s23, hKz, h8z, rfl⟩ := hz
    exact ⟨_, Or.inr ⟨j, h1, h2, k, h3, h4⟩, rfl, ⟨hd, f0, 1, _, _, _, _, _, _, _, _, _, _, _, _, _, _, _, _, _, _, _, k1, k2, (Or.inr rfl), h8z, (fun _ => hKz), rfl⟩, (fun q hq => by rw [md_out (md_fr hd hq), md_out (md_fr hd hq)])⟩
theorem kM_member (l : Launch) (g : hl_G) (sz : Nat) (L : List Nat) (f : Nat → va_E) (T d : Nat → Nat) (n mm sm : Nat) (mv st : Nat → Nat → Nat) (hM : md_I g L f T d n mm sm mv st) (hW : cg_W n mm sm mv st) (q1 : Int32) :
    Met l y_M_member (hq y_M_member b_M_member 3 (some .int)) { frames := 5, cells := 0, slots := 0, locals := 160 } (hm_P g [.ref (d 0), .int q1] sz L f) (va_Qi (fun r u => ∃ f2, ls_1 sm q1 (-1) (fun j r => ∃ k, ch_lv (gp_gen (mv_T mv mm)) n (st j) k ∧ r = (if k = n then nI 1 else nI 0)) r ∧ u = (L, f2) ∧ md_I g L f2 T d n mm sm mv st ∧ (∀ q, T q < 20000 → f2 q = f q)) (hm_B g sz L) (hm_A sz L)) 0 0 (hm_A sz L) := by
  obtain ⟨hd, f0, kn, mk, r3, r5, r7, r8, r10, r11, r12, r13, r14, r15, r16, r17, r18, r19, r20, r21, r22, r23, k1, k2, k3, k4, k5, rfl⟩ := hM
  refine c_M_member l g sz L d f0 ⟨T, hd⟩ n mm sm kn mk r3 r5 r7 r8 r10 r11 r12 r13 r14 r15 r16 r17 r18 r19 r20 r21 r22 r23 mv st hW k1 k2 k3 k4 k5 q1 _ (fun r f1 h => ?_)
  rcases h with ⟨h1, h2, rfl⟩ | ⟨j, k, h1, h2, h3, h4, hz⟩
  · exact ⟨_, Or.inl ⟨h1, h2⟩, rfl, ⟨hd, f0, kn, _, _, _, _, _, _, _, _, _, _, _, _, _, _, _, _, _, _, _, k1, k2, k3, k4, k5, rfl⟩, (fun _ _ => rfl)⟩
  · obtain ⟨mk2, s7, s8, s10, s11, s12, s13, s14, s15, s16, s17, s18, s19, s20, s21, s22, s23, hKz, h8z, rfl⟩ := hz
    exact ⟨_, Or.inr ⟨j, h1, h2, k, h3, h4⟩, rfl, ⟨hd, f0, 1, _, _, _, _, _, _, _, _, _, _, _, _, _, _, _, _, _, _, _, k1, k2, (Or.inr rfl), h8z, (fun _ => hKz), rfl⟩, (fun q hq => by rw [md_out (md_fr hd hq), md_out (md_fr hd hq)])⟩
end

