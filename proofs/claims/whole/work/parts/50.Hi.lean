/-! Chain's constructor. -/
section
theorem lk_grow {g : hl_G} {L L1 : List Nat} {f f1 : Nat → va_E} {ad ad1 : Nat → Nat → Nat → Nat} {n i gn : Nat} {G : Nat → Nat → Nat} {pr : Nat → Nat} {sn : Nat} {sp : Nat → Nat} {ix : Nat → Option Nat} {wb : Nat → Nat → Nat}
    (hP : lk_P g L f ad n i gn G pr sn sp ix wb) (he : ∀ k j, ad1 k i j = ad k i j) (hx : ∀ k j, k < 8 → lk_j n i k j → ad k i j ∈ L → ad k i j ∈ L1 ∧ f1 (ad k i j) = f (ad k i j)) : lk_P g L1 f1 ad1 n i gn G pr sn sp ix wb := by
  obtain ⟨⟨p0, q0⟩, ⟨p1, q1⟩, hg, ⟨p3, q3⟩, ⟨p4, q4⟩, ⟨p5, q5⟩, ⟨p6, q6⟩, hw⟩ := hP
  unfold lk_P
  simp only [he]
  have c0 := hx 0 0 (by decide) rfl p0
  have c1 := hx 1 0 (by decide) rfl p1
  have c3 := hx 3 0 (by decide) rfl p3
  have c4 := hx 4 0 (by decide) rfl p4
  have c5 := hx 5 0 (by decide) rfl p5
  have c6 := hx 6 0 (by decide) rfl p6
  exact ⟨⟨c0.1, c0.2.trans q0⟩, ⟨c1.1, c1.2.trans q1⟩, fun j hj => ⟨(hx 2 j (by decide) hj (hg j hj).1).1, (hx 2 j (by decide) hj (hg j hj).1).2.trans (hg j hj).2⟩, ⟨c3.1, c3.2.trans q3⟩, ⟨c4.1, c4.2.trans q4⟩, ⟨c5.1, c5.2.trans q5⟩, ⟨c6.1, c6.2.trans q6⟩,
    fun j hj => ⟨(hx 7 j (by decide) hj (hw j hj).1).1, (hx 7 j (by decide) hj (hw j hj).1).2.trans (hw j hj).2⟩⟩

/-- the links below c of a chain that is being made -/
def cn_part (g : hl_G) (L : List Nat) (f : Nat → va_E) (T : Nat → Nat) (ad : Nat → Nat → Nat → Nat) (n : Nat) (zL : Nat → Option Nat) (gn : Nat → Nat) (G : Nat → Nat → Nat → Nat) (pr : Nat → Nat → Nat) (sn : Nat → Nat) (sp : Nat → Nat → Nat) (ix : Nat → Nat → Option Nat) (wb : Nat → Nat → Nat → Nat) (c : Nat) : Prop :=
  ∀ i, i < c → zL i = some (ad 0 i 0) ∧ (∀ k j, k < 8 → lk_j n i k j → ad k i j ∈ L) ∧ lk_T T ad n i ∧ lk_P g L f ad n i (gn i) (G i) (pr i) (sn i) (sp i) (ix i) (wb i) ∧ lk_W n i (gn i) (G i) (pr i) (sn i) (sp i) (ix i) (wb i) ∧ wb i 0 = id

theorem lk_cells {g : hl_G} {L : List Nat} {f : Nat → va_E} {ad : Nat → Nat → Nat → Nat} {n i gn : Nat} {G : Nat → Nat → Nat} {pr : Nat → Nat} {sn : Nat} {sp : Nat → Nat} {ix : Nat → Option Nat} {wb : Nat → Nat → Nat}
    (hP : lk_P g L f ad n i gn G pr sn sp ix wb) : ∀ k j, k < 8 → lk_j n i k j → ad k i j ∈ L := by
  intro k j hk hj
  obtain ⟨⟨p0, _⟩, ⟨p1, _⟩, hg, ⟨p3, _⟩, ⟨p4, _⟩, ⟨p5, _⟩, ⟨p6, _⟩, hw⟩ := hP
  match k, hk, hj with
  | 0, _, hj => rw [show j = 0 from hj]; exact p0
  | 1, _, hj => rw [show j = 0 from hj]; exact p1
  | 2, _, hj => exact (hg j hj).1
  | 3, _, hj => rw [show j = 0 from hj]; exact p3
  | 4, _, hj => rw [show j = 0 from hj]; exact p4
  | 5, _, hj => rw [show j = 0 from hj]; exact p5
  | 6, _, hj => rw [show j = 0 from hj]; exact p6
  | 7, _, hj => exact (hw j hj).1
  | k + 8, hk, _ => omega

/-- Chain(int places) -/
theorem c_H_init (l : Launch) (g : hl_G) (sz : Nat) (L : List Nat) (f : Nat → va_E) (T : Nat → Nat) (n ch : Nat) (hch : ch ∈ L) (hfc : f ch = .inr (1, [.int 0, .null, .null])) (hTc : T ch = 7) (hn : n ≤ 24) :
    Met l y_H_init (hq y_H_init b_H_init 3 none) { frames := 2, cells := 1600, slots := 40000, locals := 60 } (hm_P g [.ref ch, .int (nI n)] sz L f) (va_Qv (fun u => ∃ (L1 : List Nat) (f1 : Nat → va_E) (T1 : Nat → Nat) (ad : Nat → Nat → Nat → Nat) (lO wk : Nat) (zL : Nat → Option Nat) (gn : Nat → Nat) (G : Nat → Nat → Nat → Nat) (pr : Nat → Nat → Nat) (sn : Nat → Nat) (sp : Nat → Nat → Nat) (ix : Nat → Nat → Option Nat) (wb : Nat → Nat → Nat → Nat) (y : Nat → Nat), u = (L1, f1) ∧ (∀ q, q ∈ L → q ∈ L1 ∧ T1 q = T q) ∧ (∀ q, q ∈ L → q ≠ ch → f1 q = f q) ∧ cn_P g L1 f1 T1 ad n ch lO wk zL gn G pr sn sp ix wb y ∧ cn_W n gn G pr sn sp ix wb ∧ ∀ i, i < n → wb i 0 = id) (hm_B g sz L) (hm_A sz L)) 1600 40000 (hm_A sz L) := by
  refine hm_ofW (by decide) (Nat.le_of_ble_eq_true rfl) ?_
  intro p e s m below meth c X hr hlk hnm hK hsz hh ls hl
  have hl : lv_has ls 3 [(0, .ref ch), (1, .int (nI n))] := hl
  have hpc : ch ∈ L ∧ f ch = .inr (1, [.int 0, .null, .null]) := ⟨hch, hfc⟩
  have loop : ∀ (t i : Nat) (L1 : List Nat) (f1 : Nat → va_E) (T1 : Nat → Nat) (ad : Nat → Nat → Nat → Nat) (lO wk : Nat) (zL : Nat → Option Nat) (gn : Nat → Nat) (G : Nat → Nat → Nat → Nat) (pr : Nat → Nat → Nat) (sn : Nat → Nat) (sp : Nat → Nat → Nat) (ix : Nat → Nat → Option Nat) (wb : Nat → Nat → Nat → Nat) (y : Nat → Nat) (H : Heap) (locs : List Loc) (ls : Array Slot),
      n + 1 ≤ i + t → i ≤ n → lO ∉ L → (∀ q, q ∈ L → q ∈ L1 ∧ T1 q = T q) → (∀ q, q ∈ L → q ≠ ch → f1 q = f q) → (ch ∈ L1 ∧ f1 ch = .inr (1, [.int (nI n), .ref lO, .ref wk]) ∧ T1 ch = 7) → (lO ∈ L1 ∧ f1 lO = hl_lks g n zL ∧ T1 lO = 8) → (wk ∈ L1 ∧ f1 wk = hl_nat g n y ∧ T1 wk = 9) →
      cn_part g L1 f1 T1 ad n zL gn G pr sn sp ix wb i → hl_H g (hm_A sz L) s.heap L1 f1 H locs → lv_has ls 3 [(2, .int (nI i)), (0, .ref ch), (1, .int (nI n))] →
      W p l e { frames := 2, cells := 1600, slots := 40000, locals := 60 } s m #[.ref ch, .int (nI n)] below meth c H locs (2 + 66 * i) (48 + 1607 * i) (MQ below (va_Qv (fun u => ∃ (L1 : List Nat) (f1 : Nat → va_E) (T1 : Nat → Nat) (ad : Nat → Nat → Nat → Nat) (lO wk : Nat) (zL : Nat → Option Nat) (gn : Nat → Nat) (G : Nat → Nat → Nat → Nat) (pr : Nat → Nat → Nat) (sn : Nat → Nat) (sp : Nat → Nat → Nat) (ix : Nat → Nat → Option Nat) (wb : Nat → Nat → Nat → Nat) (y : Nat → Nat), u = (L1, f1) ∧ (∀ q, q ∈ L → q ∈ L1 ∧ T1 q = T q) ∧ (∀ q, q ∈ L → q ≠ ch → f1 q = f q) ∧ cn_P g L1 f1 T1 ad n ch lO wk zL gn G pr sn sp ix wb y ∧ cn_W n gn G pr sn sp ix wb ∧ ∀ i, i < n → wb i 0 = id) (hm_B g sz L) (hm_A sz L)) #[.ref ch, .int (nI n)] s 1600 40000 (hm_A sz L)) (F0 m 26 ls []) := by
    intro t
    induction t with
    | zero => intros; omega
    | succ t ih =>
      intro i L1 f1 T1 ad lO wk zL gn G pr sn sp ix wb y H locs ls hk hin hnO hL1 hfr1 hc1 hl1 hw1 hpt hh hl
      refine lv_iload_n X.1 X.2.1 d_H_init_26 rfl (lv_at hl 0 rfl) ?_
      refine lv_iload_n X.1 X.2.1 d_H_init_27 rfl (lv_at hl 2 rfl) ?_
      refine hn_ige (tgt := 52) X (by omega) (by omega) d_H_init_28 (by decide) (fun hc => ?_) (fun hc => ?_)
      · have e0 : i = n := by omega
        subst e0
        exact hm_vret X hr hlk hh ⟨L1, f1, T1, ad, lO, wk, zL, gn, G, pr, sn, sp, ix, wb, y, rfl, hL1, hfr1, ⟨hc1, hl1, hw1, fun j hj => ⟨(hpt j hj).1, (hpt j hj).2.2.1, (hpt j hj).2.2.2.1⟩⟩, fun j hj => (hpt j hj).2.2.2.2.1, fun j hj => (hpt j hj).2.2.2.2.2⟩ (by omega) (by omega) d_H_init_52
      · have hlt : i < n := hc
        refine lv_aload_n X.1 X.2.1 d_H_init_31 rfl (lv_at hl 1 rfl) ?_
        refine hl_get X hK hh (ref := "CycleGroups$Chain") i_H (ci := 1) rfl 1 (by decide) w_143 rfl hc1.1 hc1.2.1 rfl d_H_init_32 ?_
        refine lv_iload_n X.1 X.2.1 d_H_init_35 rfl (lv_at hl 0 rfl) ?_
        refine hl_new X hK hh i_K t_K t_K_ok w_108 (by decide +kernel) (by decide +kernel) (ci := 3) rfl (fs := [.null, .int 0, .null, .null, .int 0, .null, .null]) (fun j hj => by rcases (show j = 0 ∨ j = 1 ∨ j = 2 ∨ j = 3 ∨ j = 4 ∨ j = 5 ∨ j = 6 by omega) with rfl | rfl | rfl | rfl | rfl | rfl | rfl <;> rfl) (by show 2 + 66 * i + 1 ≤ 1600; omega) (by show 48 + 1607 * i + 7 ≤ 40000; omega) d_H_init_36 (fun k H hqk hh => ?_)
        obtain ⟨f2, hf2⟩ : ∃ x : Nat → va_E, x = va_up f1 k (.inr (3, [.null, .int 0, .null, .null, .int 0, .null, .null])) := ⟨_, rfl⟩
        have hh : hl_H g (hm_A sz L) s.heap (L1 ++ [k]) f2 H locs := by rw [hf2]; exact hh
        have o2 : ∀ q, q ∈ L1 → q ≠ k := fun q h e0 => hqk (e0 ▸ h)
        have g2 : ∀ q, q ∈ L1 → f2 q = f1 q := fun q h => by rw [hf2, va_up_ne _ _ (o2 q h)]
        have hk2 : k ∈ L1 ++ [k] := List.mem_append_right _ (List.mem_singleton.2 rfl)
        refine lv_dup X.1 X.2.1 d_H_init_39 rfl ?_
        refine lv_iload_n X.1 X.2.1 d_H_init_40 rfl (lv_at hl 0 rfl) ?_
        refine lv_iload_n X.1 X.2.1 d_H_init_41 rfl (lv_at hl 2 rfl) ?_
        refine hl_callv hh (hl_runI (k := 2) X hK hh (c_K_init l g _ (L1 ++ [k]) f2 (va_up T1 k (100 + 64 * i)) ad n i k hk2 (by rw [hf2, va_up_self]) (va_up_self ..) hn hlt) wc_K_init w_111 w_7 wi_K_init rfl (by decide +kernel) rfl rfl ⟨Nat.le_of_ble_eq_true rfl, Nat.le_of_ble_eq_true rfl⟩ rfl rfl (Nat.le_of_ble_eq_true rfl) hl.1 d_H_init_42 ⟨by show 2 + 66 * i + 1 + 65 ≤ 1600; omega, by show 48 + 1607 * i + 7 + 1600 ≤ 40000; omega⟩) (fun u H locs hp hh => ?_)
        obtain ⟨L3, f3, T3, ad3, G3, pr3, sp3, ix3, wb3, rfl, hL3, hfr3, had3, hk3, hT3, hP3, hW3, hwb3⟩ := hp
        have i3 : ∀ q, q ∈ L1 → q ∈ L3 ∧ T3 q = T1 q := fun q h => ⟨(hL3 q (List.mem_append_left _ h)).1, ((hL3 q (List.mem_append_left _ h)).2).trans (va_up_ne _ _ (o2 q h))⟩
        have g3 : ∀ q, q ∈ L1 → f3 q = f1 q := fun q h => (hfr3 q (List.mem_append_left _ h) (o2 q h)).trans (g2 q h)
        have hlO3 : f3 lO = hl_lks g n zL := (g3 lO hl1.1).trans hl1.2.1
        have hfk3 := hP3.1.2
        rw [hk3] at hfk3
        have hkL3 : k ∈ L3 := (hL3 k hk2).1
        have hh : hl_H g (hm_A sz L) s.heap L3 f3 H locs := hh
        refine hl_aastL X hK hh (i3 lO hl1.1).1 hlO3 hkL3 hfk3 hlt (by omega) d_H_init_45 (fun H locs hh => ?_)
        refine lv_iinc (v := nI (i + 1)) (lv' := [(2, .int (nI (i + 1))), (0, .ref ch), (1, .int (nI n))]) X.1 X.2.1 d_H_init_46 hl (k := 0) rfl (hn_inc _) (by decide) rfl (fun ls hl => ?_)
        refine lv_goto (tgt := 26) X.1 X.2.1 d_H_init_49 (by decide) ?_
        have hTlO : T3 lO = 8 := (i3 lO hl1.1).2.trans hl1.2.2
        have tg3 : ∀ i1, lk_T T3 ad3 n i1 → ∀ k1 j, k1 < 8 → lk_j n i1 k1 j → ad3 k1 i1 j ≠ lO := fun i1 h k1 j h1 h2 => hl_ne (T := T3) (by rw [h k1 j h1 h2, hTlO]; omega)
        obtain ⟨f4, hf4⟩ : ∃ x : Nat → va_E, x = va_up f3 lO (hl_lks g n (va_up zL i (some k))) := ⟨_, rfl⟩
        have hh : hl_H g (hm_A sz L) s.heap L3 f4 H locs := by rw [hf4]; exact hh
        have g4 : ∀ q, q ≠ lO → f4 q = f3 q := fun q h => by rw [hf4, va_up_ne _ _ h]
        have nc : ch ≠ lO := hl_ne (T := T1) (by rw [hc1.2.2, hl1.2.2]; decide)
        have nw : wk ≠ lO := hl_ne (T := T1) (by rw [hw1.2.2, hl1.2.2]; decide)
        refine W.widen (k := 2 + 66 * (i + 1)) (n := 48 + 1607 * (i + 1)) (by omega) (by omega) ?_
        refine ih (i + 1) L3 f4 T3 ad3 lO wk (va_up zL i (some k)) (va_up gn i 0) (va_up G i G3) (va_up pr i pr3) (va_up sn i 1) (va_up sp i sp3) (va_up ix i ix3) (va_up wb i wb3) y H locs ls (by omega) (by omega) hnO
          (fun q h => ⟨(i3 q (hL1 q h).1).1, (i3 q (hL1 q h).1).2.trans (hL1 q h).2⟩) (fun q h hqc => ?_) ⟨(i3 ch hc1.1).1, (g4 ch nc).trans ((g3 ch hc1.1).trans hc1.2.1), (i3 ch hc1.1).2.trans hc1.2.2⟩ ⟨(i3 lO hl1.1).1, by rw [hf4, va_up_self], hTlO⟩ ⟨(i3 wk hw1.1).1, (g4 wk nw).trans ((g3 wk hw1.1).trans hw1.2.1), (i3 wk hw1.1).2.trans hw1.2.2⟩ (fun i1 hi1 => ?_) hh hl
        · by_cases e0 : q = lO
          · exact absurd (e0 ▸ h) hnO
          · rw [g4 q e0, g3 q (hL1 q h).1]; exact hfr1 q h hqc
        · by_cases e0 : i1 = i
          · subst e0
            simp only [va_up_self]
            refine ⟨by rw [hk3], lk_cells hP3, hT3, ?_, hW3, hwb3⟩
            exact lk_grow hP3 (fun _ _ => rfl) (fun k1 j h1 h2 h3 => ⟨h3, g4 _ (tg3 i1 hT3 k1 j h1 h2)⟩)
          · simp only [va_up_ne _ _ e0]
            obtain ⟨y1, y2, y3, y4, y5, y6⟩ := hpt i1 (by omega)
            have he := had3 i1 e0
            have hT4 : lk_T T3 ad3 n i1 := fun k1 j h1 h2 => by rw [he, (i3 _ (y2 k1 j h1 h2)).2]; exact y3 k1 j h1 h2
            refine ⟨by rw [y1, he], fun k1 j h1 h2 => by rw [he]; exact (i3 _ (y2 k1 j h1 h2)).1, hT4, ?_, y5, y6⟩
            refine lk_grow y4 he (fun k1 j h1 h2 h3 => ⟨(i3 _ h3).1, ?_⟩)
            have h5 := tg3 i1 hT4 k1 j h1 h2
            rw [he] at h5
            rw [g4 _ h5, g3 _ h3]
  refine lv_aload_n X.1 X.2.1 d_H_init_0 rfl (lv_at hl 0 rfl) ?_
  refine hl_objI X w_107 hl.1 (Nat.le_of_ble_eq_true rfl) (Nat.le_of_ble_eq_true rfl) d_H_init_1 ?_
  obtain ⟨locs, hlocs⟩ : ∃ x : List Loc, x = [] := ⟨_, rfl⟩
  rw [← hlocs] at hh ⊢
  obtain ⟨H, hH⟩ : ∃ x : Heap, x = s.heap := ⟨_, rfl⟩
  have hh : hl_H g (hm_A sz L) s.heap L f H locs := by rw [hH]; exact hh
  rw [← hH]
  refine lv_aload_n X.1 X.2.1 d_H_init_4 rfl (lv_at hl 0 rfl) ?_
  refine lv_iload_n X.1 X.2.1 d_H_init_5 rfl (lv_at hl 1 rfl) ?_
  refine hl_putF X hK hh hnm (ref := "CycleGroups$Chain") i_H t_H t_H_ok n_H (ci := 1) rfl 0 (by decide) w_142 rfl rfl rfl hpc.1 hpc.2 (by first | rfl | decide) (by first | rfl | decide) (Nat.le_of_ble_eq_true rfl) d_H_init_6 (fun H locs hh => ?_)
  obtain ⟨f1, hf1⟩ : ∃ x : Nat → va_E, x = va_up f ch (.inr (1, [.int (nI n), .null, .null])) := ⟨_, rfl⟩
  have hh : hl_H g (hm_A sz L) s.heap L f1 H locs := by rw [hf1]; exact hh
  have hpc1 : ch ∈ L ∧ f1 ch = .inr (1, [.int (nI n), .null, .null]) := ⟨hpc.1, by rw [hf1, va_up_self]⟩
  refine lv_aload_n X.1 X.2.1 d_H_init_9 rfl (lv_at hl 0 rfl) ?_
  refine lv_iload_n X.1 X.2.1 d_H_init_10 rfl (lv_at hl 1 rfl) ?_
  refine hl_newL X hK hh (n := n) (by omega) w_108 (by show 0 + 1 ≤ 1600; omega) (by show 0 + n ≤ 40000; omega) d_H_init_11 (fun lO H hlO hh => ?_)
  obtain ⟨L2, hL2⟩ : ∃ x : List Nat, x = L ++ [lO] := ⟨_, rfl⟩
  obtain ⟨f2, hf2⟩ : ∃ x : Nat → va_E, x = va_up f1 lO (hl_lks g n (fun _ => none)) := ⟨_, rfl⟩
  have hh : hl_H g (hm_A sz L) s.heap L2 f2 H locs := by rw [hL2, hf2]; exact hh
  have ne_hpc_oL : ch ≠ lO := fun e0 => hlO (e0 ▸ hpc1.1)
  have E2 : hl_ext L f1 L2 f2 := by rw [hL2, hf2]; exact hl_ext_new hlO
  have hpc2 := (⟨(E2 _ hpc1.1).1, (E2 _ hpc1.1).2.trans hpc1.2⟩ : ch ∈ L2 ∧ f2 ch = _)
  have oL2 : lO ∈ L2 ∧ f2 lO = hl_lks g n (fun _ => none) := ⟨by rw [hL2]; exact List.mem_append_right _ (List.mem_singleton.2 rfl), by rw [hf2, va_up_self]⟩
  refine hl_putF X hK hh hnm (ref := "CycleGroups$Chain") i_H t_H t_H_ok n_H (ci := 1) rfl 1 (by decide) w_143 rfl rfl rfl hpc2.1 hpc2.2 (by first | rfl | decide) (by first | rfl | decide) (Nat.le_of_ble_eq_true rfl) d_H_init_14 (fun H locs hh => ?_)
  obtain ⟨f3, hf3⟩ : ∃ x : Nat → va_E, x = va_up f2 ch (.inr (1, [.int (nI n), .ref lO, .null])) := ⟨_, rfl⟩
  have hh : hl_H g (hm_A sz L) s.heap L2 f3 H locs := by rw [hf3]; exact hh
  have oL3 := (⟨oL2.1, (congrFun hf3 lO).trans ((va_up_ne _ _ (Ne.symm ne_hpc_oL)).trans oL2.2)⟩ : lO ∈ L2 ∧ f3 lO = _)
  have hpc3 : ch ∈ L2 ∧ f3 ch = .inr (1, [.int (nI n), .ref lO, .null]) := ⟨hpc2.1, by rw [hf3, va_up_self]⟩
  refine lv_aload_n X.1 X.2.1 d_H_init_17 rfl (lv_at hl 0 rfl) ?_
  refine lv_iload_n X.1 X.2.1 d_H_init_18 rfl (lv_at hl 1 rfl) ?_
  refine hl_newI X hK hh (n := n) (by omega) (by show 0 + 1 + 1 ≤ 1600; omega) (by show 0 + n + n ≤ 40000; omega) d_H_init_19 (fun wk H hwk hh => ?_)
  obtain ⟨L4, hL4⟩ : ∃ x : List Nat, x = L2 ++ [wk] := ⟨_, rfl⟩
  obtain ⟨f4, hf4⟩ : ∃ x : Nat → va_E, x = va_up f3 wk (hl_nat g n (fun _ => 0)) := ⟨_, rfl⟩
  have hh : hl_H g (hm_A sz L) s.heap L4 f4 H locs := by rw [hL4, hf4]; exact hh
  have ne_hpc_oW : ch ≠ wk := fun e0 => hwk (e0 ▸ hpc3.1)
  have ne_oL_oW : lO ≠ wk := fun e0 => hwk (e0 ▸ oL3.1)
  have E4 : hl_ext L2 f3 L4 f4 := by rw [hL4, hf4]; exact hl_ext_new hwk
  have hpc4 := (⟨(E4 _ hpc3.1).1, (E4 _ hpc3.1).2.trans hpc3.2⟩ : ch ∈ L4 ∧ f4 ch = _)
  have oL4 := (⟨(E4 _ oL3.1).1, (E4 _ oL3.1).2.trans oL3.2⟩ : lO ∈ L4 ∧ f4 lO = _)
  have oW4 : wk ∈ L4 ∧ f4 wk = hl_nat g n (fun _ => 0) := ⟨by rw [hL4]; exact List.mem_append_right _ (List.mem_singleton.2 rfl), by rw [hf4, va_up_self]⟩
  refine hl_putF X hK hh hnm (ref := "CycleGroups$Chain") i_H t_H t_H_ok n_H (ci := 1) rfl 2 (by decide) w_144 rfl rfl rfl hpc4.1 hpc4.2 (by first | rfl | decide) (by first | rfl | decide) (Nat.le_of_ble_eq_true rfl) d_H_init_21 (fun H locs hh => ?_)
  obtain ⟨f5, hf5⟩ : ∃ x : Nat → va_E, x = va_up f4 ch (.inr (1, [.int (nI n), .ref lO, .ref wk])) := ⟨_, rfl⟩
  have hh : hl_H g (hm_A sz L) s.heap L4 f5 H locs := by rw [hf5]; exact hh
  have oL5 := (⟨oL4.1, (congrFun hf5 lO).trans ((va_up_ne _ _ (Ne.symm ne_hpc_oL)).trans oL4.2)⟩ : lO ∈ L4 ∧ f5 lO = _)
  have oW5 := (⟨oW4.1, (congrFun hf5 wk).trans ((va_up_ne _ _ (Ne.symm ne_hpc_oW)).trans oW4.2)⟩ : wk ∈ L4 ∧ f5 wk = _)
  have hpc5 : ch ∈ L4 ∧ f5 ch = .inr (1, [.int (nI n), .ref lO, .ref wk]) := ⟨hpc4.1, by rw [hf5, va_up_self]⟩
  refine lv_iconst (v := nI 0) X.1 X.2.1 d_H_init_24 (by decide) ?_
  refine lv_istore_n (lv' := [(2, .int (nI 0)), (0, .ref ch), (1, .int (nI n))]) X.1 X.2.1 d_H_init_25 rfl hl (by decide) rfl (fun ls hl => ?_)
  have o1 : ∀ q, q ∈ L → q ≠ lO := fun q h e0 => hlO (e0 ▸ h)
  have o2 : ∀ q, q ∈ L → q ≠ wk := fun q h e0 => hwk (e0 ▸ (E2 q h).1)
  refine W.widen (k := 2 + 66 * 0) (n := 48 + 1607 * 0) (by omega) (by omega) ?_
  refine loop (n + 1) 0 L4 f5 (va_up (va_up T lO 8) wk 9) (fun _ _ _ => 0) lO wk (fun _ => none) (fun _ => 0) (fun _ _ _ => 0) (fun _ _ => 0) (fun _ => 0) (fun _ _ => 0) (fun _ _ => none) (fun _ _ _ => 0) (fun _ => 0) H locs ls (by omega) (by omega) hlO (fun q h => ⟨(E4 q (E2 q h).1).1, ?_⟩) (fun q h hqc => ?_) ⟨hpc5.1, hpc5.2, ?_⟩ ⟨oL5.1, oL5.2, ?_⟩ ⟨oW5.1, oW5.2, va_up_self ..⟩ (fun i hi => absurd hi (Nat.not_lt_zero _)) hh hl
  · rw [va_up_ne _ _ (o2 q h), va_up_ne _ _ (o1 q h)]
  · rw [hf5, va_up_ne _ _ hqc, (E4 q (E2 q h).1).2, hf3, va_up_ne _ _ hqc, (E2 q h).2, hf1, va_up_ne _ _ hqc]
  · rw [va_up_ne _ _ (o2 ch hch), va_up_ne _ _ (o1 ch hch)]; exact hTc
  · rw [va_up_ne _ _ ne_oL_oW, va_up_self]
end

