/-! The class Chain: complete, build. -/
section
/-- private void complete() -/
theorem c_H_complete (l : Launch) (g : hl_G) (sz : Nat) (L : List Nat) (f : Nat → va_E) (T : Nat → Nat) (ad : Nat → Nat → Nat → Nat) (n ch lO wk : Nat) (zL : Nat → Option Nat) (gn : Nat → Nat) (G : Nat → Nat → Nat → Nat) (pr : Nat → Nat → Nat) (sn : Nat → Nat) (sp : Nat → Nat → Nat) (ix : Nat → Nat → Option Nat) (wb : Nat → Nat → Nat → Nat) (y : Nat → Nat)
    (hn0 : 0 < n) (hn : n ≤ 24) (hSt : cn_St g L T ad n ch lO wk zL f gn G pr sn sp ix wb y 1) :
    Met l y_H_complete (hq y_H_complete b_H_complete 3 none) { frames := 3, cells := 0, slots := 0, locals := 140 } (hm_P g [.ref ch] sz L f) (va_Qv (fun u => ∃ (f1 : Nat → va_E) (gn1 : Nat → Nat) (G1 : Nat → Nat → Nat → Nat) (pr1 : Nat → Nat → Nat) (sn1 : Nat → Nat) (sp1 : Nat → Nat → Nat) (ix1 : Nat → Nat → Option Nat) (wb1 : Nat → Nat → Nat → Nat) (y1 : Nat → Nat), u = (L, f1) ∧ cn_St g L T ad n ch lO wk zL f1 gn1 G1 pr1 sn1 sp1 ix1 wb1 y1 0 ∧ cn_gs n gn1 G1 0 = cn_gs n gn G 0 ∧ ∀ q, ¬ cn_tag (T q) → f1 q = f q) (hm_B g sz L) (hm_A sz L)) 0 0 (hm_A sz L) := by
  refine hm_ofW (by decide) (Nat.le_of_ble_eq_true rfl) ?_
  intro p e s m below meth c X hr hlk hnm hK hsz hh ls hl
  have hl : lv_has ls 3 [(0, .ref ch)] := hl
  have loop : ∀ (t : Nat) (f1 : Nat → va_E) (gn1 : Nat → Nat) (G1 : Nat → Nat → Nat → Nat) (pr1 : Nat → Nat → Nat) (sn1 : Nat → Nat) (sp1 : Nat → Nat → Nat) (ix1 : Nat → Nat → Option Nat) (wb1 : Nat → Nat → Nat → Nat) (y1 : Nat → Nat) (a k : Nat) (H : Heap) (locs : List Loc) (ls : Array Slot),
      2 * (20736 - cn_mu n gn1 pr1) + a ≤ t → k + (2 * (20736 - cn_mu n gn1 pr1) + a) ≤ 50000 → a ≤ n → cn_St g L T ad n ch lO wk zL f1 gn1 G1 pr1 sn1 sp1 ix1 wb1 y1 a → cn_gs n gn1 G1 0 = cn_gs n gn G 0 → (∀ q, ¬ cn_tag (T q) → f1 q = f q) →
      hl_H g (hm_A sz L) s.heap L f1 H locs → lv_has ls 3 [(2, .int (nI k)), (1, .int (nI a + (-1))), (0, .ref ch)] →
      W p l e { frames := 3, cells := 0, slots := 0, locals := 140 } s m #[.ref ch] below meth c H locs 0 0 (MQ below (va_Qv (fun u => ∃ (f1 : Nat → va_E) (gn1 : Nat → Nat) (G1 : Nat → Nat → Nat → Nat) (pr1 : Nat → Nat → Nat) (sn1 : Nat → Nat) (sp1 : Nat → Nat → Nat) (ix1 : Nat → Nat → Option Nat) (wb1 : Nat → Nat → Nat → Nat) (y1 : Nat → Nat), u = (L, f1) ∧ cn_St g L T ad n ch lO wk zL f1 gn1 G1 pr1 sn1 sp1 ix1 wb1 y1 0 ∧ cn_gs n gn1 G1 0 = cn_gs n gn G 0 ∧ ∀ q, ¬ cn_tag (T q) → f1 q = f q) (hm_B g sz L) (hm_A sz L)) #[.ref ch] s 0 0 (hm_A sz L)) (F0 m 4 ls []) := by
    intro t
    induction t with
    | zero =>
      intro f1 gn1 G1 pr1 sn1 sp1 ix1 wb1 y1 a k H locs ls h1 h2 h3 hSt1 hgs hfr hh hl
      have e0 : a = 0 := by omega
      subst e0
      refine lv_iload_n X.1 X.2.1 d_H_complete_4 rfl (lv_at hl 1 rfl) ?_
      refine lv_if_lt (tgt := 26) X.1 X.2.1 d_H_complete_5 (by decide) (fun hc => ?_) (fun hc => ?_)
      · skip
        exact hm_vret X hr hlk hh ⟨f1, gn1, G1, pr1, sn1, sp1, ix1, wb1, y1, rfl, hSt1, hgs, hfr⟩ (Nat.le_of_ble_eq_true rfl) (Nat.le_of_ble_eq_true rfl) d_H_complete_26
      · exact absurd (show (nI 0 + (-1) : Int32) < 0 by decide) hc
    | succ t ih =>
      intro f1 gn1 G1 pr1 sn1 sp1 ix1 wb1 y1 a k H locs ls h1 h2 h3 hSt1 hgs hfr hh hl
      cases a with
      | zero =>
        refine lv_iload_n X.1 X.2.1 d_H_complete_4 rfl (lv_at hl 1 rfl) ?_
        refine lv_if_lt (tgt := 26) X.1 X.2.1 d_H_complete_5 (by decide) (fun hc => ?_) (fun hc => ?_)
        · skip
          exact hm_vret X hr hlk hh ⟨f1, gn1, G1, pr1, sn1, sp1, ix1, wb1, y1, rfl, hSt1, hgs, hfr⟩ (Nat.le_of_ble_eq_true rfl) (Nat.le_of_ble_eq_true rfl) d_H_complete_26
        · exact absurd (show (nI 0 + (-1) : Int32) < 0 by decide) hc
      | succ a =>
        rw [pk_m1] at hl
        refine lv_iload_n X.1 X.2.1 d_H_complete_4 rfl (lv_at hl 1 rfl) ?_
        refine lv_if_lt (tgt := 26) X.1 X.2.1 d_H_complete_5 (by decide) (fun hc => ?_) (fun hc => ?_)
        · exact absurd hc (nI_pos (by omega))
        · skip
          refine lv_iload_n X.1 X.2.1 d_H_complete_8 rfl (lv_at hl 0 rfl) ?_
          refine lv_ldc (v := nI 1000000) X.1 X.2.1 X.2.2.2.1 (X.2.2.2.2 _ w_184) d_H_complete_9 ?_
          refine hn_ige (tgt := 26) X (by omega) (by omega) d_H_complete_11 (by decide) (fun hc => ?_) (fun hc => ?_)
          · omega
          · skip
            refine lv_aload_n X.1 X.2.1 d_H_complete_14 rfl (lv_at hl 2 rfl) ?_
            refine lv_iload_n X.1 X.2.1 d_H_complete_15 rfl (lv_at hl 1 rfl) ?_
            refine hl_calli hh (hl_runV (k := 1) X hK hh (c_H_advance l g _ L f1 T ad n ch lO wk zL gn1 G1 pr1 sn1 sp1 ix1 wb1 y1 hn a h3 hSt1) wc_H_advance w_185 w_6 wi_H_advance ws_H_advance (by decide +kernel) rfl rfl ⟨Nat.le_of_ble_eq_true rfl, Nat.le_of_ble_eq_true rfl⟩ hSt1.1.1.1 hSt1.1.1.2.1 rfl rfl rfl rfl (Nat.le_of_ble_eq_true rfl) hl.1 d_H_complete_16 ⟨Nat.le_of_ble_eq_true rfl, Nat.le_of_ble_eq_true rfl⟩) (fun r u H locs hp hh => ?_)
            obtain ⟨f2, gn2, G2, pr2, sn2, sp2, ix2, wb2, y2, a2, rfl, rfl, ha2, hSt2, hgs2, hM, hfr2⟩ := hp
            refine lv_istore_n (lv' := [(1, .int (nI a2 + (-1))), (2, .int (nI k)), (0, .ref ch)]) X.1 X.2.1 d_H_complete_19 rfl hl (by decide) rfl (fun ls hl => ?_)
            refine lv_iinc (v := nI (k + 1)) (lv' := [(2, .int (nI (k + 1))), (1, .int (nI a2 + (-1))), (0, .ref ch)]) X.1 X.2.1 d_H_complete_20 hl (k := 1) rfl (hn_inc _) (by decide) rfl (fun ls hl => ?_)
            refine lv_goto (tgt := 4) X.1 X.2.1 d_H_complete_23 (by decide) ?_
            exact ih f2 gn2 G2 pr2 sn2 sp2 ix2 wb2 y2 a2 (k + 1) H locs ls (by omega) (by omega) ha2 hSt2 (hgs2.trans hgs) (fun q hq => (hfr2 q hq).trans (hfr q hq)) hh (lv_sub hl [0, 1, 2] rfl)
  have hl1 : ∀ ls : Array Slot, lv_has ls 3 [(2, .int (nI 0)), (1, .int (nI 0)), (0, .ref ch)] → lv_has ls 3 [(2, .int (nI 0)), (1, .int (nI 1 + (-1))), (0, .ref ch)] := fun ls h => by
    have e1 : (nI 1 + (-1) : Int32) = nI 0 := by decide
    rw [e1]; exact h
  refine lv_iconst (v := nI 0) X.1 X.2.1 d_H_complete_0 (by decide) ?_
  refine lv_istore_n (lv' := [(1, .int (nI 0)), (0, .ref ch)]) X.1 X.2.1 d_H_complete_1 rfl hl (by decide) rfl (fun ls hl => ?_)
  refine lv_iconst (v := nI 0) X.1 X.2.1 d_H_complete_2 (by decide) ?_
  refine lv_istore_n (lv' := [(2, .int (nI 0)), (1, .int (nI 0)), (0, .ref ch)]) X.1 X.2.1 d_H_complete_3 rfl hl (by decide) rfl (fun ls hl => ?_)
  exact loop 41473 f gn G pr sn sp ix wb y 1 0 s.heap [] ls (by omega) (by omega) hn0 hSt rfl (fun q _ => rfl) hh (hl1 ls hl)

/-- the chain of no rows -/
theorem ch_empty {n : Nat} {sp : Nat → Nat → Nat} {wb : Nat → Nat → gp_f} {gs : Nat → List gp_f} {pr : Nat → Nat → Nat} {sn : Nat → Nat} (hgs : ∀ i, i ≤ n → gs i = []) (hsn : ∀ i, i < n → sn i = 1) (hsp : ∀ i, i < n → sp i 0 = i) (hwb : ∀ i, i < n → wb i 0 = id) : ch_inv n gs pr sn sp wb 0 := by
  refine ⟨⟨hgs n (Nat.le_refl n), fun i hi => ⟨⟨?_, ?_, hsp i hi, hwb i hi, ?_, ?_⟩, ?_, ?_, ?_⟩⟩, ?_, ?_⟩
  · rw [hgs i (Nat.le_of_lt hi)]; intro g hg; exact absurd hg (List.not_mem_nil)
  · rw [hsn i hi]; decide
  · intro s hs
    rw [hsn i hi] at hs
    have e0 : s = 0 := by omega
    subst e0
    rw [hwb i hi]
    exact ⟨gp_gen_id, hsp i hi⟩
  · intro s t hs ht _
    rw [hsn i hi] at hs ht
    omega
  · rw [hgs i (Nat.le_of_lt hi)]
    intro k g hk
    simp at hk
  · rw [hgs (i + 1) hi]; intro g hg; exact absurd hg (List.not_mem_nil)
  · rw [hgs i (Nat.le_of_lt hi)]
    intro k g hk
    simp at hk
  · intro i _ hi
    rw [show ch_done gs pr sn i = ∀ k g, (gs i)[k]? = some g → sn i ≤ pr i k from rfl, hgs i (Nat.le_of_lt hi)]
    intro k g hk
    simp at hk
  · intro i hi
    rw [hgs i (Nat.le_of_lt hi)]
    exact gp_gen_sg (D := []) List.nodup_nil (fun t ht => absurd ht (List.not_mem_nil))

/-- a link's well made again when it is cleared -/
theorem lk_W_clear {n i gn : Nat} {G : Nat → Nat → Nat} {pr : Nat → Nat} {sn : Nat} {sp : Nat → Nat} {ix : Nat → Option Nat} {wb : Nat → Nat → Nat} (h : lk_W n i gn G pr sn sp ix wb) :
    lk_W n i 0 G pr 1 sp (fun p => if p = i then some 0 else none) wb := by
  obtain ⟨h1, h2, h3, h4, h5, h6, h7, h8, h9, h10, h11⟩ := h
  refine ⟨h1, h2, Nat.zero_le _, fun j hj => absurd hj (Nat.not_lt_zero _), by decide, by omega, h7, fun s hs => h8 s (by omega), fun p hp s => ?_, fun s hs => h10 s (by omega), fun j hj => absurd hj (Nat.not_lt_zero _)⟩
  show (if p = i then some 0 else none) = some s ↔ s < 1 ∧ sp s = p
  by_cases e : p = i
  · rw [if_pos e]
    constructor
    · intro e2
      cases e2
      exact ⟨by decide, by rw [h7, e]⟩
    · rintro ⟨hs, _⟩
      have e2 : s = 0 := by omega
      rw [e2]
  · rw [if_neg e]
    constructor
    · intro e2; cases e2
    · rintro ⟨hs, e2⟩
      have e3 : s = 0 := by omega
      rw [e3, h7] at e2
      exact absurd e2.symm e

/-- the first c of the moves -/
abbrev mv_T (mv : Nat → gp_f) (c : Nat) : gp_f → Prop := fun h => ∃ i, i < c ∧ h = mv i

/-- void build(int[][] moves, int count) -/
theorem c_H_build (l : Launch) (g : hl_G) (sz : Nat) (L : List Nat) (f : Nat → va_E) (T : Nat → Nat) (ad : Nat → Nat → Nat → Nat) (n ch lO wk : Nat) (zL : Nat → Option Nat) (gn : Nat → Nat) (G : Nat → Nat → Nat → Nat) (pr : Nat → Nat → Nat) (sn : Nat → Nat) (sp : Nat → Nat → Nat) (ix : Nat → Nat → Option Nat) (wb : Nat → Nat → Nat → Nat) (y : Nat → Nat)
    (hn0 : 0 < n) (hn : n ≤ 24) (hC : cn_P g L f T ad n ch lO wk zL gn G pr sn sp ix wb y) (hW : cn_W n gn G pr sn sp ix wb) (hid : ∀ i, i < n → wb i 0 = id)
    (mO cn : Nat) (zM : Nat → Option Nat) (mR : Nat → Nat) (mv : Nat → Nat → Nat) (hmO : mO ∈ L) (hfm : f mO = hl_grd g 10 zM) (hTm : T mO = 1) (hcn : cn ≤ 10) (hrows : hl_rows g L f n zM mR mv cn) (hTr : ∀ i, i < cn → T (mR i) = 10 + i) (hmv : ∀ i, i < cn → gp_sym (ch_D n 0) (mv i)) :
    Met l y_H_build (hq y_H_build b_H_build 4 none) { frames := 4, cells := 0, slots := 0, locals := 170 } (hm_P g [.ref ch, .ref mO, .int (nI cn)] sz L f) (va_Qv (fun u => ∃ (f1 : Nat → va_E) (gn1 : Nat → Nat) (G1 : Nat → Nat → Nat → Nat) (pr1 : Nat → Nat → Nat) (sn1 : Nat → Nat) (sp1 : Nat → Nat → Nat) (ix1 : Nat → Nat → Option Nat) (wb1 : Nat → Nat → Nat → Nat) (y1 : Nat → Nat), u = (L, f1) ∧ cn_St g L T ad n ch lO wk zL f1 gn1 G1 pr1 sn1 sp1 ix1 wb1 y1 0 ∧ (∀ x, ch_G (cn_gs n gn1 G1 0) x ↔ gp_gen (mv_T mv cn) x) ∧ ∀ q, ¬ cn_tag (T q) → f1 q = f q) (hm_B g sz L) (hm_A sz L)) 0 0 (hm_A sz L) := by
  refine hm_ofW (by decide) (Nat.le_of_ble_eq_true rfl) ?_
  intro p e s m below meth c X hr hlk hnm hK hsz hh ls hl
  have hl : lv_has ls 4 [(0, .ref ch), (1, .ref mO), (2, .int (nI cn))] := hl
  have nt : ∀ q, T q < 9 ∨ (10 ≤ T q ∧ T q < 100) → ¬ cn_tag (T q) := by
    intro q hq ht
    rcases ht with ht | ⟨i, _, ht⟩
    · omega
    · have := lk_tag_lt ht; omega
  have loop2 : ∀ (t c0 : Nat) (f1 : Nat → va_E) (gn1 : Nat → Nat) (G1 : Nat → Nat → Nat → Nat) (pr1 : Nat → Nat → Nat) (sn1 : Nat → Nat) (sp1 : Nat → Nat → Nat) (ix1 : Nat → Nat → Option Nat) (wb1 : Nat → Nat → Nat → Nat) (y1 : Nat → Nat) (H : Heap) (locs : List Loc) (ls : Array Slot),
      cn + 1 ≤ c0 + t → c0 ≤ cn → cn_St g L T ad n ch lO wk zL f1 gn1 G1 pr1 sn1 sp1 ix1 wb1 y1 0 → gn1 0 ≤ c0 → (∀ x, ch_G (cn_gs n gn1 G1 0) x ↔ gp_gen (mv_T mv c0) x) → (∀ q, ¬ cn_tag (T q) → f1 q = f q) →
      hl_H g (hm_A sz L) s.heap L f1 H locs → lv_has ls 4 [(3, .int (nI c0)), (0, .ref ch), (1, .ref mO), (2, .int (nI cn))] →
      W p l e { frames := 4, cells := 0, slots := 0, locals := 170 } s m #[.ref ch, .ref mO, .int (nI cn)] below meth c H locs 0 0 (MQ below (va_Qv (fun u => ∃ (f1 : Nat → va_E) (gn1 : Nat → Nat) (G1 : Nat → Nat → Nat → Nat) (pr1 : Nat → Nat → Nat) (sn1 : Nat → Nat) (sp1 : Nat → Nat → Nat) (ix1 : Nat → Nat → Option Nat) (wb1 : Nat → Nat → Nat → Nat) (y1 : Nat → Nat), u = (L, f1) ∧ cn_St g L T ad n ch lO wk zL f1 gn1 G1 pr1 sn1 sp1 ix1 wb1 y1 0 ∧ (∀ x, ch_G (cn_gs n gn1 G1 0) x ↔ gp_gen (mv_T mv cn) x) ∧ ∀ q, ¬ cn_tag (T q) → f1 q = f q) (hm_B g sz L) (hm_A sz L)) #[.ref ch, .ref mO, .int (nI cn)] s 0 0 (hm_A sz L)) (F0 m 27 ls []) := by
    intro t
    induction t with
    | zero => intros; omega
    | succ t ih =>
      intro c0 f1 gn1 G1 pr1 sn1 sp1 ix1 wb1 y1 H locs ls hk hc0 hSt hg0 hgr hfr hh hl
      refine lv_iload_n X.1 X.2.1 d_H_build_27 rfl (lv_at hl 0 rfl) ?_
      refine lv_iload_n X.1 X.2.1 d_H_build_28 rfl (lv_at hl 3 rfl) ?_
      refine hn_ige (tgt := 69) X (by omega) (by omega) d_H_build_29 (by decide) (fun hc => ?_) (fun hc => ?_)
      · have e0 : c0 = cn := by omega
        subst e0
        exact hm_vret X hr hlk hh ⟨f1, gn1, G1, pr1, sn1, sp1, ix1, wb1, y1, rfl, hSt, hgr, hfr⟩ (Nat.le_of_ble_eq_true rfl) (Nat.le_of_ble_eq_true rfl) d_H_build_69
      · have hlt : c0 < cn := hc
        obtain ⟨hM, hRL, hRf⟩ := hrows c0 hlt
        have hTc := hTr c0 hlt
        have hσ := hmv c0 hlt
        have hRf1 : f1 (mR c0) = hl_nat g n (mv c0) := (hfr _ (nt _ (by omega))).trans hRf
        have hfm1 : f1 mO = hl_grd g 10 zM := (hfr _ (nt _ (by omega))).trans hfm
        obtain ⟨hC1, hW1, hI1⟩ := hSt
        have hok := hI1.1
        have hC10 := hC1
        obtain ⟨⟨a1, a2, a3⟩, ⟨b1, b2, b3⟩, ⟨c1, c2, c3⟩, hlks⟩ := hC1
        have hsg0 := ch_sg hok (Nat.zero_le n)
        refine lv_aload_n X.1 X.2.1 d_H_build_32 rfl (lv_at hl 1 rfl) ?_
        refine lv_aload_n X.1 X.2.1 d_H_build_33 rfl (lv_at hl 2 rfl) ?_
        refine lv_iload_n X.1 X.2.1 d_H_build_34 rfl (lv_at hl 0 rfl) ?_
        refine hl_aaldG X hK hh hmO hfm1 (by omega) (by omega) hM d_H_build_35 ?_
        refine hl_calli hh (hl_runV (k := 1) X hK hh (c_H_failingPlace l g _ L f1 T ad n ch lO wk zL gn1 G1 pr1 sn1 sp1 ix1 wb1 y1 hn hC10 hW1 hok (mR c0) (mv c0) hRL hRf1 (hl_ne (T := T) (by omega)) hσ) wc_H_failingPlace w_160 w_6 wi_H_failingPlace ws_H_failingPlace (by decide +kernel) rfl rfl ⟨Nat.le_of_ble_eq_true rfl, Nat.le_of_ble_eq_true rfl⟩ a1 a2 rfl rfl rfl rfl (Nat.le_of_ble_eq_true rfl) hl.1 d_H_build_36 ⟨Nat.le_of_ble_eq_true rfl, Nat.le_of_ble_eq_true rfl⟩) (fun r u H locs hp hh => ?_)
        obtain ⟨j, x, hjn, rfl, hx, rfl, hfix, hstop⟩ := hp
        obtain ⟨x1, hx1G, hxi⟩ := hsg0.2.2 x hx
        have hback : x1 ∘ (x ∘ mv c0) = mv c0 := by
          funext p
          exact hxi.2 _
        have hC2 := cn_work hn hC10 (x ∘ mv c0)
        obtain ⟨⟨_, d2, _⟩, ⟨_, e2, _⟩, ⟨_, g2, _⟩, hl2⟩ := id hC2
        have hfr2 : ∀ q, ¬ cn_tag (T q) → va_up f1 wk (hl_nat g n (x ∘ mv c0)) q = f q := by
          intro q hq
          rw [va_up_ne _ _ (hl_ne (T := T) (by rw [c3]; exact fun e0 => hq (Or.inl e0)))]
          exact hfr q hq
        obtain ⟨z5, t5, l5⟩ := hl2 0 hn0
        refine lv_aload_n X.1 X.2.1 d_H_build_39 rfl (lv_at hl 1 rfl) ?_
        refine hl_get X hK hh (ref := "CycleGroups$Chain") i_H (ci := 1) rfl 0 (by decide) w_142 rfl a1 d2 rfl d_H_build_40 ?_
        refine hn_ige (tgt := 63) X (by omega) (by omega) d_H_build_43 (by decide) (fun hc => ?_) (fun hc => ?_)
        · have e0 : j = n := by omega
          subst e0
          have hin : ch_G (cn_gs j gn1 G1 0) (mv c0) := by
            have hxid : x ∘ mv c0 = id := by
              funext p
              by_cases hp2 : p < j
              · exact hfix p hp2
              · have h1 : mv c0 p = p := hσ.2 p (fun hm => hp2 (ch_D_mem.1 hm).2)
                have h2 := (ch_in_sym hok (Nat.zero_le j) x hx).2 p (fun hm => hp2 (ch_D_mem.1 hm).2)
                show x (mv c0 p) = p
                rw [h1, h2]
            rw [hxid] at hback
            rw [← hback]
            exact hx1G
          refine lv_iinc (v := nI (c0 + 1)) (lv' := [(3, .int (nI (c0 + 1))), (0, .ref ch), (1, .ref mO), (2, .int (nI cn))]) X.1 X.2.1 d_H_build_63 hl (k := 0) rfl (hn_inc _) (by decide) rfl (fun ls hl => ?_)
          refine lv_goto (tgt := 27) X.1 X.2.1 d_H_build_66 (by decide) ?_
          refine ih (c0 + 1) _ gn1 G1 pr1 sn1 sp1 ix1 wb1 _ H locs ls (by omega) (by omega) ⟨hC2, hW1, hI1⟩ (by omega) (fun z => ?_) hfr2 hh (lv_sub hl [0, 1, 2, 3] rfl)
          rw [hgr z]
          constructor
          · exact gp_gen_mono (fun h ⟨i, hi, e⟩ => ⟨i, by omega, e⟩) z
          · refine gp_gen_sub (fun h ⟨i, hi, e⟩ => ?_) z
            by_cases ei : i = c0
            · rw [e, ei]; exact (hgr _).1 hin
            · exact gp_gen_mem ⟨i, by omega, e⟩
        · have hjlt : j < n := hc
          have hrS : gp_sym (ch_D n 0) (x ∘ mv c0) := (gp_sym_sg _).2.1 _ _ (ch_in_sym hok (Nat.zero_le n) x hx) hσ
          have hnr : ¬ ch_G (cn_gs n gn1 G1 0) (x ∘ mv c0) := by
            intro hin
            have huin : ch_G (cn_gs n gn1 G1 0) (mv c0) := by
              rw [← hback]; exact gp_gen_comp hx1G hin
            exact ch_fails hok (fun i h1 h2 => hI1.2.1 i h1 h2) (Nat.zero_le j) hjlt hx (fun p _ hp => hfix p hp) (hstop hjlt) ⟨_, huin, fun _ _ _ => rfl⟩
          have hI2 := ch_add hI1 hn0 hrS hnr (fun i hi => by omega)
          rw [cn_gs_len hn0] at hI2
          have hgm : gn1 0 < lk_most n 0 := by
            by_cases h24 : n < 24
            · have hmost := ch_most hI2 hn hn0 (Or.inr h24)
              rw [va_up_self, List.length_append, cn_gs_len hn0] at hmost
              exact hmost
            · unfold lk_most; omega
          rw [← cn_gs_add hn0] at hI2
          refine lv_aload_n X.1 X.2.1 d_H_build_46 rfl (lv_at hl 1 rfl) ?_
          refine hl_get X hK hh (ref := "CycleGroups$Chain") i_H (ci := 1) rfl 1 (by decide) w_143 rfl a1 d2 rfl d_H_build_47 ?_
          refine lv_iconst (v := nI 0) X.1 X.2.1 d_H_build_50 (by decide) ?_
          refine hl_aaldL X hK hh b1 e2 (by omega) (by omega) z5 d_H_build_51 ?_
          refine lv_aload_n X.1 X.2.1 d_H_build_52 rfl (lv_at hl 1 rfl) ?_
          refine hl_get X hK hh (ref := "CycleGroups$Chain") i_H (ci := 1) rfl 2 (by decide) w_144 rfl a1 d2 rfl d_H_build_53 ?_
          refine hl_callv hh (hl_runV (k := 1) X hK hh (c_K_addGenerator l g _ L _ T ad n 0 (gn1 0) (G1 0) (pr1 0) (sn1 0) (sp1 0) (ix1 0) (wb1 0) l5 hn t5 hgm wk _ c1 g2 c3) wc_K_addGenerator w_175 w_7 wi_K_addGenerator ws_K_addGenerator (by decide +kernel) rfl rfl ⟨Nat.le_of_ble_eq_true rfl, Nat.le_of_ble_eq_true rfl⟩ l5.1.1 l5.1.2 rfl rfl rfl rfl (Nat.le_of_ble_eq_true rfl) hl.1 d_H_build_56 ⟨Nat.le_of_ble_eq_true rfl, Nat.le_of_ble_eq_true rfl⟩) (fun u H locs hp hh => ?_)
          obtain ⟨f3, rfl, hP3, hfr3⟩ := hp
          have hC3 := cn_link hn hC2 hn0 hP3 hfr3
          have hW3 := cn_W_link hW1 (lk_W_add (hW1 0 hn0) hgm hrS)
          simp only [hr_id] at hC3 hW3
          refine lv_aload_n X.1 X.2.1 d_H_build_59 rfl (lv_at hl 1 rfl) ?_
          refine hl_callv hh (hl_runV (k := 0) X hK hh (c_H_complete l g _ L f3 T ad n ch lO wk zL _ _ _ sn1 sp1 ix1 wb1 _ hn0 hn ⟨hC3, hW3, hI2⟩) wc_H_complete w_180 w_6 wi_H_complete ws_H_complete (by decide +kernel) rfl rfl ⟨Nat.le_of_ble_eq_true rfl, Nat.le_of_ble_eq_true rfl⟩ a1 hC3.1.2.1 rfl rfl rfl rfl (Nat.le_of_ble_eq_true rfl) hl.1 d_H_build_60 ⟨Nat.le_of_ble_eq_true rfl, Nat.le_of_ble_eq_true rfl⟩) (fun u H locs hp hh => ?_)
          obtain ⟨f4, gn4, G4, pr4, sn4, sp4, ix4, wb4, y4, rfl, hSt4, hgs4, hfr4⟩ := hp
          refine lv_iinc (v := nI (c0 + 1)) (lv' := [(3, .int (nI (c0 + 1))), (0, .ref ch), (1, .ref mO), (2, .int (nI cn))]) X.1 X.2.1 d_H_build_63 hl (k := 0) rfl (hn_inc _) (by decide) rfl (fun ls hl => ?_)
          refine lv_goto (tgt := 27) X.1 X.2.1 d_H_build_66 (by decide) ?_
          have hg4 : gn4 0 ≤ c0 + 1 := by
            have h1 := congrArg List.length hgs4
            rw [cn_gs_len hn0, cn_gs_len hn0, va_up_self] at h1
            omega
          refine ih (c0 + 1) f4 gn4 G4 pr4 sn4 sp4 ix4 wb4 y4 H locs ls (by omega) (by omega) hSt4 hg4 (fun z => ?_) (fun q hq => (hfr4 q hq).trans ((hfr3 q (fun ht => hq (Or.inr ⟨0, by decide, ht⟩))).trans (hfr2 q hq))) hh (lv_sub hl [0, 1, 2, 3] rfl)
          rw [hgs4, cn_gs_add hn0, va_up_self]
          constructor
          · refine gp_gen_sub (fun h hm => ?_) z
            have old : ∀ w, ch_G (cn_gs n gn1 G1 0) w → gp_gen (mv_T mv (c0 + 1)) w := fun w hw => gp_gen_mono (fun h ⟨i, hi, e⟩ => ⟨i, by omega, e⟩) w ((hgr w).1 hw)
            rcases List.mem_append.1 hm with hm | hm
            · exact old h (gp_gen_mem hm)
            · rw [List.mem_singleton.1 hm]
              exact gp_gen_comp (old x hx) (gp_gen_mem ⟨c0, by omega, rfl⟩)
          · have new : ∀ w, ch_G (cn_gs n gn1 G1 0) w → gp_gen (fun h => h ∈ cn_gs n gn1 G1 0 ++ [x ∘ mv c0]) w := fun w hw => gp_gen_mono (fun h hm => List.mem_append_left _ hm) w hw
            refine gp_gen_sub (fun h ⟨i, hi, e⟩ => ?_) z
            by_cases ei : i = c0
            · rw [e, ei]
              have h1 : gp_gen (fun h => h ∈ cn_gs n gn1 G1 0 ++ [x ∘ mv c0]) (x1 ∘ (x ∘ mv c0)) := gp_gen_comp (new x1 hx1G) (gp_gen_mem (List.mem_append_right _ (List.mem_singleton.2 rfl)))
              rw [hback] at h1
              exact h1
            · exact new h ((hgr h).2 (gp_gen_mem ⟨i, by omega, e⟩))
  have loop1 : ∀ (t i : Nat) (f1 : Nat → va_E) (gn1 : Nat → Nat) (sn1 : Nat → Nat) (ix1 : Nat → Nat → Option Nat) (H : Heap) (locs : List Loc) (ls : Array Slot),
      n + 1 ≤ i + t → i ≤ n → cn_P g L f1 T ad n ch lO wk zL gn1 G pr sn1 sp ix1 wb y → cn_W n gn1 G pr sn1 sp ix1 wb → (∀ k, k < i → gn1 k = 0 ∧ sn1 k = 1) → (∀ q, ¬ cn_tag (T q) → f1 q = f q) →
      hl_H g (hm_A sz L) s.heap L f1 H locs → lv_has ls 4 [(3, .int (nI i)), (0, .ref ch), (1, .ref mO), (2, .int (nI cn))] →
      W p l e { frames := 4, cells := 0, slots := 0, locals := 170 } s m #[.ref ch, .ref mO, .int (nI cn)] below meth c H locs 0 0 (MQ below (va_Qv (fun u => ∃ (f1 : Nat → va_E) (gn1 : Nat → Nat) (G1 : Nat → Nat → Nat → Nat) (pr1 : Nat → Nat → Nat) (sn1 : Nat → Nat) (sp1 : Nat → Nat → Nat) (ix1 : Nat → Nat → Option Nat) (wb1 : Nat → Nat → Nat → Nat) (y1 : Nat → Nat), u = (L, f1) ∧ cn_St g L T ad n ch lO wk zL f1 gn1 G1 pr1 sn1 sp1 ix1 wb1 y1 0 ∧ (∀ x, ch_G (cn_gs n gn1 G1 0) x ↔ gp_gen (mv_T mv cn) x) ∧ ∀ q, ¬ cn_tag (T q) → f1 q = f q) (hm_B g sz L) (hm_A sz L)) #[.ref ch, .ref mO, .int (nI cn)] s 0 0 (hm_A sz L)) (F0 m 2 ls []) := by
    intro t
    induction t with
    | zero => intros; omega
    | succ t ih =>
      intro i f1 gn1 sn1 ix1 H locs ls hk hin hC1 hW1 hcl hfr hh hl
      have hC10 := hC1
      obtain ⟨⟨a1, a2, a3⟩, ⟨b1, b2, b3⟩, ⟨c1, c2, c3⟩, hlks⟩ := hC1
      refine lv_iload_n X.1 X.2.1 d_H_build_2 rfl (lv_at hl 0 rfl) ?_
      refine lv_aload_n X.1 X.2.1 d_H_build_3 rfl (lv_at hl 1 rfl) ?_
      refine hl_get X hK hh (ref := "CycleGroups$Chain") i_H (ci := 1) rfl 0 (by decide) w_142 rfl a1 a2 rfl d_H_build_4 ?_
      refine hn_ige (tgt := 25) X (by omega) (by omega) d_H_build_7 (by decide) (fun hc => ?_) (fun hc => ?_)
      · have e0 : i = n := by omega
        subst e0
        have hI : ch_inv i (cn_gs i gn1 G) pr sn1 sp wb 0 := ch_empty (fun k hk => by
          unfold cn_gs
          by_cases h : k < i
          · rw [if_pos h, (hcl k h).1]; rfl
          · rw [if_neg h]) (fun k hk => (hcl k hk).2) (fun k hk => (hW k hk).2.2.2.2.2.2.1) hid
        refine lv_iconst (v := nI 0) X.1 X.2.1 d_H_build_25 (by decide) ?_
        refine lv_istore_n (lv' := [(3, .int (nI 0)), (0, .ref ch), (1, .ref mO), (2, .int (nI cn))]) X.1 X.2.1 d_H_build_26 rfl hl (by decide) rfl (fun ls hl => ?_)
        refine loop2 (cn + 1) 0 f1 gn1 G pr sn1 sp ix1 wb y H locs ls (by omega) (by omega) ⟨hC10, hW1, hI⟩ (by rw [(hcl 0 hn0).1]; exact Nat.le_refl _) (fun x => ?_) hfr hh hl
        have e1 : cn_gs i gn1 G 0 = [] := by
          unfold cn_gs
          rw [if_pos hn0, (hcl 0 hn0).1]; rfl
        rw [e1]
        constructor
        · exact gp_gen_sub (fun h hm => absurd hm (List.not_mem_nil)) x
        · exact gp_gen_sub (fun h ⟨k, hk, _⟩ => absurd hk (Nat.not_lt_zero _)) x
      · have hlt : i < n := hc
        obtain ⟨z1, t1, l1⟩ := hlks i hlt
        refine lv_aload_n X.1 X.2.1 d_H_build_10 rfl (lv_at hl 1 rfl) ?_
        refine hl_get X hK hh (ref := "CycleGroups$Chain") i_H (ci := 1) rfl 1 (by decide) w_143 rfl a1 a2 rfl d_H_build_11 ?_
        refine lv_iload_n X.1 X.2.1 d_H_build_14 rfl (lv_at hl 0 rfl) ?_
        refine hl_aaldL X hK hh b1 b2 (by omega) (by omega) z1 d_H_build_15 ?_
        refine hl_callv hh (hl_runV (k := 0) X hK hh (c_K_clear l g _ L f1 T ad n i (gn1 i) (G i) (pr i) (sn1 i) (sp i) (ix1 i) (wb i) l1 (hW1 i hlt) t1) wc_K_clear w_156 w_7 wi_K_clear ws_K_clear (by decide +kernel) rfl rfl ⟨Nat.le_of_ble_eq_true rfl, Nat.le_of_ble_eq_true rfl⟩ l1.1.1 l1.1.2 rfl rfl rfl rfl (Nat.le_of_ble_eq_true rfl) hl.1 d_H_build_16 ⟨Nat.le_of_ble_eq_true rfl, Nat.le_of_ble_eq_true rfl⟩) (fun u H locs hp hh => ?_)
        obtain ⟨f2, rfl, hP2, hfr2⟩ := hp
        have hC2 := cn_link hn hC10 hlt hP2 hfr2
        have hW2 := cn_W_link hW1 (lk_W_clear (hW1 i hlt))
        simp only [hr_id] at hC2 hW2
        refine lv_iinc (v := nI (i + 1)) (lv' := [(3, .int (nI (i + 1))), (0, .ref ch), (1, .ref mO), (2, .int (nI cn))]) X.1 X.2.1 d_H_build_19 hl (k := 0) rfl (hn_inc _) (by decide) rfl (fun ls hl => ?_)
        refine lv_goto (tgt := 2) X.1 X.2.1 d_H_build_22 (by decide) ?_
        refine ih (i + 1) f2 _ _ _ H locs ls (by omega) (by omega) hC2 hW2 (fun k hk2 => ?_) (fun q hq => (hfr2 q (fun ht => hq (Or.inr ⟨i, by omega, ht⟩))).trans (hfr q hq)) hh hl
        by_cases e0 : k = i
        · rw [e0, va_up_self, va_up_self]; exact ⟨rfl, rfl⟩
        · rw [va_up_ne _ _ e0, va_up_ne _ _ e0]; exact hcl k (by omega)
  refine lv_iconst (v := nI 0) X.1 X.2.1 d_H_build_0 (by decide) ?_
  refine lv_istore_n (lv' := [(3, .int (nI 0)), (0, .ref ch), (1, .ref mO), (2, .int (nI cn))]) X.1 X.2.1 d_H_build_1 rfl hl (by decide) rfl (fun ls hl => ?_)
  exact loop1 (n + 1) 0 f gn sn ix s.heap [] ls (by omega) (by omega) hC hW (fun k hk => absurd hk (Nat.not_lt_zero _)) (fun q _ => rfl) hh hl
end

