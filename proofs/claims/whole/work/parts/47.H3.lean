/-! The class Chain: complete, build. -/
section
/-- private void complete() -/
theorem c_H_complete (l : Launch) (g : hl_G) (sz : Nat) (L : List Nat) (f : Nat → va_E) (T : Nat → Nat) (ad : Nat → Nat → Nat → Nat) (n ch lO wk : Nat) (zL : Nat → Option Nat) (gn : Nat → Nat) (G : Nat → Nat → Nat → Nat) (pr : Nat → Nat → Nat) (sn : Nat → Nat) (sp : Nat → Nat → Nat) (ix : Nat → Nat → Option Nat) (wb : Nat → Nat → Nat → Nat) (y : Nat → Nat)
    (hn0 : 0 < n) (hn : n ≤ 24) (hSt : cn_St g L T ad n ch lO wk zL f gn G pr sn sp ix wb y 1) :
    Met l y_H_complete (hq y_H_complete b_H_complete 3 none) { frames := 3, cells := 0, slots := 0, locals := 140 } (hm_P g [.ref ch] sz L f) (va_Qv (fun u => ∃ (f1 : Nat → va_E) (gn1 : Nat → Nat) (G1 : Nat → Nat → Nat → Nat) (pr1 : Nat → Nat → Nat) (sn1 : Nat → Nat) (sp1 : Nat → Nat → Nat) (ix1 : Nat → Nat → Option Nat) (wb1 : Nat → Nat → Nat → Nat) (y1 : Nat → Nat), u = (L, f1) ∧ cn_St g L T ad n ch lO wk zL f1 gn1 G1 pr1 sn1 sp1 ix1 wb1 y1 0 ∧ cn_gs n gn1 G1 0 = cn_gs n gn G 0 ∧ ∀ q, ¬ cn_tag (T q) → f1 q = f q) (hm_B g sz L) (hm_A sz L)) 0 0 (hm_A sz L) := by
  refine hm_ofW (by decide) (Nat.le_of_ble_eq_true rfl) ?_
  intro p e s m below meth c X hr hlk hnm hK hsz hh ls hl
  have hl : lv_has ls 3 [(0, .ref ch)] := hl
  have loop : ∀ (t : Nat) (f1 : Nat → va_E) (gn1 : Nat → Nat) (G1 : Nat → Nat → Nat → Nat) (pr1 : Nat → Nat → Nat) (sn1 : Nat → Nat) (sp1 : Nat → Nat → Nat) (ix1 : Nat → Nat → Option Nat) (wb1 : Nat → Nat → Nat → Nat) (y1 : Nat → Nat) (a k : Nat) (H : Heap) (locs : List Loc) (ls : Array Slot),
      2 * (20736 - cn_mu n gn1 pr1) + a ≤ t → k + (2 * (20736 - cn_mu n gn1 pr1) + a) ≤ 50000 → a ≤ n → cn_St g L T ad n ch lO wk zL f1 gn1 G1 pr1 sn1 sp1 ix1 wb1 y1 a → cn_gs n gn1 G1 0 = cn_gs n gn G 0 → (∀ q, ¬ cn_tag (T q) → f1 q = f q) →
      hl_H g (hm_A sz L) s.heap L f1 H locs → lv_has ls 3 [(2, .int (nI k)), (1, .int (nI a + (-1))), (0, .ref ch)] →
      W p l e { frames := 3, cells := 0, slots := 0, locals := 140 } s m #[.ref ch] below meth c H locs 0 0 (MQ below (va_Qv (fun u => ∃ (f1 : Nat → va_E) (gn1 : Nat → Nat) (G1 : Nat → Nat → Nat → Nat) (pr1 : Nat → Nat → Nat) (sn1 : Nat → Nat) (sp1 : Nat → Nat → Nat) (ix1 : Nat → Nat → Option Nat) (wb1 : Nat → Nat → Nat → Nat) (y1 : Nat → Nat), u = (L, f1) ∧ cn_St g L T ad n ch lO wk zL f1 gn1 G1 pr1 sn1 sp1 ix1 wb1 y1 0 ∧ cn_gs n gn1 G1 0 = cn_gs n gn G 0 ∧ ∀ q, ¬ cn_tag (T q) → f1 q = f q) (hm_B g sz L) (hm_A sz L)) #[.ref ch] s 0 0 (hm_A sz L)) (F0 m 4 ls []) := by
    intro t
    induction t with
    | zero =>
      intro f1 gn1 G1 pr1 sn1 sp1 ix1 wb1 y1 a k H locs ls h1 h2 h3 hSt1 hgs hfr hh hl
      have e0 : a = 0 := by omega
      subst e0
      refine lv_iload_n X.1 X.2.1 d_H_complete_4 rfl (lv_at hl 1 rfl) ?_
      refine lv_if_lt (tgt := 26) X.1 X.2.1 d_H_complete_5 (by decide) (fun hc => ?_) (fun hc => ?_)
      · skip
        exact hm_vret X hr hlk hh ⟨f1, gn1, G1, pr1, sn1, sp1, ix1, wb1, y1, rfl, hSt1, hgs, hfr⟩ (Nat.le_of_ble_eq_true rfl) (Nat.le_of_ble_eq_true rfl) d_H_complete_26
      · exact absurd (show (nI 0 + (-1) : Int32) < 0 by decide) hc
    | succ t ih =>
      intro f1 gn1 G1 pr1 sn1 sp1 ix1 wb1 y1 a k H locs ls h1 h2 h3 hSt1 hgs hfr hh hl
      cases a with
      | zero =>
        refine lv_iload_n X.1 X.2.1 d_H_complete_4 rfl (lv_at hl 1 rfl) ?_
        refine lv_if_lt (tgt := 26) X.1 X.2.1 d_H_complete_5 (by decide) (fun hc => ?_) (fun hc => ?_)
        · skip
          exact hm_vret X hr hlk hh ⟨f1, gn1, G1, pr1, sn1, sp1, ix1, wb1, y1, rfl, hSt1, hgs, hfr⟩ (Nat.le_of_ble_eq_true rfl) (Nat.le_of_ble_eq_true rfl) d_H_complete_26
        · exact absurd (show (nI 0 + (-1) : Int32) < 0 by decide) hc
      | succ a =>
        rw [pk_m1] at hl
        refine lv_iload_n X.1 X.2.1 d_H_complete_4 rfl (lv_at hl 1 rfl) ?_
        refine lv_if_lt (tgt := 26) X.1 X.2.1 d_H_complete_5 (by decide) (fun hc => ?_) (fun hc => ?_)
        · exact absurd hc (nI_pos (by omega))
        · skip
          refine lv_iload_n X.1 X.2.1 d_H_complete_8 rfl (lv_at hl 0 rfl) ?_
          refine lv_ldc (v := nI 1000000) X.1 X.2.1 X.2.2.2.1 (X.2.2.2.2 _ w_184) d_H_complete_9 ?_
          refine hn_ige (tgt := 26) X (by omega) (by omega) d_H_complete_11 (by decide) (fun hc => ?_) (fun hc => ?_)
          · omega
          · skip
            refine lv_aload_n X.1 X.2.1 d_H_complete_14 rfl (lv_at hl 2 rfl) ?_
            refine lv_iload_n X.1 X.2.1 d_H_complete_15 rfl (lv_at hl 1 rfl) ?_
            refine hl_calli hh (hl_runV (k := 1) X hK hh (c_H_advance l g _ L f1 T ad n ch lO wk zL gn1 G1 pr1 sn1 sp1 ix1 wb1 y1 hn a h3 hSt1) wc_H_advance w_185 w_6 wi_H_advance ws_H_advance (by decide +kernel) rfl rfl ⟨Nat.le_of_ble_eq_true rfl, Nat.le_of_ble_eq_true rfl⟩ hSt1.1.1.1 hSt1.1.1.2.1 rfl rfl rfl rfl (Nat.le_of_ble_eq_true rfl) hl.1 d_H_complete_16 ⟨Nat.le_of_ble_eq_true rfl, Nat.le_of_ble_eq_true rfl⟩) (fun r u H locs hp hh => ?_)
            obtain ⟨f2, gn2, G2, pr2, sn2, sp2, ix2, wb2, y2, a2, rfl, rfl, ha2, hSt2, hgs2, hM, hfr2⟩ := hp
            refine lv_istore_n (lv' := [(1, .int (nI a2 + (-1))), (2, .int (nI k)), (0, .ref ch)]) X.1 X.2.1 d_H_complete_19 rfl hl (by decide) rfl (fun ls hl => ?_)
            refine lv_iinc (v := nI (k + 1)) (lv' := [(2, .int (nI (k + 1))), (1, .int (nI a2 + (-1))), (0, .ref ch)]) X.1 X.2.1 d_H_complete_20 hl (k := 1) rfl (hn_inc _) (by decide) rfl (fun ls hl => ?_)
            refine lv_goto (tgt := 4) X.1 X.2.1 d_H_complete_23 (by decide) ?_
            exact ih f2 gn2 G2 pr2 sn2 sp2 ix2 wb2 y2 a2 (k + 1) H locs ls (by omega) (by omega) ha2 hSt2 (hgs2.trans hgs) (fun q hq => (hfr2 q hq).trans (hfr q hq)) hh (lv_sub hl [0, 1, 2] rfl)
  have hl1 : ∀ ls : Array Slot, lv_has ls 3 [(2, .int (nI 0)), (1, .int (nI 0)), (0, .ref ch)] → lv_has ls 3 [(2, .int (nI 0)), (1, .int (nI 1 + (-1))), (0, .ref ch)] := fun ls h => by
    have e1 : (nI 1 + (-1) : Int32) = nI 0 := by decide
    rw [e1]; exact h
  refine lv_iconst (v := nI 0) X.1 X.2.1 d_H_complete_0 (by decide) ?_
  refine lv_istore_n (lv' := [(1, .int (nI 0)), (0, .ref ch)]) X.1 X.2.1 d_H_complete_1 rfl hl (by decide) rfl (fun ls hl => ?_)
  refine lv_iconst (v := nI 0) X.1 X.2.1 d_H_complete_2 (by decide) ?_
  refine lv_istore_n (lv' := [(2, .int (nI 0)), (1, .int (nI 0)), (0, .ref ch)]) X.1 X.2.1 d_H_complete_3 rfl hl (by decide) rfl (fun ls hl => ?_)
  exact loop 41473 f gn G pr sn sp ix wb y 1 0 s.heap [] ls (by omega) (by omega) hn0 hSt rfl (fun q _ => rfl) hh (hl1 ls hl)

/-- the chain of no rows -/
theorem ch_empty {n : Nat} {sp : Nat → Nat → Nat} {wb : Nat → Nat → gp_f} {gs : Nat → List gp_f} {pr : Nat → Nat → Nat} {sn : Nat → Nat} (hgs : ∀ i, i ≤ n → gs i = []) (hsn : ∀ i, i < n → sn i = 1) (hsp : ∀ i, i < n → sp i 0 = i) (hwb : ∀ i, i < n → wb i 0 = id)
    (hpr : ∀ i, i < n → ∀ k, pr i k ≤ 1) : ch_inv n gs pr sn sp wb 0 := by
  refine ⟨⟨hgs n (Nat.le_refl n), fun i hi => ⟨⟨?_, ?_, hsp i hi, hwb i hi, ?_, ?_⟩, ?_, ?_, ?_⟩⟩, ?_, ?_⟩
  · rw [hgs i (Nat.le_of_lt hi)]; intro g hg; exact absurd hg (List.not_mem_nil)
  · rw [hsn i hi]; decide
  · intro s hs
    rw [hsn i hi] at hs
    have e0 : s = 0 := by omega
    subst e0
    rw [hwb i hi]
    exact ⟨gp_gen_id, hsp i hi⟩
  · intro s t hs ht _
    rw [hsn i hi] at hs ht
    omega
  · rw [hgs i (Nat.le_of_lt hi)]
    intro k g hk
    simp at hk
  · rw [hgs (i + 1) hi]; intro g hg; exact absurd hg (List.not_mem_nil)
  · rw [hsn i hi]; exact hpr i hi
  · intro i _ hi
    rw [show ch_done gs pr sn i = ∀ k g, (gs i)[k]? = some g → sn i ≤ pr i k from rfl, hgs i (Nat.le_of_lt hi)]
    intro k g hk
    simp at hk
  · intro i hi
    rw [hgs i (Nat.le_of_lt hi)]
    exact gp_gen_sg (D := []) List.nodup_nil (fun t ht => absurd ht (List.not_mem_nil))
end

