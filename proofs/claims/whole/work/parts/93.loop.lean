/-! The law's loop. -/
section
theorem nI_5 (i : Nat) : nI i + Int32.ofInt 5 = nI (i + 5) := by
  show Int32.ofNat i + Int32.ofNat 5 = Int32.ofNat (i + 5)
  rw [Int32.ofNat_add]
theorem law_loop {p : Program} {l : Launch} {e : Env} {s : State} {m : MethodId} {below : List Frame} {meth : Method} {c : Code} {b0 N : Nat} {xs : Nat → Int32} (g : hl_G) (hN : N ≤ 2561) (X : CallFix p m c code 4 s #[Value.ref b0] tg "CycleGroupsLaw") (hK : hl_K g s) (hX : va_X b0 N xs s s.heap) (hbl : b0 < s.heap.size) (hr : meth.sig.returnType = ret) (hlocks : meth.locks = false) (b d : Nat → Nat) (n : Nat) :
    ∀ (t i : Nat), N + 7 ≤ i + t → 1 ≤ i → i ≤ N + 1 → ∀ (L : List Nat) (f : Nat → va_E) (T : Nat → Nat) (mm sm : Nat) (mv st : Nat → Nat → Nat) (made : Bool) (H : Heap) (locs : List Loc) (ls : Array Slot), lw_J g s L f T b d n mm sm mv st made H locs → lv_has ls 4 [(3, .int (nI i)), (2, .ref (d 0)), (1, .ref (b 0)), (0, .ref b0)] → W p l e room_1 s m #[Value.ref b0] below meth c H locs (lw_c made) (lw_s made) (lw_Z below #[Value.ref b0] s) (F0 m 28 ls []) := by
  intro t
  induction t with
  | zero => intros; omega
  | succ t ih =>
    intro i hit hi1 hiN L f T mm sm mv st made H locs ls hJ hl
    obtain ⟨hC, hM, hh⟩ := id hJ
    have hbA : ¬ (fun q : Nat => s.heap.size ≤ q) b0 := Nat.not_le.mpr hbl
    have fin : ∀ (ls : Array Slot), W p l e room_1 s m #[Value.ref b0] below meth c H locs (lw_c made) (lw_s made) (lw_Z below #[Value.ref b0] s) (F0 m 649 ls []) := by
      intro ls
      refine lv_iconst (v := 1) X.1 X.2.1 d_L_law_649 (by decide) ?_
      refine va_forget (fun q hq => hh.2.2.1.2.2 q hq) ?_
      refine W.widen (k := 600000) (n := 7302250) (lw_le made).1 (lw_le made).2 ?_
      exact lw_ret X.1 X.2.1 hr hlocks d_L_law_650
    have nxt : i + 5 ≤ N → ∀ (L : List Nat) (f : Nat → va_E) (T : Nat → Nat) (mm sm : Nat) (mv st : Nat → Nat → Nat) (made : Bool) (H : Heap) (locs : List Loc) (ls : Array Slot), lw_J g s L f T b d n mm sm mv st made H locs → lv_has ls 4 [(3, .int (nI i)), (2, .ref (d 0)), (1, .ref (b 0)), (0, .ref b0)] → W p l e room_1 s m #[Value.ref b0] below meth c H locs (lw_c made) (lw_s made) (lw_Z below #[Value.ref b0] s) (F0 m 643 ls []) := by
      intro hi L f T mm sm mv st made H locs ls hJ hl
      refine lv_iinc (v := nI (i + 5)) (lv' := [(3, .int (nI (i + 5))), (2, .ref (d 0)), (1, .ref (b 0)), (0, .ref b0)]) X.1 X.2.1 d_L_law_643 hl (k := 0) rfl (nI_5 i) (by decide) rfl (fun ls hl => ?_)
      refine lv_goto (tgt := 28) X.1 X.2.1 d_L_law_646 (by decide) ?_
      exact ih (i + 5) (by omega) (by omega) (by omega) L f T mm sm mv st made H locs ls hJ hl
    refine lv_iload_n X.1 X.2.1 d_L_law_28 rfl (lv_at hl 0 rfl) ?_
    refine lv_aload_n X.1 X.2.1 d_L_law_29 rfl (lv_at hl 3 rfl) ?_
    refine va_slen X.1 X.2.1 hX hbl hbA hh.2.2.1 d_L_law_30 ?_
    by_cases h5 : 5 ≤ N
    · skip
      refine lv_iconst (v := nI 5) X.1 X.2.1 d_L_law_31 (by decide) ?_
      refine hn_sub X (by omega) d_L_law_32 ?_
      refine hn_igt (tgt := 649) X (by omega) (by omega) d_L_law_33 (by decide) (fun hc => ?_) (fun hc => ?_)
      · exact fin _
      have hi : i + 5 ≤ N := by omega
      refine lv_aload_n X.1 X.2.1 d_L_law_36 rfl (lv_at hl 3 rfl) ?_
      refine lv_iload_n X.1 X.2.1 d_L_law_37 rfl (lv_at hl 0 rfl) ?_
      refine va_sld X.1 X.2.1 hX hbl hbA hh.2.2.1 (vp_in_nI (by omega) (by omega)) d_L_law_38 ?_
      refine lv_bipush (v := nI 31) X.1 X.2.1 d_L_law_39 (by decide) ?_
      refine lv_iand X.1 X.2.1 d_L_law_41 ?_
      refine lv_topi (fun v ev => ?_)
      by_cases ho : v.toInt < 0 ∨ 17 < v.toInt
      · refine lv_tableOut X.1 X.2.1 d_L_law_42 ho (tgt := 643) (by decide) ?_
        exact nxt hi L f T mm sm mv st made H locs _ hJ hl
      rcases (show v.toInt = 0 ∨ v.toInt = 1 ∨ v.toInt = 2 ∨ v.toInt = 3 ∨ v.toInt = 4 ∨ v.toInt = 5 ∨ v.toInt = 6 ∨ v.toInt = 7 ∨ v.toInt = 8 ∨ v.toInt = 9 ∨ v.toInt = 10 ∨ v.toInt = 11 ∨ v.toInt = 12 ∨ v.toInt = 13 ∨ v.toInt = 14 ∨ v.toInt = 15 ∨ v.toInt = 16 ∨ v.toInt = 17 by omega) with h | h | h | h | h | h | h | h | h | h | h | h | h | h | h | h | h | h
      · refine lv_tableIn X.1 X.2.1 d_L_law_42 (tgt := 128) (off := 86) (by omega) (by omega) (by rw [h]; rfl) (by decide) ?_
        exact law_move g hN X hK hX hbl b d n i hi (nxt hi) L f T mm sm mv st made H locs _ hJ hl
      · refine lv_tableIn X.1 X.2.1 d_L_law_42 (tgt := 141) (off := 99) (by omega) (by omega) (by rw [h]; rfl) (by decide) ?_
        exact law_cycle g hN X hK hX hbl b d n i hi (nxt hi) L f T mm sm mv st made H locs _ hJ hl
      · refine lv_tableIn X.1 X.2.1 d_L_law_42 (tgt := 184) (off := 142) (by omega) (by omega) (by rw [h]; rfl) (by decide) ?_
        exact law_run g hN X hK hX hbl b d n i hi (nxt hi) L f T mm sm mv st made H locs _ hJ hl
      · refine lv_tableIn X.1 X.2.1 d_L_law_42 (tgt := 197) (off := 155) (by omega) (by omega) (by rw [h]; rfl) (by decide) ?_
        exact law_base g hN X hK hX hbl b d n i hi (nxt hi) L f T mm sm mv st made H locs _ hJ hl
      · refine lv_tableIn X.1 X.2.1 d_L_law_42 (tgt := 220) (off := 178) (by omega) (by omega) (by rw [h]; rfl) (by decide) ?_
        exact law_spread g hN X hK hX hbl b d n i hi (nxt hi) L f T mm sm mv st made H locs _ hJ hl
      · refine lv_tableIn X.1 X.2.1 d_L_law_42 (tgt := 243) (off := 201) (by omega) (by omega) (by rw [h]; rfl) (by decide) ?_
        exact law_order g hN X hK hX hbl b d n i hi (nxt hi) L f T mm sm mv st made H locs _ hJ hl
      · refine lv_tableIn X.1 X.2.1 d_L_law_42 (tgt := 266) (off := 224) (by omega) (by omega) (by rw [h]; rfl) (by decide) ?_
        exact law_stabiliser g hN X hK hX hbl b d n i hi (nxt hi) L f T mm sm mv st made H locs _ hJ hl
      · refine lv_tableIn X.1 X.2.1 d_L_law_42 (tgt := 299) (off := 257) (by omega) (by omega) (by rw [h]; rfl) (by decide) ?_
        exact law_orbit g hN X hK hX hbl b d n i hi (nxt hi) L f T mm sm mv st made H locs _ hJ hl
      · refine lv_tableIn X.1 X.2.1 d_L_law_42 (tgt := 322) (off := 280) (by omega) (by omega) (by rw [h]; rfl) (by decide) ?_
        exact law_block g hN X hK hX hbl b d n i hi (nxt hi) L f T mm sm mv st made H locs _ hJ hl
      · refine lv_tableIn X.1 X.2.1 d_L_law_42 (tgt := 355) (off := 313) (by omega) (by omega) (by rw [h]; rfl) (by decide) ?_
        exact law_state g hN X hK hX hbl b d n i hi (nxt hi) L f T mm sm mv st made H locs _ hJ hl
      · refine lv_tableIn X.1 X.2.1 d_L_law_42 (tgt := 368) (off := 326) (by omega) (by omega) (by rw [h]; rfl) (by decide) ?_
        exact law_apply g hN X hK hX hbl b d n i hi (nxt hi) L f T mm sm mv st made H locs _ hJ hl
      · refine lv_tableIn X.1 X.2.1 d_L_law_42 (tgt := 401) (off := 359) (by omega) (by omega) (by rw [h]; rfl) (by decide) ?_
        exact law_exchange g hN X hK hX hbl b d n i hi (nxt hi) L f T mm sm mv st made H locs _ hJ hl
      · refine lv_tableIn X.1 X.2.1 d_L_law_42 (tgt := 444) (off := 402) (by omega) (by omega) (by rw [h]; rfl) (by decide) ?_
        exact law_scramble g hN X hK hX hbl b d n i hi (nxt hi) L f T mm sm mv st made H locs _ hJ hl
      · refine lv_tableIn X.1 X.2.1 d_L_law_42 (tgt := 517) (off := 475) (by omega) (by omega) (by rw [h]; rfl) (by decide) ?_
        exact law_image g hN X hK hX hbl b d n i hi (nxt hi) L f T mm sm mv st made H locs _ hJ hl
      · refine lv_tableIn X.1 X.2.1 d_L_law_42 (tgt := 550) (off := 508) (by omega) (by omega) (by rw [h]; rfl) (by decide) ?_
        exact law_member g hN X hK hX hbl b d n i hi (nxt hi) L f T mm sm mv st made H locs _ hJ hl
      · refine lv_tableIn X.1 X.2.1 d_L_law_42 (tgt := 573) (off := 531) (by omega) (by omega) (by rw [h]; rfl) (by decide) ?_
        exact law_level g hN X hK hX hbl b d n i hi (nxt hi) L f T mm sm mv st made H locs _ hJ hl
      · refine lv_tableIn X.1 X.2.1 d_L_law_42 (tgt := 596) (off := 554) (by omega) (by omega) (by rw [h]; rfl) (by decide) ?_
        exact law_parity g hN X hK hX hbl b d n i hi (nxt hi) L f T mm sm mv st made H locs _ hJ hl
      · refine lv_tableIn X.1 X.2.1 d_L_law_42 (tgt := 619) (off := 577) (by omega) (by omega) (by rw [h]; rfl) (by decide) ?_
        exact law_times g hN X hK hX hbl b d n i hi (nxt hi) L f T mm sm mv st made H locs _ hJ hl
    · skip
      refine lv_iconst (v := nI 5) X.1 X.2.1 d_L_law_31 (by decide) ?_
      refine lv_isub X.1 X.2.1 d_L_law_32 ?_
      refine lv_icmp_gt (tgt := 649) X.1 X.2.1 d_L_law_33 (by decide) (fun hc => ?_) (fun hc => ?_)
      · exact fin _
      · have hneg : nI N - nI 5 < 0 := by
          rcases (show N = 0 ∨ N = 1 ∨ N = 2 ∨ N = 3 ∨ N = 4 by omega) with h | h | h | h | h <;> rw [h] <;> decide
        exact absurd (Int32.lt_of_lt_of_le hneg (Int32.not_lt.1 (nI_pos (by omega)))) hc

end

