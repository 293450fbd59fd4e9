/-! The class Link: its cells, and what its methods do, but for the constructor. -/
section
/-- a place that may be wanting, as an int -/
def oI (x : Option Nat) : Int32 := match x with
  | none => -1
  | some k => nI k

/-- the cells of link i: T gives each address a number of its own -/
def lk_tag (i t : Nat) : Prop := ∃ k j, k < 8 ∧ j < 64 ∧ t = 100 + 1536 * k + 64 * i + j

abbrev lk_most (n i : Nat) : Nat := (n - i) * 3 / 2
/-- which cells of kind k link i has -/
def lk_j (n i k j : Nat) : Prop := if k = 2 then j < lk_most n i else if k = 7 then j < n - i else j = 0
theorem lk_j64 {n i k j : Nat} (hn : n ≤ 24) (h : lk_j n i k j) : j < 64 := by
  unfold lk_j at h
  by_cases h2 : k = 2
  · rw [if_pos h2] at h; unfold lk_most at h; omega
  · rw [if_neg h2] at h
    by_cases h7 : k = 7
    · rw [if_pos h7] at h; omega
    · rw [if_neg h7] at h; omega
def lk_T (T : Nat → Nat) (ad : Nat → Nat → Nat → Nat) (n i : Nat) : Prop := ∀ k j, k < 8 → lk_j n i k j → T (ad k i j) = 100 + 1536 * k + 64 * i + j

/-- what the cells of link i hold: gn rows G, their pairs pr, sn places sp, their index ix, the ways back wb -/
def lk_P (g : hl_G) (L : List Nat) (f : Nat → va_E) (ad : Nat → Nat → Nat → Nat) (n i gn : Nat) (G : Nat → Nat → Nat) (pr : Nat → Nat) (sn : Nat) (sp : Nat → Nat) (ix : Nat → Option Nat) (wb : Nat → Nat → Nat) : Prop :=
  (ad 0 i 0 ∈ L ∧ f (ad 0 i 0) = .inr (3, [.ref (ad 1 i 0), .int (nI gn), .ref (ad 3 i 0), .ref (ad 4 i 0), .int (nI sn), .ref (ad 5 i 0), .ref (ad 6 i 0)])) ∧
  (ad 1 i 0 ∈ L ∧ f (ad 1 i 0) = hl_grd g (lk_most n i) (fun j => if j < lk_most n i then some (ad 2 i j) else none)) ∧
  (∀ j, j < lk_most n i → ad 2 i j ∈ L ∧ f (ad 2 i j) = hl_nat g n (G j)) ∧
  (ad 3 i 0 ∈ L ∧ f (ad 3 i 0) = hl_nat g (lk_most n i) pr) ∧
  (ad 4 i 0 ∈ L ∧ f (ad 4 i 0) = hl_nat g (n - i) sp) ∧
  (ad 5 i 0 ∈ L ∧ f (ad 5 i 0) = hl_row g n (fun p => oI (ix p))) ∧
  (ad 6 i 0 ∈ L ∧ f (ad 6 i 0) = hl_grd g (n - i) (fun j => if j < n - i then some (ad 7 i j) else none)) ∧
  (∀ j, j < n - i → ad 7 i j ∈ L ∧ f (ad 7 i j) = hl_nat g n (wb j))

/-- it is well made -/
def lk_W (n i gn : Nat) (G : Nat → Nat → Nat) (pr : Nat → Nat) (sn : Nat) (sp : Nat → Nat) (ix : Nat → Option Nat) (wb : Nat → Nat → Nat) : Prop :=
  n ≤ 24 ∧ i < n ∧ gn ≤ lk_most n i ∧ (∀ j, j < gn → gp_sym (ch_D n i) (G j)) ∧ 0 < sn ∧ sn ≤ n - i ∧ sp 0 = i ∧ (∀ s, s < sn → i ≤ sp s ∧ sp s < n) ∧
  (∀ p, p < n → ∀ s, ix p = some s ↔ s < sn ∧ sp s = p) ∧ (∀ s, s < sn → gp_sym (ch_D n i) (wb s)) ∧ (∀ j, j < gn → pr j ≤ sn)

theorem lk_sym_lt {n i p : Nat} {a : gp_f} (h : gp_sym (ch_D n i) a) (hp : p < n) : a p < n := by
  by_cases hi : i ≤ p
  · exact (ch_D_mem.1 (gp_sym_mem h (ch_D_mem.2 ⟨hi, hp⟩))).2
  · rw [h.2 p (fun hm => hi (ch_D_mem.1 hm).1)]; exact hp

/-- int spreadSize() -/
theorem c_K_spreadSize (l : Launch) (g : hl_G) (sz : Nat) (L : List Nat) (f : Nat → va_E) (ad : Nat → Nat → Nat → Nat) (n i gn : Nat) (G : Nat → Nat → Nat) (pr : Nat → Nat) (sn : Nat) (sp : Nat → Nat) (ix : Nat → Option Nat) (wb : Nat → Nat → Nat)
    (hP : lk_P g L f ad n i gn G pr sn sp ix wb) :
    Met l y_K_spreadSize (hq y_K_spreadSize b_K_spreadSize 1 (some .int)) { frames := 0, cells := 0, slots := 0, locals := 0 } (hm_P g [.ref (ad 0 i 0)] sz L f) (va_Qi (fun r u => r = nI sn ∧ u = (L, f)) (hm_B g sz L) (hm_A sz L)) 0 0 (hm_A sz L) := by
  refine hm_ofW (by decide) (Nat.le_of_ble_eq_true rfl) ?_
  intro p e s m below meth c X hr hlk hnm hK hsz hh ls hl
  have hl : lv_has ls 1 [(0, .ref (ad 0 i 0))] := hl
  obtain ⟨⟨p0, q0⟩, ⟨p1, q1⟩, hg, ⟨p3, q3⟩, ⟨p4, q4⟩, ⟨p5, q5⟩, ⟨p6, q6⟩, hw⟩ := hP
  refine lv_aload_n X.1 X.2.1 d_K_spreadSize_0 rfl (lv_at hl 0 rfl) ?_
  refine hl_get X hK hh (ref := "CycleGroups$Link") i_K (ci := 3) rfl 4 (by decide) w_124 rfl p0 q0 rfl d_K_spreadSize_1 ?_
  exact hm_iret X hr hlk hh ⟨rfl, rfl⟩ (Nat.le_of_ble_eq_true rfl) (Nat.le_of_ble_eq_true rfl) d_K_spreadSize_4

/-- int openGenerator() -/
theorem c_K_openGenerator (l : Launch) (g : hl_G) (sz : Nat) (L : List Nat) (f : Nat → va_E) (ad : Nat → Nat → Nat → Nat) (n i gn : Nat) (G : Nat → Nat → Nat) (pr : Nat → Nat) (sn : Nat) (sp : Nat → Nat) (ix : Nat → Option Nat) (wb : Nat → Nat → Nat)
    (hP : lk_P g L f ad n i gn G pr sn sp ix wb) (hW : lk_W n i gn G pr sn sp ix wb) :
    Met l y_K_openGenerator (hq y_K_openGenerator b_K_openGenerator 2 (some .int)) { frames := 0, cells := 0, slots := 0, locals := 0 } (hm_P g [.ref (ad 0 i 0)] sz L f) (va_Qi (fun r u => ((∃ k, k < gn ∧ pr k < sn ∧ r = nI k) ∨ (r = -1 ∧ ∀ k, k < gn → sn ≤ pr k)) ∧ u = (L, f)) (hm_B g sz L) (hm_A sz L)) 0 0 (hm_A sz L) := by
  refine hm_ofW (by decide) (Nat.le_of_ble_eq_true rfl) ?_
  intro p e s m below meth c X hr hlk hnm hK hsz hh ls hl
  have hl : lv_has ls 2 [(0, .ref (ad 0 i 0))] := hl
  obtain ⟨⟨p0, q0⟩, ⟨p1, q1⟩, hg, ⟨p3, q3⟩, ⟨p4, q4⟩, ⟨p5, q5⟩, ⟨p6, q6⟩, hw⟩ := hP
  obtain ⟨h24, hin, hgn, hG, hsn0, hsn, hsp0, hsp, hix, hwb, hpr⟩ := hW
  have hmo : lk_most n i ≤ 36 := by unfold lk_most; omega
  have loop : ∀ (t j : Nat) (ls : Array Slot), gn + 1 ≤ j + t → j ≤ gn → (∀ k, k < j → sn ≤ pr k) → lv_has ls 2 [(1, .int (nI j)), (0, .ref (ad 0 i 0))] →
      W p l e { frames := 0, cells := 0, slots := 0, locals := 0 } s m #[.ref (ad 0 i 0)] below meth c s.heap [] 0 0 (MQ below (va_Qi (fun r u => ((∃ k, k < gn ∧ pr k < sn ∧ r = nI k) ∨ (r = -1 ∧ ∀ k, k < gn → sn ≤ pr k)) ∧ u = (L, f)) (hm_B g sz L) (hm_A sz L)) #[.ref (ad 0 i 0)] s 0 0 (hm_A sz L)) (F0 m 2 ls []) := by
    intro t
    induction t with
    | zero => intros; omega
    | succ t ih =>
      intro j ls hk hj hd hl
      refine lv_iload_n X.1 X.2.1 d_K_openGenerator_2 rfl (lv_at hl 0 rfl) ?_
      refine lv_aload_n X.1 X.2.1 d_K_openGenerator_3 rfl (lv_at hl 1 rfl) ?_
      refine hl_get X hK hh (ref := "CycleGroups$Link") i_K (ci := 3) rfl 1 (by decide) w_121 rfl p0 q0 rfl d_K_openGenerator_4 ?_
      refine hn_ige (tgt := 31) X (by omega) (by omega) d_K_openGenerator_7 (by decide) (fun hc => ?_) (fun hc => ?_)
      · skip
        refine lv_iconst (v := -1) X.1 X.2.1 d_K_openGenerator_31 (by decide) ?_
        exact hm_iret X hr hlk hh ⟨Or.inr ⟨rfl, fun k hk => hd k (by omega)⟩, rfl⟩ (Nat.le_of_ble_eq_true rfl) (Nat.le_of_ble_eq_true rfl) d_K_openGenerator_32
      · have hcj : j < gn := hc
        have hpj := hpr j hcj
        refine lv_aload_n X.1 X.2.1 d_K_openGenerator_10 rfl (lv_at hl 1 rfl) ?_
        refine hl_get X hK hh (ref := "CycleGroups$Link") i_K (ci := 3) rfl 2 (by decide) w_122 rfl p0 q0 rfl d_K_openGenerator_11 ?_
        refine lv_iload_n X.1 X.2.1 d_K_openGenerator_14 rfl (lv_at hl 0 rfl) ?_
        refine hl_iald X hK hh p3 q3 (by omega) (by omega) d_K_openGenerator_15 ?_
        refine lv_aload_n X.1 X.2.1 d_K_openGenerator_16 rfl (lv_at hl 1 rfl) ?_
        refine hl_get X hK hh (ref := "CycleGroups$Link") i_K (ci := 3) rfl 4 (by decide) w_124 rfl p0 q0 rfl d_K_openGenerator_17 ?_
        refine hn_ige (tgt := 25) X (by omega) (by omega) d_K_openGenerator_20 (by decide) (fun hc => ?_) (fun hc => ?_)
        · skip
          refine lv_iinc (v := nI (j + 1)) (lv' := [(1, .int (nI (j + 1))), (0, .ref (ad 0 i 0))]) X.1 X.2.1 d_K_openGenerator_25 hl (k := 0) rfl (hn_inc _) (by decide) rfl (fun ls hl => ?_)
          refine lv_goto (tgt := 2) X.1 X.2.1 d_K_openGenerator_28 (by decide) ?_
          refine ih (j + 1) ls (by omega) (by omega) (fun k hk2 => ?_) hl
          by_cases e : k = j
          · rw [e]; exact hc
          · exact hd k (by omega)
        · skip
          refine lv_iload_n X.1 X.2.1 d_K_openGenerator_23 rfl (lv_at hl 0 rfl) ?_
          exact hm_iret X hr hlk hh ⟨Or.inl ⟨j, hcj, hc, rfl⟩, rfl⟩ (Nat.le_of_ble_eq_true rfl) (Nat.le_of_ble_eq_true rfl) d_K_openGenerator_24
  refine lv_iconst (v := nI 0) X.1 X.2.1 d_K_openGenerator_0 (by decide) ?_
  refine lv_istore_n (lv' := [(1, .int (nI 0)), (0, .ref (ad 0 i 0))]) X.1 X.2.1 d_K_openGenerator_1 rfl hl (by decide) rfl (fun ls hl => ?_)
  exact loop (gn + 1) 0 ls (by omega) (by omega) (fun k hk => absurd hk (Nat.not_lt_zero _)) hl

/-- boolean undo(int[] row) -/
theorem c_K_undo (l : Launch) (g : hl_G) (sz : Nat) (L : List Nat) (f : Nat → va_E) (T : Nat → Nat) (ad : Nat → Nat → Nat → Nat) (n i gn : Nat) (G : Nat → Nat → Nat) (pr : Nat → Nat) (sn : Nat) (sp : Nat → Nat) (ix : Nat → Option Nat) (wb : Nat → Nat → Nat)
    (hP : lk_P g L f ad n i gn G pr sn sp ix wb) (hW : lk_W n i gn G pr sn sp ix wb) (hT : lk_T T ad n i) (rw0 : Nat) (r : gp_f) (hr0 : rw0 ∈ L) (hfr : f rw0 = hl_nat g n r) (hTr : T rw0 < 100) (hr : gp_sym (ch_D n i) r) :
    Met l y_K_undo (hq y_K_undo b_K_undo 6 (some .boolean)) { frames := 0, cells := 0, slots := 0, locals := 0 } (hm_P g [.ref (ad 0 i 0), .ref rw0] sz L f) (va_Qi (fun v u => (ix (r i) = none ∧ v = nI 0 ∧ u = (L, f)) ∨ (∃ t, ix (r i) = some t ∧ v = nI 1 ∧ u = (L, va_up f rw0 (hl_nat g n (wb t ∘ r))))) (hm_B g sz L) (hm_A sz L)) 0 0 (hm_A sz L) := by
  have hrr := hr
  refine hm_ofW (by decide) (Nat.le_of_ble_eq_true rfl) ?_
  intro p e s m below meth c X hr hlk hnm hK hsz hh ls hl
  have hl : lv_has ls 6 [(0, .ref (ad 0 i 0)), (1, .ref rw0)] := hl
  obtain ⟨⟨p0, q0⟩, ⟨p1, q1⟩, hg, ⟨p3, q3⟩, ⟨p4, q4⟩, ⟨p5, q5⟩, ⟨p6, q6⟩, hw⟩ := hP
  obtain ⟨h24, hin, hgn, hG, hsn0, hsn, hsp0, hsp, hix, hwb, hpr⟩ := hW
  have hri := lk_sym_lt hrr hin
  refine lv_aload_n X.1 X.2.1 d_K_undo_0 rfl (lv_at hl 0 rfl) ?_
  refine hl_get X hK hh (ref := "CycleGroups$Link") i_K (ci := 3) rfl 3 (by decide) w_123 rfl p0 q0 rfl d_K_undo_1 ?_
  refine lv_iconst (v := nI 0) X.1 X.2.1 d_K_undo_4 (by decide) ?_
  refine hl_iald X hK hh p4 q4 (by omega) (by omega) d_K_undo_5 ?_
  rw [hsp0]
  refine lv_istore_n (lv' := [(2, .int (nI i)), (0, .ref (ad 0 i 0)), (1, .ref rw0)]) X.1 X.2.1 d_K_undo_6 rfl hl (by decide) rfl (fun ls hl => ?_)
  refine lv_aload_n X.1 X.2.1 d_K_undo_7 rfl (lv_at hl 1 rfl) ?_
  refine hl_get X hK hh (ref := "CycleGroups$Link") i_K (ci := 3) rfl 5 (by decide) w_125 rfl p0 q0 rfl d_K_undo_8 ?_
  refine lv_aload_n X.1 X.2.1 d_K_undo_11 rfl (lv_at hl 2 rfl) ?_
  refine lv_iload_n X.1 X.2.1 d_K_undo_12 rfl (lv_at hl 0 rfl) ?_
  refine hl_iald X hK hh hr0 hfr (by omega) (by omega) d_K_undo_13 ?_
  refine hl_iald X hK hh p5 q5 (by omega) (by omega) d_K_undo_14 ?_
  refine lv_istore_n (lv' := [(3, .int (oI (ix (r i)))), (2, .int (nI i)), (0, .ref (ad 0 i 0)), (1, .ref rw0)]) X.1 X.2.1 d_K_undo_15 rfl hl (by decide) rfl (fun ls hl => ?_)
  rcases (show ix (r i) = none ∨ ∃ t, ix (r i) = some t by cases ix (r i) <;> simp) with hx | ⟨t, hx⟩
  · have e1 : oI (ix (r i)) = -1 := by rw [hx]; rfl
    rw [e1] at hl
    refine lv_iload_n X.1 X.2.1 d_K_undo_16 rfl (lv_at hl 0 rfl) ?_
    refine lv_if_ge (tgt := 22) X.1 X.2.1 d_K_undo_17 (by decide) (fun hc => ?_) (fun hc => ?_)
    · exact absurd hc (by decide)
    · skip
      refine lv_iconst (v := nI 0) X.1 X.2.1 d_K_undo_20 (by decide) ?_
      exact hm_zret X hr hlk hh (Or.inl rfl) (Or.inl ⟨hx, rfl, rfl⟩) (Nat.le_of_ble_eq_true rfl) (Nat.le_of_ble_eq_true rfl) d_K_undo_21
  · have e1 : oI (ix (r i)) = nI t := by rw [hx]; rfl
    rw [e1] at hl
    obtain ⟨hts, hspt⟩ := (hix (r i) hri t).1 hx
    obtain ⟨hwL, hwf⟩ := hw t (by omega)
    have hwt := hwb t hts
    refine lv_iload_n X.1 X.2.1 d_K_undo_16 rfl (lv_at hl 0 rfl) ?_
    refine lv_if_ge (tgt := 22) X.1 X.2.1 d_K_undo_17 (by decide) (fun hc => ?_) (fun hc => ?_)
    · have loop : ∀ (t2 q : Nat) (y : Nat → Nat) (H : Heap) (locs : List Loc) (ls : Array Slot), n + 1 ≤ q + t2 → q ≤ n → (∀ p, p < q → y p = wb t (r p)) → (∀ p, q ≤ p → y p = r p) →
          hl_H g (hm_A sz L) s.heap L (va_up f rw0 (hl_nat g n y)) H locs → lv_has ls 6 [(5, .int (nI q)), (4, .ref (ad 7 i t)), (3, .int (nI t)), (2, .int (nI i)), (0, .ref (ad 0 i 0)), (1, .ref rw0)] →
          W p l e { frames := 0, cells := 0, slots := 0, locals := 0 } s m #[.ref (ad 0 i 0), .ref rw0] below meth c H locs 0 0 (MQ below (va_Qi (fun v u => (ix (r i) = none ∧ v = nI 0 ∧ u = (L, f)) ∨ (∃ t, ix (r i) = some t ∧ v = nI 1 ∧ u = (L, va_up f rw0 (hl_nat g n (wb t ∘ r))))) (hm_B g sz L) (hm_A sz L)) #[.ref (ad 0 i 0), .ref rw0] s 0 0 (hm_A sz L)) (F0 m 33 ls []) := by
        intro t2
        induction t2 with
        | zero => intros; omega
        | succ t2 ih =>
          intro q y H locs ls hkq hqn hy hy2 hh hl
          refine lv_iload X.1 X.2.1 d_K_undo_33 (lv_at hl 0 rfl) ?_
          refine lv_aload_n X.1 X.2.1 d_K_undo_35 rfl (lv_at hl 5 rfl) ?_
          refine hl_alenI X hK hh hr0 (va_up_self ..) d_K_undo_36 ?_
          refine hn_ige (tgt := 57) X (by omega) (by omega) d_K_undo_37 (by decide) (fun hc => ?_) (fun hc => ?_)
          · have hh := hl_norm (w := fun p => nI ((wb t ∘ r) p)) hh (fun p hp => by rw [hy p (by omega)]; rfl)
            refine lv_iconst (v := nI 1) X.1 X.2.1 d_K_undo_57 (by decide) ?_
            exact hm_zret X hr hlk hh (Or.inr rfl) (Or.inr ⟨t, hx, rfl, rfl⟩) (Nat.le_of_ble_eq_true rfl) (Nat.le_of_ble_eq_true rfl) d_K_undo_58
          · have hyq := hy2 q (Nat.le_refl _)
            have hrq := lk_sym_lt hrr hc
            refine lv_aload_n X.1 X.2.1 d_K_undo_40 rfl (lv_at hl 5 rfl) ?_
            refine lv_iload X.1 X.2.1 d_K_undo_41 (lv_at hl 0 rfl) ?_
            refine lv_aload X.1 X.2.1 d_K_undo_43 (lv_at hl 1 rfl) ?_
            refine lv_aload_n X.1 X.2.1 d_K_undo_45 rfl (lv_at hl 5 rfl) ?_
            refine lv_iload X.1 X.2.1 d_K_undo_46 (lv_at hl 0 rfl) ?_
            refine hl_iald X hK hh hr0 (va_up_self ..) (by omega) (by omega) d_K_undo_48 ?_
            refine hl_iald X hK hh hwL ((va_up_ne _ _ (hl_ne (T := T) (by rw [hT 7 t (by decide) (show t < n - i by omega)]; omega))).trans hwf) (by omega) (by omega) d_K_undo_49 ?_
            refine hl_iastN X hK hh hr0 (va_up_self ..) (by omega) (by omega) d_K_undo_50 (fun H locs hh => ?_)
            rw [hr_uu] at hh
            refine lv_iinc (v := nI (q + 1)) (lv' := [(5, .int (nI (q + 1))), (4, .ref (ad 7 i t)), (3, .int (nI t)), (2, .int (nI i)), (0, .ref (ad 0 i 0)), (1, .ref rw0)]) X.1 X.2.1 d_K_undo_51 hl (k := 0) rfl (hn_inc _) (by decide) rfl (fun ls hl => ?_)
            refine lv_goto (tgt := 33) X.1 X.2.1 d_K_undo_54 (by decide) ?_
            rw [hyq] at hh
            refine ih (q + 1) (va_up y q (wb t (r q))) H locs ls (by omega) (by omega) (fun p hp => ?_) (fun p hp => ?_) hh hl
            · by_cases e : p = q
              · rw [e, va_up_self]
              · rw [va_up_ne _ _ e]; exact hy p (by omega)
            · rw [va_up_ne _ _ (by omega)]; exact hy2 p (by omega)
      refine lv_aload_n X.1 X.2.1 d_K_undo_22 rfl (lv_at hl 2 rfl) ?_
      refine hl_get X hK hh (ref := "CycleGroups$Link") i_K (ci := 3) rfl 6 (by decide) w_126 rfl p0 q0 rfl d_K_undo_23 ?_
      refine lv_iload_n X.1 X.2.1 d_K_undo_26 rfl (lv_at hl 0 rfl) ?_
      refine hl_aaldG X hK hh p6 q6 (by omega) (by omega) (if_pos (by omega)) d_K_undo_27 ?_
      refine lv_astore (lv' := [(4, .ref (ad 7 i t)), (3, .int (nI t)), (2, .int (nI i)), (0, .ref (ad 0 i 0)), (1, .ref rw0)]) X.1 X.2.1 d_K_undo_28 hl (by decide) rfl (fun ls hl => ?_)
      refine lv_iload_n X.1 X.2.1 d_K_undo_30 rfl (lv_at hl 2 rfl) ?_
      refine lv_istore (lv' := [(5, .int (nI i)), (4, .ref (ad 7 i t)), (3, .int (nI t)), (2, .int (nI i)), (0, .ref (ad 0 i 0)), (1, .ref rw0)]) X.1 X.2.1 d_K_undo_31 hl (by decide) rfl (fun ls hl => ?_)
      refine loop (n + 1 - i) i r s.heap [] ls (by omega) (by omega) (fun p hp => ?_) (fun _ _ => rfl) (hl_same hfr hh) hl
      have h1 : r p = p := hrr.2 p (fun hm => by have := ch_D_mem.1 hm; omega)
      have h2 : wb t p = p := hwt.2 p (fun hm => by have := ch_D_mem.1 hm; omega)
      rw [h1, h2]
    · exact absurd (nI_pos' (by omega)) hc
end

