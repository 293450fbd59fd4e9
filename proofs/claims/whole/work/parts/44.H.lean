/-! The class Chain: its cells; spreadSize, siftWork, failingPlace. -/
section
/-- the rows of link i as a list; none from n on -/
def cn_gs (n : Nat) (gn : Nat → Nat) (G : Nat → Nat → gp_f) (i : Nat) : List gp_f := if i < n then (List.range (gn i)).map (G i) else []

theorem cn_gs_len {n : Nat} {gn : Nat → Nat} {G : Nat → Nat → gp_f} {i : Nat} (hi : i < n) : (cn_gs n gn G i).length = gn i := by
  unfold cn_gs
  rw [if_pos hi, List.length_map, List.length_range]

theorem cn_gs_at {n : Nat} {gn : Nat → Nat} {G : Nat → Nat → gp_f} {i k : Nat} (hi : i < n) (hk : k < gn i) : (cn_gs n gn G i)[k]? = some (G i k) := by
  unfold cn_gs
  rw [if_pos hi, List.getElem?_map, List.getElem?_range hk]
  rfl

theorem cn_gs_of {n : Nat} {gn : Nat → Nat} {G : Nat → Nat → gp_f} {i k : Nat} {x : gp_f} (hi : i < n) (h : (cn_gs n gn G i)[k]? = some x) : k < gn i ∧ x = G i k := by
  have hk : k < gn i := by
    have := (List.getElem?_eq_some_iff.1 h).1
    rw [cn_gs_len hi] at this
    exact this
  rw [cn_gs_at hi hk] at h
  exact ⟨hk, (Option.some.inj h).symm⟩

/-- the cells of the chain at ch: its links' and its own -/
def cn_P (g : hl_G) (L : List Nat) (f : Nat → va_E) (T : Nat → Nat) (ad : Nat → Nat → Nat → Nat) (n ch lO wk : Nat) (zL : Nat → Option Nat) (gn : Nat → Nat) (G : Nat → Nat → Nat → Nat) (pr : Nat → Nat → Nat) (sn : Nat → Nat) (sp : Nat → Nat → Nat) (ix : Nat → Nat → Option Nat) (wb : Nat → Nat → Nat → Nat) (y : Nat → Nat) : Prop :=
  (ch ∈ L ∧ f ch = .inr (1, [.int (nI n), .ref lO, .ref wk]) ∧ T ch = 7) ∧ (lO ∈ L ∧ f lO = hl_lks g n zL ∧ T lO = 8) ∧ (wk ∈ L ∧ f wk = hl_nat g n y ∧ T wk = 9) ∧
  ∀ i, i < n → zL i = some (ad 0 i 0) ∧ lk_T T ad n i ∧ lk_P g L f ad n i (gn i) (G i) (pr i) (sn i) (sp i) (ix i) (wb i)

/-- all its links are well made -/
def cn_W (n : Nat) (gn : Nat → Nat) (G : Nat → Nat → Nat → Nat) (pr : Nat → Nat → Nat) (sn : Nat → Nat) (sp : Nat → Nat → Nat) (ix : Nat → Nat → Option Nat) (wb : Nat → Nat → Nat → Nat) : Prop :=
  ∀ i, i < n → lk_W n i (gn i) (G i) (pr i) (sn i) (sp i) (ix i) (wb i)

section
variable {g : hl_G} {L : List Nat} {f : Nat → va_E} {T : Nat → Nat} {ad : Nat → Nat → Nat → Nat} {n ch lO wk : Nat} {zL : Nat → Option Nat} {gn : Nat → Nat} {G : Nat → Nat → Nat → Nat} {pr : Nat → Nat → Nat} {sn : Nat → Nat} {sp : Nat → Nat → Nat} {ix : Nat → Nat → Option Nat} {wb : Nat → Nat → Nat → Nat} {y : Nat → Nat}
/-- the work row changed -/
theorem cn_work (hn : n ≤ 24) (h : cn_P g L f T ad n ch lO wk zL gn G pr sn sp ix wb y) (y1 : Nat → Nat) : cn_P g L (va_up f wk (hl_nat g n y1)) T ad n ch lO wk zL gn G pr sn sp ix wb y1 := by
  obtain ⟨⟨a1, a2, a3⟩, ⟨b1, b2, b3⟩, ⟨c1, c2, c3⟩, hl⟩ := h
  refine ⟨⟨a1, (va_up_ne _ _ (hl_ne (T := T) (by omega))).trans a2, a3⟩, ⟨b1, (va_up_ne _ _ (hl_ne (T := T) (by omega))).trans b2, b3⟩, ⟨c1, va_up_self .., c3⟩, fun i hi => ?_⟩
  obtain ⟨h1, h2, h3⟩ := hl i hi
  exact ⟨h1, h2, lk_congr hn h3 h2 (fun q hq => va_up_ne _ _ (hl_ne (T := T) (by have := lk_tag_lt hq; omega)))⟩

/-- a link changed, and nothing else -/
theorem cn_link (hn : n ≤ 24) (h : cn_P g L f T ad n ch lO wk zL gn G pr sn sp ix wb y) {i : Nat} (hi : i < n) {f1 : Nat → va_E} {gn1 : Nat} {G1 : Nat → Nat → Nat} {pr1 : Nat → Nat} {sn1 : Nat} {sp1 : Nat → Nat} {ix1 : Nat → Option Nat} {wb1 : Nat → Nat → Nat}
    (h1 : lk_P g L f1 ad n i gn1 G1 pr1 sn1 sp1 ix1 wb1) (hf : ∀ q, ¬ lk_tag i (T q) → f1 q = f q) :
    cn_P g L f1 T ad n ch lO wk zL (va_up gn i gn1) (va_up G i G1) (va_up pr i pr1) (va_up sn i sn1) (va_up sp i sp1) (va_up ix i ix1) (va_up wb i wb1) y := by
  obtain ⟨⟨a1, a2, a3⟩, ⟨b1, b2, b3⟩, ⟨c1, c2, c3⟩, hl⟩ := h
  have nt : ∀ q, T q < 100 → f1 q = f q := fun q hq => hf q (fun ht => by have := lk_tag_lt ht; omega)
  refine ⟨⟨a1, (nt ch (by omega)).trans a2, a3⟩, ⟨b1, (nt lO (by omega)).trans b2, b3⟩, ⟨c1, (nt wk (by omega)).trans c2, c3⟩, fun j hj => ?_⟩
  obtain ⟨e1, e2, e3⟩ := hl j hj
  by_cases e : j = i
  · subst e
    simp only [va_up_self]
    exact ⟨e1, e2, h1⟩
  · simp only [va_up_ne _ _ e]
    refine ⟨e1, e2, lk_congr hn e3 e2 (fun q hq => hf q (fun hq2 => ?_))⟩
    obtain ⟨k, a, ha, hb, e4⟩ := hq
    obtain ⟨k', a', ha', hb', e5⟩ := hq2
    omega
end

/-- int spreadSize(int i) -/
theorem c_H_spreadSize (l : Launch) (g : hl_G) (sz : Nat) (L : List Nat) (f : Nat → va_E) (T : Nat → Nat) (ad : Nat → Nat → Nat → Nat) (n ch lO wk : Nat) (zL : Nat → Option Nat) (gn : Nat → Nat) (G : Nat → Nat → Nat → Nat) (pr : Nat → Nat → Nat) (sn : Nat → Nat) (sp : Nat → Nat → Nat) (ix : Nat → Nat → Option Nat) (wb : Nat → Nat → Nat → Nat) (y : Nat → Nat)
    (hn : n ≤ 24) (hC : cn_P g L f T ad n ch lO wk zL gn G pr sn sp ix wb y) (i : Nat) (hi : i < n) :
    Met l y_H_spreadSize (hq y_H_spreadSize b_H_spreadSize 2 (some .int)) { frames := 1, cells := 0, slots := 0, locals := 30 } (hm_P g [.ref ch, .int (nI i)] sz L f) (va_Qi (fun r u => r = nI (sn i) ∧ u = (L, f)) (hm_B g sz L) (hm_A sz L)) 0 0 (hm_A sz L) := by
  refine hm_ofW (by decide) (Nat.le_of_ble_eq_true rfl) ?_
  intro p e s m below meth c X hr hlk hnm hK hsz hh ls hl
  have hl : lv_has ls 2 [(0, .ref ch), (1, .int (nI i))] := hl
  obtain ⟨⟨a1, a2, a3⟩, ⟨b1, b2, b3⟩, ⟨c1, c2, c3⟩, hlks⟩ := hC
  obtain ⟨z1, t1, l1⟩ := hlks i hi
  refine lv_aload_n X.1 X.2.1 d_H_spreadSize_0 rfl (lv_at hl 0 rfl) ?_
  refine hl_get X hK hh (ref := "CycleGroups$Chain") i_H (ci := 1) rfl 1 (by decide) w_143 rfl a1 a2 rfl d_H_spreadSize_1 ?_
  refine lv_iload_n X.1 X.2.1 d_H_spreadSize_4 rfl (lv_at hl 1 rfl) ?_
  refine hl_aaldL X hK hh b1 b2 (by omega) (by omega) z1 d_H_spreadSize_5 ?_
  refine hl_calli hh (hl_runV (k := 0) X hK hh (c_K_spreadSize l g _ L f ad n i (gn i) (G i) (pr i) (sn i) (sp i) (ix i) (wb i) l1) wc_K_spreadSize w_205 w_7 wi_K_spreadSize ws_K_spreadSize (by decide +kernel) rfl rfl ⟨Nat.le_of_ble_eq_true rfl, Nat.le_of_ble_eq_true rfl⟩ l1.1.1 l1.1.2 rfl rfl rfl rfl (Nat.le_of_ble_eq_true rfl) hl.1 d_H_spreadSize_6 ⟨Nat.le_of_ble_eq_true rfl, Nat.le_of_ble_eq_true rfl⟩) (fun r u H locs hp hh => ?_)
  obtain ⟨rfl, rfl⟩ := hp
  exact hm_iret X hr hlk hh ⟨rfl, rfl⟩ (Nat.le_of_ble_eq_true rfl) (Nat.le_of_ble_eq_true rfl) d_H_spreadSize_9

/-- private int siftWork(int from) -/
theorem c_H_siftWork (l : Launch) (g : hl_G) (sz : Nat) (L : List Nat) (f : Nat → va_E) (T : Nat → Nat) (ad : Nat → Nat → Nat → Nat) (n ch lO wk : Nat) (zL : Nat → Option Nat) (gn : Nat → Nat) (G : Nat → Nat → Nat → Nat) (pr : Nat → Nat → Nat) (sn : Nat → Nat) (sp : Nat → Nat → Nat) (ix : Nat → Nat → Option Nat) (wb : Nat → Nat → Nat → Nat) (σ : Nat → Nat)
    (hn : n ≤ 24) (hC : cn_P g L f T ad n ch lO wk zL gn G pr sn sp ix wb σ) (hW : cn_W n gn G pr sn sp ix wb) (pr0 : Nat → Nat → Nat) (hok : ch_ok n (cn_gs n gn G) pr0 sn sp wb) (b : Nat) (hb : b ≤ n) (hσ : gp_sym (ch_D n b) σ) :
    Met l y_H_siftWork (hq y_H_siftWork b_H_siftWork 3 (some .int)) { frames := 1, cells := 0, slots := 0, locals := 30 } (hm_P g [.ref ch, .int (nI b)] sz L f) (va_Qi (fun r u => ∃ j x, b ≤ j ∧ j ≤ n ∧ r = nI j ∧ ch_G (cn_gs n gn G b) x ∧ u = (L, va_up f wk (hl_nat g n (x ∘ σ))) ∧ (∀ p, b ≤ p → p < j → x (σ p) = p) ∧ (j < n → ¬ ∃ s, s < sn j ∧ sp j s = x (σ j))) (hm_B g sz L) (hm_A sz L)) 0 0 (hm_A sz L) := by
  refine hm_ofW (by decide) (Nat.le_of_ble_eq_true rfl) ?_
  intro p e s m below meth c X hr hlk hnm hK hsz hh ls hl
  have hl : lv_has ls 3 [(0, .ref ch), (1, .int (nI b))] := hl
  obtain ⟨⟨a1, a2, a3⟩, ⟨b1, b2, b3⟩, ⟨c1, c2, c3⟩, hlks⟩ := hC
  have nc : ch ≠ wk := hl_ne (T := T) (by omega)
  have nl : lO ≠ wk := hl_ne (T := T) (by omega)
  have loop : ∀ (t i : Nat) (x : gp_f) (H : Heap) (locs : List Loc) (ls : Array Slot), n + 1 ≤ i + t → b ≤ i → i ≤ n → ch_G (cn_gs n gn G b) x → (∀ p, b ≤ p → p < i → x (σ p) = p) →
      hl_H g (hm_A sz L) s.heap L (va_up f wk (hl_nat g n (x ∘ σ))) H locs → lv_has ls 3 [(2, .int (nI i)), (0, .ref ch), (1, .int (nI b))] →
      W p l e { frames := 1, cells := 0, slots := 0, locals := 30 } s m #[.ref ch, .int (nI b)] below meth c H locs 0 0 (MQ below (va_Qi (fun r u => ∃ j x, b ≤ j ∧ j ≤ n ∧ r = nI j ∧ ch_G (cn_gs n gn G b) x ∧ u = (L, va_up f wk (hl_nat g n (x ∘ σ))) ∧ (∀ p, b ≤ p → p < j → x (σ p) = p) ∧ (j < n → ¬ ∃ s, s < sn j ∧ sp j s = x (σ j))) (hm_B g sz L) (hm_A sz L)) #[.ref ch, .int (nI b)] s 0 0 (hm_A sz L)) (F0 m 2 ls []) := by
    intro t
    induction t with
    | zero => intros; omega
    | succ t ih =>
      intro i x H locs ls hki hbi hin hx hfix hh hl
      refine lv_iload_n X.1 X.2.1 d_H_siftWork_2 rfl (lv_at hl 0 rfl) ?_
      refine lv_aload_n X.1 X.2.1 d_H_siftWork_3 rfl (lv_at hl 1 rfl) ?_
      refine hl_get X hK hh (ref := "CycleGroups$Chain") i_H (ci := 1) rfl 0 (by decide) w_142 rfl a1 ((va_up_ne _ _ nc).trans a2) rfl d_H_siftWork_4 ?_
      refine hn_ige (tgt := 44) X (by omega) (by omega) d_H_siftWork_7 (by decide) (fun hc => ?_) (fun hc => ?_)
      · have e : i = n := by omega
        subst e
        refine lv_aload_n X.1 X.2.1 d_H_siftWork_44 rfl (lv_at hl 1 rfl) ?_
        refine hl_get X hK hh (ref := "CycleGroups$Chain") i_H (ci := 1) rfl 0 (by decide) w_142 rfl a1 ((va_up_ne _ _ nc).trans a2) rfl d_H_siftWork_45 ?_
        exact hm_iret X hr hlk hh ⟨_, x, hb, Nat.le_refl _, rfl, hx, rfl, hfix, fun h => absurd h (Nat.lt_irrefl _)⟩ (Nat.le_of_ble_eq_true rfl) (Nat.le_of_ble_eq_true rfl) d_H_siftWork_48
      · have hin2 : i < n := hc
        have hxs := ch_in_sym hok hb x hx
        have hrb : gp_sym (ch_D n b) (x ∘ σ) := (gp_sym_sg _).2.1 _ _ hxs hσ
        have hrS : gp_sym (ch_D n i) (x ∘ σ) := by
          refine ⟨hrb.1, fun p hp => ?_⟩
          by_cases hpb : b ≤ p ∧ p < i
          · exact hfix p hpb.1 hpb.2
          · refine hrb.2 p (fun hm => hp ?_)
            rw [ch_D_mem] at hm ⊢
            omega
        have hri : (x ∘ σ) i < n := lk_sym_lt hrS hin2
        refine lv_aload_n X.1 X.2.1 d_H_siftWork_10 rfl (lv_at hl 1 rfl) ?_
        refine hl_get X hK hh (ref := "CycleGroups$Chain") i_H (ci := 1) rfl 2 (by decide) w_144 rfl a1 ((va_up_ne _ _ nc).trans a2) rfl d_H_siftWork_11 ?_
        refine lv_iload_n X.1 X.2.1 d_H_siftWork_14 rfl (lv_at hl 0 rfl) ?_
        refine hl_iald X hK hh c1 (va_up_self ..) (by omega) (by omega) d_H_siftWork_15 ?_
        refine lv_iload_n X.1 X.2.1 d_H_siftWork_16 rfl (lv_at hl 0 rfl) ?_
        refine hn_ieq (tgt := 38) X (by omega) (by omega) d_H_siftWork_17 (by decide) (fun hc => ?_) (fun hc => ?_)
        · have hc2 : x (σ i) = i := hc
          refine lv_iinc (v := nI (i + 1)) (lv' := [(2, .int (nI (i + 1))), (0, .ref ch), (1, .int (nI b))]) X.1 X.2.1 d_H_siftWork_38 hl (k := 0) rfl (hn_inc _) (by decide) rfl (fun ls hl => ?_)
          refine lv_goto (tgt := 2) X.1 X.2.1 d_H_siftWork_41 (by decide) ?_
          refine ih (i + 1) x H locs ls (by omega) (by omega) (by omega) hx (fun p h1 h2 => ?_) hh hl
          by_cases e : p = i
          · rw [e]; exact hc2
          · exact hfix p h1 (by omega)
        · obtain ⟨z1, t1, l1⟩ := hlks i hin2
          have hWi := hW i hin2
          have l2 : lk_P g L (va_up f wk (hl_nat g n (x ∘ σ))) ad n i (gn i) (G i) (pr i) (sn i) (sp i) (ix i) (wb i) := lk_congr hn l1 t1 (fun q hq => va_up_ne _ _ (hl_ne (T := T) (by have := lk_tag_lt hq; omega)))
          refine lv_aload_n X.1 X.2.1 d_H_siftWork_20 rfl (lv_at hl 1 rfl) ?_
          refine hl_get X hK hh (ref := "CycleGroups$Chain") i_H (ci := 1) rfl 1 (by decide) w_143 rfl a1 ((va_up_ne _ _ nc).trans a2) rfl d_H_siftWork_21 ?_
          refine lv_iload_n X.1 X.2.1 d_H_siftWork_24 rfl (lv_at hl 0 rfl) ?_
          refine hl_aaldL X hK hh b1 ((va_up_ne _ _ nl).trans b2) (by omega) (by omega) z1 d_H_siftWork_25 ?_
          refine lv_aload_n X.1 X.2.1 d_H_siftWork_26 rfl (lv_at hl 1 rfl) ?_
          refine hl_get X hK hh (ref := "CycleGroups$Chain") i_H (ci := 1) rfl 2 (by decide) w_144 rfl a1 ((va_up_ne _ _ nc).trans a2) rfl d_H_siftWork_27 ?_
          refine hl_calli hh (hl_runV (k := 1) X hK hh (c_K_undo l g _ L _ T ad n i (gn i) (G i) (pr i) (sn i) (sp i) (ix i) (wb i) l2 hWi t1 wk (x ∘ σ) c1 (va_up_self ..) (by omega) hrS) wc_K_undo w_171 w_7 wi_K_undo ws_K_undo (by decide +kernel) rfl rfl ⟨Nat.le_of_ble_eq_true rfl, Nat.le_of_ble_eq_true rfl⟩ l2.1.1 l2.1.2 rfl rfl rfl rfl (Nat.le_of_ble_eq_true rfl) hl.1 d_H_siftWork_30 ⟨Nat.le_of_ble_eq_true rfl, Nat.le_of_ble_eq_true rfl⟩) (fun r u H locs hp hh => ?_)
          rcases hp with ⟨hx0, rfl, rfl⟩ | ⟨t0, hx0, rfl, rfl⟩
          · skip
            refine hn_zne (tgt := 38) X (by omega) d_H_siftWork_33 (by decide) (fun hc => ?_) (fun hc => ?_)
            · exact absurd rfl hc
            · skip
              refine lv_iload_n X.1 X.2.1 d_H_siftWork_36 rfl (lv_at hl 0 rfl) ?_
              refine hm_iret X hr hlk hh ⟨i, x, hbi, hin, rfl, hx, rfl, hfix, fun _ ⟨s0, h1, h2⟩ => ?_⟩ (Nat.le_of_ble_eq_true rfl) (Nat.le_of_ble_eq_true rfl) d_H_siftWork_37
              have := (hWi.2.2.2.2.2.2.2.2.1 _ hri s0).2 ⟨h1, h2⟩
              rw [hx0] at this
              cases this
          · obtain ⟨ht1, ht2⟩ := (hWi.2.2.2.2.2.2.2.2.1 _ hri t0).1 hx0
            refine hn_zne (tgt := 38) X (by omega) d_H_siftWork_33 (by decide) (fun hc => ?_) (fun hc => ?_)
            · have hh : hl_H g (hm_A sz L) s.heap L (va_up (va_up f wk (hl_nat g n (x ∘ σ))) wk (hl_nat g n (wb i t0 ∘ (x ∘ σ)))) H locs := hh
              rw [hr_uu] at hh
              refine lv_iinc (v := nI (i + 1)) (lv' := [(2, .int (nI (i + 1))), (0, .ref ch), (1, .int (nI b))]) X.1 X.2.1 d_H_siftWork_38 hl (k := 0) rfl (hn_inc _) (by decide) rfl (fun ls hl => ?_)
              refine lv_goto (tgt := 2) X.1 X.2.1 d_H_siftWork_41 (by decide) ?_
              refine ih (i + 1) (wb i t0 ∘ x) H locs ls (by omega) (by omega) (by omega) (ch_undo hok hbi hin2 ht1 hx) (fun p h1 h2 => ?_) hh hl
              have hlo := (hok.2 i hin2).1
              by_cases e : p = i
              · subst e
                show wb p t0 (x (σ p)) = p
                have h3 : x (σ p) = sp p t0 := ht2.symm
                rw [h3]
                exact (hlo.2.2.2.2.1 t0 ht1).2
              · show wb i t0 (x (σ p)) = p
                rw [hfix p h1 (by omega)]
                exact (hWi.2.2.2.2.2.2.2.2.2.1 t0 ht1).2 p (fun hm => by have := ch_D_mem.1 hm; omega)
            · exact absurd hc (by decide)
  refine lv_iload_n X.1 X.2.1 d_H_siftWork_0 rfl (lv_at hl 1 rfl) ?_
  refine lv_istore_n (lv' := [(2, .int (nI b)), (0, .ref ch), (1, .int (nI b))]) X.1 X.2.1 d_H_siftWork_1 rfl hl (by decide) rfl (fun ls hl => ?_)
  have hh : hl_H g (hm_A sz L) s.heap L (va_up f wk (hl_nat g n (id ∘ σ))) s.heap [] := hl_same c2 hh
  exact loop (n + 1 - b) b id s.heap [] ls (by omega) (by omega) hb gp_gen_id (fun p h1 h2 => by omega) hh hl

/-- int failingPlace(int[] row) -/
theorem c_H_failingPlace (l : Launch) (g : hl_G) (sz : Nat) (L : List Nat) (f : Nat → va_E) (T : Nat → Nat) (ad : Nat → Nat → Nat → Nat) (n ch lO wk : Nat) (zL : Nat → Option Nat) (gn : Nat → Nat) (G : Nat → Nat → Nat → Nat) (pr : Nat → Nat → Nat) (sn : Nat → Nat) (sp : Nat → Nat → Nat) (ix : Nat → Nat → Option Nat) (wb : Nat → Nat → Nat → Nat) (y : Nat → Nat)
    (hn : n ≤ 24) (hC : cn_P g L f T ad n ch lO wk zL gn G pr sn sp ix wb y) (hW : cn_W n gn G pr sn sp ix wb) (hok : ch_ok n (cn_gs n gn G) pr sn sp wb) (rw0 : Nat) (σ : Nat → Nat) (hr0 : rw0 ∈ L) (hfr : f rw0 = hl_nat g n σ) (hrw : rw0 ≠ wk) (hσ : gp_sym (ch_D n 0) σ) :
    Met l y_H_failingPlace (hq y_H_failingPlace b_H_failingPlace 2 (some .int)) { frames := 2, cells := 0, slots := 0, locals := 60 } (hm_P g [.ref ch, .ref rw0] sz L f) (va_Qi (fun r u => ∃ j x, j ≤ n ∧ r = nI j ∧ ch_G (cn_gs n gn G 0) x ∧ u = (L, va_up f wk (hl_nat g n (x ∘ σ))) ∧ (∀ p, p < j → x (σ p) = p) ∧ (j < n → ¬ ∃ s, s < sn j ∧ sp j s = x (σ j))) (hm_B g sz L) (hm_A sz L)) 0 0 (hm_A sz L) := by
  refine hm_ofW (by decide) (Nat.le_of_ble_eq_true rfl) ?_
  intro p e s m below meth c X hr hlk hnm hK hsz hh ls hl
  have hl : lv_has ls 2 [(0, .ref ch), (1, .ref rw0)] := hl
  have hC1 := cn_work hn hC σ
  obtain ⟨⟨a1, a2, a3⟩, ⟨b1, b2, b3⟩, ⟨c1, c2, c3⟩, hlks⟩ := hC
  have nc : ch ≠ wk := hl_ne (T := T) (by omega)
  refine lv_aload_n X.1 X.2.1 d_H_failingPlace_0 rfl (lv_at hl 1 rfl) ?_
  refine lv_iconst (v := nI 0) X.1 X.2.1 d_H_failingPlace_1 (by decide) ?_
  refine lv_aload_n X.1 X.2.1 d_H_failingPlace_2 rfl (lv_at hl 0 rfl) ?_
  refine hl_get X hK hh (ref := "CycleGroups$Chain") i_H (ci := 1) rfl 2 (by decide) w_144 rfl a1 a2 rfl d_H_failingPlace_3 ?_
  refine lv_iconst (v := nI 0) X.1 X.2.1 d_H_failingPlace_6 (by decide) ?_
  refine lv_aload_n X.1 X.2.1 d_H_failingPlace_7 rfl (lv_at hl 0 rfl) ?_
  refine hl_get X hK hh (ref := "CycleGroups$Chain") i_H (ci := 1) rfl 0 (by decide) w_142 rfl a1 a2 rfl d_H_failingPlace_8 ?_
  refine hl_copy X hK hh w_164 hr0 hfr c1 c2 (by omega) (by omega) (by omega) (by omega) hl.1 (Nat.le_of_ble_eq_true rfl) (Nat.le_of_ble_eq_true rfl) d_H_failingPlace_11 (fun H locs hh => ?_)
  have hh := hl_norm (w := fun p => nI (σ p)) hh (fun p hp => by rw [pk_cpy_in (Nat.zero_le p) (by omega)]; simp)
  obtain ⟨f1, hf1⟩ : ∃ x : Nat → va_E, x = va_up f wk (hl_nat g n σ) := ⟨_, rfl⟩
  have hh : hl_H g (hm_A sz L) s.heap L f1 H locs := by rw [hf1]; exact hh
  have q1_ch := (congrFun hf1 ch).trans ((va_up_ne _ _ nc).trans a2)
  have q1_rw0 := (congrFun hf1 rw0).trans ((va_up_ne _ _ hrw).trans hfr)
  have q1_wk := (congrFun hf1 wk).trans (va_up_self ..)
  refine lv_aload_n X.1 X.2.1 d_H_failingPlace_14 rfl (lv_at hl 0 rfl) ?_
  refine lv_iconst (v := nI 0) X.1 X.2.1 d_H_failingPlace_15 (by decide) ?_
  have hC2 : cn_P g L f1 T ad n ch lO wk zL gn G pr sn sp ix wb σ := by rw [hf1]; exact hC1
  refine hl_calli hh (hl_runV (k := 1) X hK hh (c_H_siftWork l g _ L f1 T ad n ch lO wk zL gn G pr sn sp ix wb σ hn hC2 hW pr hok 0 (Nat.zero_le n) hσ) wc_H_siftWork w_167 w_6 wi_H_siftWork ws_H_siftWork (by decide +kernel) rfl rfl ⟨Nat.le_of_ble_eq_true rfl, Nat.le_of_ble_eq_true rfl⟩ a1 q1_ch rfl rfl rfl rfl (Nat.le_of_ble_eq_true rfl) hl.1 d_H_failingPlace_16 ⟨Nat.le_of_ble_eq_true rfl, Nat.le_of_ble_eq_true rfl⟩) (fun r u H locs hp hh => ?_)
  obtain ⟨j, x, _, hj, rfl, hx, rfl, h1, h2⟩ := hp
  refine hm_iret X hr hlk hh ⟨j, x, hj, rfl, hx, ?_, fun p hp => h1 p (Nat.zero_le p) hp, h2⟩ (Nat.le_of_ble_eq_true rfl) (Nat.le_of_ble_eq_true rfl) d_H_failingPlace_19
  rw [hf1, hr_uu]
end

