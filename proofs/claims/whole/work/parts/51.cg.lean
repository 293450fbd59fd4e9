/-! The object: its cells, its chain; freshChain. -/
section
section
variable {p : Program} {l : Launch} {e : Env} {R : Room} {s : State} {m : MethodId} {args : Array Value} {below : List Frame} {meth : Method} {c : Code} {H : Heap} {locs : List Loc} {cells slots : Nat} {Q : State → Prop}
variable {cc : ByteArray} {pc nL : Nat} {ls : Array Slot} {rest st : List Value} {g : hl_G} {A : Nat → Prop} {H0 : Heap} {own : String} {L : List Nat} {f : Nat → va_E}
/-- an answer that is a cell, of which something is said -/
theorem hm_aret2 {sz mc ms : Nat} {L0 : List Nat} {Rl : List Nat × (Nat → va_E) → Nat → Prop} {a0 : Nat} {C0 : String} (X : CallFix p m c cc nL s args tg own) (hr : meth.sig.returnType = some (.object C0)) (hlk : meth.locks = false)
    (h : hl_H g (hm_A sz L0) s.heap L f H locs) (hp : Rl (L, f) a0) (h1 : cells ≤ mc) (h2 : slots ≤ ms) (hdg : decode cc pc = .ok (.areturn, 1)) :
    W p l e R s m args below meth c H locs cells slots (MQ below (va_Qr (fun _ => True) (fun u b t => Rl u b ∧ hm_B g sz L0 u t) (hm_A sz L0)) args s mc ms (hm_A sz L0)) (F0 m pc ls [.ref a0]) := by
  refine W.widen h1 h2 ?_
  exact W.aret X.1 X.2.1 hr (Or.inl ⟨_, rfl⟩) (Or.inr ⟨_, rfl⟩) (fun t ht hW => ⟨⟨(L, f), a0, rfl, trivial, hp, by rw [ht]; exact h.1, h.2.1⟩, h.2.2.1.F ht⟩) h.2.2.1.2.2 hdg hlk

theorem hl_callr2 {mc ms : Nat} {ar : Array Value} {Rl : List Nat × (Nat → va_E) → Nat → Prop} (h : hl_H g A H0 L f H locs)
    (hr : va_Run p l e R s m args below meth c H locs cells slots mc ms (F0 m pc ls st) rest (va_Qr (fun _ => True) (fun u b t => Rl u b ∧ hm_B g H.size L u t) (hm_A H.size L) ar) (hm_A H.size L))
    (kk : ∀ (a0 : Nat) (u : List Nat × (Nat → va_E)) (H1 : Heap) (locs1 : List Loc), Rl u a0 → hl_H g A H0 u.1 u.2 H1 locs1 →
      W p l e R s m args below meth c H1 locs1 (cells + mc) (slots + ms) Q (F0 m (pc + 3) ls (.ref a0 :: rest))) :
    W p l e R s m args below meth c H locs cells slots Q (F0 m pc ls st) :=
  va_callr hr h.2.2.1 (fun q _ hq => hl_inA h q hq) (hl_inA h) (fun u ra t H1 locs1 ht _ _ hB _ _ hS => by
    obtain ⟨hR, hB⟩ := hB
    exact kk ra u H1 locs1 hR ⟨by rw [← ht]; exact hB.1, ⟨hB.2.1, fun k q hk => hl_inA h _ (hB.2.2 k q hk)⟩, hS, h.2.2.2⟩)
end

/-- the cells of the object: b t is the one of number t -/
def cg_B (g : hl_G) (L : List Nat) (f : Nat → va_E) (T : Nat → Nat) (b : Nat → Nat) (n mm sm : Nat) (mv st : Nat → Nat → Nat) (zp zd : Nat → Nat) (cv : Value) (fl : Int32) : Prop :=
  (∀ t, t < 7 ∨ (10 ≤ t ∧ t < 40) → b t ∈ L ∧ T (b t) = t) ∧
  f (b 0) = .inr (0, [.int (nI n), .ref (b 1), .int (nI mm), .ref (b 2), .int (nI sm), .ref (b 3), .ref (b 5), cv, .int fl]) ∧
  f (b 1) = hl_grd g 10 (fun i => if i < 10 then some (b (10 + i)) else none) ∧ f (b 2) = hl_grd g 20 (fun i => if i < 20 then some (b (20 + i)) else none) ∧
  f (b 3) = .inr (4, [.ref (b 4)]) ∧ f (b 4) = hl_nat g n zp ∧ f (b 5) = .inr (2, [.ref (b 6)]) ∧ f (b 6) = hl_nat g 24 zd ∧
  (∀ i, i < 10 → f (b (10 + i)) = hl_nat g n (mv i)) ∧ ∀ j, j < 20 → f (b (20 + j)) = hl_nat g n (st j)

def cg_W (n mm sm : Nat) (mv st : Nat → Nat → Nat) : Prop :=
  0 < n ∧ n ≤ 24 ∧ mm ≤ 10 ∧ sm ≤ 20 ∧ (∀ i, i < mm → gp_sym (ch_D n 0) (mv i)) ∧ ∀ j, j < sm → gp_sym (ch_D n 0) (st j)

/-- a chain at ch, made; where ok it is the chain of the moves -/
def cg_ch (g : hl_G) (L : List Nat) (f : Nat → va_E) (T : Nat → Nat) (n mm : Nat) (mv : Nat → Nat → Nat) (ch : Nat) (ok : Prop) : Prop :=
  ∃ (lO wk : Nat) (ad : Nat → Nat → Nat → Nat) (zL : Nat → Option Nat) (gn : Nat → Nat) (G : Nat → Nat → Nat → Nat) (pr : Nat → Nat → Nat) (sn : Nat → Nat) (sp : Nat → Nat → Nat) (ix : Nat → Nat → Option Nat) (wb : Nat → Nat → Nat → Nat) (y : Nat → Nat),
    cn_P g L f T ad n ch lO wk zL gn G pr sn sp ix wb y ∧ cn_W n gn G pr sn sp ix wb ∧ (∀ i, i < n → wb i 0 = id) ∧ (ok → ch_inv n (cn_gs n gn G) pr sn sp wb 0 ∧ ∀ x, ch_G (cn_gs n gn G 0) x ↔ gp_gen (mv_T mv mm) x)

def cg_C (g : hl_G) (L : List Nat) (f : Nat → va_E) (T : Nat → Nat) (n mm : Nat) (mv : Nat → Nat → Nat) (cv : Value) (fl : Int32) : Prop :=
  (fl = 0 ∨ fl = 1) ∧ (cv = .null ∨ ∃ ch, cv = .ref ch ∧ cg_ch g L f T n mm mv ch (fl = 0))

/-- which cells a chain has -/
def cn_own (t : Nat) : Prop := t = 7 ∨ t = 8 ∨ cn_tag t
theorem cn_own_of {t : Nat} (h : t < 7 ∨ (10 ≤ t ∧ t < 100) ∨ 20000 ≤ t) : ¬ cn_own t := by
  intro h2
  rcases h2 with h2 | h2 | h2 | ⟨i, hi, k, j, hk, hj, h2⟩ <;> omega
theorem cn_tag_of {t : Nat} (h : t < 9 ∨ (10 ≤ t ∧ t < 100) ∨ 20000 ≤ t) : ¬ cn_tag t := by
  intro h2
  rcases h2 with h2 | ⟨i, hi, k, j, hk, hj, h2⟩ <;> omega

theorem cn_congr {g : hl_G} {L : List Nat} {f f1 : Nat → va_E} {T : Nat → Nat} {ad : Nat → Nat → Nat → Nat} {n ch lO wk : Nat} {zL : Nat → Option Nat} {gn : Nat → Nat} {G : Nat → Nat → Nat → Nat} {pr : Nat → Nat → Nat} {sn : Nat → Nat} {sp : Nat → Nat → Nat} {ix : Nat → Nat → Option Nat} {wb : Nat → Nat → Nat → Nat} {y : Nat → Nat}
    (hn : n ≤ 24) (h : cn_P g L f T ad n ch lO wk zL gn G pr sn sp ix wb y) (hf : ∀ q, cn_own (T q) → f1 q = f q) : cn_P g L f1 T ad n ch lO wk zL gn G pr sn sp ix wb y := by
  obtain ⟨⟨a1, a2, a3⟩, ⟨b1, b2, b3⟩, ⟨c1, c2, c3⟩, hl⟩ := h
  refine ⟨⟨a1, (hf ch (Or.inl a3)).trans a2, a3⟩, ⟨b1, (hf lO (Or.inr (Or.inl b3))).trans b2, b3⟩, ⟨c1, (hf wk (Or.inr (Or.inr (Or.inl c3)))).trans c2, c3⟩, fun i hi => ?_⟩
  obtain ⟨h1, h2, h3⟩ := hl i hi
  exact ⟨h1, h2, lk_congr hn h3 h2 (fun q hq => hf q (Or.inr (Or.inr (Or.inr ⟨i, by omega, hq⟩))))⟩

theorem cg_ch_congr {g : hl_G} {L : List Nat} {f f1 : Nat → va_E} {T : Nat → Nat} {n mm mm1 : Nat} {mv mv1 : Nat → Nat → Nat} {ch : Nat} {ok ok1 : Prop} (hn : n ≤ 24) (h : cg_ch g L f T n mm mv ch ok) (hf : ∀ q, cn_own (T q) → f1 q = f q) (hok : ok1 → ok)
    (hmv : ok1 → ∀ x, gp_gen (mv_T mv mm) x ↔ gp_gen (mv_T mv1 mm1) x) : cg_ch g L f1 T n mm1 mv1 ch ok1 := by
  obtain ⟨lO, wk, ad, zL, gn, G, pr, sn, sp, ix, wb, y, h1, h2, h3, h4⟩ := h
  exact ⟨lO, wk, ad, zL, gn, G, pr, sn, sp, ix, wb, y, cn_congr hn h1 hf, h2, h3, fun o => ⟨(h4 (hok o)).1, fun x => ((h4 (hok o)).2 x).trans (hmv o x)⟩⟩

theorem cg_C_congr {g : hl_G} {L : List Nat} {f f1 : Nat → va_E} {T : Nat → Nat} {n mm mm1 : Nat} {mv mv1 : Nat → Nat → Nat} {cv : Value} {fl fl1 : Int32} (hn : n ≤ 24) (h : cg_C g L f T n mm mv cv fl) (hf : ∀ q, cn_own (T q) → f1 q = f q) (hfl : fl1 = 0 ∨ fl1 = 1) (hok : fl1 = 0 → fl = 0)
    (hmv : fl1 = 0 → ∀ x, gp_gen (mv_T mv mm) x ↔ gp_gen (mv_T mv1 mm1) x) : cg_C g L f1 T n mm1 mv1 cv fl1 := by
  refine ⟨hfl, ?_⟩
  rcases h.2 with h1 | ⟨ch, h1, h2⟩
  · exact Or.inl h1
  · exact Or.inr ⟨ch, h1, cg_ch_congr hn h2 hf hok hmv⟩

/-- the object's own cells stay, whatever the chain's do -/
theorem cg_B_congr {g : hl_G} {L L1 : List Nat} {f f1 : Nat → va_E} {T T1 : Nat → Nat} {b : Nat → Nat} {n mm sm : Nat} {mv st : Nat → Nat → Nat} {zp zd : Nat → Nat} {cv : Value} {fl : Int32} (h : cg_B g L f T b n mm sm mv st zp zd cv fl)
    (hL : ∀ q, q ∈ L → q ∈ L1 ∧ T1 q = T q) (hf : ∀ q, q ∈ L → T q < 7 ∨ (10 ≤ T q ∧ T q < 40) → f1 q = f q) : cg_B g L1 f1 T1 b n mm sm mv st zp zd cv fl := by
  obtain ⟨h0, h1, h2, h3, h4, h5, h6, h7, h8, h9⟩ := h
  have k : ∀ t, t < 7 ∨ (10 ≤ t ∧ t < 40) → f1 (b t) = f (b t) := fun t ht => hf _ (h0 t ht).1 (by rw [(h0 t ht).2]; exact ht)
  refine ⟨fun t ht => ⟨(hL _ (h0 t ht).1).1, (hL _ (h0 t ht).1).2.trans (h0 t ht).2⟩, (k 0 (by omega)).trans h1, (k 1 (by omega)).trans h2, (k 2 (by omega)).trans h3, (k 3 (by omega)).trans h4, (k 4 (by omega)).trans h5, (k 5 (by omega)).trans h6, (k 6 (by omega)).trans h7, fun i hi => (k (10 + i) (by omega)).trans (h8 i hi), fun j hj => (k (20 + j) (by omega)).trans (h9 j hj)⟩

theorem cg_obj {g : hl_G} {L : List Nat} {f : Nat → va_E} {T : Nat → Nat} {b : Nat → Nat} {n mm sm : Nat} {mv st : Nat → Nat → Nat} {zp zd : Nat → Nat} {cv : Value} {fl : Int32} (h : cg_B g L f T b n mm sm mv st zp zd cv fl) (mm1 sm1 : Nat) (cv1 : Value) (fl1 : Int32) :
    cg_B g L (va_up f (b 0) (.inr (0, [.int (nI n), .ref (b 1), .int (nI mm1), .ref (b 2), .int (nI sm1), .ref (b 3), .ref (b 5), cv1, .int fl1]))) T b n mm1 sm1 mv st zp zd cv1 fl1 := by
  obtain ⟨h0, h1, h2, h3, h4, h5, h6, h7, h8, h9⟩ := h
  have t0 := (h0 0 (by omega)).2
  have k : ∀ t, (t < 7 ∨ (10 ≤ t ∧ t < 40)) → t ≠ 0 → va_up f (b 0) (.inr (0, [.int (nI n), .ref (b 1), .int (nI mm1), .ref (b 2), .int (nI sm1), .ref (b 3), .ref (b 5), cv1, .int fl1])) (b t) = f (b t) := fun t ht hz => va_up_ne _ _ (hl_ne (T := T) (by rw [(h0 t ht).2, t0]; exact hz))
  exact ⟨h0, va_up_self .., (k 1 (by omega) (by omega)).trans h2, (k 2 (by omega) (by omega)).trans h3, (k 3 (by omega) (by omega)).trans h4, (k 4 (by omega) (by omega)).trans h5, (k 5 (by omega) (by omega)).trans h6, (k 6 (by omega) (by omega)).trans h7, fun i hi => (k (10 + i) (by omega) (by omega)).trans (h8 i hi), fun j hj => (k (20 + j) (by omega) (by omega)).trans (h9 j hj)⟩

/-- private Chain freshChain() -/
theorem c_C_freshChain (l : Launch) (g : hl_G) (sz : Nat) (L : List Nat) (f : Nat → va_E) (T : Nat → Nat) (b : Nat → Nat) (n mm sm : Nat) (mv st : Nat → Nat → Nat) (zp zd : Nat → Nat) (cv : Value) (fl : Int32) (mc ms : Nat)
    (hB : cg_B g L f T b n mm sm mv st zp zd cv fl) (hW : cg_W n mm sm mv st) (hC : cg_C g L f T n mm mv cv fl) (hm : cv = .null → mc = 1601 ∧ ms = 40003) :
    Met l y_C_freshChain (hq y_C_freshChain b_C_freshChain 1 (some (.object "CycleGroups$Chain"))) { frames := 5, cells := mc, slots := ms, locals := 200 } (hm_P g [.ref (b 0)] sz L f) (va_Qr (fun _ => True) (fun u a t => (∃ (f1 : Nat → va_E) (T1 : Nat → Nat), u.2 = f1 ∧ (∀ q, q ∈ L → q ∈ u.1 ∧ T1 q = T q) ∧ (∀ q, q ∈ L → ¬ cn_own (T q) → q ≠ b 0 → f1 q = f q) ∧ cg_B g u.1 f1 T1 b n mm sm mv st zp zd (.ref a) 0 ∧ cg_ch g u.1 f1 T1 n mm mv a True) ∧ hm_B g sz L u t) (hm_A sz L)) mc ms (hm_A sz L) := by
  refine hm_ofW (by decide) (Nat.le_of_ble_eq_true rfl) ?_
  intro p e s m below meth c X hr hlk hnm hK hsz hh ls hl
  have hl : lv_has ls 1 [(0, .ref (b 0))] := hl
  obtain ⟨hn0, hn, hmm, hsm, hmv, hst⟩ := hW
  have tail : ∀ (L1 : List Nat) (f1 : Nat → va_E) (T1 : Nat → Nat) (ch : Nat) (fl1 : Int32) (H : Heap) (locs : List Loc) (ls : Array Slot) (c0 s0 : Nat), c0 ≤ mc → s0 ≤ ms → (∀ q, q ∈ L → q ∈ L1 ∧ T1 q = T q) → (∀ q, q ∈ L → ¬ cn_own (T q) → q ≠ b 0 → f1 q = f q) →
      cg_B g L1 f1 T1 b n mm sm mv st zp zd (.ref ch) fl1 → (fl1 = 0 ∨ fl1 = 1) → cg_ch g L1 f1 T1 n mm mv ch (fl1 = 0) → hl_H g (hm_A sz L) s.heap L1 f1 H locs → lv_has ls 1 [(0, .ref (b 0))] →
      W p l e { frames := 5, cells := mc, slots := ms, locals := 200 } s m #[.ref (b 0)] below meth c H locs c0 s0 (MQ below (va_Qr (fun _ => True) (fun u a t => (∃ (f1 : Nat → va_E) (T1 : Nat → Nat), u.2 = f1 ∧ (∀ q, q ∈ L → q ∈ u.1 ∧ T1 q = T q) ∧ (∀ q, q ∈ L → ¬ cn_own (T q) → q ≠ b 0 → f1 q = f q) ∧ cg_B g u.1 f1 T1 b n mm sm mv st zp zd (.ref a) 0 ∧ cg_ch g u.1 f1 T1 n mm mv a True) ∧ hm_B g sz L u t) (hm_A sz L)) #[.ref (b 0)] s mc ms (hm_A sz L)) (F0 m 27 ls []) := by
    intro L1 f1 T1 ch fl1 H locs ls c0 s0 hc0 hs0 hL1 hfr hB1 hfl hch hh hl
    have hB10 := hB1
    obtain ⟨h0, h1, h2, h3, h4, h5, h6, h7, h8, h9⟩ := hB1
    refine lv_aload_n X.1 X.2.1 d_C_freshChain_27 rfl (lv_at hl 0 rfl) ?_
    refine hl_get X hK hh (ref := "CycleGroups") i_C (ci := 0) rfl 8 (by decide) w_55 rfl (h0 0 (by omega)).1 h1 rfl d_C_freshChain_28 ?_
    refine lv_if_eq (tgt := 54) X.1 X.2.1 d_C_freshChain_31 (by decide) (fun hc => ?_) (fun hc => ?_)
    · subst hc
      refine lv_aload_n X.1 X.2.1 d_C_freshChain_54 rfl (lv_at hl 0 rfl) ?_
      refine hl_get X hK hh (ref := "CycleGroups") i_C (ci := 0) rfl 7 (by decide) w_54 rfl (h0 0 (by omega)).1 h1 rfl d_C_freshChain_55 ?_
      refine hm_aret2 X hr hlk hh ⟨f1, T1, rfl, hL1, hfr, hB10, ?_⟩ hc0 hs0 d_C_freshChain_58
      obtain ⟨lO, wk, ad, zL, gn, G, pr, sn, sp, ix, wb, y, k1, k2, k3, k4⟩ := hch
      exact ⟨lO, wk, ad, zL, gn, G, pr, sn, sp, ix, wb, y, k1, k2, k3, fun _ => k4 rfl⟩
    · obtain ⟨lO, wk, ad, zL, gn, G, pr, sn, sp, ix, wb, y, k1, k2, k3, k4⟩ := hch
      have hrows : hl_rows g L1 f1 n (fun i => if i < 10 then some (b (10 + i)) else none) (fun i => b (10 + i)) mv mm := fun i hi => ⟨if_pos (by omega), (h0 (10 + i) (by omega)).1, h8 i (by omega)⟩
      refine lv_aload_n X.1 X.2.1 d_C_freshChain_34 rfl (lv_at hl 0 rfl) ?_
      refine hl_get X hK hh (ref := "CycleGroups") i_C (ci := 0) rfl 7 (by decide) w_54 rfl (h0 0 (by omega)).1 h1 rfl d_C_freshChain_35 ?_
      refine lv_aload_n X.1 X.2.1 d_C_freshChain_38 rfl (lv_at hl 0 rfl) ?_
      refine hl_get X hK hh (ref := "CycleGroups") i_C (ci := 0) rfl 1 (by decide) w_48 rfl (h0 0 (by omega)).1 h1 rfl d_C_freshChain_39 ?_
      refine lv_aload_n X.1 X.2.1 d_C_freshChain_42 rfl (lv_at hl 0 rfl) ?_
      refine hl_get X hK hh (ref := "CycleGroups") i_C (ci := 0) rfl 2 (by decide) w_49 rfl (h0 0 (by omega)).1 h1 rfl d_C_freshChain_43 ?_
      refine hl_callv hh (hl_runV (k := 2) X hK hh (c_H_build l g _ L1 f1 T1 ad n ch lO wk zL gn G pr sn sp ix wb y hn0 hn k1 k2 k3 (b 1) mm _ (fun i => b (10 + i)) mv (h0 1 (by omega)).1 h2 (h0 1 (by omega)).2 hmm hrows (fun i hi => (h0 (10 + i) (by omega)).2) hmv) wc_H_build w_152 w_6 wi_H_build ws_H_build (by decide +kernel) rfl rfl ⟨Nat.le_of_ble_eq_true rfl, Nat.le_of_ble_eq_true rfl⟩ k1.1.1 k1.1.2.1 rfl rfl rfl rfl (Nat.le_of_ble_eq_true rfl) hl.1 d_C_freshChain_46 ⟨hc0, hs0⟩) (fun u H locs hp hh => ?_)
      obtain ⟨f2, gn2, G2, pr2, sn2, sp2, ix2, wb2, y2, rfl, hSt2, hgr2, hfr2⟩ := hp
      have hB2 : cg_B g L1 f2 T1 b n mm sm mv st zp zd (.ref ch) fl1 := cg_B_congr hB10 (fun q h => ⟨h, rfl⟩) (fun q _ ht => hfr2 q (cn_tag_of (by omega)))
      refine lv_aload_n X.1 X.2.1 d_C_freshChain_49 rfl (lv_at hl 0 rfl) ?_
      refine lv_iconst (v := nI 0) X.1 X.2.1 d_C_freshChain_50 (by decide) ?_
      refine hl_put X hK hh (ref := "CycleGroups") i_C t_C t_C_ok n_C (ci := 0) rfl 8 (by decide) w_55 rfl rfl (hB2.1 0 (by omega)).1 hB2.2.1 (by first | rfl | decide) (by first | rfl | decide) (Nat.le_of_ble_eq_true rfl) d_C_freshChain_51 (fun H locs hh => ?_)
      have hB3 := cg_obj hB2 mm sm (.ref ch) (nI 0)
      refine lv_aload_n X.1 X.2.1 d_C_freshChain_54 rfl (lv_at hl 0 rfl) ?_
      refine hl_get X hK hh (ref := "CycleGroups") i_C (ci := 0) rfl 7 (by decide) w_54 rfl (hB3.1 0 (by omega)).1 hB3.2.1 rfl d_C_freshChain_55 ?_
      refine hm_aret2 X hr hlk hh ⟨_, T1, rfl, hL1, fun q hq ho hqb => ?_, hB3, ?_⟩ hc0 hs0 d_C_freshChain_58
      · show va_up f2 (b 0) _ q = f q
        rw [va_up_ne _ _ hqb]
        have hT : T1 q = T q := (hL1 q hq).2
        exact (hfr2 q (fun ht => ho (by rw [← hT]; exact Or.inr (Or.inr ht)))).trans (hfr q hq ho hqb)
      · have t0 := (hB2.1 0 (by omega)).2
        refine ⟨lO, wk, ad, zL, gn2, G2, pr2, sn2, sp2, ix2, wb2, y2, cn_congr hn hSt2.1 (fun q hq => va_up_ne _ _ (hl_ne (T := T1) (by rw [t0]; intro e0; rw [e0] at hq; exact cn_own_of (by omega) hq))), hSt2.2.1, fun i hi => (hSt2.2.2.1.2 i hi).1.2.2.2.1, fun _ => ⟨hSt2.2.2, hgr2⟩⟩
  obtain ⟨hfl, hcv⟩ := hC
  rcases hcv with rfl | ⟨ch, rfl, hch⟩
  · obtain ⟨rfl, rfl⟩ := hm rfl
    have hB0 := hB
    obtain ⟨h0, h1, h2, h3, h4, h5, h6, h7, h8, h9⟩ := hB
    refine lv_aload_n X.1 X.2.1 d_C_freshChain_0 rfl (lv_at hl 0 rfl) ?_
    refine hl_get X hK hh (ref := "CycleGroups") i_C (ci := 0) rfl 7 (by decide) w_54 rfl (h0 0 (by omega)).1 h1 rfl d_C_freshChain_1 ?_
    refine lv_ifnonnullN X.1 X.2.1 d_C_freshChain_4 ?_
    refine lv_aload_n X.1 X.2.1 d_C_freshChain_7 rfl (lv_at hl 0 rfl) ?_
    refine hl_new X hK hh i_H t_H t_H_ok w_102 (by decide +kernel) (by decide +kernel) (ci := 1) rfl (fs := [.int 0, .null, .null]) (fun j hj => by rcases (show j = 0 ∨ j = 1 ∨ j = 2 by omega) with rfl | rfl | rfl <;> rfl) (Nat.le_of_ble_eq_true rfl) (Nat.le_of_ble_eq_true rfl) d_C_freshChain_8 (fun ch H hqc hh => ?_)
    obtain ⟨f2, hf2⟩ : ∃ x : Nat → va_E, x = va_up f ch (.inr (1, [.int 0, .null, .null])) := ⟨_, rfl⟩
    have hh : hl_H g (hm_A sz L) s.heap (L ++ [ch]) f2 H [] := by rw [hf2]; exact hh
    have o2 : ∀ q, q ∈ L → q ≠ ch := fun q h e0 => hqc (e0 ▸ h)
    have hk2 : ch ∈ L ++ [ch] := List.mem_append_right _ (List.mem_singleton.2 rfl)
    have hfx2 : f2 (b 0) = .inr (0, [.int (nI n), .ref (b 1), .int (nI mm), .ref (b 2), .int (nI sm), .ref (b 3), .ref (b 5), .null, .int fl]) := by rw [hf2, va_up_ne _ _ (o2 _ (h0 0 (by omega)).1)]; exact h1
    refine lv_dup X.1 X.2.1 d_C_freshChain_11 rfl ?_
    refine lv_aload_n X.1 X.2.1 d_C_freshChain_12 rfl (lv_at hl 0 rfl) ?_
    refine hl_get X hK hh (ref := "CycleGroups") i_C (ci := 0) rfl 0 (by decide) w_47 rfl (List.mem_append_left _ (h0 0 (by omega)).1) hfx2 rfl d_C_freshChain_13 ?_
    refine hl_callv hh (hl_runI (k := 1) X hK hh (c_H_init l g _ (L ++ [ch]) f2 (va_up T ch 7) n ch hk2 (by rw [hf2, va_up_self]) (va_up_self ..) hn) wc_H_init w_104 w_6 wi_H_init rfl (by decide +kernel) rfl rfl ⟨Nat.le_of_ble_eq_true rfl, Nat.le_of_ble_eq_true rfl⟩ rfl rfl (Nat.le_of_ble_eq_true rfl) hl.1 d_C_freshChain_16 ⟨Nat.le_of_ble_eq_true rfl, Nat.le_of_ble_eq_true rfl⟩) (fun u H locs hp hh => ?_)
    obtain ⟨L3, f3, T3, ad, lO, wk, zL, gn, G, pr, sn, sp, ix, wb, y, rfl, hL3, hfr3, hP3, hW3, hid3⟩ := hp
    have i3 : ∀ q, q ∈ L → q ∈ L3 ∧ T3 q = T q := fun q h => ⟨(hL3 q (List.mem_append_left _ h)).1, ((hL3 q (List.mem_append_left _ h)).2).trans (va_up_ne _ _ (o2 q h))⟩
    have g3 : ∀ q, q ∈ L → f3 q = f q := fun q h => (hfr3 q (List.mem_append_left _ h) (o2 q h)).trans (by rw [hf2, va_up_ne _ _ (o2 q h)])
    have hB3 : cg_B g L3 f3 T3 b n mm sm mv st zp zd .null fl := cg_B_congr hB0 i3 (fun q h _ => g3 q h)
    have hh : hl_H g (hm_A sz L) s.heap L3 f3 H locs := hh
    refine hl_put X hK hh (ref := "CycleGroups") i_C t_C t_C_ok n_C (ci := 0) rfl 7 (by decide) w_54 rfl rfl (hB3.1 0 (by omega)).1 hB3.2.1 (by first | rfl | decide) (by first | rfl | decide) (Nat.le_of_ble_eq_true rfl) d_C_freshChain_19 (fun H locs hh => ?_)
    have hB4 := cg_obj hB3 mm sm (.ref ch) fl
    refine lv_aload_n X.1 X.2.1 d_C_freshChain_22 rfl (lv_at hl 0 rfl) ?_
    refine lv_iconst (v := nI 1) X.1 X.2.1 d_C_freshChain_23 (by decide) ?_
    have hh : hl_H g (hm_A sz L) s.heap L3 (va_up f3 (b 0) (.inr (0, [.int (nI n), .ref (b 1), .int (nI mm), .ref (b 2), .int (nI sm), .ref (b 3), .ref (b 5), .ref ch, .int fl]))) H locs := hh
    refine hl_put X hK hh (ref := "CycleGroups") i_C t_C t_C_ok n_C (ci := 0) rfl 8 (by decide) w_55 rfl rfl (hB4.1 0 (by omega)).1 hB4.2.1 (by first | rfl | decide) (by first | rfl | decide) (Nat.le_of_ble_eq_true rfl) d_C_freshChain_24 (fun H locs hh => ?_)
    have hB5 := cg_obj hB4 mm sm (.ref ch) (nI 1)
    have t3 := (hB3.1 0 (by omega)).2
    refine tail L3 _ T3 ch (nI 1) H locs ls _ _ (by decide) (by decide) i3 (fun q hq ho hqb => ?_) hB5 (Or.inr rfl) ?_ hh hl
    · rw [va_up_ne _ _ hqb, va_up_ne _ _ hqb]; exact g3 q hq
    · refine ⟨lO, wk, ad, zL, gn, G, pr, sn, sp, ix, wb, y, cn_congr hn hP3 (fun q hq => ?_), hW3, hid3, fun e0 => absurd e0 (by decide)⟩
      have hqb : q ≠ b 0 := hl_ne (T := T3) (by rw [t3]; intro e0; rw [e0] at hq; exact cn_own_of (by omega) hq)
      rw [va_up_ne _ _ hqb, va_up_ne _ _ hqb]
  · have hB0 := hB
    obtain ⟨h0, h1, h2, h3, h4, h5, h6, h7, h8, h9⟩ := hB
    refine lv_aload_n X.1 X.2.1 d_C_freshChain_0 rfl (lv_at hl 0 rfl) ?_
    refine hl_get X hK hh (ref := "CycleGroups") i_C (ci := 0) rfl 7 (by decide) w_54 rfl (h0 0 (by omega)).1 h1 rfl d_C_freshChain_1 ?_
    refine lv_ifnonnull (tgt := 27) X.1 X.2.1 d_C_freshChain_4 (by decide) ?_
    exact tail L f T ch fl s.heap [] ls 0 0 (Nat.zero_le _) (Nat.zero_le _) (fun q h => ⟨h, rfl⟩) (fun q _ _ _ => rfl) hB0 hfl hch hh hl
end

