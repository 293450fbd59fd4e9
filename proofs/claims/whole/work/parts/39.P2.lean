/-! Partition: joinOrbits, joinImages. -/
section
/-- each of the places below k joined with where m puts it -/
def pt_orb1 (m : Nat → Nat) (z : Nat → Nat) : Nat → Nat → Nat
  | 0 => z
  | k + 1 => pt_join (pt_orb1 m z k) k (m k)
/-- so for the first c moves -/
def pt_orb (mv : Nat → Nat → Nat) (n : Nat) (z : Nat → Nat) : Nat → Nat → Nat
  | 0 => z
  | c + 1 => pt_orb1 (mv c) (pt_orb mv n z c) n

/-- a pool's grid of rows: what the rows hold -/
def hl_rows (g : hl_G) (L : List Nat) (f : Nat → va_E) (n : Nat) (zM : Nat → Option Nat) (mR : Nat → Nat) (mv : Nat → Nat → Nat) (c : Nat) : Prop :=
  ∀ i, i < c → zM i = some (mR i) ∧ mR i ∈ L ∧ f (mR i) = hl_nat g n (mv i)

/-- void joinOrbits(int[][] moves, int count) -/
theorem c_P_joinOrbits (l : Launch) (g : hl_G) (sz : Nat) (L : List Nat) (f : Nat → va_E) (o ar n mO cn : Nat) (z : Nat → Nat) (zM : Nat → Option Nat) (mR : Nat → Nat) (mv : Nat → Nat → Nat)
    (ho : o ∈ L) (hfo : f o = .inr (4, [.ref ar])) (har : ar ∈ L) (hfa : f ar = hl_nat g n z) (hoa : o ≠ ar) (hn : n ≤ 24) (hz : ∀ p, p < n → z p < n)
    (hmO : mO ∈ L) (hfm : f mO = hl_grd g 10 zM) (hcn : cn ≤ 10) (hrows : hl_rows g L f n zM mR mv cn) (hma : mO ≠ ar) (hra : ∀ i, i < cn → mR i ≠ ar) (hmv : ∀ i, i < cn → ∀ p, p < n → mv i p < n) :
    Met l y_P_joinOrbits (hq y_P_joinOrbits b_P_joinOrbits 5 none) { frames := 2, cells := 0, slots := 0, locals := 50 } (hm_P g [.ref o, .ref mO, .int (nI cn)] sz L f) (va_Qv (fun u => u = (L, va_up f ar (hl_nat g n (pt_orb mv n z cn)))) (hm_B g sz L) (hm_A sz L)) 0 0 (hm_A sz L) := by
  refine hm_ofW (by decide) (Nat.le_of_ble_eq_true rfl) ?_
  intro p e s m below meth c X hr hlk hnm hK hsz hh ls hl
  have hl : lv_has ls 5 [(0, .ref o), (1, .ref mO), (2, .int (nI cn))] := hl
  have loop : ∀ (t i : Nat) (y : Nat → Nat) (H : Heap) (locs : List Loc) (ls : Array Slot), cn + 1 ≤ i + t → i ≤ cn → y = pt_orb mv n z i → (∀ p, p < n → y p < n) →
      hl_H g (hm_A sz L) s.heap L (va_up f ar (hl_nat g n y)) H locs → lv_has ls 5 [(3, .int (nI i)), (0, .ref o), (1, .ref mO), (2, .int (nI cn))] →
      W p l e { frames := 2, cells := 0, slots := 0, locals := 50 } s m #[.ref o, .ref mO, .int (nI cn)] below meth c H locs 0 0 (MQ below (va_Qv (fun u => u = (L, va_up f ar (hl_nat g n (pt_orb mv n z cn)))) (hm_B g sz L) (hm_A sz L)) #[.ref o, .ref mO, .int (nI cn)] s 0 0 (hm_A sz L)) (F0 m 2 ls []) := by
    intro t
    induction t with
    | zero => intros; omega
    | succ t ih =>
      intro i y H locs ls hki hin hy hyn hh hl
      refine lv_iload_n X.1 X.2.1 d_P_joinOrbits_2 rfl (lv_at hl 0 rfl) ?_
      refine lv_iload_n X.1 X.2.1 d_P_joinOrbits_3 rfl (lv_at hl 3 rfl) ?_
      refine hn_ige (tgt := 45) X (by omega) (by omega) d_P_joinOrbits_4 (by decide) (fun hc => ?_) (fun hc => ?_)
      · have e : i = cn := by omega
        subst e
        subst hy
        exact hm_vret X hr hlk hh rfl (Nat.le_of_ble_eq_true rfl) (Nat.le_of_ble_eq_true rfl) d_P_joinOrbits_45
      · have hic := hc
        obtain ⟨hM, hRL, hRf⟩ := hrows i hic
        have inner : ∀ (t2 q : Nat) (x : Nat → Nat) (H : Heap) (locs : List Loc) (ls : Array Slot), n + 1 ≤ q + t2 → q ≤ n → x = pt_orb1 (mv i) y q → (∀ p, p < n → x p < n) →
            hl_H g (hm_A sz L) s.heap L (va_up f ar (hl_nat g n x)) H locs → lv_has ls 5 [(4, .int (nI q)), (3, .int (nI i)), (0, .ref o), (1, .ref mO), (2, .int (nI cn))] →
            W p l e { frames := 2, cells := 0, slots := 0, locals := 50 } s m #[.ref o, .ref mO, .int (nI cn)] below meth c H locs 0 0 (MQ below (va_Qv (fun u => u = (L, va_up f ar (hl_nat g n (pt_orb mv n z cn)))) (hm_B g sz L) (hm_A sz L)) #[.ref o, .ref mO, .int (nI cn)] s 0 0 (hm_A sz L)) (F0 m 10 ls []) := by
          intro t2
          induction t2 with
          | zero => intros; omega
          | succ t2 ih2 =>
            intro q x H locs ls hkq hqn hx hxn hh hl
            refine lv_iload X.1 X.2.1 d_P_joinOrbits_10 (lv_at hl 0 rfl) ?_
            refine lv_aload_n X.1 X.2.1 d_P_joinOrbits_12 rfl (lv_at hl 2 rfl) ?_
            refine hl_get X hK hh (ref := "CycleGroups$Partition") i_P (ci := 4) rfl 0 (by decide) w_32 rfl ho ((va_up_ne _ _ hoa).trans hfo) rfl d_P_joinOrbits_13 ?_
            refine hl_alenI X hK hh har (va_up_self ..) d_P_joinOrbits_16 ?_
            refine hn_ige (tgt := 39) X (by omega) (by omega) d_P_joinOrbits_17 (by decide) (fun hc => ?_) (fun hc => ?_)
            · have e : q = n := by omega
              subst e
              refine lv_iinc (v := nI (i + 1)) (lv' := [(3, .int (nI (i + 1))), (4, .int (nI q)), (0, .ref o), (1, .ref mO), (2, .int (nI cn))]) X.1 X.2.1 d_P_joinOrbits_39 hl (k := 1) rfl (hn_inc _) (by decide) rfl (fun ls hl => ?_)
              refine lv_goto (tgt := 2) X.1 X.2.1 d_P_joinOrbits_42 (by decide) ?_
              exact ih (i + 1) x H locs ls (by omega) (by omega) (by rw [hx, hy]; rfl) hxn hh (lv_sub hl [0, 2, 3, 4] rfl)
            · have hcq : q < n := hc
              have hmq := hmv i hic q hcq
              refine lv_aload_n X.1 X.2.1 d_P_joinOrbits_20 rfl (lv_at hl 2 rfl) ?_
              refine lv_iload X.1 X.2.1 d_P_joinOrbits_21 (lv_at hl 0 rfl) ?_
              refine lv_aload_n X.1 X.2.1 d_P_joinOrbits_23 rfl (lv_at hl 3 rfl) ?_
              refine lv_iload_n X.1 X.2.1 d_P_joinOrbits_24 rfl (lv_at hl 1 rfl) ?_
              refine hl_aaldG X hK hh hmO ((va_up_ne _ _ hma).trans hfm) (by omega) (by omega) hM d_P_joinOrbits_25 ?_
              refine lv_iload X.1 X.2.1 d_P_joinOrbits_26 (lv_at hl 0 rfl) ?_
              refine hl_iald X hK hh hRL ((va_up_ne _ _ (hra i hic)).trans hRf) (by omega) (by omega) d_P_joinOrbits_28 ?_
              refine hl_calli hh (hl_runV (k := 2) X hK hh (c_P_join l g _ L _ o ar n q (mv i q) x ho ((va_up_ne _ _ hoa).trans hfo) har (va_up_self ..) hoa hn hxn hcq hmq) wc_P_join w_255 w_3 wi_P_join ws_P_join (by decide +kernel) rfl rfl ⟨Nat.le_of_ble_eq_true rfl, Nat.le_of_ble_eq_true rfl⟩ ho ((va_up_ne _ _ hoa).trans hfo) rfl rfl rfl rfl (Nat.le_of_ble_eq_true rfl) hl.1 d_P_joinOrbits_29 ⟨Nat.le_of_ble_eq_true rfl, Nat.le_of_ble_eq_true rfl⟩) (fun r u H locs hp hh => ?_)
              obtain ⟨_, rfl⟩ := hp
              refine lv_pop X.1 X.2.1 d_P_joinOrbits_32 rfl ?_
              refine lv_iinc (v := nI (q + 1)) (lv' := [(4, .int (nI (q + 1))), (3, .int (nI i)), (0, .ref o), (1, .ref mO), (2, .int (nI cn))]) X.1 X.2.1 d_P_joinOrbits_33 hl (k := 0) rfl (hn_inc _) (by decide) rfl (fun ls hl => ?_)
              refine lv_goto (tgt := 10) X.1 X.2.1 d_P_joinOrbits_36 (by decide) ?_
              have hh : hl_H g (hm_A sz L) s.heap L (va_up (va_up f ar (hl_nat g n x)) ar (hl_nat g n (pt_join x q (mv i q)))) H locs := hh
              rw [hr_uu] at hh
              exact ih2 (q + 1) (pt_join x q (mv i q)) H locs ls (by omega) (by omega) (by rw [hx]; rfl) (pt_join_lt hxn hcq hmq) hh hl
        refine lv_iconst (v := nI 0) X.1 X.2.1 d_P_joinOrbits_7 (by decide) ?_
        refine lv_istore (lv' := [(4, .int (nI 0)), (3, .int (nI i)), (0, .ref o), (1, .ref mO), (2, .int (nI cn))]) X.1 X.2.1 d_P_joinOrbits_8 hl (by decide) rfl (fun ls hl => ?_)
        exact inner (n + 1) 0 y H locs ls (by omega) (by omega) rfl hyn hh hl
  refine lv_iconst (v := nI 0) X.1 X.2.1 d_P_joinOrbits_0 (by decide) ?_
  refine lv_istore_n (lv' := [(3, .int (nI 0)), (0, .ref o), (1, .ref mO), (2, .int (nI cn))]) X.1 X.2.1 d_P_joinOrbits_1 rfl hl (by decide) rfl (fun ls hl => ?_)
  exact loop (cn + 1) 0 z s.heap [] ls (by omega) (by omega) rfl hz (hl_same hfa hh) hl

/-- the images by m of each place below k and of its set's least, joined; and whether that joined two sets -/
def pt_im1 (m : Nat → Nat) (z : Nat → Nat) : Nat → (Nat → Nat) × Bool
  | 0 => (z, false)
  | k + 1 => (pt_join (pt_im1 m z k).1 (m k) (m ((pt_im1 m z k).1 k)), (pt_im1 m z k).2 || decide (¬ (pt_im1 m z k).1 (m k) = (pt_im1 m z k).1 (m ((pt_im1 m z k).1 k))))

def hb (b : Bool) : Int32 := if b then nI 1 else nI 0
theorem hb_f {b : Bool} (h : hb b = 0) : b = false := by
  cases b
  · rfl
  · exact absurd h (by decide)
theorem hb_t {b : Bool} (h : ¬ hb b = 0) : b = true := by
  cases b
  · exact absurd (show hb false = 0 by decide) h
  · rfl
theorem hb_01 (b : Bool) : hb b = 0 ∨ hb b = 1 := by cases b <;> decide

/-- private boolean joinImagesOnce(int[] move) -/
theorem c_P_joinImagesOnce (l : Launch) (g : hl_G) (sz : Nat) (L : List Nat) (f : Nat → va_E) (o ar n mR : Nat) (z mv : Nat → Nat)
    (ho : o ∈ L) (hfo : f o = .inr (4, [.ref ar])) (har : ar ∈ L) (hfa : f ar = hl_nat g n z) (hoa : o ≠ ar) (hn : n ≤ 24) (hz : ∀ p, p < n → z p < n)
    (hRL : mR ∈ L) (hRf : f mR = hl_nat g n mv) (hra : mR ≠ ar) (hmv : ∀ p, p < n → mv p < n) :
    Met l y_P_joinImagesOnce (hq y_P_joinImagesOnce b_P_joinImagesOnce 4 (some .boolean)) { frames := 2, cells := 0, slots := 0, locals := 50 } (hm_P g [.ref o, .ref mR] sz L f) (va_Qi (fun r u => r = hb (pt_im1 mv z n).2 ∧ u = (L, va_up f ar (hl_nat g n (pt_im1 mv z n).1))) (hm_B g sz L) (hm_A sz L)) 0 0 (hm_A sz L) := by
  refine hm_ofW (by decide) (Nat.le_of_ble_eq_true rfl) ?_
  intro p e s m below meth c X hr hlk hnm hK hsz hh ls hl
  have hl : lv_has ls 4 [(0, .ref o), (1, .ref mR)] := hl
  have loop : ∀ (t i : Nat) (y : Nat → Nat) (fl : Bool) (H : Heap) (locs : List Loc) (ls : Array Slot), n + 1 ≤ i + t → i ≤ n → (y, fl) = pt_im1 mv z i → (∀ p, p < n → y p < n) →
      hl_H g (hm_A sz L) s.heap L (va_up f ar (hl_nat g n y)) H locs → lv_has ls 4 [(3, .int (nI i)), (2, .int (hb fl)), (0, .ref o), (1, .ref mR)] →
      W p l e { frames := 2, cells := 0, slots := 0, locals := 50 } s m #[.ref o, .ref mR] below meth c H locs 0 0 (MQ below (va_Qi (fun r u => r = hb (pt_im1 mv z n).2 ∧ u = (L, va_up f ar (hl_nat g n (pt_im1 mv z n).1))) (hm_B g sz L) (hm_A sz L)) #[.ref o, .ref mR] s 0 0 (hm_A sz L)) (F0 m 4 ls []) := by
    intro t
    induction t with
    | zero => intros; omega
    | succ t ih =>
      intro i y fl H locs ls hki hin hy hyn hh hl
      refine lv_iload_n X.1 X.2.1 d_P_joinImagesOnce_4 rfl (lv_at hl 0 rfl) ?_
      refine lv_aload_n X.1 X.2.1 d_P_joinImagesOnce_5 rfl (lv_at hl 2 rfl) ?_
      refine hl_get X hK hh (ref := "CycleGroups$Partition") i_P (ci := 4) rfl 0 (by decide) w_32 rfl ho ((va_up_ne _ _ hoa).trans hfo) rfl d_P_joinImagesOnce_6 ?_
      refine hl_alenI X hK hh har (va_up_self ..) d_P_joinImagesOnce_9 ?_
      refine hn_ige (tgt := 39) X (by omega) (by omega) d_P_joinImagesOnce_10 (by decide) (fun hc => ?_) (fun hc => ?_)
      · have e : i = n := by omega
        subst e
        refine lv_iload_n X.1 X.2.1 d_P_joinImagesOnce_39 rfl (lv_at hl 1 rfl) ?_
        exact hm_zret X hr hlk hh (hb_01 fl) ⟨by rw [← hy], by rw [← hy]⟩ (Nat.le_of_ble_eq_true rfl) (Nat.le_of_ble_eq_true rfl) d_P_joinImagesOnce_40
      · have h1 := hmv i hc
        have h2 := hyn i hc
        have h3 := hmv (y i) h2
        refine lv_aload_n X.1 X.2.1 d_P_joinImagesOnce_13 rfl (lv_at hl 2 rfl) ?_
        refine lv_aload_n X.1 X.2.1 d_P_joinImagesOnce_14 rfl (lv_at hl 3 rfl) ?_
        refine lv_iload_n X.1 X.2.1 d_P_joinImagesOnce_15 rfl (lv_at hl 0 rfl) ?_
        refine hl_iald X hK hh hRL ((va_up_ne _ _ hra).trans hRf) (by omega) (by omega) d_P_joinImagesOnce_16 ?_
        refine lv_aload_n X.1 X.2.1 d_P_joinImagesOnce_17 rfl (lv_at hl 3 rfl) ?_
        refine lv_aload_n X.1 X.2.1 d_P_joinImagesOnce_18 rfl (lv_at hl 2 rfl) ?_
        refine hl_get X hK hh (ref := "CycleGroups$Partition") i_P (ci := 4) rfl 0 (by decide) w_32 rfl ho ((va_up_ne _ _ hoa).trans hfo) rfl d_P_joinImagesOnce_19 ?_
        refine lv_iload_n X.1 X.2.1 d_P_joinImagesOnce_22 rfl (lv_at hl 0 rfl) ?_
        refine hl_iald X hK hh har (va_up_self ..) (by omega) (by omega) d_P_joinImagesOnce_23 ?_
        refine hl_iald X hK hh hRL ((va_up_ne _ _ hra).trans hRf) (by omega) (by omega) d_P_joinImagesOnce_24 ?_
        refine hl_calli hh (hl_runV (k := 2) X hK hh (c_P_join l g _ L _ o ar n (mv i) (mv (y i)) y ho ((va_up_ne _ _ hoa).trans hfo) har (va_up_self ..) hoa hn hyn h1 h3) wc_P_join w_255 w_3 wi_P_join ws_P_join (by decide +kernel) rfl rfl ⟨Nat.le_of_ble_eq_true rfl, Nat.le_of_ble_eq_true rfl⟩ ho ((va_up_ne _ _ hoa).trans hfo) rfl rfl rfl rfl (Nat.le_of_ble_eq_true rfl) hl.1 d_P_joinImagesOnce_25 ⟨Nat.le_of_ble_eq_true rfl, Nat.le_of_ble_eq_true rfl⟩) (fun r u H locs hp hh => ?_)
        obtain ⟨rfl, rfl⟩ := hp
        have hh : hl_H g (hm_A sz L) s.heap L (va_up (va_up f ar (hl_nat g n y)) ar (hl_nat g n (pt_join y (mv i) (mv (y i))))) H locs := hh
        rw [hr_uu] at hh
        have e2 : pt_im1 mv z (i + 1) = (pt_join y (mv i) (mv (y i)), fl || decide (¬ y (mv i) = y (mv (y i)))) := by
          show (pt_join (pt_im1 mv z i).1 (mv i) (mv ((pt_im1 mv z i).1 i)), _) = _
          rw [← hy]
        refine lv_if_eq (tgt := 33) X.1 X.2.1 d_P_joinImagesOnce_28 (by decide) (fun hc => ?_) (fun hc => ?_)
        · have he : y (mv i) = y (mv (y i)) := by
            by_cases h : y (mv i) = y (mv (y i))
            · exact h
            · rw [if_neg h] at hc
              exact absurd hc (by decide)
          refine lv_iinc (v := nI (i + 1)) (lv' := [(3, .int (nI (i + 1))), (2, .int (hb fl)), (0, .ref o), (1, .ref mR)]) X.1 X.2.1 d_P_joinImagesOnce_33 hl (k := 0) rfl (hn_inc _) (by decide) rfl (fun ls hl => ?_)
          refine lv_goto (tgt := 4) X.1 X.2.1 d_P_joinImagesOnce_36 (by decide) ?_
          exact ih (i + 1) (pt_join y (mv i) (mv (y i))) fl H locs ls (by omega) (by omega) (by rw [e2, decide_eq_false (fun h2 => h2 he), Bool.or_false]) (pt_join_lt hyn h1 h3) hh hl
        · have hne : ¬ y (mv i) = y (mv (y i)) := fun h => hc (by rw [if_pos h]; rfl)
          refine lv_iconst (v := nI 1) X.1 X.2.1 d_P_joinImagesOnce_31 (by decide) ?_
          refine lv_istore_n (lv' := [(2, .int (nI 1)), (3, .int (nI i)), (0, .ref o), (1, .ref mR)]) X.1 X.2.1 d_P_joinImagesOnce_32 rfl hl (by decide) rfl (fun ls hl => ?_)
          refine lv_iinc (v := nI (i + 1)) (lv' := [(3, .int (nI (i + 1))), (2, .int (nI 1)), (0, .ref o), (1, .ref mR)]) X.1 X.2.1 d_P_joinImagesOnce_33 hl (k := 1) rfl (hn_inc _) (by decide) rfl (fun ls hl => ?_)
          refine lv_goto (tgt := 4) X.1 X.2.1 d_P_joinImagesOnce_36 (by decide) ?_
          exact ih (i + 1) (pt_join y (mv i) (mv (y i))) true H locs ls (by omega) (by omega) (by rw [e2, decide_eq_true hne, Bool.or_true]) (pt_join_lt hyn h1 h3) hh hl
  refine lv_iconst (v := nI 0) X.1 X.2.1 d_P_joinImagesOnce_0 (by decide) ?_
  refine lv_istore_n (lv' := [(2, .int (nI 0)), (0, .ref o), (1, .ref mR)]) X.1 X.2.1 d_P_joinImagesOnce_1 rfl hl (by decide) rfl (fun ls hl => ?_)
  refine lv_iconst (v := nI 0) X.1 X.2.1 d_P_joinImagesOnce_2 (by decide) ?_
  refine lv_istore_n (lv' := [(3, .int (nI 0)), (2, .int (nI 0)), (0, .ref o), (1, .ref mR)]) X.1 X.2.1 d_P_joinImagesOnce_3 rfl hl (by decide) rfl (fun ls hl => ?_)
  exact loop (n + 1) 0 z false s.heap [] ls (by omega) (by omega) rfl hz (hl_same hfa hh) hl

/-- one round over the first c moves: the sets, and whether any were joined -/
def pt_rnd (mv : Nat → Nat → Nat) (n : Nat) (z : Nat → Nat) : Nat → (Nat → Nat) × Bool
  | 0 => (z, false)
  | c + 1 => ((pt_im1 (mv c) (pt_rnd mv n z c).1 n).1, (pt_rnd mv n z c).2 || (pt_im1 (mv c) (pt_rnd mv n z c).1 n).2)
/-- rounds until nothing is joined, at most k -/
def pt_blk (mv : Nat → Nat → Nat) (n c : Nat) : Nat → (Nat → Nat) → Nat → Nat
  | 0, z => z
  | k + 1, z => if (pt_rnd mv n z c).2 then pt_blk mv n c k (pt_rnd mv n z c).1 else (pt_rnd mv n z c).1
theorem pt_im1_lt {m z : Nat → Nat} {n : Nat} (hz : ∀ p, p < n → z p < n) (hm : ∀ p, p < n → m p < n) : ∀ k, k ≤ n → ∀ p, p < n → (pt_im1 m z k).1 p < n := by
  intro k
  induction k with
  | zero => intro _; exact hz
  | succ k ih =>
    intro hk
    have h1 := ih (by omega)
    exact pt_join_lt h1 (hm k (by omega)) (hm _ (h1 k (by omega)))

/-- void joinImages(int[][] moves, int count) -/
theorem c_P_joinImages (l : Launch) (g : hl_G) (sz : Nat) (L : List Nat) (f : Nat → va_E) (o ar n mO cn : Nat) (z : Nat → Nat) (zM : Nat → Option Nat) (mR : Nat → Nat) (mv : Nat → Nat → Nat)
    (ho : o ∈ L) (hfo : f o = .inr (4, [.ref ar])) (har : ar ∈ L) (hfa : f ar = hl_nat g n z) (hoa : o ≠ ar) (hn : n ≤ 24) (hz : ∀ p, p < n → z p < n)
    (hmO : mO ∈ L) (hfm : f mO = hl_grd g 10 zM) (hcn : cn ≤ 10) (hrows : hl_rows g L f n zM mR mv cn) (hma : mO ≠ ar) (hra : ∀ i, i < cn → mR i ≠ ar) (hmv : ∀ i, i < cn → ∀ p, p < n → mv i p < n) :
    Met l y_P_joinImages (hq y_P_joinImages b_P_joinImages 6 none) { frames := 3, cells := 0, slots := 0, locals := 80 } (hm_P g [.ref o, .ref mO, .int (nI cn)] sz L f) (va_Qv (fun u => u = (L, va_up f ar (hl_nat g n (pt_blk mv n cn n z)))) (hm_B g sz L) (hm_A sz L)) 0 0 (hm_A sz L) := by
  refine hm_ofW (by decide) (Nat.le_of_ble_eq_true rfl) ?_
  intro p e s m below meth c X hr hlk hnm hK hsz hh ls hl
  have hl : lv_has ls 6 [(0, .ref o), (1, .ref mO), (2, .int (nI cn))] := hl
  have loop : ∀ (t i : Nat) (y : Nat → Nat) (fl : Bool) (H : Heap) (locs : List Loc) (ls : Array Slot), n = i + t → (if fl then pt_blk mv n cn t y else y) = pt_blk mv n cn n z → (∀ p, p < n → y p < n) →
      hl_H g (hm_A sz L) s.heap L (va_up f ar (hl_nat g n y)) H locs → lv_has ls 6 [(4, .int (nI i)), (3, .int (hb fl)), (0, .ref o), (1, .ref mO), (2, .int (nI cn))] →
      W p l e { frames := 3, cells := 0, slots := 0, locals := 80 } s m #[.ref o, .ref mO, .int (nI cn)] below meth c H locs 0 0 (MQ below (va_Qv (fun u => u = (L, va_up f ar (hl_nat g n (pt_blk mv n cn n z)))) (hm_B g sz L) (hm_A sz L)) #[.ref o, .ref mO, .int (nI cn)] s 0 0 (hm_A sz L)) (F0 m 5 ls []) := by
    intro t
    induction t with
    | zero =>
      intro i y fl H locs ls hki hy hyn hh hl
      have hy : y = pt_blk mv n cn n z := by
        rw [← hy]
        cases fl <;> rfl
      subst hy
      refine lv_iload_n X.1 X.2.1 d_P_joinImages_5 rfl (lv_at hl 1 rfl) ?_
      refine lv_if_eq (tgt := 55) X.1 X.2.1 d_P_joinImages_6 (by decide) (fun hc => ?_) (fun hc => ?_)
      · skip
        exact hm_vret X hr hlk hh rfl (Nat.le_of_ble_eq_true rfl) (Nat.le_of_ble_eq_true rfl) d_P_joinImages_55
      · skip
        refine lv_iload X.1 X.2.1 d_P_joinImages_9 (lv_at hl 0 rfl) ?_
        refine lv_aload_n X.1 X.2.1 d_P_joinImages_11 rfl (lv_at hl 2 rfl) ?_
        refine hl_get X hK hh (ref := "CycleGroups$Partition") i_P (ci := 4) rfl 0 (by decide) w_32 rfl ho ((va_up_ne _ _ hoa).trans hfo) rfl d_P_joinImages_12 ?_
        refine hl_alenI X hK hh har (va_up_self ..) d_P_joinImages_15 ?_
        refine hn_ige (tgt := 55) X (by omega) (by omega) d_P_joinImages_16 (by decide) (fun hc => ?_) (fun hc => ?_)
        · skip
          exact hm_vret X hr hlk hh rfl (Nat.le_of_ble_eq_true rfl) (Nat.le_of_ble_eq_true rfl) d_P_joinImages_55
        · omega
    | succ t ih =>
      intro i y fl H locs ls hki hy hyn hh hl
      refine lv_iload_n X.1 X.2.1 d_P_joinImages_5 rfl (lv_at hl 1 rfl) ?_
      refine lv_if_eq (tgt := 55) X.1 X.2.1 d_P_joinImages_6 (by decide) (fun hc => ?_) (fun hc => ?_)
      · have hfl : fl = false := by
          cases fl
          · rfl
          · exact absurd hc (by decide)
        subst hfl
        have hy : y = pt_blk mv n cn n z := hy
        subst hy
        exact hm_vret X hr hlk hh rfl (Nat.le_of_ble_eq_true rfl) (Nat.le_of_ble_eq_true rfl) d_P_joinImages_55
      · have hfl : fl = true := by
          cases fl
          · exact absurd (show hb false = 0 by decide) hc
          · rfl
        subst hfl
        refine lv_iload X.1 X.2.1 d_P_joinImages_9 (lv_at hl 0 rfl) ?_
        refine lv_aload_n X.1 X.2.1 d_P_joinImages_11 rfl (lv_at hl 2 rfl) ?_
        refine hl_get X hK hh (ref := "CycleGroups$Partition") i_P (ci := 4) rfl 0 (by decide) w_32 rfl ho ((va_up_ne _ _ hoa).trans hfo) rfl d_P_joinImages_12 ?_
        refine hl_alenI X hK hh har (va_up_self ..) d_P_joinImages_15 ?_
        refine hn_ige (tgt := 55) X (by omega) (by omega) d_P_joinImages_16 (by decide) (fun hc => ?_) (fun hc => ?_)
        · omega
        · have hy : pt_blk mv n cn (t + 1) y = pt_blk mv n cn n z := hy
          have inner : ∀ (t2 q : Nat) (x : Nat → Nat) (fl : Bool) (H : Heap) (locs : List Loc) (ls : Array Slot), cn + 1 ≤ q + t2 → q ≤ cn → (x, fl) = pt_rnd mv n y q → (∀ p, p < n → x p < n) →
              hl_H g (hm_A sz L) s.heap L (va_up f ar (hl_nat g n x)) H locs → lv_has ls 6 [(5, .int (nI q)), (3, .int (hb fl)), (4, .int (nI i)), (0, .ref o), (1, .ref mO), (2, .int (nI cn))] →
              W p l e { frames := 3, cells := 0, slots := 0, locals := 80 } s m #[.ref o, .ref mO, .int (nI cn)] below meth c H locs 0 0 (MQ below (va_Qv (fun u => u = (L, va_up f ar (hl_nat g n (pt_blk mv n cn n z)))) (hm_B g sz L) (hm_A sz L)) #[.ref o, .ref mO, .int (nI cn)] s 0 0 (hm_A sz L)) (F0 m 24 ls []) := by
            intro t2
            induction t2 with
            | zero => intros; omega
            | succ t2 ih2 =>
              intro q x fl H locs ls hkq hqn hx hxn hh hl
              refine lv_iload X.1 X.2.1 d_P_joinImages_24 (lv_at hl 0 rfl) ?_
              refine lv_iload_n X.1 X.2.1 d_P_joinImages_26 rfl (lv_at hl 5 rfl) ?_
              refine hn_ige (tgt := 49) X (by omega) (by omega) d_P_joinImages_27 (by decide) (fun hc => ?_) (fun hc => ?_)
              · have e : cn = q := by omega
                subst e
                refine lv_iinc (v := nI (i + 1)) (lv' := [(4, .int (nI (i + 1))), (5, .int (nI cn)), (3, .int (hb fl)), (0, .ref o), (1, .ref mO), (2, .int (nI cn))]) X.1 X.2.1 d_P_joinImages_49 hl (k := 2) rfl (hn_inc _) (by decide) rfl (fun ls hl => ?_)
                refine lv_goto (tgt := 5) X.1 X.2.1 d_P_joinImages_52 (by decide) ?_
                refine ih (i + 1) x fl H locs ls (by omega) ?_ hxn hh (lv_sub hl [0, 2, 3, 4, 5] rfl)
                rw [← hy]
                show _ = if (pt_rnd mv n y cn).2 then pt_blk mv n cn t (pt_rnd mv n y cn).1 else (pt_rnd mv n y cn).1
                rw [← hx]
              · have hcq : q < cn := hc
                obtain ⟨hM, hRL, hRf⟩ := hrows q hcq
                refine lv_aload_n X.1 X.2.1 d_P_joinImages_30 rfl (lv_at hl 3 rfl) ?_
                refine lv_aload_n X.1 X.2.1 d_P_joinImages_31 rfl (lv_at hl 4 rfl) ?_
                refine lv_iload X.1 X.2.1 d_P_joinImages_32 (lv_at hl 0 rfl) ?_
                refine hl_aaldG X hK hh hmO ((va_up_ne _ _ hma).trans hfm) (by omega) (by omega) hM d_P_joinImages_34 ?_
                refine hl_calli hh (hl_runV (k := 1) X hK hh (c_P_joinImagesOnce l g _ L _ o ar n (mR q) x (mv q) ho ((va_up_ne _ _ hoa).trans hfo) har (va_up_self ..) hoa hn hxn hRL ((va_up_ne _ _ (hra q hcq)).trans hRf) (hra q hcq) (hmv q hcq)) wc_P_joinImagesOnce w_286 w_3 wi_P_joinImagesOnce ws_P_joinImagesOnce (by decide +kernel) rfl rfl ⟨Nat.le_of_ble_eq_true rfl, Nat.le_of_ble_eq_true rfl⟩ ho ((va_up_ne _ _ hoa).trans hfo) rfl rfl rfl rfl (Nat.le_of_ble_eq_true rfl) hl.1 d_P_joinImages_35 ⟨Nat.le_of_ble_eq_true rfl, Nat.le_of_ble_eq_true rfl⟩) (fun r u H locs hp hh => ?_)
                obtain ⟨rfl, rfl⟩ := hp
                have hh : hl_H g (hm_A sz L) s.heap L (va_up (va_up f ar (hl_nat g n x)) ar (hl_nat g n (pt_im1 (mv q) x n).1)) H locs := hh
                rw [hr_uu] at hh
                have e2 : pt_rnd mv n y (q + 1) = ((pt_im1 (mv q) x n).1, fl || (pt_im1 (mv q) x n).2) := by
                  show ((pt_im1 (mv q) (pt_rnd mv n y q).1 n).1, (pt_rnd mv n y q).2 || (pt_im1 (mv q) (pt_rnd mv n y q).1 n).2) = _
                  rw [← hx]
                have hlt := pt_im1_lt hxn (hmv q hcq) n (Nat.le_refl n)
                refine lv_if_eq (tgt := 43) X.1 X.2.1 d_P_joinImages_38 (by decide) (fun hc => ?_) (fun hc => ?_)
                · have he : (pt_im1 (mv q) x n).2 = false := hb_f hc
                  refine lv_iinc (v := nI (q + 1)) (lv' := [(5, .int (nI (q + 1))), (3, .int (hb fl)), (4, .int (nI i)), (0, .ref o), (1, .ref mO), (2, .int (nI cn))]) X.1 X.2.1 d_P_joinImages_43 hl (k := 0) rfl (hn_inc _) (by decide) rfl (fun ls hl => ?_)
                  refine lv_goto (tgt := 24) X.1 X.2.1 d_P_joinImages_46 (by decide) ?_
                  exact ih2 (q + 1) (pt_im1 (mv q) x n).1 fl H locs ls (by omega) (by omega) (by rw [e2, he, Bool.or_false]) hlt hh hl
                · have he : (pt_im1 (mv q) x n).2 = true := hb_t hc
                  refine lv_iconst (v := nI 1) X.1 X.2.1 d_P_joinImages_41 (by decide) ?_
                  refine lv_istore_n (lv' := [(3, .int (nI 1)), (5, .int (nI q)), (4, .int (nI i)), (0, .ref o), (1, .ref mO), (2, .int (nI cn))]) X.1 X.2.1 d_P_joinImages_42 rfl hl (by decide) rfl (fun ls hl => ?_)
                  refine lv_iinc (v := nI (q + 1)) (lv' := [(5, .int (nI (q + 1))), (3, .int (nI 1)), (4, .int (nI i)), (0, .ref o), (1, .ref mO), (2, .int (nI cn))]) X.1 X.2.1 d_P_joinImages_43 hl (k := 1) rfl (hn_inc _) (by decide) rfl (fun ls hl => ?_)
                  refine lv_goto (tgt := 24) X.1 X.2.1 d_P_joinImages_46 (by decide) ?_
                  exact ih2 (q + 1) (pt_im1 (mv q) x n).1 true H locs ls (by omega) (by omega) (by rw [e2, he, Bool.or_true]) hlt hh hl
          refine lv_iconst (v := nI 0) X.1 X.2.1 d_P_joinImages_19 (by decide) ?_
          refine lv_istore_n (lv' := [(3, .int (nI 0)), (4, .int (nI i)), (0, .ref o), (1, .ref mO), (2, .int (nI cn))]) X.1 X.2.1 d_P_joinImages_20 rfl hl (by decide) rfl (fun ls hl => ?_)
          refine lv_iconst (v := nI 0) X.1 X.2.1 d_P_joinImages_21 (by decide) ?_
          refine lv_istore (lv' := [(5, .int (nI 0)), (3, .int (nI 0)), (4, .int (nI i)), (0, .ref o), (1, .ref mO), (2, .int (nI cn))]) X.1 X.2.1 d_P_joinImages_22 hl (by decide) rfl (fun ls hl => ?_)
          exact inner (cn + 1) 0 y false H locs ls (by omega) (by omega) rfl hyn hh hl
  refine lv_iconst (v := nI 1) X.1 X.2.1 d_P_joinImages_0 (by decide) ?_
  refine lv_istore_n (lv' := [(3, .int (nI 1)), (0, .ref o), (1, .ref mO), (2, .int (nI cn))]) X.1 X.2.1 d_P_joinImages_1 rfl hl (by decide) rfl (fun ls hl => ?_)
  refine lv_iconst (v := nI 0) X.1 X.2.1 d_P_joinImages_2 (by decide) ?_
  refine lv_istore (lv' := [(4, .int (nI 0)), (3, .int (nI 1)), (0, .ref o), (1, .ref mO), (2, .int (nI cn))]) X.1 X.2.1 d_P_joinImages_3 hl (by decide) rfl (fun ls hl => ?_)
  exact loop n 0 z true s.heap [] ls (by omega) rfl hz (hl_same hfa hh) hl
end

