/-! Pure: what each call answers and does, said once for both; each is one answer. -/
section
theorem ip_no {q : Int32} {n j : Nat} (hn : n < 2 ^ 31) (h : ip q n = false) (hj : j < n) (e : q = nI j) : False := by
  rw [e, ip_in hn hj] at h; exact Bool.noConfusion h

def ls_move (mm : Nat) (mv : Nat → Nat → Nat) (r : Int32) (mm2 : Nat) (mv2 : Nat → Nat → Nat) : Prop :=
  (mm < 10 ∧ r = nI mm ∧ mm2 = mm + 1 ∧ mv2 = va_up mv mm id) ∨ (mm = 10 ∧ r = -1 ∧ mm2 = mm ∧ mv2 = mv)
theorem ls_move_det {mm : Nat} {mv : Nat → Nat → Nat} {r r2 : Int32} {m2 m3 : Nat} {v2 v3 : Nat → Nat → Nat} (h1 : ls_move mm mv r m2 v2) (h2 : ls_move mm mv r2 m3 v3) : r = r2 ∧ m2 = m3 ∧ v2 = v3 := by
  rcases h1 with ⟨a, rfl, rfl, rfl⟩ | ⟨a, rfl, rfl, rfl⟩ <;> rcases h2 with ⟨b, rfl, rfl, rfl⟩ | ⟨b, rfl, rfl, rfl⟩ <;> first | exact ⟨rfl, rfl, rfl⟩ | (exfalso; omega)
def ls_state (sm : Nat) (st : Nat → Nat → Nat) (r : Int32) (sm2 : Nat) (st2 : Nat → Nat → Nat) : Prop :=
  (sm < 20 ∧ r = nI sm ∧ sm2 = sm + 1 ∧ st2 = va_up st sm id) ∨ (sm = 20 ∧ r = -1 ∧ sm2 = sm ∧ st2 = st)
theorem ls_state_det {sm : Nat} {st : Nat → Nat → Nat} {r r2 : Int32} {m2 m3 : Nat} {v2 v3 : Nat → Nat → Nat} (h1 : ls_state sm st r m2 v2) (h2 : ls_state sm st r2 m3 v3) : r = r2 ∧ m2 = m3 ∧ v2 = v3 := by
  rcases h1 with ⟨a, rfl, rfl, rfl⟩ | ⟨a, rfl, rfl, rfl⟩ <;> rcases h2 with ⟨b, rfl, rfl, rfl⟩ | ⟨b, rfl, rfl, rfl⟩ <;> first | exact ⟨rfl, rfl, rfl⟩ | (exfalso; omega)

def ls_cycle (n mm : Nat) (mv : Nat → Nat → Nat) (q1 q2 q3 r : Int32) (mv2 : Nat → Nat → Nat) : Prop :=
  ((ip q1 mm = false ∨ ip q2 n = false ∨ ip q3 n = false ∨ q2 = q3 ∨ (∃ j c, j < mm ∧ c < n ∧ q1 = nI j ∧ q3 = nI c ∧ mv j c ≠ c)) ∧ r = nI 0 ∧ mv2 = mv) ∨
  (∃ j a c, j < mm ∧ a < n ∧ c < n ∧ a ≠ c ∧ mv j c = c ∧ q1 = nI j ∧ q2 = nI a ∧ q3 = nI c ∧ r = nI 1 ∧ mv2 = va_up mv j (mv j ∘ gp_sw a c))
theorem ls_cycle_no {n mm : Nat} {mv : Nat → Nat → Nat} {q1 q2 q3 : Int32} (hn : n < 2 ^ 31) (hm : mm < 2 ^ 31)
    (h : ip q1 mm = false ∨ ip q2 n = false ∨ ip q3 n = false ∨ q2 = q3 ∨ (∃ j c, j < mm ∧ c < n ∧ q1 = nI j ∧ q3 = nI c ∧ mv j c ≠ c))
    {j a c : Nat} (hj : j < mm) (ha : a < n) (hc : c < n) (hac : a ≠ c) (hmv : mv j c = c) (e1 : q1 = nI j) (e2 : q2 = nI a) (e3 : q3 = nI c) : False := by
  rcases h with h | h | h | h | ⟨j2, c2, k1, k2, k3, k4, k5⟩
  · exact ip_no hm h hj e1
  · exact ip_no hn h ha e2
  · exact ip_no hn h hc e3
  · rw [e2, e3] at h; exact hac ((nI_eq (by omega) (by omega)).1 h)
  · rw [e1] at k3; rw [e3] at k4
    have z1 := (nI_eq (by omega) (by omega)).1 k3
    have z2 := (nI_eq (by omega) (by omega)).1 k4
    subst z1; subst z2
    exact k5 hmv
theorem ls_cycle_det {n mm : Nat} {mv : Nat → Nat → Nat} {q1 q2 q3 r r2 : Int32} {v2 v3 : Nat → Nat → Nat} (hn : n < 2 ^ 31) (hm : mm < 2 ^ 31) (h1 : ls_cycle n mm mv q1 q2 q3 r v2) (h2 : ls_cycle n mm mv q1 q2 q3 r2 v3) : r = r2 ∧ v2 = v3 := by
  rcases h1 with ⟨a1, rfl, rfl⟩ | ⟨j, a, c, k1, k2, k3, k4, k5, k6, k7, k8, rfl, rfl⟩ <;> rcases h2 with ⟨b1, rfl, rfl⟩ | ⟨j2, a2, c2, m1, m2, m3, m4, m5, m6, m7, m8, rfl, rfl⟩
  · exact ⟨rfl, rfl⟩
  · exact absurd (ls_cycle_no hn hm a1 m1 m2 m3 m4 m5 m6 m7 m8) id
  · exact absurd (ls_cycle_no hn hm b1 k1 k2 k3 k4 k5 k6 k7 k8) id
  · rw [k6] at m6; rw [k7] at m7; rw [k8] at m8
    have z1 := (nI_eq (by omega) (by omega)).1 m6
    have z2 := (nI_eq (by omega) (by omega)).1 m7
    have z3 := (nI_eq (by omega) (by omega)).1 m8
    subst z1; subst z2; subst z3
    exact ⟨rfl, rfl⟩

def ls_apply (mm sm : Nat) (mv st : Nat → Nat → Nat) (q1 q2 r : Int32) (st2 : Nat → Nat → Nat) : Prop :=
  ((ip q1 sm = false ∨ ip q2 mm = false) ∧ r = nI 0 ∧ st2 = st) ∨ (∃ j k, j < sm ∧ k < mm ∧ q1 = nI j ∧ q2 = nI k ∧ r = nI 1 ∧ st2 = va_up st j (mv k ∘ st j))
theorem ls_apply_det {mm sm : Nat} {mv st : Nat → Nat → Nat} {q1 q2 r r2 : Int32} {v2 v3 : Nat → Nat → Nat} (hn : sm < 2 ^ 31) (hm : mm < 2 ^ 31) (h1 : ls_apply mm sm mv st q1 q2 r v2) (h2 : ls_apply mm sm mv st q1 q2 r2 v3) : r = r2 ∧ v2 = v3 := by
  rcases h1 with ⟨a1, rfl, rfl⟩ | ⟨j, k, k1, k2, k3, k4, rfl, rfl⟩ <;> rcases h2 with ⟨b1, rfl, rfl⟩ | ⟨j2, c2, m1, m2, m3, m4, rfl, rfl⟩
  · exact ⟨rfl, rfl⟩
  · rcases a1 with h | h
    · exact absurd (ip_no hn h m1 m3) id
    · exact absurd (ip_no hm h m2 m4) id
  · rcases b1 with h | h
    · exact absurd (ip_no hn h k1 k3) id
    · exact absurd (ip_no hm h k2 k4) id
  · rw [k3] at m3; rw [k4] at m4
    have z1 := (nI_eq (by omega) (by omega)).1 m3
    have z2 := (nI_eq (by omega) (by omega)).1 m4
    subst z1; subst z2
    exact ⟨rfl, rfl⟩

def ls_exch (n sm : Nat) (st : Nat → Nat → Nat) (q1 q2 q3 r : Int32) (st2 : Nat → Nat → Nat) : Prop :=
  ((ip q1 sm = false ∨ ip q2 n = false ∨ ip q3 n = false ∨ q2 = q3) ∧ r = nI 0 ∧ st2 = st) ∨
  (∃ j a c, j < sm ∧ a < n ∧ c < n ∧ a ≠ c ∧ q1 = nI j ∧ q2 = nI a ∧ q3 = nI c ∧ r = nI 1 ∧ st2 = va_up st j (gp_sw a c ∘ st j))
theorem ls_exch_no {n sm : Nat} {q1 q2 q3 : Int32} (hn : n < 2 ^ 31) (hm : sm < 2 ^ 31) (h : ip q1 sm = false ∨ ip q2 n = false ∨ ip q3 n = false ∨ q2 = q3)
    {j a c : Nat} (hj : j < sm) (ha : a < n) (hc : c < n) (hac : a ≠ c) (e1 : q1 = nI j) (e2 : q2 = nI a) (e3 : q3 = nI c) : False := by
  rcases h with h | h | h | h
  · exact ip_no hm h hj e1
  · exact ip_no hn h ha e2
  · exact ip_no hn h hc e3
  · rw [e2, e3] at h; exact hac ((nI_eq (by omega) (by omega)).1 h)
theorem ls_exch_det {n sm : Nat} {st : Nat → Nat → Nat} {q1 q2 q3 r r2 : Int32} {v2 v3 : Nat → Nat → Nat} (hn : n < 2 ^ 31) (hm : sm < 2 ^ 31) (h1 : ls_exch n sm st q1 q2 q3 r v2) (h2 : ls_exch n sm st q1 q2 q3 r2 v3) : r = r2 ∧ v2 = v3 := by
  rcases h1 with ⟨a1, rfl, rfl⟩ | ⟨j, a, c, k1, k2, k3, k4, k6, k7, k8, rfl, rfl⟩ <;> rcases h2 with ⟨b1, rfl, rfl⟩ | ⟨j2, a2, c2, m1, m2, m3, m4, m6, m7, m8, rfl, rfl⟩
  · exact ⟨rfl, rfl⟩
  · exact absurd (ls_exch_no hn hm a1 m1 m2 m3 m4 m6 m7 m8) id
  · exact absurd (ls_exch_no hn hm b1 k1 k2 k3 k4 k6 k7 k8) id
  · rw [k6] at m6; rw [k7] at m7; rw [k8] at m8
    have z1 := (nI_eq (by omega) (by omega)).1 m6
    have z2 := (nI_eq (by omega) (by omega)).1 m7
    have z3 := (nI_eq (by omega) (by omega)).1 m8
    subst z1; subst z2; subst z3
    exact ⟨rfl, rfl⟩

def ls_scr (mm sm : Nat) (mv st : Nat → Nat → Nat) (q1 q3 : Int32) (x0 : Int64) (r : Int32) (st2 : Nat → Nat → Nat) : Prop :=
  ((ip q1 sm = false ∨ mm = 0 ∨ ip q3 1001 = false) ∧ r = nI 0 ∧ st2 = st) ∨
  (∃ j k, j < sm ∧ 0 < mm ∧ k ≤ 1000 ∧ q1 = nI j ∧ q3 = nI k ∧ r = nI 1 ∧ st2 = va_up st j (sc_r mm mv k x0 (st j)))
theorem ls_scr_det {mm sm : Nat} {mv st : Nat → Nat → Nat} {q1 q3 r r2 : Int32} {x0 : Int64} {v2 v3 : Nat → Nat → Nat} (hn : sm < 2 ^ 31) (h1 : ls_scr mm sm mv st q1 q3 x0 r v2) (h2 : ls_scr mm sm mv st q1 q3 x0 r2 v3) : r = r2 ∧ v2 = v3 := by
  rcases h1 with ⟨a1, rfl, rfl⟩ | ⟨j, k, k1, k2, k3, k4, k5, rfl, rfl⟩ <;> rcases h2 with ⟨b1, rfl, rfl⟩ | ⟨j2, c2, m1, m2, m3, m4, m5, rfl, rfl⟩
  · exact ⟨rfl, rfl⟩
  · rcases a1 with h | h | h
    · exact absurd (ip_no hn h m1 m4) id
    · omega
    · exact absurd (ip_no (by decide) h (by omega) m5) id
  · rcases b1 with h | h | h
    · exact absurd (ip_no hn h k1 k4) id
    · omega
    · exact absurd (ip_no (by decide) h (by omega) k5) id
  · rw [k4] at m4; rw [k5] at m5
    have z1 := (nI_eq (by omega) (by omega)).1 m4
    have z2 := (nI_eq (by omega) (by omega)).1 m5
    subst z1; subst z2
    exact ⟨rfl, rfl⟩

/-- an answer about a number below n, else y -/
def ls_1 {α : Type} (n : Nat) (q1 : Int32) (y : α) (P : Nat → α → Prop) (r : α) : Prop := (ip q1 n = false ∧ r = y) ∨ (∃ j, j < n ∧ q1 = nI j ∧ P j r)
theorem ls_1_det {α : Type} {n : Nat} {q1 : Int32} {y r r2 : α} {P : Nat → α → Prop} (hn : n < 2 ^ 31) (hP : ∀ j x x2, j < n → P j x → P j x2 → x = x2) (h1 : ls_1 n q1 y P r) (h2 : ls_1 n q1 y P r2) : r = r2 := by
  rcases h1 with ⟨a1, rfl⟩ | ⟨j, k1, k2, k3⟩ <;> rcases h2 with ⟨b1, rfl⟩ | ⟨j2, m1, m2, m3⟩
  · rfl
  · exact absurd (ip_no hn a1 m1 m2) id
  · exact absurd (ip_no hn b1 k1 k2) id
  · rw [k2] at m2
    have z1 := (nI_eq (by omega) (by omega)).1 m2
    subst z1
    exact hP j r r2 k1 k3 m3
def ls_2 (n n2 : Nat) (q1 q2 : Int32) (P : Nat → Nat → Int32) (r : Int32) : Prop := ((ip q1 n = false ∨ ip q2 n2 = false) ∧ r = -1) ∨ (∃ j k, j < n ∧ k < n2 ∧ q1 = nI j ∧ q2 = nI k ∧ r = P j k)
theorem ls_2_det {n n2 : Nat} {q1 q2 r r2 : Int32} {P : Nat → Nat → Int32} (hn : n < 2 ^ 31) (hn2 : n2 < 2 ^ 31) (h1 : ls_2 n n2 q1 q2 P r) (h2 : ls_2 n n2 q1 q2 P r2) : r = r2 := by
  rcases h1 with ⟨a1, rfl⟩ | ⟨j, k, k1, k2, k3, k4, rfl⟩ <;> rcases h2 with ⟨b1, rfl⟩ | ⟨j2, c2, m1, m2, m3, m4, rfl⟩
  · rfl
  · rcases a1 with h | h
    · exact absurd (ip_no hn h m1 m3) id
    · exact absurd (ip_no hn2 h m2 m4) id
  · rcases b1 with h | h
    · exact absurd (ip_no hn h k1 k3) id
    · exact absurd (ip_no hn2 h k2 k4) id
  · rw [k3] at m3; rw [k4] at m4
    have z1 := (nI_eq (by omega) (by omega)).1 m3
    have z2 := (nI_eq (by omega) (by omega)).1 m4
    subst z1; subst z2
    rfl
/-- an answer by the sizes of the spreads -/
def ls_S (G : gp_f → Prop) (n : Nat) (F : (Nat → Nat) → Int32) (r : Int32) : Prop := ∃ S, sz_all G n S ∧ r = F S
theorem ls_S_det {G : gp_f → Prop} {n : Nat} {F : (Nat → Nat) → Int32} {r r2 : Int32} (hF : ∀ S S2, (∀ i, i < n → S i = S2 i) → F S = F S2) (h1 : ls_S G n F r) (h2 : ls_S G n F r2) : r = r2 := by
  obtain ⟨S, a1, rfl⟩ := h1
  obtain ⟨S2, b1, rfl⟩ := h2
  exact hF S S2 (sz_uniq a1 b1)
theorem ls_pr {n : Nat} {S S2 : Nat → Nat} (h : ∀ i, i < n → S i = S2 i) : ch_pr S 0 n = ch_pr S2 0 n := ch_pr_congr n 0 (fun j _ hj => h j (by omega))

/-! Cells: the class's and the reference's side by side. -/
def md_I (g : hl_G) (L : List Nat) (f : Nat → va_E) (T d : Nat → Nat) (n mm sm : Nat) (mv st : Nat → Nat → Nat) : Prop :=
  (∀ k, md_i k = true → d k ∈ L ∧ T (d k) = 20000 + k) ∧ ∃ (f0 : Nat → va_E) (kn mk : Nat) (r3 r5 r7 r8 r10 r11 r12 r13 r14 r15 r16 r17 r18 r19 r20 r21 r22 r23 : Nat → Nat),
    (∀ i, i < mm → fr r3 i (mv i)) ∧ (∀ j, j < sm → fr r5 j (st j)) ∧ (kn = 0 ∨ kn = 1) ∧ (∀ p, r8 p = 0 ∨ r8 p = 1) ∧ (kn = 1 → md_K n mm mv n r7 r8) ∧
    f = mf g d f0 n mm sm kn mk r3 r5 r7 r8 r10 r11 r12 r13 r14 r15 r16 r17 r18 r19 r20 r21 r22 r23
theorem md_I_to {g : hl_G} {L L1 : List Nat} {f f1 : Nat → va_E} {T T1 d : Nat → Nat} {n mm sm : Nat} {mv st : Nat → Nat → Nat} (h : md_I g L f T d n mm sm mv st) (hL : ∀ q, q ∈ L → q ∈ L1 ∧ T1 q = T q) (hf : ∀ q, q ∈ L → 20000 ≤ T q → f1 q = f q) :
    md_I g L1 f1 T1 d n mm sm mv st := by
  obtain ⟨hd, f0, kn, mk, r3, r5, r7, r8, r10, r11, r12, r13, r14, r15, r16, r17, r18, r19, r20, r21, r22, r23, k1, k2, k3, k4, k5, rfl⟩ := h
  have hD : md_D L d := ⟨T, hd⟩
  have e : ∀ k, md_i k = true → f1 (d k) = mf g d f0 n mm sm kn mk r3 r5 r7 r8 r10 r11 r12 r13 r14 r15 r16 r17 r18 r19 r20 r21 r22 r23 (d k) := fun k hk => hf _ (hd k hk).1 (by rw [(hd k hk).2]; omega)
  refine ⟨fun k hk => ⟨(hL _ (hd k hk).1).1, (hL _ (hd k hk).1).2.trans (hd k hk).2⟩, f1, kn, mk, r3, r5, r7, r8, r10, r11, r12, r13, r14, r15, r16, r17, r18, r19, r20, r21, r22, r23, k1, k2, k3, k4, k5, ?_⟩
  exact Eq.symm (md_self ((e 0 rfl).trans md_at_0) ((e 3 rfl).trans (md_at_3 hD)) ((e 5 rfl).trans (md_at_5 hD)) ((e 7 rfl).trans (md_at_7 hD)) ((e 8 rfl).trans (md_at_8 hD)) ((e 10 rfl).trans (md_at_10 hD)) ((e 11 rfl).trans (md_at_11 hD)) ((e 12 rfl).trans (md_at_12 hD)) ((e 13 rfl).trans (md_at_13 hD)) ((e 14 rfl).trans (md_at_14 hD)) ((e 15 rfl).trans (md_at_15 hD)) ((e 16 rfl).trans (md_at_16 hD)) ((e 17 rfl).trans (md_at_17 hD)) ((e 18 rfl).trans (md_at_18 hD)) ((e 19 rfl).trans (md_at_19 hD)) ((e 20 rfl).trans (md_at_20 hD)) ((e 21 rfl).trans (md_at_21 hD)) ((e 22 rfl).trans (md_at_22 hD)) ((e 23 rfl).trans (md_at_23 hD)))
theorem md_fr {L : List Nat} {T d : Nat → Nat} (hd : ∀ k, md_i k = true → d k ∈ L ∧ T (d k) = 20000 + k) {q : Nat} (hq : T q < 20000) : ∀ k, md_i k = true → q ≠ d k :=
  fun k hk e => by rw [e, (hd k hk).2] at hq; omega
theorem cg_I_to {g : hl_G} {L : List Nat} {f f1 : Nat → va_E} {T b : Nat → Nat} {n mm sm : Nat} {mv st : Nat → Nat → Nat} {made : Bool} (h : cg_I g L f T b n mm sm mv st made) (hf : ∀ q, T q < 20000 → f1 q = f q) : cg_I g L f1 T b n mm sm mv st made := by
  obtain ⟨zp, zd, cv, fl, hB, hC, hW, hmd⟩ := h
  refine ⟨zp, zd, cv, fl, cg_B_congr hB (fun q hq => ⟨hq, rfl⟩) (fun q _ ht => hf q (by omega)), cg_C_congr hW.2.1 hC (fun q hq => hf q ?_) hC.1 (fun e => e) (fun _ _ => Iff.rfl), hW, hmd⟩
  rcases Nat.lt_or_ge (T q) 20000 with h | h
  · exact h
  · exact absurd hq (cn_own_of (Or.inr (Or.inr h)))
theorem md_K_id {n mm b : Nat} {mv : Nat → Nat → Nat} {r7 r8 : Nat → Nat} (h : md_K n mm mv b r7 r8) : md_K n (mm + 1) (va_up mv mm id) b r7 r8 := by
  intro i hi
  obtain ⟨h1, h2⟩ := h i hi
  refine ⟨fun j hj h8 => ?_, fun x hx hf => h2 x ((mv_gen_id x).2 hx) hf⟩
  obtain ⟨x, x1, x2⟩ := h1 j hj h8
  exact ⟨x, (mv_gen_id x).1 x1, x2⟩
/-- cells and slots that the law's objects take: before the chain is made, and then -/
def lw_c (made : Bool) : Nat := if made then 1657 else 56
def lw_s (made : Bool) : Nat := if made then 57964 else 17961
def lw_bud (made : Bool) (mc ms : Nat) (made2 : Bool) : Prop := (mc = 0 ∧ ms = 0 ∧ made2 = made) ∨ (made = false ∧ made2 = true ∧ mc = 1601 ∧ ms = 40003)
theorem lw_bud_c {made made2 : Bool} {mc ms : Nat} (h : lw_bud made mc ms made2) : lw_c made + mc = lw_c made2 ∧ lw_s made + ms = lw_s made2 := by
  rcases h with ⟨rfl, rfl, rfl⟩ | ⟨rfl, rfl, rfl, rfl⟩
  · exact ⟨rfl, rfl⟩
  · exact ⟨rfl, rfl⟩
theorem lw_le (made : Bool) : lw_c made ≤ 600000 ∧ lw_s made ≤ 7302250 := by cases made <;> exact ⟨by decide, by decide⟩
theorem lw_fit {made made2 : Bool} {mc ms : Nat} (h : lw_bud made mc ms made2) : lw_c made + mc ≤ 600000 ∧ lw_s made + ms ≤ 7302250 := by
  rw [(lw_bud_c h).1, (lw_bud_c h).2]; exact lw_le made2
end
