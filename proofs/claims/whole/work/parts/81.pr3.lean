/-! Pure: the reference's spread of a place, what leaves it, what is known at the end. -/
section
/-- the first mk of the rows gm -/
def gm_T (gm : Nat → gp_f) (mk : Nat) (t : gp_f) : Prop := ∃ i, i < mk ∧ t = gm i
/-- c0 places of the spread of a found: has is y8, the rows are y7 -/
def sp_I (n mk : Nat) (gm : Nat → gp_f) (a c0 : Nat) (y7 y8 qu : Nat → Nat) (ro : Nat → gp_f) : Prop :=
  (∀ p, y8 p = 0 ∨ y8 p = 1) ∧ c0 = su (fun j => y8 (24 * a + j)) 24 ∧ (∀ i, i < c0 → qu i < 24 ∧ y8 (24 * a + qu i) = 1) ∧
  (∀ j, j < 24 → y8 (24 * a + j) = 1 → ∃ i, i < c0 ∧ qu i = j) ∧ y8 (24 * a + a) = 1 ∧ ro a = id ∧
  ∀ j, j < 24 → y8 (24 * a + j) = 1 → gp_gen (gm_T gm mk) (ro j) ∧ ro j a = j ∧ fr y7 (24 * a + j) (ro j)
def sp_o (a : Nat) (r7 r8 y7 y8 : Nat → Nat) : Prop :=
  (∀ p, ¬ (24 * a ≤ p ∧ p < 24 * a + 24) → y8 p = r8 p) ∧ ∀ q, ¬ (576 * a ≤ q ∧ q < 576 * a + 576) → y7 q = r7 q

theorem sp_up (y8 : Nat → Nat) (a v x : Nat) : (fun j => va_up y8 (24 * a + v) x (24 * a + j)) = va_up (fun j => y8 (24 * a + j)) v x := by
  funext j
  by_cases e : j = v
  · rw [e, va_up_self, va_up_self]
  · rw [va_up_ne _ _ e, va_up_ne _ _ (by omega)]

theorem sp_0 {n mk a : Nat} {gm : Nat → gp_f} {r7 r8 qu : Nat → Nat} (ha : a < 24) (h8 : ∀ p, r8 p = 0 ∨ r8 p = 1) :
    sp_I n mk gm a 1 (fw r7 (24 * a + a) id 24) (va_up (fw r8 a (fun _ => 0) 24) (24 * a + a) 1) (va_up qu 0 a) (fun _ => id) ∧
    sp_o a r7 r8 (fw r7 (24 * a + a) id 24) (va_up (fw r8 a (fun _ => 0) 24) (24 * a + a) 1) := by
  have hz : ∀ p, fw r8 a (fun _ => 0) 24 p = 0 ∨ fw r8 a (fun _ => 0) 24 p = 1 := fun p => by
    unfold fw; split
    · exact Or.inl rfl
    · exact h8 p
  have hin : ∀ j, j < 24 → j ≠ a → va_up (fw r8 a (fun _ => 0) 24) (24 * a + a) 1 (24 * a + j) = 0 := fun j hj hne => by
    rw [va_up_ne _ _ (by omega), fw_in r8 a _ hj]
  refine ⟨⟨jf_us_up hz (Or.inr rfl), ?_, fun i hi => ?_, fun j hj h1 => ?_, va_up_self _ _ _, rfl, fun j hj h1 => ?_⟩, fun p hp => ?_, fun q hq => fw_rest r7 _ _ (by omega)⟩
  · rw [sp_up]
    have := (su_up (F := fun j => fw r8 a (fun _ => 0) 24 (24 * a + j)) (s := a) (v := 1) 24).1 ha
    have h0 : ∀ j, j < 24 → (fun j => fw r8 a (fun _ => 0) 24 (24 * a + j)) j = 0 := fun j hj => fw_in r8 a _ hj
    have h2 : fw r8 a (fun _ => 0) 24 (24 * a + a) = 0 := fw_in r8 a _ ha
    rw [su_zero 24 h0] at this
    have this : su (va_up (fun j => fw r8 a (fun _ => 0) 24 (24 * a + j)) a 1) 24 + fw r8 a (fun _ => 0) 24 (24 * a + a) = 0 + 1 := this
    omega
  · have : i = 0 := by omega
    subst this
    rw [va_up_self]; exact ⟨ha, va_up_self _ _ _⟩
  · by_cases e : j = a
    · exact ⟨0, Nat.zero_lt_one, by rw [va_up_self, e]⟩
    · rw [hin j hj e] at h1; exact absurd h1 (by decide)
  · by_cases e : j = a
    · rw [e]; exact ⟨gp_gen_id, rfl, fr_fw r7 _ _⟩
    · rw [hin j hj e] at h1; exact absurd h1 (by decide)
  · rw [va_up_ne _ _ (by omega)]; exact fw_rest r8 a _ hp

theorem sp_s {n mk a c0 k m : Nat} {gm : Nat → gp_f} {r7 r8 y7 y8 qu : Nat → Nat} {ro : Nat → gp_f} (ha : a < 24) (h : sp_I n mk gm a c0 y7 y8 qu ro) (ho : sp_o a r7 r8 y7 y8)
    (hk : k < c0) (hm : m < mk) (ht : gm m (qu k) < 24) (h0 : y8 (24 * a + gm m (qu k)) = 0) :
    c0 < 24 ∧ sp_I n mk gm a (c0 + 1) (fw y7 (24 * a + gm m (qu k)) (gm m ∘ ro (qu k)) 24) (va_up y8 (24 * a + gm m (qu k)) 1) (va_up qu c0 (gm m (qu k))) (va_up ro (gm m (qu k)) (gm m ∘ ro (qu k))) ∧
    sp_o a r7 r8 (fw y7 (24 * a + gm m (qu k)) (gm m ∘ ro (qu k)) 24) (va_up y8 (24 * a + gm m (qu k)) 1) := by
  obtain ⟨i1, i2, i3, i4, i5, i6, i7⟩ := h
  obtain ⟨o1, o2⟩ := ho
  obtain ⟨q1, q2⟩ := i3 k hk
  obtain ⟨g1, g2, g3⟩ := i7 (qu k) q1 q2
  obtain ⟨v, ev⟩ : ∃ v, v = gm m (qu k) := ⟨_, rfl⟩
  rw [← ev] at ht h0 ⊢
  have hne : ∀ j, y8 (24 * a + j) = 1 → j ≠ v := fun j hj e => by rw [e, h0] at hj; exact absurd hj (by decide)
  have hc : c0 < 24 := by rw [i2]; exact su_room (fun j => i1 (24 * a + j)) ht h0
  refine ⟨hc, ⟨jf_us_up i1 (Or.inr rfl), ?_, fun i hi => ?_, fun j hj h1 => ?_, ?_, ?_, fun j hj h1 => ?_⟩, fun p hp => ?_, fun q hq => ?_⟩
  · rw [sp_up]
    have := (su_up (F := fun j => y8 (24 * a + j)) (s := v) (v := 1) 24).1 ht
    have h1 : (fun j => y8 (24 * a + j)) v = 0 := h0
    omega
  · by_cases e : i = c0
    · rw [e, va_up_self]; exact ⟨ht, va_up_self _ _ _⟩
    · obtain ⟨x1, x2⟩ := i3 i (by omega)
      rw [va_up_ne _ _ e]
      refine ⟨x1, ?_⟩
      rw [va_up_ne _ _ (by have := hne _ x2; omega)]; exact x2
  · by_cases e : j = v
    · exact ⟨c0, by omega, by rw [va_up_self, e]⟩
    · rw [va_up_ne _ _ (by omega)] at h1
      obtain ⟨i, x1, x2⟩ := i4 j hj h1
      exact ⟨i, by omega, by rw [va_up_ne _ _ (by omega)]; exact x2⟩
  · rw [va_up_ne _ _ (by have := hne a i5; omega)]; exact i5
  · rw [va_up_ne _ _ (hne a i5)]; exact i6
  · by_cases e : j = v
    · rw [e, va_up_self]
      refine ⟨gp_gen_comp (gp_gen_mem ⟨m, hm, rfl⟩) g1, ?_, fr_fw y7 _ _⟩
      show gm m (ro (qu k) a) = v
      rw [g2, ev]
    · rw [va_up_ne _ _ (by omega)] at h1
      obtain ⟨x1, x2, x3⟩ := i7 j hj h1
      rw [va_up_ne _ _ e]
      exact ⟨x1, x2, fr_fo x3 (by omega)⟩
  · rw [va_up_ne _ _ (by omega)]; exact o1 p hp
  · rw [fw_rest y7 _ _ (by omega)]; exact o2 q hq

/-- the spread is done: it is closed -/
def sp_E (mk : Nat) (gm : Nat → gp_f) (a : Nat) (y7 y8 : Nat → Nat) (ro : Nat → gp_f) : Prop :=
  (∀ p, y8 p = 0 ∨ y8 p = 1) ∧ y8 (24 * a + a) = 1 ∧ ro a = id ∧
  (∀ j, j < 24 → y8 (24 * a + j) = 1 → gp_gen (gm_T gm mk) (ro j) ∧ ro j a = j ∧ fr y7 (24 * a + j) (ro j)) ∧
  ∀ j, j < 24 → y8 (24 * a + j) = 1 → ∀ m, m < mk → y8 (24 * a + gm m j) = 1
theorem sp_end {n mk a c0 : Nat} {gm : Nat → gp_f} {y7 y8 qu : Nat → Nat} {ro : Nat → gp_f} (h : sp_I n mk gm a c0 y7 y8 qu ro)
    (hP : ∀ i, i < c0 → ∀ m, m < mk → y8 (24 * a + gm m (qu i)) = 1) : sp_E mk gm a y7 y8 ro := by
  obtain ⟨i1, i2, i3, i4, i5, i6, i7⟩ := h
  refine ⟨i1, i5, i6, i7, fun j hj h1 m hm => ?_⟩
  obtain ⟨i, x1, x2⟩ := i4 j hj h1
  rw [← x2]; exact hP i x1 m hm

theorem sp_in {n mk a : Nat} {gm : Nat → gp_f} {y7 y8 : Nat → Nat} {ro : Nat → gp_f} (hn : n ≤ 24) (ha : a < 24) (hgm : ∀ m, m < mk → gp_sym (ch_D n 0) (gm m)) (h : sp_E mk gm a y7 y8 ro) :
    ∀ x, gp_gen (gm_T gm mk) x → x a < 24 ∧ y8 (24 * a + x a) = 1 := by
  refine gp_gen_min ⟨ha, h.2.1⟩ ?_
  rintro t x ⟨m, hm, rfl⟩ ⟨x1, x2⟩
  exact ⟨sym_24 (σ := gm m) (p := x a) (hgm m hm) hn x1, h.2.2.2.2 (x a) x1 x2 m hm⟩
theorem sp_sym {n mk a : Nat} {gm : Nat → gp_f} {y7 y8 : Nat → Nat} {ro : Nat → gp_f} (hgm : ∀ m, m < mk → gp_sym (ch_D n 0) (gm m)) (h : sp_E mk gm a y7 y8 ro) {j : Nat} (hj : j < 24) (h1 : y8 (24 * a + j) = 1) : gp_sym (ch_D n 0) (ro j) :=
  gp_gen_in (gp_sym_sg _) (by rintro t ⟨m, hm, rfl⟩; exact hgm m hm) _ (h.2.2.2.1 j hj h1).1
theorem sp_iv {n mk a : Nat} {gm : Nat → gp_f} {y7 y8 : Nat → Nat} {ro : Nat → gp_f} (hgm : ∀ m, m < mk → gp_sym (ch_D n 0) (gm m)) (h : sp_E mk gm a y7 y8 ro) :
    ∃ ri : Nat → gp_f, ∀ j, j < 24 → y8 (24 * a + j) = 1 → gp_inv (ro j) (ri j) := by
  have : ∀ j, ∃ v : gp_f, j < 24 → y8 (24 * a + j) = 1 → gp_inv (ro j) v := fun j => by
    by_cases h1 : j < 24 ∧ y8 (24 * a + j) = 1
    · obtain ⟨v, hv⟩ := (sp_sym hgm h h1.1 h1.2).1
      exact ⟨v, fun _ _ => hv⟩
    · exact ⟨id, fun x y => absurd ⟨x, y⟩ h1⟩
  exact ⟨fun j => Classical.choose (this j), fun j => Classical.choose_spec (this j)⟩

/-- with all that the pairs give, all that leaves a -/
theorem sp_sch {n mk a : Nat} {gm : Nat → gp_f} {y7 y8 : Nat → Nat} {ro ri : Nat → gp_f} {K : gp_f → Prop} (hn : n ≤ 24) (ha : a < 24) (hgm : ∀ m, m < mk → gp_sym (ch_D n 0) (gm m)) (h : sp_E mk gm a y7 y8 ro)
    (hri : ∀ j, j < 24 → y8 (24 * a + j) = 1 → gp_inv (ro j) (ri j)) (hK : gp_sg K)
    (hs : ∀ j, j < 24 → y8 (24 * a + j) = 1 → ∀ m, m < mk → K (ri (gm m j) ∘ (gm m ∘ ro j))) :
    ∀ x, gp_gen (gm_T gm mk) x → x a = a → K x := by
  have key : ∀ x, gp_gen (gm_T gm mk) x → x a < 24 ∧ y8 (24 * a + x a) = 1 ∧ K (ri (x a) ∘ x) := by
    refine gp_gen_min ⟨ha, h.2.1, ?_⟩ ?_
    · have : ri a = id := by
        have h1 := hri a ha h.2.1
        rw [h.2.2.1] at h1
        exact gp_inv_uniq h1 gp_inv_id
      show K (ri a ∘ id)
      rw [this]; exact hK.1
    · rintro t x ⟨m, hm, rfl⟩ ⟨x1, x2, x3⟩
      refine ⟨sym_24 (σ := gm m) (p := x a) (hgm m hm) hn x1, h.2.2.2.2 (x a) x1 x2 m hm, ?_⟩
      have : ri ((gm m ∘ x) a) ∘ (gm m ∘ x) = (ri (gm m (x a)) ∘ (gm m ∘ ro (x a))) ∘ (ri (x a) ∘ x) := by
        funext p
        show ri (gm m (x a)) (gm m (x p)) = ri (gm m (x a)) (gm m (ro (x a) (ri (x a) (x p))))
        rw [(hri (x a) x1 x2).1]
      rw [this]; exact hK.2.1 _ _ (hs (x a) x1 x2 m hm) x3
  intro x hx hxa
  obtain ⟨x1, x2, x3⟩ := key x hx
  have : ri a = id := by
    have h1 := hri a ha h.2.1
    rw [h.2.2.1] at h1
    exact gp_inv_uniq h1 gp_inv_id
  rw [hxa, this] at x3
  exact x3
/-- and what one pair gives leaves a -/
theorem sp_one {n mk a j m : Nat} {gm : Nat → gp_f} {y7 y8 : Nat → Nat} {ro ri : Nat → gp_f} (hn : n ≤ 24) (hgm : ∀ m, m < mk → gp_sym (ch_D n 0) (gm m)) (h : sp_E mk gm a y7 y8 ro)
    (hri : ∀ j, j < 24 → y8 (24 * a + j) = 1 → gp_inv (ro j) (ri j)) (hj : j < 24) (h1 : y8 (24 * a + j) = 1) (hm : m < mk) :
    gp_gen (gm_T gm mk) (ri (gm m j) ∘ (gm m ∘ ro j)) ∧ (ri (gm m j) ∘ (gm m ∘ ro j)) a = a := by
  have sg : gp_sg (gp_gen (gm_T gm mk)) := gp_gen_sg (ch_D_nodup n 0) (by rintro t ⟨m, hm, rfl⟩; exact hgm m hm)
  have t24 := sym_24 (hgm m hm) hn hj
  have h2 := h.2.2.2.2 j hj h1 m hm
  have iv := hri _ t24 h2
  obtain ⟨g1, g2, _⟩ := h.2.2.2.1 j hj h1
  obtain ⟨g3, g4, _⟩ := h.2.2.2.1 _ t24 h2
  refine ⟨sg.2.1 _ _ (gp_sg_inv sg g3 iv) (sg.2.1 _ _ (gp_gen_mem ⟨m, hm, rfl⟩) g1), ?_⟩
  show ri (gm m j) (gm m (ro j a)) = a
  rw [g2]
  have := iv.2 a
  rwa [g4] at this

/-- what has and rows say of the first b places -/
def md_K (n mm : Nat) (mv : Nat → Nat → Nat) (b : Nat) (r7 r8 : Nat → Nat) : Prop := ∀ i, i < b →
  (∀ j, j < 24 → r8 (24 * i + j) = 1 → ∃ x, gp_gen (mv_T mv mm) x ∧ (∀ k, k < i → x k = k) ∧ x i = j ∧ fr r7 (24 * i + j) x) ∧
  ∀ x, gp_gen (mv_T mv mm) x → (∀ k, k < i → x k = k) → r8 (24 * i + x i) = 1
theorem md_K_o {n mm b a : Nat} {mv : Nat → Nat → Nat} {r7 r8 y7 y8 : Nat → Nat} (hn : n ≤ 24) (hmv : ∀ i, i < mm → gp_sym (ch_D n 0) (mv i)) (hb : b ≤ a) (ha : a < n) (h : md_K n mm mv b r7 r8) (ho : sp_o a r7 r8 y7 y8) : md_K n mm mv b y7 y8 := by
  intro i hi
  obtain ⟨h1, h2⟩ := h i hi
  refine ⟨fun j hj h8 => ?_, fun x hx hf => ?_⟩
  · rw [ho.1 _ (by omega)] at h8
    obtain ⟨x, x1, x2, x3, x4⟩ := h1 j hj h8
    exact ⟨x, x1, x2, x3, fun p hp => by rw [ho.2 _ (by omega)]; exact x4 p hp⟩
  · have : x i < 24 := sym_24 (gp_gen_in (gp_sym_sg _) (by rintro t ⟨m, hm, rfl⟩; exact hmv m hm) x hx) hn (by omega)
    rw [ho.1 _ (by omega)]; exact h2 x hx hf
theorem md_K_s {n mm mk b : Nat} {mv : Nat → Nat → Nat} {gm : Nat → gp_f} {y7 y8 : Nat → Nat} {ro : Nat → gp_f} (hn : n ≤ 24) (hb : b < 24) (hgm : ∀ m, m < mk → gp_sym (ch_D n 0) (gm m)) (h : md_K n mm mv b y7 y8) (hE : sp_E mk gm b y7 y8 ro)
    (hG : ∀ x, gp_gen (gm_T gm mk) x ↔ gp_gen (mv_T mv mm) x ∧ ∀ k, k < b → x k = k) : md_K n mm mv (b + 1) y7 y8 := by
  intro i hi
  by_cases e : i = b
  · subst e
    refine ⟨fun j hj h8 => ?_, fun x hx hf => (sp_in hn hb hgm hE x ((hG x).2 ⟨hx, hf⟩)).2⟩
    obtain ⟨g1, g2, g3⟩ := hE.2.2.2.1 j hj h8
    exact ⟨ro j, ((hG _).1 g1).1, ((hG _).1 g1).2, g2, g3⟩
  · exact h i (by omega)
end
