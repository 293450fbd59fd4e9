/-! Chains of groups, each in the next: how long; what divides; pure. -/
section

def gp_lam : Nat → (gp_f → Prop) → Prop
  | 0, H => gp_sg H
  | k + 1, H => gp_sg H ∧ ∃ K, gp_lam k K ∧ gp_lt K H

def gp_bd (H : gp_f → Prop) (L : Nat) : Prop := ∀ k, gp_lam k H → k ≤ L

theorem gp_lam_sg {k : Nat} {H : gp_f → Prop} (h : gp_lam k H) : gp_sg H := by
  cases k with
  | zero => exact h
  | succ k => exact h.1

theorem gp_lam_mono {k : Nat} {K H : gp_f → Prop} (h : gp_lam k K) (hs : gp_sub K H) (hg : gp_sg H) : gp_lam k H := by
  cases k with
  | zero => exact hg
  | succ k =>
    obtain ⟨_, K', h1, h2, a, h3, h4⟩ := h
    exact ⟨hg, K', h1, fun x hx => hs x (h2 x hx), a, hs a h3, h4⟩

theorem gp_bd_sub {K H : gp_f → Prop} {L : Nat} (hb : gp_bd H L) (hs : gp_sub K H) (hg : gp_sg H) : gp_bd K L :=
  fun k hk => hb k (gp_lam_mono hk hs hg)

theorem gp_bd_lt {K H : gp_f → Prop} {L k : Nat} (hb : gp_bd H L) (hk : gp_lam k K) (hs : gp_lt K H) (hg : gp_sg H) :
    k + 1 ≤ L := hb (k + 1) ⟨hg, K, hk, hs⟩

def gp_im (φ : gp_f → gp_f) (H : gp_f → Prop) : gp_f → Prop := fun y => ∃ a, H a ∧ φ a = y
def gp_ker (φ : gp_f → gp_f) (H : gp_f → Prop) : gp_f → Prop := fun a => H a ∧ φ a = id

/-- it keeps one behind the other, on H -/
def gp_hom (φ : gp_f → gp_f) (H : gp_f → Prop) : Prop :=
  φ id = id ∧ ∀ a b, H a → H b → φ (a ∘ b) = φ a ∘ φ b

theorem gp_hom_sub {φ : gp_f → gp_f} {K H : gp_f → Prop} (h : gp_hom φ H) (hs : gp_sub K H) : gp_hom φ K :=
  ⟨h.1, fun a b ha hb => h.2 a b (hs a ha) (hs b hb)⟩

theorem gp_hom_inv {φ : gp_f → gp_f} {H : gp_f → Prop} (h : gp_hom φ H) {a b : gp_f} (ha : H a) (hb : H b)
    (hi : gp_inv a b) : gp_inv (φ a) (φ b) := by
  have h1 := h.2 a b ha hb
  have h2 := h.2 b a hb ha
  rw [gp_inv_eq hi, h.1] at h1
  rw [gp_inv_eq' hi, h.1] at h2
  exact ⟨fun p => (congrFun h1 p).symm, fun p => (congrFun h2 p).symm⟩

theorem gp_im_sg {φ : gp_f → gp_f} {H : gp_f → Prop} (h : gp_hom φ H) (hg : gp_sg H) : gp_sg (gp_im φ H) := by
  refine ⟨⟨id, hg.1, h.1⟩, ?_, ?_⟩
  · rintro _ _ ⟨a, ha, rfl⟩ ⟨b, hb, rfl⟩
    exact ⟨a ∘ b, hg.2.1 a b ha hb, h.2 a b ha hb⟩
  · rintro _ ⟨a, ha, rfl⟩
    obtain ⟨b, hb, hi⟩ := hg.2.2 a ha
    exact ⟨φ b, ⟨b, hb, rfl⟩, gp_hom_inv h ha hb hi⟩

theorem gp_ker_sg {φ : gp_f → gp_f} {H : gp_f → Prop} (h : gp_hom φ H) (hg : gp_sg H) : gp_sg (gp_ker φ H) := by
  refine ⟨⟨hg.1, h.1⟩, ?_, ?_⟩
  · rintro a b ⟨ha, ha2⟩ ⟨hb, hb2⟩
    refine ⟨hg.2.1 a b ha hb, ?_⟩
    rw [h.2 a b ha hb, ha2, hb2]
    rfl
  · rintro a ⟨ha, ha2⟩
    obtain ⟨b, hb, hi⟩ := hg.2.2 a ha
    refine ⟨b, ⟨hb, ?_⟩, hi⟩
    have := gp_hom_inv h ha hb hi
    rw [ha2] at this
    exact funext this.1

theorem gp_hom_lam {φ : gp_f → gp_f} : ∀ (k : Nat) (H : gp_f → Prop), gp_hom φ H → gp_lam k H →
    ∃ k1 k2, k ≤ k1 + k2 ∧ gp_lam k1 (gp_im φ H) ∧ gp_lam k2 (gp_ker φ H) := by
  intro k
  induction k with
  | zero =>
    intro H hh hl
    exact ⟨0, 0, Nat.le_refl _, gp_im_sg hh hl, gp_ker_sg hh hl⟩
  | succ k ih =>
    rintro H hh ⟨hg, K, hK, hs, x, hx, hnx⟩
    have hhK := gp_hom_sub hh hs
    have hgK := gp_lam_sg hK
    obtain ⟨k1, k2, hk, h1, h2⟩ := ih K hhK hK
    have si : gp_sub (gp_im φ K) (gp_im φ H) := by
      rintro _ ⟨a, ha, rfl⟩
      exact ⟨a, hs a ha, rfl⟩
    have sk : gp_sub (gp_ker φ K) (gp_ker φ H) := fun a ha => ⟨hs a ha.1, ha.2⟩
    by_cases hi : ∃ y, gp_im φ H y ∧ ¬ gp_im φ K y
    · exact ⟨k1 + 1, k2, by omega, ⟨gp_im_sg hh hg, _, h1, si, hi⟩, gp_lam_mono h2 sk (gp_ker_sg hh hg)⟩
    · refine ⟨k1, k2 + 1, by omega, gp_lam_mono h1 si (gp_im_sg hh hg), gp_ker_sg hh hg, _, h2, sk, ?_⟩
      have : gp_im φ K (φ x) := by
        by_cases h : gp_im φ K (φ x)
        · exact h
        · exact absurd ⟨φ x, ⟨x, hx, rfl⟩, h⟩ hi
      obtain ⟨b, hb, e⟩ := this
      obtain ⟨b', hb', hbi⟩ := hgK.2.2 b hb
      refine ⟨x ∘ b', ⟨hg.2.1 _ _ hx (hs _ hb'), ?_⟩, fun hc => hnx ?_⟩
      · rw [hh.2 x b' hx (hs _ hb'), ← e]
        exact gp_inv_eq (gp_hom_inv hhK hb hb' hbi)
      · have h3 := hgK.2.1 _ _ hc.1 hb
        have h4 : (x ∘ b') ∘ b = x := by
          funext p
          show x (b' (b p)) = x p
          rw [hbi.2]
        rw [h4] at h3
        exact h3

theorem gp_bd_hom {φ : gp_f → gp_f} {H : gp_f → Prop} {L1 L2 : Nat} (hh : gp_hom φ H)
    (h1 : gp_bd (gp_im φ H) L1) (h2 : gp_bd (gp_ker φ H) L2) : gp_bd H (L1 + L2) := by
  intro k hk
  obtain ⟨k1, k2, h, h3, h4⟩ := gp_hom_lam k H hh hk
  have := h1 k1 h3
  have := h2 k2 h4
  omega

/-- a group that leaves all places -/
theorem gp_bd_triv {H : gp_f → Prop} (h : ∀ a, H a → a = id) : gp_bd H 0 := by
  intro k hk
  cases k with
  | zero => exact Nat.le_refl _
  | succ k =>
    exfalso
    obtain ⟨_, K, hK, _, x, hx, hnx⟩ := hk
    apply hnx
    rw [h x hx]
    exact (gp_lam_sg hK).1

/-- the parts of a group that go together have one size -/
theorem gp_lag {H K : gp_f → Prop} {a b : Nat} (hH : gp_sg H) (hK : gp_sg K) (hs : gp_sub H K)
    (ha : gp_card H a) (hb : gp_card K b) : a ∣ b := by
  refine gp_part (fun x y : gp_f => ∃ h, H h ∧ x ∘ h = y) ?_ ?_ ?_ b K hb ?_
  · intro x; exact ⟨id, hH.1, rfl⟩
  · rintro x y ⟨h, hh, rfl⟩
    obtain ⟨h', hh', hi⟩ := hH.2.2 h hh
    refine ⟨h', hh', ?_⟩
    funext p
    show x (h (h' p)) = x p
    rw [hi.1]
  · rintro x y z ⟨h, hh, rfl⟩ ⟨h', hh', rfl⟩
    exact ⟨h ∘ h', hH.2.1 _ _ hh hh', rfl⟩
  · intro x hx
    obtain ⟨x', _, hxi⟩ := hK.2.2 x hx
    refine gp_card_congr (gp_card_img ha (fun h => x ∘ h) ?_) (fun y => ?_)
    · intro h h' _ _ e
      funext p
      have : x (h p) = x (h' p) := congrFun e p
      exact gp_inv_inj hxi this
    · constructor
      · rintro ⟨h, hh, rfl⟩
        exact ⟨hK.2.1 _ _ hx (hs _ hh), h, hh, rfl⟩
      · rintro ⟨_, h, hh, e⟩
        exact ⟨h, hh, e⟩

/-- numbers, each a divisor of the next -/
def gp_dv : Nat → Nat → Prop
  | 0, d => 0 < d
  | k + 1, d => 0 < d ∧ ∃ e, gp_dv k e ∧ e ∣ d ∧ e < d

theorem gp_card_pos {H : gp_f → Prop} {d : Nat} (hH : gp_sg H) (h : gp_card H d) : 0 < d := by
  obtain ⟨l, _, hl, hm⟩ := h
  have := (hm id).2 hH.1
  cases l with
  | nil => exact absurd this (List.not_mem_nil)
  | cons a l => rw [← hl]; exact Nat.succ_pos _

theorem gp_lam_dv : ∀ (k : Nat) (H : gp_f → Prop) (d : Nat), gp_lam k H → gp_card H d → gp_dv k d := by
  intro k
  induction k with
  | zero => intro H d hl hc; exact gp_card_pos hl hc
  | succ k ih =>
    rintro H d ⟨hg, K, hK, hs, x, hx, hnx⟩ hc
    obtain ⟨e, he⟩ := gp_card_sub hc hs
    exact ⟨gp_card_pos hg hc, e, ih K e hK he, gp_lag (gp_lam_sg hK) hg hs he hc, gp_card_lt he hc hs x hx hnx⟩

def gp_prod : List Nat → Nat
  | [] => 1
  | p :: ps => p * gp_prod ps

def gp_prm (p : Nat) : Prop := 2 ≤ p ∧ ∀ d, d ∣ p → d = 1 ∨ d = p

theorem gp_div_list : ∀ (ps : List Nat), (∀ p, p ∈ ps → gp_prm p) → ∀ d, d ∣ gp_prod ps →
    ∃ qs, List.Sublist qs ps ∧ gp_prod qs = d := by
  intro ps
  induction ps with
  | nil =>
    intro _ d hd
    exact ⟨[], List.Sublist.slnil, (Nat.dvd_one.1 hd).symm⟩
  | cons p ps ih =>
    intro hp d hd
    have hpp := hp p (List.mem_cons_self ..)
    have hps := fun q hq => hp q (List.mem_cons_of_mem _ hq)
    by_cases h : p ∣ d
    · obtain ⟨e, rfl⟩ := h
      have : e ∣ gp_prod ps := Nat.dvd_of_mul_dvd_mul_left (by have := hpp.1; omega) hd
      obtain ⟨qs, h1, h2⟩ := ih hps e this
      exact ⟨p :: qs, h1.cons_cons p, by rw [gp_prod, h2]⟩
    · have hc : Nat.Coprime d p := by
        rcases hpp.2 (Nat.gcd d p) (Nat.gcd_dvd_right d p) with e | e
        · exact e
        · exfalso
          apply h
          rw [← e]
          exact Nat.gcd_dvd_left d p
      obtain ⟨qs, h1, h2⟩ := ih hps d (Nat.Coprime.dvd_of_dvd_mul_left hc hd)
      exact ⟨qs, h1.cons p, h2⟩

theorem gp_dv_list : ∀ (k d : Nat) (ps : List Nat), (∀ p, p ∈ ps → gp_prm p) → gp_prod ps = d → gp_dv k d →
    k ≤ ps.length := by
  intro k
  induction k with
  | zero => intro d ps _ _ _; exact Nat.zero_le _
  | succ k ih =>
    rintro d ps hp hd ⟨_, e, he, hdv, hlt⟩
    rw [← hd] at hdv
    obtain ⟨qs, h1, h2⟩ := gp_div_list ps hp e hdv
    have h3 := ih e qs (fun q hq => hp q (h1.subset hq)) h2 he
    have h4 := h1.length_le
    have h5 : qs.length ≠ ps.length := by
      intro e'
      have := h1.eq_of_length e'
      rw [this, hd] at h2
      omega
    omega

/-- of the factors below q: their product, and how many -/
def gp_pl (q : Nat) : List Nat → Nat
  | [] => 1
  | p :: ps => if p < q then p * gp_pl q ps else gp_pl q ps
def gp_cl (q : Nat) : List Nat → Nat
  | [] => 0
  | p :: ps => if p < q then gp_cl q ps + 1 else gp_cl q ps

theorem gp_weight (q : Nat) {qs ps : List Nat} (h : List.Sublist qs ps) :
    q ^ qs.length * gp_pl q ps ≤ gp_prod qs * q ^ gp_cl q ps := by
  induction h with
  | slnil => simp [gp_pl, gp_cl, gp_prod]
  | @cons l1 l2 p h ih =>
    by_cases hp : p < q
    · simp only [gp_pl, gp_cl, hp, if_true]
      calc q ^ l1.length * (p * gp_pl q l2) = (q ^ l1.length * gp_pl q l2) * p := by
            rw [Nat.mul_assoc, Nat.mul_comm p]
        _ ≤ (gp_prod l1 * q ^ gp_cl q l2) * q := Nat.mul_le_mul ih (Nat.le_of_lt hp)
        _ = gp_prod l1 * q ^ (gp_cl q l2 + 1) := by rw [Nat.pow_succ, Nat.mul_assoc]
    · simp only [gp_pl, gp_cl, hp, if_false]
      exact ih
  | @cons_cons l1 l2 p h ih =>
    by_cases hp : p < q
    · simp only [gp_pl, gp_cl, hp, if_true, gp_prod, List.length_cons]
      calc q ^ (l1.length + 1) * (p * gp_pl q l2) = (q ^ l1.length * gp_pl q l2) * (p * q) := by
            rw [Nat.pow_succ]; simp only [Nat.mul_assoc, Nat.mul_comm, Nat.mul_left_comm]
        _ ≤ (gp_prod l1 * q ^ gp_cl q l2) * (p * q) := Nat.mul_le_mul_right _ ih
        _ = p * gp_prod l1 * q ^ (gp_cl q l2 + 1) := by
            rw [Nat.pow_succ]; simp only [Nat.mul_assoc, Nat.mul_comm, Nat.mul_left_comm]
    · simp only [gp_pl, gp_cl, hp, if_false, gp_prod, List.length_cons]
      calc q ^ (l1.length + 1) * gp_pl q l2 = (q ^ l1.length * gp_pl q l2) * q := by
            rw [Nat.pow_succ]; simp only [Nat.mul_assoc, Nat.mul_comm, Nat.mul_left_comm]
        _ ≤ (gp_prod l1 * q ^ gp_cl q l2) * p := Nat.mul_le_mul ih (by omega)
        _ = p * gp_prod l1 * q ^ gp_cl q l2 := by
            simp only [Nat.mul_assoc, Nat.mul_comm, Nat.mul_left_comm]

/-- a chain of k numbers up to d, where d divides the product of ps and d m <= f: k is at most L -/
theorem gp_num {k d m f q L : Nat} {ps : List Nat} (hp : ∀ p, p ∈ ps → gp_prm p) (hd : d ∣ gp_prod ps)
    (hk : gp_dv k d) (hm : d * m ≤ f) (hq : 0 < q) (hc : f * q ^ gp_cl q ps < q ^ (L + 1) * gp_pl q ps * m) : k ≤ L := by
  obtain ⟨qs, h1, h2⟩ := gp_div_list ps hp d hd
  have h3 := gp_dv_list k d qs (fun q hq => hp q (h1.subset hq)) h2 hk
  have h4 := gp_weight q h1
  rw [h2] at h4
  by_cases h : k ≤ L
  · exact h
  · exfalso
    have h5 : q ^ (L + 1) ≤ q ^ qs.length := Nat.pow_le_pow_right hq (by omega)
    have h6 : q ^ (L + 1) * gp_pl q ps * m ≤ f * q ^ gp_cl q ps :=
      calc q ^ (L + 1) * gp_pl q ps * m ≤ q ^ qs.length * gp_pl q ps * m :=
            Nat.mul_le_mul_right _ (Nat.mul_le_mul_right _ h5)
        _ ≤ d * q ^ gp_cl q ps * m := Nat.mul_le_mul_right _ h4
        _ = d * m * q ^ gp_cl q ps := by
            simp only [Nat.mul_assoc, Nat.mul_comm, Nat.mul_left_comm]
        _ ≤ f * q ^ gp_cl q ps := Nat.mul_le_mul_right _ hm
    omega

end
