section
/-! Finite sets by lists, groups of maps of the numbers. Pure: nothing of the machine. -/
section

def gp_card {α : Type} (S : α → Prop) (k : Nat) : Prop :=
  ∃ l : List α, l.Nodup ∧ l.length = k ∧ ∀ x, x ∈ l ↔ S x

theorem gp_card_le {α : Type} {S T : α → Prop} {j k : Nat} (hs : gp_card S j) (ht : gp_card T k)
    (h : ∀ x, S x → T x) : j ≤ k := by
  obtain ⟨l, hn, hl, hm⟩ := hs
  obtain ⟨l', hn', hl', hm'⟩ := ht
  rw [← hl, ← hl']
  exact List.Nodup.length_le_of_subset hn (fun x hx => (hm' x).2 (h x ((hm x).1 hx)))

theorem gp_card_uniq {α : Type} {S : α → Prop} {j k : Nat} (hs : gp_card S j) (ht : gp_card S k) : j = k :=
  Nat.le_antisymm (gp_card_le hs ht (fun _ h => h)) (gp_card_le ht hs (fun _ h => h))

theorem gp_card_congr {α : Type} {S T : α → Prop} {k : Nat} (hs : gp_card S k) (h : ∀ x, S x ↔ T x) :
    gp_card T k := by
  obtain ⟨l, hn, hl, hm⟩ := hs
  exact ⟨l, hn, hl, fun x => (hm x).trans (h x)⟩

theorem gp_card_lt {α : Type} {S T : α → Prop} {j k : Nat} (hs : gp_card S j) (ht : gp_card T k)
    (h : ∀ x, S x → T x) (x : α) (hx : T x) (hnx : ¬ S x) : j < k := by
  obtain ⟨l, hn, hl, hm⟩ := hs
  obtain ⟨l', hn', hl', hm'⟩ := ht
  have h1 : (x :: l).Nodup := List.nodup_cons.2 ⟨fun hxl => hnx ((hm x).1 hxl), hn⟩
  have h2 : (x :: l).length ≤ l'.length := List.Nodup.length_le_of_subset h1 (by
    intro y hy
    rcases List.mem_cons.1 hy with rfl | hy
    · exact (hm' _).2 hx
    · exact (hm' y).2 (h y ((hm y).1 hy)))
  simp only [List.length_cons] at h2
  omega

theorem gp_card_sub {α : Type} {S T : α → Prop} {k : Nat} (ht : gp_card T k) (h : ∀ x, S x → T x) :
    ∃ j, gp_card S j := by
  classical
  obtain ⟨l', hn', _, hm'⟩ := ht
  refine ⟨_, l'.filter (fun x => decide (S x)), List.Nodup.sublist List.filter_sublist hn', rfl, fun x => ?_⟩
  rw [List.mem_filter]
  constructor
  · intro hx; exact of_decide_eq_true hx.2
  · intro hx; exact ⟨(hm' x).2 (h x hx), decide_eq_true hx⟩

theorem gp_card_add {α : Type} {S P : α → Prop} {a b : Nat} (ha : gp_card (fun x => S x ∧ P x) a)
    (hb : gp_card (fun x => S x ∧ ¬ P x) b) : gp_card S (a + b) := by
  classical
  obtain ⟨l, hn, hl, hm⟩ := ha
  obtain ⟨l', hn', hl', hm'⟩ := hb
  refine ⟨l ++ l', ?_, ?_, fun x => ?_⟩
  · rw [List.nodup_append]
    refine ⟨hn, hn', fun x hx y hy e => ?_⟩
    subst e
    exact ((hm' x).1 hy).2 ((hm x).1 hx).2
  · rw [List.length_append, hl, hl']
  · rw [List.mem_append, hm x, hm' x]
    constructor
    · rintro (h | h)
      · exact h.1
      · exact h.1
    · intro h
      by_cases hp : P x
      · exact Or.inl ⟨h, hp⟩
      · exact Or.inr ⟨h, hp⟩

theorem gp_nodup_map {α β : Type} {f : α → β} {l : List α} (hn : l.Nodup)
    (hf : ∀ x y, x ∈ l → y ∈ l → f x = f y → x = y) : (l.map f).Nodup := by
  refine List.pairwise_map.2 (List.Pairwise.imp_of_mem ?_ hn)
  intro a b ha hb hab e
  exact hab (hf a b ha hb e)

theorem gp_card_img {α β : Type} {S : α → Prop} {k : Nat} (hs : gp_card S k) (f : α → β)
    (hf : ∀ x y, S x → S y → f x = f y → x = y) : gp_card (fun y => ∃ x, S x ∧ f x = y) k := by
  obtain ⟨l, hn, hl, hm⟩ := hs
  refine ⟨l.map f, gp_nodup_map hn (fun x y hx hy => hf x y ((hm x).1 hx) ((hm y).1 hy)), ?_, fun y => ?_⟩
  · rw [List.length_map, hl]
  · rw [List.mem_map]
    constructor
    · rintro ⟨x, hx, e⟩; exact ⟨x, (hm x).1 hx, e⟩
    · rintro ⟨x, hx, e⟩; exact ⟨x, (hm x).2 hx, e⟩

theorem gp_prod_list {α β : Type} (l' : List β) (hn' : l'.Nodup) : ∀ (l : List α), l.Nodup →
    ∃ m : List (α × β), m.Nodup ∧ m.length = l.length * l'.length ∧ ∀ x, x ∈ m ↔ x.1 ∈ l ∧ x.2 ∈ l' := by
  intro l
  induction l with
  | nil =>
    intro _
    refine ⟨[], List.nodup_nil, ?_, fun x => ?_⟩
    · simp
    · simp
  | cons a l ih =>
    intro hn
    rw [List.nodup_cons] at hn
    obtain ⟨m, hm1, hm2, hm3⟩ := ih hn.2
    refine ⟨l'.map (fun b => (a, b)) ++ m, ?_, ?_, fun x => ?_⟩
    · rw [List.nodup_append]
      refine ⟨gp_nodup_map hn' ?_, hm1, ?_⟩
      · intro x y _ _ e
        exact (Prod.mk.injEq _ _ _ _ ▸ e).2
      · intro x hx y hy e
        subst e
        rw [List.mem_map] at hx
        obtain ⟨b, _, rfl⟩ := hx
        exact hn.1 ((hm3 _).1 hy).1
    · rw [List.length_append, List.length_map, hm2, List.length_cons, Nat.add_mul, Nat.one_mul, Nat.add_comm]
    · rw [List.mem_append, hm3 x, List.mem_map, List.mem_cons]
      constructor
      · rintro (⟨b, hb, rfl⟩ | ⟨h1, h2⟩)
        · exact ⟨Or.inl rfl, hb⟩
        · exact ⟨Or.inr h1, h2⟩
      · rintro ⟨rfl | h1, h2⟩
        · exact Or.inl ⟨x.2, h2, rfl⟩
        · exact Or.inr ⟨h1, h2⟩

theorem gp_card_prod {α β : Type} {S : α → Prop} {T : β → Prop} {j k : Nat} (hs : gp_card S j)
    (ht : gp_card T k) : gp_card (fun x : α × β => S x.1 ∧ T x.2) (j * k) := by
  obtain ⟨l, hn, hl, hm⟩ := hs
  obtain ⟨l', hn', hl', hm'⟩ := ht
  obtain ⟨m, h1, h2, h3⟩ := gp_prod_list l' hn' l hn
  refine ⟨m, h1, by rw [h2, hl, hl'], fun x => ?_⟩
  rw [h3 x, hm, hm']

/-- classes of one size: their size divides -/
theorem gp_part {α : Type} {m : Nat} (R : α → α → Prop) (hr : ∀ x, R x x) (hsy : ∀ x y, R x y → R y x)
    (htr : ∀ x y z, R x y → R y z → R x z) :
    ∀ (k : Nat) (S : α → Prop), gp_card S k → (∀ x, S x → gp_card (fun y => S y ∧ R x y) m) → m ∣ k := by
  intro k
  induction k using Nat.strongRecOn with
  | _ k ih =>
    intro S hS hc
    by_cases h0 : ∃ x, S x
    · obtain ⟨x, hx⟩ := h0
      obtain ⟨j, hj⟩ := gp_card_sub (S := fun y => S y ∧ ¬ R x y) hS (fun _ h => h.1)
      have hk : m + j = k := gp_card_uniq (gp_card_add (hc x hx) hj) hS
      have hm : 0 < m := by
        rcases Nat.eq_zero_or_pos m with e | e
        · exfalso
          obtain ⟨l, _, hl, hm⟩ := hc x hx
          have := (hm x).2 ⟨hx, hr x⟩
          rw [e] at hl
          rw [List.length_eq_zero_iff.1 hl] at this
          exact absurd this (List.not_mem_nil)
        · exact e
      have := ih j (by omega) (fun y => S y ∧ ¬ R x y) hj (by
        intro y hy
        refine gp_card_congr (hc y hy.1) (fun z => ?_)
        constructor
        · rintro ⟨h1, h2⟩
          exact ⟨⟨h1, fun h3 => hy.2 (htr _ _ _ h3 (hsy _ _ h2))⟩, h2⟩
        · rintro ⟨h1, h2⟩
          exact ⟨h1.1, h2⟩)
      rw [← hk]
      exact (Nat.dvd_add_right (Nat.dvd_refl m)).2 this
    · obtain ⟨l, _, hl, hm⟩ := hS
      have : l = [] := by
        cases l with
        | nil => rfl
        | cons a l => exact absurd ⟨a, (hm a).1 (List.mem_cons_self ..)⟩ h0
      rw [← hl, this]
      exact Nat.dvd_zero m

/-- fibres of one size -/
theorem gp_fib {α β : Type} {m : Nat} (f : α → β) : ∀ (T : List β), T.Nodup → ∀ (S : α → Prop) (k : Nat), gp_card S k →
    (∀ x, S x → f x ∈ T) → (∀ y, y ∈ T → gp_card (fun x => S x ∧ f x = y) m) → k = T.length * m := by
  intro T
  induction T with
  | nil =>
    intro _ S k hS hT _
    obtain ⟨l, _, hl, hm⟩ := hS
    have : l = [] := by
      cases l with
      | nil => rfl
      | cons a l => exact absurd (hT a ((hm a).1 (List.mem_cons_self ..))) (List.not_mem_nil)
    rw [← hl, this]
    simp
  | cons y T ih =>
    intro hn S k hS hT hc
    rw [List.nodup_cons] at hn
    obtain ⟨j, hj⟩ := gp_card_sub (S := fun x => S x ∧ ¬ f x = y) hS (fun _ h => h.1)
    have hk : m + j = k := gp_card_uniq (gp_card_add (hc y (List.mem_cons_self ..)) hj) hS
    have := ih hn.2 (fun x => S x ∧ ¬ f x = y) j hj (by
      intro x hx
      rcases List.mem_cons.1 (hT x hx.1) with e | e
      · exact absurd e hx.2
      · exact e) (by
      intro z hz
      refine gp_card_congr (hc z (List.mem_cons_of_mem _ hz)) (fun x => ?_)
      constructor
      · rintro ⟨h1, h2⟩
        refine ⟨⟨h1, fun h3 => ?_⟩, h2⟩
        rw [← h3, h2] at hn
        exact hn.1 hz
      · rintro ⟨h1, h2⟩
        exact ⟨h1.1, h2⟩)
    rw [List.length_cons, Nat.add_mul, Nat.one_mul, ← this]
    omega

end

section

abbrev gp_f := Nat → Nat

def gp_inv (a b : gp_f) : Prop := (∀ p, a (b p) = p) ∧ (∀ p, b (a p) = p)

def gp_sg (G : gp_f → Prop) : Prop :=
  G id ∧ (∀ a b, G a → G b → G (a ∘ b)) ∧ (∀ a, G a → ∃ b, G b ∧ gp_inv a b)

def gp_sym (D : List Nat) (a : gp_f) : Prop := (∃ b, gp_inv a b) ∧ ∀ p, p ∉ D → a p = p

def gp_sub (H K : gp_f → Prop) : Prop := ∀ a, H a → K a
def gp_lt (H K : gp_f → Prop) : Prop := gp_sub H K ∧ ∃ a, K a ∧ ¬ H a

theorem gp_inv_symm {a b : gp_f} (h : gp_inv a b) : gp_inv b a := ⟨h.2, h.1⟩

theorem gp_inv_uniq {a b c : gp_f} (h : gp_inv a b) (h' : gp_inv a c) : b = c := by
  funext p
  have h1 := h.1 p
  have h2 := h'.2 (b p)
  rw [h1] at h2
  exact h2.symm

theorem gp_inv_inj {a b : gp_f} (h : gp_inv a b) {x y : Nat} (e : a x = a y) : x = y := by
  have := congrArg b e
  rw [h.2, h.2] at this
  exact this

theorem gp_inv_comp {a b c d : gp_f} (h : gp_inv a b) (h' : gp_inv c d) : gp_inv (a ∘ c) (d ∘ b) := by
  constructor
  · intro p
    show a (c (d (b p))) = p
    rw [h'.1, h.1]
  · intro p
    show d (b (a (c p))) = p
    rw [h.2, h'.2]

theorem gp_inv_id : gp_inv id id := ⟨fun _ => rfl, fun _ => rfl⟩

theorem gp_inv_eq {a b : gp_f} (h : gp_inv a b) : a ∘ b = id := funext h.1
theorem gp_inv_eq' {a b : gp_f} (h : gp_inv a b) : b ∘ a = id := funext h.2

theorem gp_sg_inv {G : gp_f → Prop} (hG : gp_sg G) {a b : gp_f} (ha : G a) (h : gp_inv a b) : G b := by
  obtain ⟨c, hc, hi⟩ := hG.2.2 a ha
  rw [gp_inv_uniq h hi]
  exact hc

theorem gp_sym_inv {D : List Nat} {a b : gp_f} (ha : gp_sym D a) (h : gp_inv a b) : gp_sym D b := by
  refine ⟨⟨a, gp_inv_symm h⟩, fun p hp => ?_⟩
  have := ha.2 p hp
  have h2 := h.2 p
  rw [this] at h2
  exact h2

theorem gp_sym_sg (D : List Nat) : gp_sg (gp_sym D) := by
  refine ⟨⟨⟨id, gp_inv_id⟩, fun _ _ => rfl⟩, ?_, ?_⟩
  · rintro a b ⟨⟨a', ha⟩, ha2⟩ ⟨⟨b', hb⟩, hb2⟩
    refine ⟨⟨b' ∘ a', gp_inv_comp ha hb⟩, fun p hp => ?_⟩
    show a (b p) = p
    rw [hb2 p hp, ha2 p hp]
  · rintro a ⟨⟨b, hb⟩, ha2⟩
    exact ⟨b, gp_sym_inv ⟨⟨b, hb⟩, ha2⟩ hb, hb⟩

theorem gp_sym_mem {D : List Nat} {a : gp_f} (ha : gp_sym D a) {p : Nat} (hp : p ∈ D) : a p ∈ D := by
  by_cases h : a p ∈ D
  · exact h
  · exfalso
    obtain ⟨⟨b, hb⟩, h2⟩ := ha
    have := gp_inv_inj hb (h2 _ h)
    rw [this] at h
    exact h hp

theorem gp_sym_mem' {D : List Nat} {a : gp_f} (ha : gp_sym D a) {p : Nat} (hp : a p ∈ D) : p ∈ D := by
  by_cases h : p ∈ D
  · exact h
  · rw [ha.2 p h] at hp
    exact hp

theorem gp_sym_mono {D D' : List Nat} (h : ∀ x, x ∈ D → x ∈ D') {a : gp_f} (ha : gp_sym D a) : gp_sym D' a :=
  ⟨ha.1, fun p hp => ha.2 p (fun h' => hp (h p h'))⟩

/-- the exchange of two -/
def gp_sw (a b : Nat) : gp_f := fun p => if p = a then b else if p = b then a else p

theorem gp_sw_a (a b : Nat) : gp_sw a b a = b := by simp [gp_sw]
theorem gp_sw_b (a b : Nat) : gp_sw a b b = a := by
  unfold gp_sw
  by_cases h : b = a
  · simp [h]
  · simp [h]
theorem gp_sw_n {a b p : Nat} (h1 : p ≠ a) (h2 : p ≠ b) : gp_sw a b p = p := by simp [gp_sw, h1, h2]

theorem gp_sw_self (a b p : Nat) : gp_sw a b (gp_sw a b p) = p := by
  by_cases h1 : p = a
  · rw [h1, gp_sw_a, gp_sw_b]
  · by_cases h2 : p = b
    · rw [h2, gp_sw_b, gp_sw_a]
    · rw [gp_sw_n h1 h2, gp_sw_n h1 h2]

theorem gp_sw_inv (a b : Nat) : gp_inv (gp_sw a b) (gp_sw a b) := ⟨gp_sw_self a b, gp_sw_self a b⟩

theorem gp_sw_sym {D : List Nat} {a b : Nat} (ha : a ∈ D) (hb : b ∈ D) : gp_sym D (gp_sw a b) := by
  refine ⟨⟨_, gp_sw_inv a b⟩, fun p hp => gp_sw_n ?_ ?_⟩
  · intro e; rw [e] at hp; exact hp ha
  · intro e; rw [e] at hp; exact hp hb

def gp_fac : Nat → Nat
  | 0 => 1
  | n + 1 => (n + 1) * gp_fac n

theorem gp_fac_pos (n : Nat) : 0 < gp_fac n := by
  induction n with
  | zero => exact Nat.one_pos
  | succ n ih => exact Nat.mul_pos (Nat.succ_pos n) ih

theorem gp_fac_le {m n : Nat} (h : m ≤ n) : gp_fac m ≤ gp_fac n := by
  induction n with
  | zero =>
    have : m = 0 := by omega
    rw [this]
    exact Nat.le_refl _
  | succ n ih =>
    by_cases e : m = n + 1
    · rw [e]; exact Nat.le_refl _
    · exact Nat.le_trans (ih (by omega)) (Nat.le_mul_of_pos_left _ (Nat.succ_pos n))

/-- how many put a set's places to each other -/
theorem gp_card_sym : ∀ (D : List Nat), D.Nodup → gp_card (gp_sym D) (gp_fac D.length) := by
  intro D
  induction D with
  | nil =>
    intro _
    refine ⟨[id], ?_, rfl, fun x => ?_⟩
    · simp
    · rw [List.mem_singleton]
      constructor
      · intro e; rw [e]; exact (gp_sym_sg []).1
      · intro h; funext p; exact h.2 p (List.not_mem_nil)
  | cons a D ih =>
    intro hn
    have hn2 := List.nodup_cons.1 hn
    have hD : gp_card (fun b => b ∈ a :: D) (D.length + 1) := ⟨a :: D, hn, rfl, fun _ => Iff.rfl⟩
    have hp := gp_card_prod hD (ih hn2.2)
    have hi := gp_card_img hp (fun x : Nat × gp_f => gp_sw a x.1 ∘ x.2) (by
      rintro ⟨b, t⟩ ⟨c, u⟩ h1 h2 e
      have e' : ∀ p, gp_sw a b (t p) = gp_sw a c (u p) := fun p => congrFun e p
      have hta : t a = a := h1.2.2 a hn2.1
      have hua : u a = a := h2.2.2 a hn2.1
      have hbc : b = c := by
        have := e' a
        rw [hta, hua, gp_sw_a, gp_sw_a] at this
        exact this
      subst hbc
      have htu : t = u := by
        funext p
        have := congrArg (gp_sw a b) (e' p)
        rw [gp_sw_self, gp_sw_self] at this
        exact this
      rw [htu])
    refine gp_card_congr hi (fun s => ?_)
    constructor
    · rintro ⟨⟨b, t⟩, ⟨hb, ht⟩, rfl⟩
      have h1 : gp_sym (a :: D) (gp_sw a b) := gp_sw_sym (List.mem_cons_self ..) hb
      have h2 : gp_sym (a :: D) t := gp_sym_mono (fun x hx => List.mem_cons_of_mem _ hx) ht
      exact (gp_sym_sg (a :: D)).2.1 _ _ h1 h2
    · intro hs
      have hb : s a ∈ a :: D := gp_sym_mem hs (List.mem_cons_self ..)
      have h1 : gp_sym (a :: D) (gp_sw a (s a)) := gp_sw_sym (List.mem_cons_self ..) hb
      have h2 := (gp_sym_sg (a :: D)).2.1 _ _ h1 hs
      refine ⟨(s a, gp_sw a (s a) ∘ s), ⟨hb, h2.1, fun p hp => ?_⟩, ?_⟩
      · by_cases e : p = a
        · rw [e]
          exact gp_sw_b a (s a)
        · refine h2.2 p (fun h => ?_)
          rcases List.mem_cons.1 h with h | h
          · exact e h
          · exact hp h
      · funext p
        exact gp_sw_self a (s a) (s p)

end
end
section
/-! Chains of groups, each in the next: how long; what divides; pure. -/
section

def gp_lam : Nat → (gp_f → Prop) → Prop
  | 0, H => gp_sg H
  | k + 1, H => gp_sg H ∧ ∃ K, gp_lam k K ∧ gp_lt K H

def gp_bd (H : gp_f → Prop) (L : Nat) : Prop := ∀ k, gp_lam k H → k ≤ L

theorem gp_lam_sg {k : Nat} {H : gp_f → Prop} (h : gp_lam k H) : gp_sg H := by
  cases k with
  | zero => exact h
  | succ k => exact h.1

theorem gp_lam_mono {k : Nat} {K H : gp_f → Prop} (h : gp_lam k K) (hs : gp_sub K H) (hg : gp_sg H) : gp_lam k H := by
  cases k with
  | zero => exact hg
  | succ k =>
    obtain ⟨_, K', h1, h2, a, h3, h4⟩ := h
    exact ⟨hg, K', h1, fun x hx => hs x (h2 x hx), a, hs a h3, h4⟩

theorem gp_bd_sub {K H : gp_f → Prop} {L : Nat} (hb : gp_bd H L) (hs : gp_sub K H) (hg : gp_sg H) : gp_bd K L :=
  fun k hk => hb k (gp_lam_mono hk hs hg)

theorem gp_bd_lt {K H : gp_f → Prop} {L k : Nat} (hb : gp_bd H L) (hk : gp_lam k K) (hs : gp_lt K H) (hg : gp_sg H) :
    k + 1 ≤ L := hb (k + 1) ⟨hg, K, hk, hs⟩

def gp_im (φ : gp_f → gp_f) (H : gp_f → Prop) : gp_f → Prop := fun y => ∃ a, H a ∧ φ a = y
def gp_ker (φ : gp_f → gp_f) (H : gp_f → Prop) : gp_f → Prop := fun a => H a ∧ φ a = id

/-- it keeps one behind the other, on H -/
def gp_hom (φ : gp_f → gp_f) (H : gp_f → Prop) : Prop :=
  φ id = id ∧ ∀ a b, H a → H b → φ (a ∘ b) = φ a ∘ φ b

theorem gp_hom_sub {φ : gp_f → gp_f} {K H : gp_f → Prop} (h : gp_hom φ H) (hs : gp_sub K H) : gp_hom φ K :=
  ⟨h.1, fun a b ha hb => h.2 a b (hs a ha) (hs b hb)⟩

theorem gp_hom_inv {φ : gp_f → gp_f} {H : gp_f → Prop} (h : gp_hom φ H) {a b : gp_f} (ha : H a) (hb : H b)
    (hi : gp_inv a b) : gp_inv (φ a) (φ b) := by
  have h1 := h.2 a b ha hb
  have h2 := h.2 b a hb ha
  rw [gp_inv_eq hi, h.1] at h1
  rw [gp_inv_eq' hi, h.1] at h2
  exact ⟨fun p => (congrFun h1 p).symm, fun p => (congrFun h2 p).symm⟩

theorem gp_im_sg {φ : gp_f → gp_f} {H : gp_f → Prop} (h : gp_hom φ H) (hg : gp_sg H) : gp_sg (gp_im φ H) := by
  refine ⟨⟨id, hg.1, h.1⟩, ?_, ?_⟩
  · rintro _ _ ⟨a, ha, rfl⟩ ⟨b, hb, rfl⟩
    exact ⟨a ∘ b, hg.2.1 a b ha hb, h.2 a b ha hb⟩
  · rintro _ ⟨a, ha, rfl⟩
    obtain ⟨b, hb, hi⟩ := hg.2.2 a ha
    exact ⟨φ b, ⟨b, hb, rfl⟩, gp_hom_inv h ha hb hi⟩

theorem gp_ker_sg {φ : gp_f → gp_f} {H : gp_f → Prop} (h : gp_hom φ H) (hg : gp_sg H) : gp_sg (gp_ker φ H) := by
  refine ⟨⟨hg.1, h.1⟩, ?_, ?_⟩
  · rintro a b ⟨ha, ha2⟩ ⟨hb, hb2⟩
    refine ⟨hg.2.1 a b ha hb, ?_⟩
    rw [h.2 a b ha hb, ha2, hb2]
    rfl
  · rintro a ⟨ha, ha2⟩
    obtain ⟨b, hb, hi⟩ := hg.2.2 a ha
    refine ⟨b, ⟨hb, ?_⟩, hi⟩
    have := gp_hom_inv h ha hb hi
    rw [ha2] at this
    exact funext this.1

theorem gp_hom_lam {φ : gp_f → gp_f} : ∀ (k : Nat) (H : gp_f → Prop), gp_hom φ H → gp_lam k H →
    ∃ k1 k2, k ≤ k1 + k2 ∧ gp_lam k1 (gp_im φ H) ∧ gp_lam k2 (gp_ker φ H) := by
  intro k
  induction k with
  | zero =>
    intro H hh hl
    exact ⟨0, 0, Nat.le_refl _, gp_im_sg hh hl, gp_ker_sg hh hl⟩
  | succ k ih =>
    rintro H hh ⟨hg, K, hK, hs, x, hx, hnx⟩
    have hhK := gp_hom_sub hh hs
    have hgK := gp_lam_sg hK
    obtain ⟨k1, k2, hk, h1, h2⟩ := ih K hhK hK
    have si : gp_sub (gp_im φ K) (gp_im φ H) := by
      rintro _ ⟨a, ha, rfl⟩
      exact ⟨a, hs a ha, rfl⟩
    have sk : gp_sub (gp_ker φ K) (gp_ker φ H) := fun a ha => ⟨hs a ha.1, ha.2⟩
    by_cases hi : ∃ y, gp_im φ H y ∧ ¬ gp_im φ K y
    · exact ⟨k1 + 1, k2, by omega, ⟨gp_im_sg hh hg, _, h1, si, hi⟩, gp_lam_mono h2 sk (gp_ker_sg hh hg)⟩
    · refine ⟨k1, k2 + 1, by omega, gp_lam_mono h1 si (gp_im_sg hh hg), gp_ker_sg hh hg, _, h2, sk, ?_⟩
      have : gp_im φ K (φ x) := by
        by_cases h : gp_im φ K (φ x)
        · exact h
        · exact absurd ⟨φ x, ⟨x, hx, rfl⟩, h⟩ hi
      obtain ⟨b, hb, e⟩ := this
      obtain ⟨b', hb', hbi⟩ := hgK.2.2 b hb
      refine ⟨x ∘ b', ⟨hg.2.1 _ _ hx (hs _ hb'), ?_⟩, fun hc => hnx ?_⟩
      · rw [hh.2 x b' hx (hs _ hb'), ← e]
        exact gp_inv_eq (gp_hom_inv hhK hb hb' hbi)
      · have h3 := hgK.2.1 _ _ hc.1 hb
        have h4 : (x ∘ b') ∘ b = x := by
          funext p
          show x (b' (b p)) = x p
          rw [hbi.2]
        rw [h4] at h3
        exact h3

theorem gp_bd_hom {φ : gp_f → gp_f} {H : gp_f → Prop} {L1 L2 : Nat} (hh : gp_hom φ H)
    (h1 : gp_bd (gp_im φ H) L1) (h2 : gp_bd (gp_ker φ H) L2) : gp_bd H (L1 + L2) := by
  intro k hk
  obtain ⟨k1, k2, h, h3, h4⟩ := gp_hom_lam k H hh hk
  have := h1 k1 h3
  have := h2 k2 h4
  omega

/-- a group that leaves all places -/
theorem gp_bd_triv {H : gp_f → Prop} (h : ∀ a, H a → a = id) : gp_bd H 0 := by
  intro k hk
  cases k with
  | zero => exact Nat.le_refl _
  | succ k =>
    exfalso
    obtain ⟨_, K, hK, _, x, hx, hnx⟩ := hk
    apply hnx
    rw [h x hx]
    exact (gp_lam_sg hK).1

/-- the parts of a group that go together have one size -/
theorem gp_lag {H K : gp_f → Prop} {a b : Nat} (hH : gp_sg H) (hK : gp_sg K) (hs : gp_sub H K)
    (ha : gp_card H a) (hb : gp_card K b) : a ∣ b := by
  refine gp_part (fun x y : gp_f => ∃ h, H h ∧ x ∘ h = y) ?_ ?_ ?_ b K hb ?_
  · intro x; exact ⟨id, hH.1, rfl⟩
  · rintro x y ⟨h, hh, rfl⟩
    obtain ⟨h', hh', hi⟩ := hH.2.2 h hh
    refine ⟨h', hh', ?_⟩
    funext p
    show x (h (h' p)) = x p
    rw [hi.1]
  · rintro x y z ⟨h, hh, rfl⟩ ⟨h', hh', rfl⟩
    exact ⟨h ∘ h', hH.2.1 _ _ hh hh', rfl⟩
  · intro x hx
    obtain ⟨x', _, hxi⟩ := hK.2.2 x hx
    refine gp_card_congr (gp_card_img ha (fun h => x ∘ h) ?_) (fun y => ?_)
    · intro h h' _ _ e
      funext p
      have : x (h p) = x (h' p) := congrFun e p
      exact gp_inv_inj hxi this
    · constructor
      · rintro ⟨h, hh, rfl⟩
        exact ⟨hK.2.1 _ _ hx (hs _ hh), h, hh, rfl⟩
      · rintro ⟨_, h, hh, e⟩
        exact ⟨h, hh, e⟩

/-- numbers, each a divisor of the next -/
def gp_dv : Nat → Nat → Prop
  | 0, d => 0 < d
  | k + 1, d => 0 < d ∧ ∃ e, gp_dv k e ∧ e ∣ d ∧ e < d

theorem gp_card_pos {H : gp_f → Prop} {d : Nat} (hH : gp_sg H) (h : gp_card H d) : 0 < d := by
  obtain ⟨l, _, hl, hm⟩ := h
  have := (hm id).2 hH.1
  cases l with
  | nil => exact absurd this (List.not_mem_nil)
  | cons a l => rw [← hl]; exact Nat.succ_pos _

theorem gp_lam_dv : ∀ (k : Nat) (H : gp_f → Prop) (d : Nat), gp_lam k H → gp_card H d → gp_dv k d := by
  intro k
  induction k with
  | zero => intro H d hl hc; exact gp_card_pos hl hc
  | succ k ih =>
    rintro H d ⟨hg, K, hK, hs, x, hx, hnx⟩ hc
    obtain ⟨e, he⟩ := gp_card_sub hc hs
    exact ⟨gp_card_pos hg hc, e, ih K e hK he, gp_lag (gp_lam_sg hK) hg hs he hc, gp_card_lt he hc hs x hx hnx⟩

def gp_prod : List Nat → Nat
  | [] => 1
  | p :: ps => p * gp_prod ps

def gp_prm (p : Nat) : Prop := 2 ≤ p ∧ ∀ d, d ∣ p → d = 1 ∨ d = p

theorem gp_div_list : ∀ (ps : List Nat), (∀ p, p ∈ ps → gp_prm p) → ∀ d, d ∣ gp_prod ps →
    ∃ qs, List.Sublist qs ps ∧ gp_prod qs = d := by
  intro ps
  induction ps with
  | nil =>
    intro _ d hd
    exact ⟨[], List.Sublist.slnil, (Nat.dvd_one.1 hd).symm⟩
  | cons p ps ih =>
    intro hp d hd
    have hpp := hp p (List.mem_cons_self ..)
    have hps := fun q hq => hp q (List.mem_cons_of_mem _ hq)
    by_cases h : p ∣ d
    · obtain ⟨e, rfl⟩ := h
      have : e ∣ gp_prod ps := Nat.dvd_of_mul_dvd_mul_left (by have := hpp.1; omega) hd
      obtain ⟨qs, h1, h2⟩ := ih hps e this
      exact ⟨p :: qs, h1.cons_cons p, by rw [gp_prod, h2]⟩
    · have hc : Nat.Coprime d p := by
        rcases hpp.2 (Nat.gcd d p) (Nat.gcd_dvd_right d p) with e | e
        · exact e
        · exfalso
          apply h
          rw [← e]
          exact Nat.gcd_dvd_left d p
      obtain ⟨qs, h1, h2⟩ := ih hps d (Nat.Coprime.dvd_of_dvd_mul_left hc hd)
      exact ⟨qs, h1.cons p, h2⟩

theorem gp_dv_list : ∀ (k d : Nat) (ps : List Nat), (∀ p, p ∈ ps → gp_prm p) → gp_prod ps = d → gp_dv k d →
    k ≤ ps.length := by
  intro k
  induction k with
  | zero => intro d ps _ _ _; exact Nat.zero_le _
  | succ k ih =>
    rintro d ps hp hd ⟨_, e, he, hdv, hlt⟩
    rw [← hd] at hdv
    obtain ⟨qs, h1, h2⟩ := gp_div_list ps hp e hdv
    have h3 := ih e qs (fun q hq => hp q (h1.subset hq)) h2 he
    have h4 := h1.length_le
    have h5 : qs.length ≠ ps.length := by
      intro e'
      have := h1.eq_of_length e'
      rw [this, hd] at h2
      omega
    omega

/-- of the factors below q: their product, and how many -/
def gp_pl (q : Nat) : List Nat → Nat
  | [] => 1
  | p :: ps => if p < q then p * gp_pl q ps else gp_pl q ps
def gp_cl (q : Nat) : List Nat → Nat
  | [] => 0
  | p :: ps => if p < q then gp_cl q ps + 1 else gp_cl q ps

theorem gp_weight (q : Nat) {qs ps : List Nat} (h : List.Sublist qs ps) :
    q ^ qs.length * gp_pl q ps ≤ gp_prod qs * q ^ gp_cl q ps := by
  induction h with
  | slnil => simp [gp_pl, gp_cl, gp_prod]
  | @cons l1 l2 p h ih =>
    by_cases hp : p < q
    · simp only [gp_pl, gp_cl, hp, if_true]
      calc q ^ l1.length * (p * gp_pl q l2) = (q ^ l1.length * gp_pl q l2) * p := by
            rw [Nat.mul_assoc, Nat.mul_comm p]
        _ ≤ (gp_prod l1 * q ^ gp_cl q l2) * q := Nat.mul_le_mul ih (Nat.le_of_lt hp)
        _ = gp_prod l1 * q ^ (gp_cl q l2 + 1) := by rw [Nat.pow_succ, Nat.mul_assoc]
    · simp only [gp_pl, gp_cl, hp, if_false]
      exact ih
  | @cons_cons l1 l2 p h ih =>
    by_cases hp : p < q
    · simp only [gp_pl, gp_cl, hp, if_true, gp_prod, List.length_cons]
      calc q ^ (l1.length + 1) * (p * gp_pl q l2) = (q ^ l1.length * gp_pl q l2) * (p * q) := by
            rw [Nat.pow_succ]; simp only [Nat.mul_assoc, Nat.mul_comm, Nat.mul_left_comm]
        _ ≤ (gp_prod l1 * q ^ gp_cl q l2) * (p * q) := Nat.mul_le_mul_right _ ih
        _ = p * gp_prod l1 * q ^ (gp_cl q l2 + 1) := by
            rw [Nat.pow_succ]; simp only [Nat.mul_assoc, Nat.mul_comm, Nat.mul_left_comm]
    · simp only [gp_pl, gp_cl, hp, if_false, gp_prod, List.length_cons]
      calc q ^ (l1.length + 1) * gp_pl q l2 = (q ^ l1.length * gp_pl q l2) * q := by
            rw [Nat.pow_succ]; simp only [Nat.mul_assoc, Nat.mul_comm, Nat.mul_left_comm]
        _ ≤ (gp_prod l1 * q ^ gp_cl q l2) * p := Nat.mul_le_mul ih (by omega)
        _ = p * gp_prod l1 * q ^ gp_cl q l2 := by
            simp only [Nat.mul_assoc, Nat.mul_comm, Nat.mul_left_comm]

/-- a chain of k numbers up to d, where d divides the product of ps and d m <= f: k is at most L -/
theorem gp_num {k d m f q L : Nat} {ps : List Nat} (hp : ∀ p, p ∈ ps → gp_prm p) (hd : d ∣ gp_prod ps)
    (hk : gp_dv k d) (hm : d * m ≤ f) (hq : 0 < q) (hc : f * q ^ gp_cl q ps < q ^ (L + 1) * gp_pl q ps * m) : k ≤ L := by
  obtain ⟨qs, h1, h2⟩ := gp_div_list ps hp d hd
  have h3 := gp_dv_list k d qs (fun q hq => hp q (h1.subset hq)) h2 hk
  have h4 := gp_weight q h1
  rw [h2] at h4
  by_cases h : k ≤ L
  · exact h
  · exfalso
    have h5 : q ^ (L + 1) ≤ q ^ qs.length := Nat.pow_le_pow_right hq (by omega)
    have h6 : q ^ (L + 1) * gp_pl q ps * m ≤ f * q ^ gp_cl q ps :=
      calc q ^ (L + 1) * gp_pl q ps * m ≤ q ^ qs.length * gp_pl q ps * m :=
            Nat.mul_le_mul_right _ (Nat.mul_le_mul_right _ h5)
        _ ≤ d * q ^ gp_cl q ps * m := Nat.mul_le_mul_right _ h4
        _ = d * m * q ^ gp_cl q ps := by
            simp only [Nat.mul_assoc, Nat.mul_comm, Nat.mul_left_comm]
        _ ≤ f * q ^ gp_cl q ps := Nat.mul_le_mul_right _ hm
    omega

end
end
section
/-! Three places put round; the classes that such give; groups that keep classes. Pure. -/
section

def gp_c3 (a b c : Nat) : gp_f := fun p => if p = a then b else if p = b then c else if p = c then a else p
def gp_d3 (a b c : Nat) : Prop := a ≠ b ∧ b ≠ c ∧ a ≠ c

theorem gp_c3_a (a b c : Nat) : gp_c3 a b c a = b := by simp [gp_c3]
theorem gp_c3_b {a b c : Nat} (h : gp_d3 a b c) : gp_c3 a b c b = c := by
  have := h.1
  simp [gp_c3, Ne.symm this]
theorem gp_c3_c {a b c : Nat} (h : gp_d3 a b c) : gp_c3 a b c c = a := by
  have h1 := h.2.1
  have h2 := h.2.2
  simp [gp_c3, Ne.symm h1, Ne.symm h2]
theorem gp_c3_n {a b c p : Nat} (h1 : p ≠ a) (h2 : p ≠ b) (h3 : p ≠ c) : gp_c3 a b c p = p := by
  simp [gp_c3, h1, h2, h3]

theorem gp_c3_rot {a b c : Nat} (h : gp_d3 a b c) : gp_c3 a b c = gp_c3 b c a := by
  funext p
  obtain ⟨h1, h2, h3⟩ := h
  by_cases ea : p = a
  · subst ea
    rw [gp_c3_a, gp_c3_c ⟨h2, Ne.symm h3, Ne.symm h1⟩]
  · by_cases eb : p = b
    · subst eb
      rw [gp_c3_a, gp_c3_b ⟨h1, h2, h3⟩]
    · by_cases ec : p = c
      · subst ec
        rw [gp_c3_c ⟨h1, h2, h3⟩, gp_c3_b ⟨h2, Ne.symm h3, Ne.symm h1⟩]
      · rw [gp_c3_n ea eb ec, gp_c3_n eb ec ea]

theorem gp_c3_back {a b c : Nat} (h : gp_d3 a b c) (p : Nat) : gp_c3 a c b (gp_c3 a b c p) = p := by
  have h' : gp_d3 a c b := ⟨h.2.2, Ne.symm h.2.1, h.1⟩
  by_cases ea : p = a
  · rw [ea, gp_c3_a, gp_c3_c h']
  · by_cases eb : p = b
    · rw [eb, gp_c3_b h, gp_c3_b h']
    · by_cases ec : p = c
      · rw [ec, gp_c3_c h, gp_c3_a]
      · rw [gp_c3_n ea eb ec, gp_c3_n ea ec eb]

theorem gp_c3_inv {a b c : Nat} (h : gp_d3 a b c) : gp_inv (gp_c3 a b c) (gp_c3 a c b) :=
  ⟨gp_c3_back (b := c) (c := b) ⟨h.2.2, Ne.symm h.2.1, h.1⟩, gp_c3_back h⟩

theorem gp_d3_map {g g' : gp_f} (hi : gp_inv g g') {a b c : Nat} (h : gp_d3 a b c) : gp_d3 (g a) (g b) (g c) :=
  ⟨fun e => h.1 (gp_inv_inj hi e), fun e => h.2.1 (gp_inv_inj hi e), fun e => h.2.2 (gp_inv_inj hi e)⟩

theorem gp_c3_conj {g g' : gp_f} (hi : gp_inv g g') {a b c : Nat} (h : gp_d3 a b c) :
    g ∘ gp_c3 a b c ∘ g' = gp_c3 (g a) (g b) (g c) := by
  have key : ∀ q, g (gp_c3 a b c q) = gp_c3 (g a) (g b) (g c) (g q) := by
    intro q
    by_cases ea : q = a
    · rw [ea, gp_c3_a, gp_c3_a]
    · by_cases eb : q = b
      · rw [eb, gp_c3_b h, gp_c3_b (gp_d3_map hi h)]
      · by_cases ec : q = c
        · rw [ec, gp_c3_c h, gp_c3_c (gp_d3_map hi h)]
        · rw [gp_c3_n ea eb ec, gp_c3_n (fun e => ea (gp_inv_inj hi e)) (fun e => eb (gp_inv_inj hi e))
            (fun e => ec (gp_inv_inj hi e))]
  funext p
  have := key (g' p)
  rw [hi.1] at this
  exact this

theorem gp_conj_mem {H : gp_f → Prop} (hH : gp_sg H) {g g' x : gp_f} (hg : H g) (hx : H x) (hi : gp_inv g g') :
    H (g ∘ x ∘ g') := hH.2.1 _ _ hg (hH.2.1 _ _ hx (gp_sg_inv hH hg hi))

def gp_R (H : gp_f → Prop) (a b : Nat) : Prop := a = b ∨ ∃ c, gp_d3 a b c ∧ H (gp_c3 a b c)

theorem gp_R_refl {H : gp_f → Prop} (a : Nat) : gp_R H a a := Or.inl rfl

theorem gp_c3_sw {H : gp_f → Prop} (hH : gp_sg H) {a b c : Nat} (h : gp_d3 a b c) (hc : H (gp_c3 a b c)) :
    gp_d3 b a c ∧ H (gp_c3 b a c) := by
  have h1 := gp_sg_inv hH hc (gp_c3_inv h)
  have h2 : gp_d3 a c b := ⟨h.2.2, Ne.symm h.2.1, h.1⟩
  have h3 : gp_d3 c b a := ⟨Ne.symm h.2.1, Ne.symm h.1, Ne.symm h.2.2⟩
  rw [gp_c3_rot h2, gp_c3_rot h3] at h1
  exact ⟨⟨Ne.symm h.1, h.2.2, h.2.1⟩, h1⟩

theorem gp_R_symm {H : gp_f → Prop} (hH : gp_sg H) {a b : Nat} (h : gp_R H a b) : gp_R H b a := by
  rcases h with e | ⟨c, h, hc⟩
  · exact Or.inl e.symm
  · exact Or.inr ⟨c, gp_c3_sw hH h hc⟩

theorem gp_R_trans {H : gp_f → Prop} (hH : gp_sg H) {a b d : Nat} (h1 : gp_R H a b) (h2 : gp_R H b d) : gp_R H a d := by
  rcases h1 with e | ⟨c, h, hc⟩
  · rw [e]; exact h2
  · rcases h2 with e | ⟨e, h', hc'⟩
    · rw [← e]; exact Or.inr ⟨c, h, hc⟩
    · by_cases ead : a = d
      · exact Or.inl ead
      · by_cases eae : a = e
        · subst eae
          rw [gp_c3_rot h'] at hc'
          have h3 : gp_d3 d a b := ⟨Ne.symm ead, h.1, Ne.symm h'.1⟩
          exact Or.inr ⟨b, gp_c3_sw hH h3 hc'⟩
        · have hi := gp_c3_inv h'
          have hm := gp_conj_mem hH hc' hc hi
          rw [gp_c3_conj hi h] at hm
          have hd := gp_d3_map hi h
          rw [gp_c3_n h.1 ead eae, gp_c3_a] at hm hd
          exact Or.inr ⟨_, hd, hm⟩

theorem gp_R_map {H : gp_f → Prop} (hH : gp_sg H) {g : gp_f} (hg : H g) {a b : Nat} (h : gp_R H a b) :
    gp_R H (g a) (g b) := by
  obtain ⟨g', _, hi⟩ := hH.2.2 g hg
  rcases h with e | ⟨c, h, hc⟩
  · rw [e]; exact Or.inl rfl
  · refine Or.inr ⟨g c, gp_d3_map hi h, ?_⟩
    rw [← gp_c3_conj hi h]
    exact gp_conj_mem hH hg hc hi

def gp_full (H : gp_f → Prop) (D : List Nat) : Prop :=
  ∀ a b c, a ∈ D → b ∈ D → c ∈ D → gp_d3 a b c → H (gp_c3 a b c)

theorem gp_c3_in {H : gp_f → Prop} {D : List Nat} (hs : gp_sub H (gp_sym D)) {a b c : Nat} (h : gp_d3 a b c)
    (hc : H (gp_c3 a b c)) : a ∈ D ∧ b ∈ D ∧ c ∈ D := by
  have h2 := (hs _ hc).2
  refine ⟨?_, ?_, ?_⟩
  · by_cases hd : a ∈ D
    · exact hd
    · have := h2 a hd
      rw [gp_c3_a] at this
      exact absurd this.symm h.1
  · by_cases hd : b ∈ D
    · exact hd
    · have := h2 b hd
      rw [gp_c3_b h] at this
      exact absurd this.symm h.2.1
  · by_cases hd : c ∈ D
    · exact hd
    · have := h2 c hd
      rw [gp_c3_c h] at this
      exact absurd this h.2.2

theorem gp_tot_full {H : gp_f → Prop} {D : List Nat} (hH : gp_sg H) (hs : gp_sub H (gp_sym D))
    (ht : ∀ a b, a ∈ D → b ∈ D → gp_R H a b) : gp_full H D := by
  intro a b c ha hb hc hd
  rcases ht a b ha hb with e | ⟨x, h1, hx⟩
  · exact absurd e hd.1
  · have hxD := (gp_c3_in hs h1 hx).2.2
    by_cases exc : x = c
    · rw [← exc]; exact hx
    · rcases ht x c hxD hc with e | ⟨y, h2, hy⟩
      · exact absurd e exc
      · by_cases eya : y = a
        · subst eya
          -- q back: x -> y -> c
          have hi := gp_inv_symm (gp_c3_inv h2)
          have hq := gp_sg_inv hH hy (gp_c3_inv h2)
          have hm := gp_conj_mem hH hq hx hi
          rw [gp_c3_conj hi h1] at hm
          have h2' : gp_d3 x y c := ⟨h2.2.2, Ne.symm h2.2.1, h2.1⟩
          rw [gp_c3_b h2', gp_c3_n h1.2.1 (Ne.symm hd.1) hd.2.1, gp_c3_a] at hm
          have h3 : gp_d3 c b y := ⟨Ne.symm hd.2.1, Ne.symm hd.1, Ne.symm hd.2.2⟩
          have h4 := gp_sg_inv hH hm (gp_c3_inv h3)
          rw [gp_c3_rot ⟨Ne.symm hd.2.2, hd.1, Ne.symm hd.2.1⟩] at h4
          exact h4
        · by_cases eyb : y = b
          · subst eyb
            have hi := gp_inv_symm (gp_c3_inv h2)
            have hq := gp_sg_inv hH hy (gp_c3_inv h2)
            have hm := gp_conj_mem hH hq hx hi
            rw [gp_c3_conj hi h1] at hm
            have h2' : gp_d3 x y c := ⟨h2.2.2, Ne.symm h2.2.1, h2.1⟩
            rw [gp_c3_b h2', gp_c3_n h1.2.2 hd.1 hd.2.2, gp_c3_a] at hm
            have h3 : gp_d3 a c y := ⟨hd.2.2, Ne.symm hd.2.1, hd.1⟩
            exact gp_sg_inv hH hm (gp_c3_inv h3)
          · have hi := gp_c3_inv h2
            have hm := gp_conj_mem hH hy hx hi
            rw [gp_c3_conj hi h1, gp_c3_n h1.2.2 hd.2.2 (Ne.symm eya), gp_c3_n h1.2.1 hd.2.1 (Ne.symm eyb), gp_c3_a] at hm
            exact hm

/-! ## what a group does on a part of the places -/
noncomputable def gp_res (p : Nat → Prop) (g : gp_f) : gp_f := fun x => @ite _ (p x) (Classical.propDecidable _) (g x) x

theorem gp_res_p {p : Nat → Prop} {g : gp_f} {x : Nat} (h : p x) : gp_res p g x = g x := by
  unfold gp_res; rw [if_pos h]
theorem gp_res_n {p : Nat → Prop} {g : gp_f} {x : Nat} (h : ¬ p x) : gp_res p g x = x := by
  unfold gp_res; rw [if_neg h]

theorem gp_res_hom {p : Nat → Prop} {H : gp_f → Prop} (hp : ∀ g, H g → ∀ x, p x → p (g x)) : gp_hom (gp_res p) H := by
  constructor
  · funext x
    by_cases h : p x
    · rw [gp_res_p h]
    · rw [gp_res_n h]; rfl
  · intro a b _ hb
    funext x
    show _ = gp_res p a (gp_res p b x)
    by_cases h : p x
    · rw [gp_res_p h, gp_res_p h, gp_res_p (hp b hb x h)]
      rfl
    · rw [gp_res_n h, gp_res_n h, gp_res_n h]

theorem gp_im_sym {φ : gp_f → gp_f} {H : gp_f → Prop} {E : List Nat} (hH : gp_sg H) (hh : gp_hom φ H)
    (hf : ∀ g, H g → ∀ x, x ∉ E → φ g x = x) : gp_sub (gp_im φ H) (gp_sym E) := by
  rintro _ ⟨a, ha, rfl⟩
  obtain ⟨b, hb, hi⟩ := hH.2.2 a ha
  exact ⟨⟨φ b, gp_hom_inv hh ha hb hi⟩, hf a ha⟩

theorem gp_bd_split {D D1 D2 : List Nat} {p : Nat → Prop} {H : gp_f → Prop} {L1 L2 : Nat} (hH : gp_sg H)
    (hs : gp_sub H (gp_sym D)) (hp : ∀ g, H g → ∀ x, p x → p (g x)) (h1 : ∀ x, x ∈ D → p x → x ∈ D1)
    (h2 : ∀ x, x ∈ D → ¬ p x → x ∈ D2) (b1 : ∀ K, gp_sg K → gp_sub K (gp_sym D1) → gp_bd K L1)
    (b2 : ∀ K, gp_sg K → gp_sub K (gp_sym D2) → gp_bd K L2) : gp_bd H (L1 + L2) := by
  have hh := gp_res_hom hp
  refine gp_bd_hom hh (b1 _ (gp_im_sg hh hH) ?_) (b2 _ (gp_ker_sg hh hH) ?_)
  · refine gp_im_sym hH hh (fun g hg x hx => ?_)
    by_cases h : p x
    · rw [gp_res_p h]
      exact (hs g hg).2 x (fun hd => hx (h1 x hd h))
    · exact gp_res_n h
  · rintro g ⟨hg, e⟩
    refine ⟨(hs g hg).1, fun x hx => ?_⟩
    by_cases h : p x
    · have := congrFun e x
      rw [gp_res_p h] at this
      exact this
    · exact (hs g hg).2 x (fun hd => hx (h2 x hd h))

/-- each class kept: class by class -/
theorem gp_bd_cls {D : List Nat} {rep : Nat → Nat} {L : Nat} : ∀ (T : List Nat) (K : gp_f → Prop), gp_sg K →
    gp_sub K (gp_sym D) → (∀ g, K g → ∀ x, rep (g x) = rep x) → (∀ g, K g → ∀ x, x ∈ D → rep x ∉ T → g x = x) →
    (∀ y, y ∈ T → ∀ K', gp_sg K' → gp_sub K' (gp_sym (D.filter (fun x => decide (rep x = y)))) → gp_bd K' L) →
    gp_bd K (T.length * L) := by
  intro T
  induction T with
  | nil =>
    intro K hK hs hr hf _
    have : gp_bd K 0 := gp_bd_triv (fun g hg => by
      funext x
      by_cases h : x ∈ D
      · exact hf g hg x h (List.not_mem_nil)
      · exact (hs g hg).2 x h)
    simpa using this
  | cons y T ih =>
    intro K hK hs hr hf hb
    have hh : gp_hom (gp_res (fun x => rep x = y)) K := gp_res_hom (fun g hg x hx => by rw [hr g hg x]; exact hx)
    have e : (y :: T).length * L = L + T.length * L := by
      rw [List.length_cons, Nat.add_mul, Nat.one_mul, Nat.add_comm]
    rw [e]
    refine gp_bd_hom hh (hb y (List.mem_cons_self ..) _ (gp_im_sg hh hK) ?_) (ih _ (gp_ker_sg hh hK) ?_ ?_ ?_ ?_)
    · refine gp_im_sym hK hh (fun g hg x hx => ?_)
      by_cases h : rep x = y
      · rw [gp_res_p (p := fun x => rep x = y) h]
        refine (hs g hg).2 x (fun hd => hx ?_)
        rw [List.mem_filter]
        exact ⟨hd, decide_eq_true h⟩
      · exact gp_res_n (p := fun x => rep x = y) h
    · exact fun g hg => hs g hg.1
    · exact fun g hg => hr g hg.1
    · intro g hg x hx hT
      by_cases h : rep x = y
      · have := congrFun hg.2 x
        rw [gp_res_p (p := fun x => rep x = y) h] at this
        exact this
      · refine hf g hg.1 x hx (fun hm => ?_)
        rcases List.mem_cons.1 hm with h' | h'
        · exact h h'
        · exact hT h'
    · exact fun z hz => hb z (List.mem_cons_of_mem _ hz)

/-- the classes moved as wholes, and then each kept -/
theorem gp_bd_blocks {D T : List Nat} {R : Nat → Nat → Prop} {rep : Nat → Nat} {H : gp_f → Prop} {L M : Nat}
    (hH : gp_sg H) (hs : gp_sub H (gp_sym D)) (hR : ∀ g, H g → ∀ x y, x ∈ D → y ∈ D → R x y → R (g x) (g y))
    (r1 : ∀ x y, x ∈ D → y ∈ D → R x y → rep x = rep y) (r2 : ∀ x, x ∈ D → R x (rep x) ∧ rep x ∈ D)
    (hT : ∀ x, x ∈ T ↔ x ∈ D ∧ rep x = x)
    (bT : ∀ K, gp_sg K → gp_sub K (gp_sym T) → gp_bd K M)
    (bC : ∀ y, y ∈ T → ∀ K', gp_sg K' → gp_sub K' (gp_sym (D.filter (fun x => decide (rep x = y)))) → gp_bd K' L) :
    gp_bd H (M + T.length * L) := by
  have rr : ∀ x, x ∈ D → rep x ∈ T := fun x hx =>
    (hT _).2 ⟨(r2 x hx).2, (r1 x (rep x) hx (r2 x hx).2 (r2 x hx).1).symm⟩
  have hgD : ∀ g, H g → ∀ x, x ∈ D → g x ∈ D := fun g hg x hx => gp_sym_mem (hs g hg) hx
  have hrg : ∀ g, H g → ∀ x, x ∈ D → rep (g x) = rep (g (rep x)) := fun g hg x hx =>
    r1 _ _ (hgD g hg x hx) (hgD g hg _ (r2 x hx).2) (hR g hg x _ hx (r2 x hx).2 (r2 x hx).1)
  have hh : gp_hom (fun g => gp_res (fun x => x ∈ T) (fun x => rep (g x))) H := by
    constructor
    · funext x
      by_cases h : x ∈ T
      · show gp_res (fun x => x ∈ T) (fun x => rep (id x)) x = id x
        rw [gp_res_p (p := fun x => x ∈ T) h]
        exact ((hT x).1 h).2
      · exact gp_res_n (p := fun x => x ∈ T) h
    · intro a b ha hb
      funext x
      show gp_res (fun x => x ∈ T) (fun x => rep ((a ∘ b) x)) x =
        gp_res (fun x => x ∈ T) (fun x => rep (a x)) (gp_res (fun x => x ∈ T) (fun x => rep (b x)) x)
      by_cases h : x ∈ T
      · have hx := ((hT x).1 h).1
        rw [gp_res_p (p := fun x => x ∈ T) h, gp_res_p (p := fun x => x ∈ T) h, gp_res_p (p := fun x => x ∈ T) (rr _ (hgD b hb x hx))]
        exact hrg a ha (b x) (hgD b hb x hx)
      · rw [gp_res_n (p := fun x => x ∈ T) h, gp_res_n (p := fun x => x ∈ T) h, gp_res_n (p := fun x => x ∈ T) h]
  refine gp_bd_hom hh (bT _ (gp_im_sg hh hH) ?_) (gp_bd_cls T _ (gp_ker_sg hh hH) ?_ ?_ ?_ bC)
  · refine gp_im_sym hH hh (fun g hg x hx => ?_)
    exact gp_res_n (p := fun x => x ∈ T) hx
  · exact fun g hg => hs g hg.1
  · rintro g ⟨hg, e⟩ x
    by_cases hx : x ∈ D
    · rw [hrg g hg x hx]
      have := congrFun e (rep x)
      have h2 : gp_res (fun x => x ∈ T) (fun x => rep (g x)) (rep x) = rep x := this
      rw [gp_res_p (p := fun x => x ∈ T) (rr x hx)] at h2
      exact h2
    · rw [(hs g hg).2 x hx]
  · intro g _ x hx hn
    exact absurd (rr x hx) hn

end
end
section
/-! Groups in which no three places are put round alone: how large at most. Pure. -/
section

def gp_no3 (H : gp_f → Prop) : Prop := ∀ a b c, gp_d3 a b c → ¬ H (gp_c3 a b c)

def gp_base (H : gp_f → Prop) (B : List Nat) : Prop := ∀ h, H h → (∀ b, b ∈ B → h b = b) → h = id

theorem gp_min_base {H : gp_f → Prop} {D : List Nat} (hs : gp_sub H (gp_sym D)) (hn : D.Nodup) :
    ∃ B : List Nat, B.Nodup ∧ (∀ x, x ∈ B → x ∈ D) ∧ gp_base H B ∧
      ∀ a, a ∈ B → ∃ h, H h ∧ h ≠ id ∧ ∀ b, b ∈ B → b ≠ a → h b = b := by
  have main : ∀ (k : Nat) (B : List Nat), B.length = k → B.Nodup → (∀ x, x ∈ B → x ∈ D) → gp_base H B →
      ∃ B : List Nat, B.Nodup ∧ (∀ x, x ∈ B → x ∈ D) ∧ gp_base H B ∧
      ∀ a, a ∈ B → ∃ h, H h ∧ h ≠ id ∧ ∀ b, b ∈ B → b ≠ a → h b = b := by
    intro k
    induction k with
    | zero =>
      intro B hB h1 h2 h3
      refine ⟨B, h1, h2, h3, fun a ha => ?_⟩
      rw [List.length_eq_zero_iff.1 hB] at ha
      exact absurd ha (List.not_mem_nil)
    | succ k ih =>
      intro B hB h1 h2 h3
      by_cases hc : ∃ a, a ∈ B ∧ gp_base H (B.erase a)
      · obtain ⟨a, ha, hb⟩ := hc
        refine ih (B.erase a) ?_ (h1.erase a) (fun x hx => h2 x (List.mem_of_mem_erase hx)) hb
        rw [List.length_erase_of_mem ha, hB]
        rfl
      · refine ⟨B, h1, h2, h3, fun a ha => ?_⟩
        by_cases hh : ∃ h, H h ∧ h ≠ id ∧ ∀ b, b ∈ B → b ≠ a → h b = b
        · exact hh
        · exfalso
          apply hc
          refine ⟨a, ha, fun h hh' hf => ?_⟩
          by_cases e : h = id
          · exact e
          · exact absurd ⟨h, hh', e, fun b hb hba => hf b ((h1.mem_erase_iff).2 ⟨hba, hb⟩)⟩ hh
  refine main D.length D rfl hn (fun _ h => h) (fun h hh hf => ?_)
  funext x
  by_cases hx : x ∈ D
  · exact hf x hx
  · exact (hs h hh).2 x hx

/-- two maps that meet in one place only give three places put round -/
theorem gp_comm3 {B : List Nat} {g g' h h' : gp_f} {a : Nat} (hg : gp_inv g g') (hh : gp_inv h h') (ha : a ∈ B)
    (gB : ∀ x, x ∉ B → g x = x) (hB : ∀ x, x ∈ B → x ≠ a → h x = x) (ga : g a ≠ a) (ha' : h a ≠ a) :
    gp_d3 a (g a) (h a) ∧ g ∘ h ∘ g' ∘ h' = gp_c3 a (g a) (h a) := by
  have gmem : ∀ x, x ∈ B → g x ∈ B := by
    intro x hx
    by_cases e : g x ∈ B
    · exact e
    · have := gp_inv_inj hg (gB _ e)
      rw [this] at e
      exact absurd hx e
  have g'mem : ∀ x, x ∈ B → g' x ∈ B := by
    intro x hx
    by_cases e : g' x ∈ B
    · exact e
    · have := gB _ e
      rw [hg.1] at this
      rw [← this] at e
      exact absurd hx e
  have g'B : ∀ x, x ∉ B → g' x = x := by
    intro x hx
    have := hg.2 x
    rw [gB x hx] at this
    exact this
  have hna : h a ∉ B := by
    intro e
    have := hB _ e ha'
    exact ha' (gp_inv_inj hh this)
  have h'B : ∀ x, x ∈ B → x ≠ a → h' x = x := by
    intro x hx hxa
    have := hh.2 x
    rw [hB x hx hxa] at this
    exact this
  have h'a : h' a ∉ B := by
    intro e
    have e2 : h' a ≠ a := by
      intro e3
      have := hh.1 a
      rw [e3] at this
      exact ha' this
    have := hB _ e e2
    rw [hh.1] at this
    exact e2 this.symm
  have hd : gp_d3 a (g a) (h a) := ⟨Ne.symm ga, fun e => hna (e ▸ gmem a ha), Ne.symm ha'⟩
  refine ⟨hd, ?_⟩
  funext p
  show g (h (g' (h' p))) = _
  by_cases ea : p = a
  · rw [ea, gp_c3_a, g'B _ h'a, hh.1]
  · by_cases eb : p = g a
    · rw [eb, gp_c3_b hd, h'B _ (gmem a ha) ga, hg.2, gB _ hna]
    · by_cases ec : p = h a
      · have e1 : g' a ≠ a := by
          intro e
          have := hg.1 a
          rw [e] at this
          exact ga this
        rw [ec, gp_c3_c hd, hh.2, hB _ (g'mem a ha) e1, hg.1]
      · rw [gp_c3_n ea eb ec]
        have hqa : h' p ≠ a := by
          intro e
          apply ec
          rw [← e, hh.1]
        by_cases hq : h' p ∈ B
        · have e1 := hB _ hq hqa
          rw [hh.1] at e1
          rw [← e1] at hq ⊢
          have e2 : g' p ≠ a := by
            intro e
            apply eb
            rw [← e, hg.1]
          rw [hB _ (g'mem p hq) e2, hg.1]
        · rw [g'B _ hq, hh.1]
          apply gB
          intro hp
          have := h'B p hp ea
          rw [this] at hq
          exact hq hp

/-- a set of half the places on which the group does nothing alone -/
theorem gp_half {H : gp_f → Prop} {D : List Nat} (hH : gp_sg H) (hs : gp_sub H (gp_sym D)) (hn : D.Nodup)
    (h3 : gp_no3 H) : ∃ E : List Nat, E.Nodup ∧ (∀ x, x ∈ E → x ∈ D) ∧ (D.length + 1) / 2 ≤ E.length ∧
      ∀ h, H h → gp_sym E h → h = id := by
  obtain ⟨B, hB1, hB2, hB3, hB4⟩ := gp_min_base hs hn
  by_cases hc : 2 * B.length ≤ D.length
  · refine ⟨D.filter (fun x => decide (x ∉ B)), List.Nodup.sublist List.filter_sublist hn,
      fun x hx => (List.mem_filter.1 hx).1, ?_, fun h hh hf => ?_⟩
    · have h1 : gp_card (fun x => x ∈ D ∧ x ∈ B) B.length := ⟨B, hB1, rfl, fun x => ⟨fun h => ⟨hB2 x h, h⟩, fun h => h.2⟩⟩
      have h2 : gp_card (fun x => x ∈ D ∧ ¬ x ∈ B) (D.filter (fun x => decide (x ∉ B))).length :=
        ⟨_, List.Nodup.sublist List.filter_sublist hn, rfl, fun x => by simp [List.mem_filter]⟩
      have h4 : gp_card (fun x => x ∈ D) D.length := ⟨D, hn, rfl, fun _ => Iff.rfl⟩
      have := gp_card_uniq (gp_card_add h1 h2) h4
      omega
    · refine hB3 h hh (fun b hb => hf.2 b (fun hm => ?_))
      have := (List.mem_filter.1 hm).2
      simp at this
      exact this hb
  · refine ⟨B, hB1, hB2, by omega, fun g hg hf => ?_⟩
    by_cases e : g = id
    · exact e
    · exfalso
      have : ∃ a, g a ≠ a := by
        by_cases h : ∃ a, g a ≠ a
        · exact h
        · exfalso
          apply e
          funext x
          by_cases h' : g x = x
          · exact h'
          · exact absurd ⟨x, h'⟩ h
      obtain ⟨a, ga⟩ := this
      have haB : a ∈ B := by
        by_cases h : a ∈ B
        · exact h
        · exact absurd (hf.2 a h) ga
      obtain ⟨h, hh, hne, hfix⟩ := hB4 a haB
      have ha' : h a ≠ a := by
        intro e'
        apply hne
        refine hB3 h hh (fun b hb => ?_)
        by_cases hba : b = a
        · rw [hba]; exact e'
        · exact hfix b hb hba
      obtain ⟨g', hg', hgi⟩ := hH.2.2 g hg
      obtain ⟨h', hh', hhi⟩ := hH.2.2 h hh
      obtain ⟨hd, hx⟩ := gp_comm3 hgi hhi haB hf.2 hfix ga ha'
      apply h3 _ _ _ hd
      rw [← hx]
      exact hH.2.1 _ _ hg (hH.2.1 _ _ hh (hH.2.1 _ _ hg' hh'))

theorem gp_half_card {H : gp_f → Prop} {D : List Nat} {d : Nat} (hH : gp_sg H) (hs : gp_sub H (gp_sym D)) (hn : D.Nodup)
    (h3 : gp_no3 H) (hd : gp_card H d) : d * gp_fac ((D.length + 1) / 2) ≤ gp_fac D.length := by
  obtain ⟨E, hE1, hE2, hE3, hE4⟩ := gp_half hH hs hn h3
  have hp := gp_card_prod hd (gp_card_sym E hE1)
  have hi := gp_card_img hp (fun x : gp_f × gp_f => x.1 ∘ x.2) (by
    rintro ⟨a, s⟩ ⟨b, t⟩ ⟨ha, hsE⟩ ⟨hb, htE⟩ e
    have e' : ∀ p, a (s p) = b (t p) := fun p => congrFun e p
    obtain ⟨b', hb', hbi⟩ := hH.2.2 b hb
    obtain ⟨s', hs', hsi⟩ := (gp_sym_sg E).2.2 s hsE
    have h1 : b' ∘ a = t ∘ s' := by
      funext p
      show b' (a p) = t (s' p)
      have := e' (s' p)
      rw [hsi.1] at this
      rw [this, hbi.2]
    have h2 : b' ∘ a = id := hE4 _ (hH.2.1 _ _ hb' ha) (by
      rw [h1]; exact (gp_sym_sg E).2.1 _ _ htE hs')
    have hab : a = b := by
      funext p
      have := congrFun h2 p
      have h3 : b' (a p) = p := this
      have h4 := congrArg b h3
      rw [hbi.1] at h4
      exact h4
    have hst : s = t := by
      funext p
      have h5 := congrArg b' (e' p)
      rw [hab, hbi.2, hbi.2] at h5
      exact h5
    rw [hab, hst])
  have h1 := gp_card_le hi (gp_card_sym D hn) (by
    rintro _ ⟨⟨a, s⟩, ⟨ha, hsE⟩, rfl⟩
    exact (gp_sym_sg D).2.1 _ _ (hs a ha) (gp_sym_mono hE2 hsE))
  exact Nat.le_trans (Nat.mul_le_mul_left _ (gp_fac_le hE3)) h1

/-- the three: leave all, round, and round the other way -/
def gp_z3 (a b c : Nat) (x : gp_f) : Prop := x = id ∨ x = gp_c3 a b c ∨ x = gp_c3 a c b

theorem gp_c3_sq {a b c : Nat} (h : gp_d3 a b c) : gp_c3 a b c ∘ gp_c3 a b c = gp_c3 a c b := by
  have h' : gp_d3 a c b := ⟨h.2.2, Ne.symm h.2.1, h.1⟩
  funext p
  show gp_c3 a b c (gp_c3 a b c p) = _
  by_cases ea : p = a
  · rw [ea, gp_c3_a, gp_c3_a, gp_c3_b h]
  · by_cases eb : p = b
    · rw [eb, gp_c3_b h, gp_c3_c h, gp_c3_c h']
    · by_cases ec : p = c
      · rw [ec, gp_c3_c h, gp_c3_a, gp_c3_b h']
      · rw [gp_c3_n ea eb ec, gp_c3_n ea eb ec, gp_c3_n ea ec eb]

theorem gp_z3_sg {a b c : Nat} (h : gp_d3 a b c) : gp_sg (gp_z3 a b c) := by
  have h' : gp_d3 a c b := ⟨h.2.2, Ne.symm h.2.1, h.1⟩
  refine ⟨Or.inl rfl, ?_, ?_⟩
  · rintro x y (rfl | rfl | rfl) (rfl | rfl | rfl)
    · exact Or.inl rfl
    · exact Or.inr (Or.inl rfl)
    · exact Or.inr (Or.inr rfl)
    · exact Or.inr (Or.inl rfl)
    · exact Or.inr (Or.inr (gp_c3_sq h))
    · exact Or.inl (gp_inv_eq (gp_c3_inv h))
    · exact Or.inr (Or.inr rfl)
    · exact Or.inl (gp_inv_eq (gp_c3_inv h'))
    · exact Or.inr (Or.inl (gp_c3_sq h'))
  · rintro x (rfl | rfl | rfl)
    · exact ⟨id, Or.inl rfl, gp_inv_id⟩
    · exact ⟨_, Or.inr (Or.inr rfl), gp_c3_inv h⟩
    · exact ⟨_, Or.inr (Or.inl rfl), gp_c3_inv h'⟩

theorem gp_z3_card {a b c : Nat} (h : gp_d3 a b c) : gp_card (gp_z3 a b c) 3 := by
  have h' : gp_d3 a c b := ⟨h.2.2, Ne.symm h.2.1, h.1⟩
  refine ⟨[id, gp_c3 a b c, gp_c3 a c b], ?_, rfl, fun x => ?_⟩
  · have e1 : id ≠ gp_c3 a b c := by
      intro e
      have := congrFun e a
      rw [gp_c3_a] at this
      exact h.1 this
    have e2 : id ≠ gp_c3 a c b := by
      intro e
      have := congrFun e a
      rw [gp_c3_a] at this
      exact h.2.2 this
    have e3 : gp_c3 a b c ≠ gp_c3 a c b := by
      intro e
      have := congrFun e a
      rw [gp_c3_a, gp_c3_a] at this
      exact h.2.1 this
    simp [e1, e2, e3]
  · simp [gp_z3]

theorem gp_third {H : gp_f → Prop} {D : List Nat} {d : Nat} (hH : gp_sg H) (hs : gp_sub H (gp_sym D)) (hn : D.Nodup)
    (hl : 3 ≤ D.length) (h3 : gp_no3 H) (hd : gp_card H d) : 3 * d ∣ gp_fac D.length := by
  match D, hn, hl, hs with
  | a :: b :: c :: D', hn, _, hs =>
    have hd3 : gp_d3 a b c := by
      simp only [List.nodup_cons, List.mem_cons, not_or] at hn
      exact ⟨hn.1.1, hn.2.1.1, hn.1.2.1⟩
    have hZ := gp_z3_sg hd3
    have hZs : gp_sub (gp_z3 a b c) (gp_sym (a :: b :: c :: D')) := by
      have aux : ∀ x y z, gp_d3 x y z → x ∈ a :: b :: c :: D' → y ∈ a :: b :: c :: D' → z ∈ a :: b :: c :: D' →
          gp_sym (a :: b :: c :: D') (gp_c3 x y z) := by
        intro x y z hxyz hx hy hz
        refine ⟨⟨_, gp_c3_inv hxyz⟩, fun p hp => gp_c3_n ?_ ?_ ?_⟩
        · intro e; exact hp (e ▸ hx)
        · intro e; exact hp (e ▸ hy)
        · intro e; exact hp (e ▸ hz)
      rintro x (rfl | rfl | rfl)
      · exact (gp_sym_sg _).1
      · exact aux a b c hd3 (by simp) (by simp) (by simp)
      · exact aux a c b ⟨hd3.2.2, Ne.symm hd3.2.1, hd3.1⟩ (by simp) (by simp) (by simp)
    have hp := gp_card_prod (gp_z3_card hd3) hd
    refine gp_part (fun x y : gp_f => ∃ z h, gp_z3 a b c z ∧ H h ∧ z ∘ x ∘ h = y) ?_ ?_ ?_ _ _ (gp_card_sym _ hn) ?_
    · intro x; exact ⟨id, id, hZ.1, hH.1, rfl⟩
    · rintro x y ⟨z, h, hz, hh, rfl⟩
      obtain ⟨z', hz', hzi⟩ := hZ.2.2 z hz
      obtain ⟨h', hh', hhi⟩ := hH.2.2 h hh
      refine ⟨z', h', hz', hh', ?_⟩
      funext p
      show z' (z (x (h (h' p)))) = x p
      rw [hzi.2, hhi.1]
    · rintro x y w ⟨z, h, hz, hh, rfl⟩ ⟨z', h', hz', hh', rfl⟩
      exact ⟨z' ∘ z, h ∘ h', hZ.2.1 _ _ hz' hz, hH.2.1 _ _ hh hh', rfl⟩
    · intro x hx
      obtain ⟨x', hx', hxi⟩ := (gp_sym_sg _).2.2 x hx
      refine gp_card_congr (gp_card_img hp (fun y : gp_f × gp_f => y.1 ∘ x ∘ y.2) ?_) (fun y => ?_)
      · rintro ⟨u, h⟩ ⟨v, k⟩ ⟨hu, hh⟩ ⟨hv, hk⟩ e
        have e' : ∀ p, u (x (h p)) = v (x (k p)) := fun p => congrFun e p
        obtain ⟨v', hv', hvi⟩ := hZ.2.2 v hv
        obtain ⟨h', hh', hhi⟩ := hH.2.2 h hh
        have e2 : x' ∘ (v' ∘ u) ∘ x = k ∘ h' := by
          funext p
          show x' (v' (u (x p))) = k (h' p)
          have := e' (h' p)
          rw [hhi.1] at this
          rw [this, hvi.2, hxi.2]
        have hm : H (x' ∘ (v' ∘ u) ∘ x) := by
          rw [e2]; exact hH.2.1 _ _ hk hh'
        have hw : v' ∘ u = id := by
          have hxi' := gp_inv_symm hxi
          rcases hZ.2.1 _ _ hv' hu with h1 | h1 | h1
          · exact h1
          · exfalso
            rw [h1, gp_c3_conj hxi' hd3] at hm
            exact h3 _ _ _ (gp_d3_map hxi' hd3) hm
          · exfalso
            have hd3' : gp_d3 a c b := ⟨hd3.2.2, Ne.symm hd3.2.1, hd3.1⟩
            rw [h1, gp_c3_conj hxi' hd3'] at hm
            exact h3 _ _ _ (gp_d3_map hxi' hd3') hm
        have huv : u = v := by
          funext p
          have h4 : v' (u p) = p := congrFun hw p
          have h5 := congrArg v h4
          rw [hvi.1] at h5
          exact h5
        have hhk : h = k := by
          funext p
          have h5 := congrArg v' (e' p)
          rw [huv, hvi.2, hvi.2] at h5
          exact gp_inv_inj hxi h5
        rw [huv, hhk]
      · constructor
        · rintro ⟨⟨u, h⟩, ⟨hu, hh⟩, rfl⟩
          refine ⟨?_, u, h, hu, hh, rfl⟩
          exact (gp_sym_sg _).2.1 _ _ (hZs u hu) ((gp_sym_sg _).2.1 _ _ hx (hs h hh))
        · rintro ⟨_, u, h, hu, hh, e⟩
          exact ⟨(u, h), ⟨hu, hh⟩, e⟩

end
end
section
/-! The longest chain of groups on n places: at most 3 n / 2 steps, n up to 23. Pure. -/
section

def gp_g (n : Nat) : Nat :=
  [0, 0, 1, 2, 4, 5, 7, 8, 10, 11, 13, 14, 16, 17, 19, 20, 24, 25, 27, 28, 30, 31, 33, 34].getD n 0

theorem gp_sw_comm (a b : Nat) : gp_sw a b = gp_sw b a := by
  funext p
  by_cases h1 : p = a
  · rw [h1, gp_sw_a, gp_sw_b]
  · by_cases h2 : p = b
    · rw [h2, gp_sw_a, gp_sw_b]
    · rw [gp_sw_n h1 h2, gp_sw_n h2 h1]

theorem gp_sw_share {a b c : Nat} (h : gp_d3 a b c) : gp_sw a b ∘ gp_sw b c = gp_c3 a b c := by
  funext p
  show gp_sw a b (gp_sw b c p) = _
  by_cases ea : p = a
  · rw [ea, gp_c3_a, gp_sw_n h.1 h.2.2, gp_sw_a]
  · by_cases eb : p = b
    · rw [eb, gp_c3_b h, gp_sw_a, gp_sw_n (Ne.symm h.2.2) (Ne.symm h.2.1)]
    · by_cases ec : p = c
      · rw [ec, gp_c3_c h, gp_sw_b, gp_sw_b]
      · rw [gp_c3_n ea eb ec, gp_sw_n eb ec, gp_sw_n ea eb]

theorem gp_full_two {H : gp_f → Prop} {D : List Nat} (hH : gp_sg H) (hf : gp_full H D) {a b c d : Nat} (ha : a ∈ D)
    (hb : b ∈ D) (hc : c ∈ D) (hd : d ∈ D) (hab : a ≠ b) (hcd : c ≠ d) : H (gp_sw a b ∘ gp_sw c d) := by
  have share : ∀ x y z, x ∈ D → y ∈ D → z ∈ D → gp_d3 x y z → H (gp_sw x y ∘ gp_sw y z) := by
    intro x y z hx hy hz h
    rw [gp_sw_share h]
    exact hf x y z hx hy hz h
  have hid : ∀ x y, H (gp_sw x y ∘ gp_sw x y) := by
    intro x y
    have : gp_sw x y ∘ gp_sw x y = id := gp_inv_eq (gp_sw_inv x y)
    rw [this]
    exact hH.1
  by_cases e1 : a = c
  · subst e1
    by_cases e2 : b = d
    · subst e2
      exact hid a b
    · rw [gp_sw_comm a b]
      exact share b a d hb ha hd ⟨Ne.symm hab, hcd, e2⟩
  · by_cases e2 : a = d
    · subst e2
      by_cases e3 : b = c
      · subst e3
        rw [gp_sw_comm b a]
        exact hid a b
      · rw [gp_sw_comm a b, gp_sw_comm c a]
        exact share b a c hb ha hc ⟨Ne.symm hab, e1, e3⟩
    · by_cases e3 : b = c
      · subst e3
        exact share a b d ha hb hd ⟨hab, hcd, e2⟩
      · by_cases e4 : b = d
        · subst e4
          rw [gp_sw_comm c b]
          exact share a b c ha hb hc ⟨hab, e3, e1⟩
        · have h1 := share a b c ha hb hc ⟨hab, e3, e1⟩
          have h2 := share b c d hb hc hd ⟨e3, hcd, e4⟩
          have h3 := hH.2.1 _ _ h1 h2
          have : (gp_sw a b ∘ gp_sw b c) ∘ gp_sw b c ∘ gp_sw c d = gp_sw a b ∘ gp_sw c d := by
            funext p
            show gp_sw a b (gp_sw b c (gp_sw b c (gp_sw c d p))) = gp_sw a b (gp_sw c d p)
            rw [gp_sw_self]
          rw [this] at h3
          exact h3

theorem gp_full_half {H : gp_f → Prop} {D : List Nat} (hH : gp_sg H) (hf : gp_full H D) : ∀ (E : List Nat),
    E.Nodup → (∀ x, x ∈ E → x ∈ D) → ∀ s, gp_sym E s →
      H s ∨ ∀ a b, a ∈ D → b ∈ D → a ≠ b → H (gp_sw a b ∘ s) := by
  intro E
  induction E with
  | nil =>
    intro _ _ s hs
    left
    have : s = id := by
      funext p
      exact hs.2 p (List.not_mem_nil)
    rw [this]
    exact hH.1
  | cons x E ih =>
    intro hn hE s hs
    have hn2 := List.nodup_cons.1 hn
    have hxD := hE x (List.mem_cons_self ..)
    have hsx : s x ∈ x :: E := gp_sym_mem hs (List.mem_cons_self ..)
    have h1 : gp_sym (x :: E) (gp_sw x (s x)) := gp_sw_sym (List.mem_cons_self ..) hsx
    have h2 := (gp_sym_sg (x :: E)).2.1 _ _ h1 hs
    have h3 : gp_sym E (gp_sw x (s x) ∘ s) := by
      refine ⟨h2.1, fun p hp => ?_⟩
      by_cases e : p = x
      · rw [e]
        exact gp_sw_b x (s x)
      · refine h2.2 p (fun h => ?_)
        rcases List.mem_cons.1 h with h | h
        · exact e h
        · exact hp h
    have hback : gp_sw x (s x) ∘ gp_sw x (s x) ∘ s = s := by
      funext p
      exact gp_sw_self x (s x) (s p)
    by_cases e : s x = x
    · have e2 : gp_sw x (s x) ∘ s = s := by
        funext p
        show gp_sw x (s x) (s p) = s p
        rw [e]
        by_cases e3 : s p = x
        · rw [e3, gp_sw_a]
        · rw [gp_sw_n e3 e3]
      rw [e2] at h3
      exact ih hn2.2 (fun y hy => hE y (List.mem_cons_of_mem _ hy)) s h3
    · rcases ih hn2.2 (fun y hy => hE y (List.mem_cons_of_mem _ hy)) _ h3 with h | h
      · right
        intro a b ha hb hab
        have h4 := hH.2.1 _ _ (gp_full_two hH hf ha hb hxD (hE _ hsx) hab (Ne.symm e)) h
        have : (gp_sw a b ∘ gp_sw x (s x)) ∘ gp_sw x (s x) ∘ s = gp_sw a b ∘ s := by
          funext p
          show gp_sw a b (gp_sw x (s x) (gp_sw x (s x) (s p))) = gp_sw a b (s p)
          rw [gp_sw_self]
        rw [this] at h4
        exact h4
      · left
        have h4 := h x (s x) hxD (hE _ hsx) (Ne.symm e)
        rw [hback] at h4
        exact h4

/-- what is larger than a full group is all -/
theorem gp_full_up {K H : gp_f → Prop} {D : List Nat} (hn : D.Nodup) (hK : gp_sg K) (hH : gp_sg H) (hf : gp_full K D)
    (hKH : gp_sub K H) (hHD : gp_sub H (gp_sym D)) {x : gp_f} (hx : H x) (hnx : ¬ K x) : ∀ s, gp_sym D s → H s := by
  intro s hs
  have hx2 := gp_full_half hK hf D hn (fun _ h => h) x (hHD x hx)
  rcases gp_full_half hK hf D hn (fun _ h => h) s hs with h | h
  · exact hKH s h
  · rcases hx2 with h' | h'
    · exact absurd h' hnx
    · -- some two places
      by_cases hp : ∃ a b, a ∈ D ∧ b ∈ D ∧ a ≠ b
      · obtain ⟨a, b, ha, hb, hab⟩ := hp
        obtain ⟨x', hx', hxi⟩ := hH.2.2 x hx
        have h1 := hH.2.1 _ _ (hKH _ (h' a b ha hb hab)) hx'
        have e1 : (gp_sw a b ∘ x) ∘ x' = gp_sw a b := by
          funext p
          show gp_sw a b (x (x' p)) = _
          rw [hxi.1]
        rw [e1] at h1
        have h2 := hH.2.1 _ _ h1 (hKH _ (h a b ha hb hab))
        have e2 : gp_sw a b ∘ gp_sw a b ∘ s = s := by
          funext p
          exact gp_sw_self a b (s p)
        rw [e2] at h2
        exact h2
      · have : s = id := by
          funext p
          by_cases hd : p ∈ D
          · by_cases e : s p = p
            · exact e
            · exact absurd ⟨s p, p, gp_sym_mem hs hd, hd, e⟩ hp
          · exact hs.2 p hd
        rw [this]
        exact hH.1

/-- a full group that isn't all has no exchange, and half of all -/
theorem gp_full_no {K : gp_f → Prop} {D : List Nat} (hn : D.Nodup) (hK : gp_sg K) (hf : gp_full K D)
    (hne : ¬ ∀ s, gp_sym D s → K s) {a b : Nat} (ha : a ∈ D) (hb : b ∈ D) (hab : a ≠ b) : ¬ K (gp_sw a b) := by
  intro hk
  apply hne
  intro s hs
  rcases gp_full_half hK hf D hn (fun _ h => h) s hs with h | h
  · exact h
  · have h2 := hK.2.1 _ _ hk (h a b ha hb hab)
    have e2 : gp_sw a b ∘ gp_sw a b ∘ s = s := by
      funext p
      exact gp_sw_self a b (s p)
    rw [e2] at h2
    exact h2

theorem gp_full_card {K : gp_f → Prop} {D : List Nat} {k : Nat} (hn : D.Nodup) (hK : gp_sg K) (hf : gp_full K D)
    (hs : gp_sub K (gp_sym D)) (hne : ¬ ∀ s, gp_sym D s → K s) {a b : Nat} (ha : a ∈ D) (hb : b ∈ D) (hab : a ≠ b)
    (hk : gp_card K k) : 2 * k = gp_fac D.length := by
  have hno := gp_full_no hn hK hf hne ha hb hab
  have hsw : gp_sym D (gp_sw a b) := gp_sw_sym ha hb
  have h1 : gp_card (fun s => gp_sym D s ∧ K s) k := gp_card_congr hk (fun s => ⟨fun h => ⟨hs s h, h⟩, fun h => h.2⟩)
  have h2 : gp_card (fun s => gp_sym D s ∧ ¬ K s) k := by
    refine gp_card_congr (gp_card_img hk (fun s => gp_sw a b ∘ s) ?_) (fun s => ?_)
    · intro x y _ _ e
      funext p
      have : gp_sw a b (x p) = gp_sw a b (y p) := congrFun e p
      exact gp_inv_inj (gp_sw_inv a b) this
    · constructor
      · rintro ⟨x, hx, rfl⟩
        refine ⟨(gp_sym_sg D).2.1 _ _ hsw (hs x hx), fun h => hno ?_⟩
        obtain ⟨x', hx', hxi⟩ := hK.2.2 x hx
        have h3 := hK.2.1 _ _ h hx'
        have e1 : (gp_sw a b ∘ x) ∘ x' = gp_sw a b := by
          funext p
          show gp_sw a b (x (x' p)) = _
          rw [hxi.1]
        rw [e1] at h3
        exact h3
      · rintro ⟨hsD, hsn⟩
        rcases gp_full_half hK hf D hn (fun _ h => h) s hsD with h | h
        · exact absurd h hsn
        · refine ⟨gp_sw a b ∘ s, h a b ha hb hab, ?_⟩
          funext p
          exact gp_sw_self a b (s p)
  have := gp_card_uniq (gp_card_add h1 h2) (gp_card_sym D hn)
  omega

/-- the first of the list that goes with a place -/
noncomputable def gp_rep (D : List Nat) (R : Nat → Nat → Prop) (x : Nat) : Nat :=
  (D.find? (fun y => @decide (R x y) (Classical.propDecidable _))).getD x

theorem gp_rep_in {D : List Nat} {R : Nat → Nat → Prop} (hr : ∀ x, R x x) {x : Nat} (hx : x ∈ D) :
    R x (gp_rep D R x) ∧ gp_rep D R x ∈ D := by
  unfold gp_rep
  cases h : D.find? (fun y => @decide (R x y) (Classical.propDecidable _)) with
  | none =>
    exfalso
    have := List.find?_eq_none.1 h x hx
    exact this (by simp [hr x])
  | some y =>
    have h1 := List.find?_some h
    have h2 := List.mem_of_find?_eq_some h
    simp at h1
    exact ⟨h1, h2⟩

theorem gp_rep_eq {D : List Nat} {R : Nat → Nat → Prop} (hr : ∀ x, R x x) (hsy : ∀ x y, R x y → R y x)
    (htr : ∀ x y z, R x y → R y z → R x z) {x y : Nat} (hx : x ∈ D) (hxy : R x y) :
    gp_rep D R x = gp_rep D R y := by
  have e : (fun z => @decide (R x z) (Classical.propDecidable _)) = (fun z => @decide (R y z) (Classical.propDecidable _)) := by
    funext z
    have : R x z ↔ R y z := ⟨fun h => htr _ _ _ (hsy _ _ hxy) h, fun h => htr _ _ _ hxy h⟩
    simp [this]
  unfold gp_rep
  rw [e]
  cases h : D.find? (fun z => @decide (R y z) (Classical.propDecidable _)) with
  | none =>
    exfalso
    have := List.find?_eq_none.1 h x hx
    exact this (by simp [hsy _ _ hxy])
  | some z => rfl

end
end
section
/-! The longest chain: groups that keep classes, numbers, and the end of the induction. Pure. -/
section

def gp_un : List (Nat × Nat) → List Nat
  | [] => []
  | x :: l => List.replicate x.2 x.1 ++ gp_un l

def gp_tab : List (List (Nat × Nat) × Nat × List (Nat × Nat) × Nat) :=
  [([], 2, [], 2),
   ([], 2, [], 2),
   ([], 2, [], 2),
   ([], 5, [(2, 1)], 2),
   ([(2, 2)], 5, [(2, 3)], 2),
   ([(2, 2), (5, 1)], 3, [(2, 3), (5, 1)], 2),
   ([(2, 3), (3, 1), (5, 1)], 3, [(2, 4), (3, 1), (5, 1)], 2),
   ([(2, 3), (3, 1), (5, 1), (7, 1)], 3, [(2, 4), (3, 1), (5, 1), (7, 1)], 2),
   ([(2, 6), (3, 1), (5, 1), (7, 1)], 3, [(2, 7), (3, 1), (5, 1), (7, 1)], 3),
   ([(2, 6), (3, 3), (5, 1), (7, 1)], 3, [(2, 7), (3, 3), (5, 1), (7, 1)], 3),
   ([(2, 7), (3, 3), (5, 2), (7, 1)], 3, [(2, 8), (3, 3), (5, 2), (7, 1)], 3),
   ([(2, 7), (3, 3), (5, 2), (7, 1), (11, 1)], 3, [(2, 8), (3, 3), (5, 2), (7, 1), (11, 1)], 3),
   ([(2, 9), (3, 4), (5, 2), (7, 1), (11, 1)], 5, [(2, 10), (3, 4), (5, 2), (7, 1), (11, 1)], 3),
   ([(2, 9), (3, 4), (5, 2), (7, 1), (11, 1), (13, 1)], 5, [(2, 10), (3, 4), (5, 2), (7, 1), (11, 1), (13, 1)], 3),
   ([(2, 10), (3, 4), (5, 2), (7, 2), (11, 1), (13, 1)], 5, [(2, 11), (3, 4), (5, 2), (7, 2), (11, 1), (13, 1)], 5),
   ([(2, 10), (3, 5), (5, 3), (7, 2), (11, 1), (13, 1)], 5, [(2, 11), (3, 5), (5, 3), (7, 2), (11, 1), (13, 1)], 3),
   ([(2, 14), (3, 5), (5, 3), (7, 2), (11, 1), (13, 1)], 5, [(2, 15), (3, 5), (5, 3), (7, 2), (11, 1), (13, 1)], 3),
   ([(2, 14), (3, 5), (5, 3), (7, 2), (11, 1), (13, 1), (17, 1)], 5, [(2, 15), (3, 5), (5, 3), (7, 2), (11, 1), (13, 1), (17, 1)], 3),
   ([(2, 15), (3, 7), (5, 3), (7, 2), (11, 1), (13, 1), (17, 1)], 5, [(2, 16), (3, 7), (5, 3), (7, 2), (11, 1), (13, 1), (17, 1)], 5),
   ([(2, 15), (3, 7), (5, 3), (7, 2), (11, 1), (13, 1), (17, 1), (19, 1)], 5, [(2, 16), (3, 7), (5, 3), (7, 2), (11, 1), (13, 1), (17, 1), (19, 1)], 3),
   ([(2, 17), (3, 7), (5, 4), (7, 2), (11, 1), (13, 1), (17, 1), (19, 1)], 5, [(2, 18), (3, 7), (5, 4), (7, 2), (11, 1), (13, 1), (17, 1), (19, 1)], 5),
   ([(2, 17), (3, 8), (5, 4), (7, 3), (11, 1), (13, 1), (17, 1), (19, 1)], 5, [(2, 18), (3, 8), (5, 4), (7, 3), (11, 1), (13, 1), (17, 1), (19, 1)], 5),
   ([(2, 18), (3, 8), (5, 4), (7, 3), (11, 2), (13, 1), (17, 1), (19, 1)], 7, [(2, 19), (3, 8), (5, 4), (7, 3), (11, 2), (13, 1), (17, 1), (19, 1)], 5),
   ([(2, 18), (3, 8), (5, 4), (7, 3), (11, 2), (13, 1), (17, 1), (19, 1), (23, 1)], 5, [(2, 19), (3, 8), (5, 4), (7, 3), (11, 2), (13, 1), (17, 1), (19, 1), (23, 1)], 5)]

def gp_psA (n : Nat) : List Nat := gp_un (gp_tab.getD n ([], 2, [], 2)).1
def gp_qA (n : Nat) : Nat := (gp_tab.getD n ([], 2, [], 2)).2.1
def gp_psS (n : Nat) : List Nat := gp_un (gp_tab.getD n ([], 2, [], 2)).2.2.1
def gp_qS (n : Nat) : Nat := (gp_tab.getD n ([], 2, [], 2)).2.2.2

def gp_prms : List Nat := [2, 3, 5, 7, 11, 13, 17, 19, 23]

theorem gp_prm_dec : ∀ p, p ∈ gp_prms → gp_prm p := by
  have h : ∀ p, p ∈ gp_prms → 2 ≤ p ∧ ∀ d, d < p + 1 → d ∣ p → d = 1 ∨ d = p := by decide +kernel
  intro p hp
  refine ⟨(h p hp).1, fun d hd => (h p hp).2 d ?_ hd⟩
  have := Nat.le_of_dvd (by have := (h p hp).1; omega) hd
  omega

theorem gp_tabA : ∀ n, n < 24 → 3 ≤ n → 6 * gp_prod (gp_psA n) = gp_fac n ∧ 0 < gp_qA n ∧ 2 ≤ gp_g n ∧
    gp_fac n * gp_qA n ^ gp_cl (gp_qA n) (gp_psA n) <
      gp_qA n ^ ((gp_g n - 2) + 1) * gp_pl (gp_qA n) (gp_psA n) * gp_fac ((n + 1) / 2) := by decide +kernel

theorem gp_tabS : ∀ n, n < 24 → 3 ≤ n → 3 * gp_prod (gp_psS n) = gp_fac n ∧ 0 < gp_qS n ∧
    gp_fac n * gp_qS n ^ gp_cl (gp_qS n) (gp_psS n) <
      gp_qS n ^ ((gp_g n - 1) + 1) * gp_pl (gp_qS n) (gp_psS n) * gp_fac ((n + 1) / 2) := by decide +kernel

theorem gp_tabP : ∀ n, n < 24 → (∀ p, p ∈ gp_psA n → p ∈ gp_prms) ∧ (∀ p, p ∈ gp_psS n → p ∈ gp_prms) := by decide +kernel

theorem gp_tab1 : ∀ n, n < 24 → 3 ≤ n → ∀ k, k < n → 0 < k → gp_g k + gp_g (n - k) + 1 ≤ gp_g n := by decide +kernel

theorem gp_tab2 : ∀ s, s < 24 → 3 ≤ s → ∀ r, r < 24 → 2 ≤ r → s * r < 24 → gp_g r + r * gp_g s + 1 ≤ gp_g (s * r) := by
  decide +kernel

theorem gp_tab3 : ∀ n, n < 24 → gp_g n ≤ n * 3 / 2 := by decide +kernel

/-- of a group with no three put round alone: how long its chains are -/
theorem gp_case1S {H : gp_f → Prop} {D : List Nat} {k : Nat} (hH : gp_sg H) (hs : gp_sub H (gp_sym D)) (hn : D.Nodup)
    (hl : 3 ≤ D.length) (hu : D.length < 24) (h3 : gp_no3 H) (hk : gp_lam k H) : k + 1 ≤ gp_g D.length := by
  obtain ⟨d, hd⟩ := gp_card_sub (gp_card_sym D hn) hs
  obtain ⟨t1, t2, t3⟩ := gp_tabS D.length hu hl
  obtain ⟨_, _, t4, _⟩ := gp_tabA D.length hu hl
  have h1 := gp_third hH hs hn hl h3 hd
  rw [← t1] at h1
  have h2 : d ∣ gp_prod (gp_psS D.length) := Nat.dvd_of_mul_dvd_mul_left (by omega) h1
  have := gp_num (fun p hp => gp_prm_dec p ((gp_tabP _ hu).2 p hp)) h2 (gp_lam_dv k H d hk hd)
    (gp_half_card hH hs hn h3 hd) t2 t3
  omega

theorem gp_case1A {H : gp_f → Prop} {D : List Nat} {k : Nat} (hH : gp_sg H) (hs : gp_sub H (gp_sym D)) (hn : D.Nodup)
    (hl : 3 ≤ D.length) (hu : D.length < 24) (h3 : gp_no3 H) (hk : gp_lam k H)
    (h2 : ∀ d, gp_card H d → 2 * d ∣ gp_fac D.length) : k + 2 ≤ gp_g D.length := by
  obtain ⟨d, hd⟩ := gp_card_sub (gp_card_sym D hn) hs
  obtain ⟨t1, t2, t4, t3⟩ := gp_tabA D.length hu hl
  have h1 := gp_third hH hs hn hl h3 hd
  have h5 := h2 d hd
  have h6 : 6 * d ∣ gp_fac D.length := by
    obtain ⟨x, hx⟩ := h1
    obtain ⟨y, hy⟩ := h5
    have hdp := gp_card_pos hH hd
    have e : d * (3 * x) = d * (2 * y) := by
      rw [hx] at hy
      calc d * (3 * x) = 3 * d * x := by rw [Nat.mul_left_comm, Nat.mul_assoc]
        _ = 2 * d * y := hy
        _ = d * (2 * y) := by rw [Nat.mul_left_comm, Nat.mul_assoc]
    have e2 := Nat.eq_of_mul_eq_mul_left hdp e
    have e3 : ∃ z, x = 2 * z := ⟨x / 2, by omega⟩
    obtain ⟨z, rfl⟩ := e3
    refine ⟨z, ?_⟩
    rw [hx]
    calc 3 * d * (2 * z) = 3 * d * 2 * z := by rw [Nat.mul_assoc (3 * d)]
      _ = 6 * d * z := by
        have : 3 * d * 2 = 6 * d := by omega
        rw [this]
  rw [← t1] at h6
  have h7 : d ∣ gp_prod (gp_psA D.length) := Nat.dvd_of_mul_dvd_mul_left (by omega) h6
  have := gp_num (fun p hp => gp_prm_dec p ((gp_tabP _ hu).1 p hp)) h7 (gp_lam_dv k H d hk hd)
    (gp_half_card hH hs hn h3 hd) t2 t3
  omega

/-- neither none nor all: it lies in a group of short chains that has an exchange -/
theorem gp_case3 {H : gp_f → Prop} {D : List Nat} (hH : gp_sg H) (hs : gp_sub H (gp_sym D)) (hn : D.Nodup)
    (hl : 3 ≤ D.length) (hu : D.length < 24) (h3 : ¬ gp_no3 H) (hf : ¬ gp_full H D)
    (ih : ∀ E : List Nat, E.Nodup → E.length < D.length → ∀ K, gp_sg K → gp_sub K (gp_sym E) → gp_bd K (gp_g E.length)) :
    ∃ St L, gp_sg St ∧ gp_sub St (gp_sym D) ∧ gp_sub H St ∧ (∃ a b, a ∈ D ∧ b ∈ D ∧ a ≠ b ∧ St (gp_sw a b)) ∧
      gp_bd St L ∧ L + 1 ≤ gp_g D.length := by
  have h3' : ∃ a b c, gp_d3 a b c ∧ H (gp_c3 a b c) := by
    by_cases h : ∃ a b c, gp_d3 a b c ∧ H (gp_c3 a b c)
    · exact h
    · exact absurd (fun a b c hd hc => h ⟨a, b, c, hd, hc⟩) h3
  obtain ⟨a, b, c, hd, hc⟩ := h3'
  obtain ⟨haD, hbD, hcD⟩ := gp_c3_in hs hd hc
  have rr : ∀ x, gp_R H x x := fun x => gp_R_refl x
  have rs : ∀ x y, gp_R H x y → gp_R H y x := fun x y h => gp_R_symm hH h
  have rt : ∀ x y z, gp_R H x y → gp_R H y z → gp_R H x z := fun x y z h h' => gp_R_trans hH h h'
  have hab : gp_R H a b := Or.inr ⟨c, hd, hc⟩
  have hac : gp_R H a c := by
    have h1 : gp_d3 c a b := ⟨Ne.symm hd.2.2, hd.1, Ne.symm hd.2.1⟩
    have h2 : H (gp_c3 c a b) := by
      rw [gp_c3_rot h1]; exact hc
    exact rs _ _ (Or.inr ⟨b, h1, h2⟩)
  have hDc : gp_card (fun x => x ∈ D) D.length := ⟨D, hn, rfl, fun _ => Iff.rfl⟩
  obtain ⟨s, hsc⟩ := gp_card_sub (S := fun y => y ∈ D ∧ gp_R H a y) hDc (fun _ h => h.1)
  by_cases hun : ∀ x, x ∈ D → gp_card (fun y => y ∈ D ∧ gp_R H x y) s
  · -- classes of one size
    have hs3 : 3 ≤ s := by
      have h1 : gp_card (fun y => y = a ∨ y = b ∨ y = c) 3 := by
        refine ⟨[a, b, c], ?_, rfl, fun x => by simp⟩
        simp [hd.1, hd.2.1, hd.2.2]
      refine gp_card_le h1 hsc ?_
      rintro x (rfl | rfl | rfl)
      · exact ⟨haD, rr _⟩
      · exact ⟨hbD, hab⟩
      · exact ⟨hcD, hac⟩
    have hnt : ∃ x y, x ∈ D ∧ y ∈ D ∧ ¬ gp_R H x y := by
      by_cases h : ∃ x y, x ∈ D ∧ y ∈ D ∧ ¬ gp_R H x y
      · exact h
      · exfalso
        apply hf
        refine gp_tot_full hH hs (fun x y hx hy => ?_)
        by_cases h' : gp_R H x y
        · exact h'
        · exact absurd ⟨x, y, hx, hy, h'⟩ h
    obtain ⟨u, v, huD, hvD, huv⟩ := hnt
    have hsn : s < D.length := gp_card_lt (hun u huD) hDc (fun _ h => h.1) v hvD (fun h => huv h.2)
    have r1 : ∀ x y, x ∈ D → y ∈ D → gp_R H x y → gp_rep D (gp_R H) x = gp_rep D (gp_R H) y :=
      fun x y hx _ h => gp_rep_eq rr rs rt hx h
    have r2 : ∀ x, x ∈ D → gp_R H x (gp_rep D (gp_R H) x) ∧ gp_rep D (gp_R H) x ∈ D := fun x hx => gp_rep_in rr hx
    have hT : ∀ x, x ∈ D.filter (fun x => decide (gp_rep D (gp_R H) x = x)) ↔ x ∈ D ∧ gp_rep D (gp_R H) x = x := by
      intro x
      rw [List.mem_filter, decide_eq_true_iff]
    have hTn : (D.filter (fun x => decide (gp_rep D (gp_R H) x = x))).Nodup := List.Nodup.sublist List.filter_sublist hn
    generalize hTe : D.filter (fun x => decide (gp_rep D (gp_R H) x = x)) = T at hT hTn
    have hfib : ∀ y, y ∈ T → gp_card (fun x => x ∈ D ∧ gp_rep D (gp_R H) x = y) s := by
      intro y hy
      have hy2 := (hT y).1 hy
      refine gp_card_congr (hun y hy2.1) (fun x => ?_)
      constructor
      · rintro ⟨h1, h2⟩
        exact ⟨h1, by rw [← r1 y x hy2.1 h1 h2]; exact hy2.2⟩
      · rintro ⟨h1, h2⟩
        refine ⟨h1, ?_⟩
        have := (r2 x h1).1
        rw [h2] at this
        exact rs _ _ this
    have hcnt : D.length = T.length * s := gp_fib (fun x => gp_rep D (gp_R H) x) T hTn (fun x => x ∈ D) D.length hDc
      (fun x hx => (hT _).2 ⟨(r2 x hx).2, (r1 _ _ hx (r2 x hx).2 (r2 x hx).1).symm⟩) hfib
    have hT2 : 2 ≤ T.length := by
      rcases Nat.lt_or_ge T.length 2 with h | h
      · exfalso
        have : T.length = 0 ∨ T.length = 1 := by omega
        rcases this with e | e
        · rw [e] at hcnt; omega
        · rw [e] at hcnt; omega
      · exact h
    have hTl : T.length < D.length := by
      rw [hcnt]
      calc T.length < T.length * 3 := by omega
        _ ≤ T.length * s := Nat.mul_le_mul_left _ hs3
    let St : gp_f → Prop := fun g => gp_sym D g ∧ ∀ x y, x ∈ D → y ∈ D → (gp_R H x y ↔ gp_R H (g x) (g y))
    have hSt : gp_sg St := by
      refine ⟨⟨(gp_sym_sg D).1, fun x y _ _ => Iff.rfl⟩, ?_, ?_⟩
      · rintro g k ⟨hg, hg2⟩ ⟨hk, hk2⟩
        refine ⟨(gp_sym_sg D).2.1 _ _ hg hk, fun x y hx hy => ?_⟩
        exact (hk2 x y hx hy).trans (hg2 _ _ (gp_sym_mem hk hx) (gp_sym_mem hk hy))
      · rintro g ⟨hg, hg2⟩
        obtain ⟨k, hk, hi⟩ := (gp_sym_sg D).2.2 g hg
        refine ⟨k, ⟨hk, fun x y hx hy => ?_⟩, hi⟩
        have := hg2 (k x) (k y) (gp_sym_mem hk hx) (gp_sym_mem hk hy)
        rw [hi.1, hi.1] at this
        exact this.symm
    have hbd : gp_bd St (gp_g T.length + T.length * gp_g s) := by
      refine gp_bd_blocks (D := D) (T := T) (R := gp_R H) (rep := gp_rep D (gp_R H)) hSt (fun g hg => hg.1)
        (fun g hg x y hx hy h => (hg.2 x y hx hy).1 h) r1 r2 hT (ih T hTn hTl) ?_
      intro y hy K hK hKs
      have hcl : (D.filter (fun x => decide (gp_rep D (gp_R H) x = y))).length = s := by
        refine gp_card_uniq (S := fun x => x ∈ D ∧ gp_rep D (gp_R H) x = y) ?_ (hfib y hy)
        exact ⟨_, List.Nodup.sublist List.filter_sublist hn, rfl, fun x => by rw [List.mem_filter, decide_eq_true_iff]⟩
      have := ih (D.filter (fun x => decide (gp_rep D (gp_R H) x = y))) (List.Nodup.sublist List.filter_sublist hn)
        (by rw [hcl]; exact hsn) K hK hKs
      rw [hcl] at this
      exact this
    refine ⟨St, _, hSt, fun g hg => hg.1, ?_, ⟨a, b, haD, hbD, hd.1, gp_sw_sym haD hbD, ?_⟩, hbd, ?_⟩
    · intro g hg
      refine ⟨hs g hg, fun x y hx hy => ⟨fun h => gp_R_map hH hg h, fun h => ?_⟩⟩
      obtain ⟨k, hk, hi⟩ := hH.2.2 g hg
      have := gp_R_map hH hk h
      rw [hi.2, hi.2] at this
      exact this
    · have hx : ∀ x, gp_R H x (gp_sw a b x) := by
        intro x
        by_cases e1 : x = a
        · rw [e1, gp_sw_a]; exact hab
        · by_cases e2 : x = b
          · rw [e2, gp_sw_b]; exact rs _ _ hab
          · rw [gp_sw_n e1 e2]; exact rr x
      intro x y _ _
      exact ⟨fun h => rt _ _ _ (rs _ _ (hx x)) (rt _ _ _ h (hx y)), fun h => rt _ _ _ (hx x) (rt _ _ _ h (rs _ _ (hx y)))⟩
    · have h24 : s * T.length < 24 := by rw [Nat.mul_comm, ← hcnt]; exact hu
      rw [hcnt, Nat.mul_comm T.length s]
      exact gp_tab2 s (by omega) hs3 T.length (by omega) hT2 h24
  · -- classes of several sizes
    have hx0 : ∃ x, x ∈ D ∧ ¬ gp_card (fun y => y ∈ D ∧ gp_R H x y) s := by
      by_cases h : ∃ x, x ∈ D ∧ ¬ gp_card (fun y => y ∈ D ∧ gp_R H x y) s
      · exact h
      · exfalso
        apply hun
        intro x hx
        by_cases h' : gp_card (fun y => y ∈ D ∧ gp_R H x y) s
        · exact h'
        · exact absurd ⟨x, hx, h'⟩ h
    obtain ⟨x0, hx0D, hx0n⟩ := hx0
    let p : Nat → Prop := fun x => gp_card (fun y => y ∈ D ∧ gp_R H x y) s
    have hpa : p a := hsc
    have hpR : ∀ x y, gp_R H x y → p x → p y := by
      intro x y hxy hx
      exact gp_card_congr hx (fun z => ⟨fun h => ⟨h.1, rt _ _ _ (rs _ _ hxy) h.2⟩, fun h => ⟨h.1, rt _ _ _ hxy h.2⟩⟩)
    have hpb : p b := hpR a b hab hpa
    have hpm : ∀ g, H g → ∀ x, p x → p (g x) := by
      intro g hg x hx
      obtain ⟨k, hk, hi⟩ := hH.2.2 g hg
      refine gp_card_congr (gp_card_img hx g (fun y z _ _ e => gp_inv_inj hi e)) (fun y => ?_)
      constructor
      · rintro ⟨z, ⟨hz, hzR⟩, rfl⟩
        exact ⟨gp_sym_mem (hs g hg) hz, gp_R_map hH hg hzR⟩
      · rintro ⟨hy, hyR⟩
        refine ⟨k y, ⟨gp_sym_mem (hs k hk) hy, ?_⟩, hi.1 y⟩
        have := gp_R_map hH hk hyR
        rw [hi.2] at this
        exact this
    let St : gp_f → Prop := fun g => gp_sym D g ∧ ∀ x, p x ↔ p (g x)
    have hSt : gp_sg St := by
      refine ⟨⟨(gp_sym_sg D).1, fun x => Iff.rfl⟩, ?_, ?_⟩
      · rintro g k ⟨hg, hg2⟩ ⟨hk, hk2⟩
        exact ⟨(gp_sym_sg D).2.1 _ _ hg hk, fun x => (hk2 x).trans (hg2 _)⟩
      · rintro g ⟨hg, hg2⟩
        obtain ⟨k, hk, hi⟩ := (gp_sym_sg D).2.2 g hg
        refine ⟨k, ⟨hk, fun x => ?_⟩, hi⟩
        have := hg2 (k x)
        rw [hi.1] at this
        exact this.symm
    obtain ⟨n1, c1⟩ := gp_card_sub (S := fun x => x ∈ D ∧ p x) hDc (fun _ h => h.1)
    obtain ⟨n2, c2⟩ := gp_card_sub (S := fun x => x ∈ D ∧ ¬ p x) hDc (fun _ h => h.1)
    have hsum := gp_card_uniq (gp_card_add c1 c2) hDc
    obtain ⟨D1, d1n, d1l, d1m⟩ := c1
    obtain ⟨D2, d2n, d2l, d2m⟩ := c2
    have hn1 : 0 < n1 := by
      rw [← d1l]
      exact List.length_pos_of_mem ((d1m a).2 ⟨haD, hpa⟩)
    have hn2 : 0 < n2 := by
      rw [← d2l]
      exact List.length_pos_of_mem ((d2m x0).2 ⟨hx0D, hx0n⟩)
    have hbd : gp_bd St (gp_g n1 + gp_g n2) := by
      refine gp_bd_split (D := D) (D1 := D1) (D2 := D2) (p := p) hSt (fun g hg => hg.1) (fun g hg x hx => (hg.2 x).1 hx)
        (fun x hx hp => (d1m x).2 ⟨hx, hp⟩) (fun x hx hp => (d2m x).2 ⟨hx, hp⟩) ?_ ?_
      · intro K hK hKs
        have := ih D1 d1n (by rw [d1l]; omega) K hK hKs
        rw [d1l] at this
        exact this
      · intro K hK hKs
        have := ih D2 d2n (by rw [d2l]; omega) K hK hKs
        rw [d2l] at this
        exact this
    refine ⟨St, _, hSt, fun g hg => hg.1, ?_, ⟨a, b, haD, hbD, hd.1, gp_sw_sym haD hbD, fun x => ?_⟩, hbd, ?_⟩
    · intro g hg
      refine ⟨hs g hg, fun x => ⟨hpm g hg x, fun h => ?_⟩⟩
      obtain ⟨k, hk, hi⟩ := hH.2.2 g hg
      have := hpm k hk _ h
      rw [hi.2] at this
      exact this
    · by_cases e1 : x = a
      · rw [e1, gp_sw_a]; exact ⟨fun _ => hpb, fun _ => hpa⟩
      · by_cases e2 : x = b
        · rw [e2, gp_sw_b]; exact ⟨fun _ => hpa, fun _ => hpb⟩
        · rw [gp_sw_n e1 e2]
    · have := gp_tab1 D.length hu hl n1 (by omega) hn1
      have e : D.length - n1 = n2 := by omega
      rw [e] at this
      exact this

theorem gp_small {D : List Nat} {H : gp_f → Prop} {k : Nat} (hn : D.Nodup) (hl : D.length < 3) (hs : gp_sub H (gp_sym D))
    (hk : gp_lam k H) : k ≤ gp_g D.length := by
  obtain ⟨d, hd⟩ := gp_card_sub (gp_card_sym D hn) hs
  have h1 := gp_lag (gp_lam_sg hk) (gp_sym_sg D) hs hd (gp_card_sym D hn)
  have h2 := gp_lam_dv k H d hk hd
  have h4 : ∀ p, p ∈ ([2] : List Nat) → gp_prm p := by
    intro p hp
    exact gp_prm_dec p (by simp at hp; rw [hp]; decide)
  have hcase : D.length = 0 ∨ D.length = 1 ∨ D.length = 2 := by omega
  rcases hcase with e | e | e
  · rw [e] at h1 ⊢
    have : d = 1 := Nat.dvd_one.1 h1
    exact gp_dv_list k d [] (fun p hp => absurd hp (List.not_mem_nil)) this.symm h2
  · rw [e] at h1 ⊢
    have : d = 1 := Nat.dvd_one.1 h1
    exact gp_dv_list k d [] (fun p hp => absurd hp (List.not_mem_nil)) this.symm h2
  · rw [e] at h1 ⊢
    obtain ⟨qs, q1, q2⟩ := gp_div_list [2] h4 d h1
    have := gp_dv_list k d qs (fun p hp => h4 p (q1.subset hp)) q2 h2
    have h5 := q1.length_le
    have h6 : gp_g 2 = 1 := rfl
    simp at h5
    omega

theorem gp_main : ∀ (n : Nat) (D : List Nat), D.length = n → n < 24 → D.Nodup → ∀ H, gp_sg H → gp_sub H (gp_sym D) →
    gp_bd H (gp_g n) := by
  intro n
  induction n using Nat.strongRecOn with
  | _ n ihn =>
    intro D hDl hu hn H hH hs k hk
    subst hDl
    by_cases hl : 3 ≤ D.length
    · have ih : ∀ E : List Nat, E.Nodup → E.length < D.length → ∀ K, gp_sg K → gp_sub K (gp_sym E) →
          gp_bd K (gp_g E.length) := fun E hE hlt K hK hKs => ihn E.length hlt E rfl (by omega) hE K hK hKs
      -- a group that isn't full
      have nf : ∀ (K : gp_f → Prop) (j : Nat), gp_sub K (gp_sym D) → gp_lam j K → ¬ gp_full K D → j + 1 ≤ gp_g D.length := by
        intro K j hKs hj hnf
        have hK := gp_lam_sg hj
        by_cases h3 : gp_no3 K
        · exact gp_case1S hK hKs hn hl hu h3 hj
        · obtain ⟨St, L, hSt, _, hKSt, _, hb, hL⟩ := gp_case3 hK hKs hn hl hu h3 hnf ih
          have := hb j (gp_lam_mono hj hKSt hSt)
          omega
      by_cases hfH : gp_full H D
      · cases k with
        | zero => exact Nat.zero_le _
        | succ j =>
          obtain ⟨_, K, hj, hKH, x, hx, hnx⟩ := hk
          have hKs : gp_sub K (gp_sym D) := fun g hg => hs g (hKH g hg)
          by_cases hfK : gp_full K D
          · have hK := gp_lam_sg hj
            have hne : ¬ ∀ s, gp_sym D s → K s := fun h => hnx (h x (hs x hx))
            have h2 : 2 ≤ gp_g D.length := (gp_tabA D.length hu hl).2.2.1
            cases j with
            | zero => omega
            | succ i =>
              obtain ⟨_, K', hi, hKK, y, hy, hny⟩ := hj
              have hK' := gp_lam_sg hi
              have hK's : gp_sub K' (gp_sym D) := fun g hg => hKs g (hKK g hg)
              have hnf : ¬ gp_full K' D := by
                intro hf'
                apply hne
                exact gp_full_up hn hK' hK hf' hKK hKs hy hny
              by_cases h3 : gp_no3 K'
              · have : i + 2 ≤ gp_g D.length := gp_case1A hK' hK's hn hl hu h3 hi (by
                  intro d hd
                  obtain ⟨m, hm⟩ := gp_card_sub (gp_card_sym D hn) hKs
                  have h5 := gp_lag hK' hK hKK hd hm
                  have hab : ∃ a b, a ∈ D ∧ b ∈ D ∧ a ≠ b := by
                    match D, hn, hl with
                    | a :: b :: D', hn, _ =>
                      simp only [List.nodup_cons, List.mem_cons, not_or] at hn
                      exact ⟨a, b, by simp, by simp, hn.1.1⟩
                  obtain ⟨a, b, ha, hb, hab⟩ := hab
                  rw [← gp_full_card hn hK hfK hKs hne ha hb hab hm]
                  exact Nat.mul_dvd_mul_left 2 h5)
                omega
              · obtain ⟨St, L, hSt, _, hKSt, ⟨a, b, ha, hb, hab, hsw⟩, hbd, hL⟩ := gp_case3 hK' hK's hn hl hu h3 hnf ih
                have := gp_bd_lt hbd hi ⟨hKSt, gp_sw a b, hsw, fun h => gp_full_no hn hK hfK hne ha hb hab (hKK _ h)⟩ hSt
                omega
          · have := nf K j hKs hj hfK
            omega
      · have := nf H k hs hk hfH
        omega
    · exact gp_small hn (by omega) hs hk

/-- the longest chain of groups on a set of at most 23 places -/
theorem gp_chain {D : List Nat} (hn : D.Nodup) (hu : D.length < 24) {H : gp_f → Prop} {k : Nat}
    (hs : gp_sub H (gp_sym D)) (hk : gp_lam k H) : k ≤ D.length * 3 / 2 :=
  Nat.le_trans (gp_main D.length D rfl hu hn H (gp_lam_sg hk) hs k hk) (gp_tab3 _ hu)

end
end
section
/-! What comes of some maps one behind the other; one link of the chain; the lemma of Schreier. Pure. -/
section

def gp_w (l : List gp_f) : gp_f := l.foldr (fun a b => a ∘ b) id

def gp_gen (T : gp_f → Prop) (h : gp_f) : Prop := ∃ l : List gp_f, (∀ x, x ∈ l → T x) ∧ gp_w l = h

theorem gp_gen_id {T : gp_f → Prop} : gp_gen T id := ⟨[], fun x hx => absurd hx (List.not_mem_nil), rfl⟩

theorem gp_gen_mem {T : gp_f → Prop} {t : gp_f} (h : T t) : gp_gen T t :=
  ⟨[t], fun x hx => by rw [List.mem_singleton.1 hx]; exact h, rfl⟩

theorem gp_w_append (l l' : List gp_f) : gp_w (l ++ l') = gp_w l ∘ gp_w l' := by
  induction l with
  | nil => rfl
  | cons a l ih =>
    show a ∘ gp_w (l ++ l') = (a ∘ gp_w l) ∘ gp_w l'
    rw [ih]
    rfl

theorem gp_gen_comp {T : gp_f → Prop} {a b : gp_f} (ha : gp_gen T a) (hb : gp_gen T b) : gp_gen T (a ∘ b) := by
  obtain ⟨l, h1, rfl⟩ := ha
  obtain ⟨l', h2, rfl⟩ := hb
  refine ⟨l ++ l', fun x hx => ?_, gp_w_append l l'⟩
  rcases List.mem_append.1 hx with h | h
  · exact h1 x h
  · exact h2 x h

/-- it is the least that holds id and goes on along each -/
theorem gp_gen_min {T M : gp_f → Prop} (h0 : M id) (hs : ∀ t h, T t → M h → M (t ∘ h)) : ∀ h, gp_gen T h → M h := by
  rintro h ⟨l, hl, rfl⟩
  induction l with
  | nil => exact h0
  | cons a l ih =>
    exact hs a (gp_w l) (hl a (List.mem_cons_self ..)) (ih (fun x hx => hl x (List.mem_cons_of_mem _ hx)))

theorem gp_gen_sub {T T' : gp_f → Prop} (h : ∀ t, T t → gp_gen T' t) : gp_sub (gp_gen T) (gp_gen T') :=
  gp_gen_min gp_gen_id (fun _ _ ht hh => gp_gen_comp (h _ ht) hh)

theorem gp_gen_mono {T T' : gp_f → Prop} (h : ∀ t, T t → T' t) : gp_sub (gp_gen T) (gp_gen T') :=
  gp_gen_sub (fun t ht => gp_gen_mem (h t ht))

theorem gp_gen_in {T M : gp_f → Prop} (hM : gp_sg M) (h : ∀ t, T t → M t) : gp_sub (gp_gen T) M :=
  gp_gen_min hM.1 (fun t _ ht hh => hM.2.1 t _ (h t ht) hh)

theorem gp_gen_sg {T : gp_f → Prop} {D : List Nat} (hn : D.Nodup) (hT : ∀ t, T t → gp_sym D t) : gp_sg (gp_gen T) := by
  refine ⟨gp_gen_id, fun a b => gp_gen_comp, fun h hh => ?_⟩
  have hs : gp_sub (gp_gen T) (gp_sym D) := gp_gen_in (gp_sym_sg D) hT
  obtain ⟨h', hi⟩ := (hs h hh).1
  obtain ⟨k, hk⟩ := gp_card_sub (gp_card_sym D hn) hs
  have himg := gp_card_img hk (fun x => h ∘ x) (by
    intro x y _ _ e
    funext p
    exact gp_inv_inj hi (congrFun e p))
  have : ∃ x, gp_gen T x ∧ h ∘ x = id := by
    by_cases hc : ∃ x, gp_gen T x ∧ h ∘ x = id
    · exact hc
    · exfalso
      have := gp_card_lt himg hk (by rintro _ ⟨x, hx, rfl⟩; exact gp_gen_comp hh hx) id gp_gen_id hc
      omega
  obtain ⟨x, hx, e⟩ := this
  refine ⟨x, hx, fun p => congrFun e p, fun p => ?_⟩
  have h1 : h (x (h p)) = h p := congrFun e (h p)
  exact gp_inv_inj hi h1

/-- one link: rows that generate, places of the spread, a way back from each -/
def lk_ok (i : Nat) (D : List Nat) (gs : List gp_f) (sn : Nat) (sp : Nat → Nat) (wb : Nat → gp_f) : Prop :=
  (∀ g, g ∈ gs → gp_sym D g) ∧ 0 < sn ∧ sp 0 = i ∧ wb 0 = id ∧
  (∀ s, s < sn → gp_gen (fun g => g ∈ gs) (wb s) ∧ wb s (sp s) = i) ∧
  (∀ s t, s < sn → t < sn → sp s = sp t → s = t)

/-- the pairs that were looked at: what they give is of the part below -/
def lk_pairs (gs : List gp_f) (pr : Nat → Nat) (sn : Nat) (sp : Nat → Nat) (wb : Nat → gp_f) (K : gp_f → Prop) : Prop :=
  ∀ k g, gs[k]? = some g → ∀ s, s < pr k → ∃ t, t < sn ∧ sp t = g (sp s) ∧ ∃ u, K u ∧ u ∘ wb s = wb t ∘ g

theorem lk_schreier {i : Nat} {D : List Nat} {gs : List gp_f} {sn : Nat} {sp : Nat → Nat} {wb : Nat → gp_f}
    {pr : Nat → Nat} {K : gp_f → Prop} (h : lk_ok i D gs sn sp wb) (hp : lk_pairs gs pr sn sp wb K)
    (hd : ∀ k g, gs[k]? = some g → sn ≤ pr k) (hK : gp_sg K) :
    ∀ x, gp_gen (fun g => g ∈ gs) x → ∃ t, t < sn ∧ sp t = x i ∧ K (wb t ∘ x) := by
  obtain ⟨_, h1, h2, h3, _, _⟩ := h
  refine gp_gen_min ⟨0, h1, h2, ?_⟩ ?_
  · rw [h3]; exact hK.1
  · rintro g x hg ⟨s, hs, e, hx⟩
    obtain ⟨k, hk⟩ := List.getElem?_of_mem hg
    obtain ⟨t, ht, e2, u, hu, e3⟩ := hp k g hk s (Nat.lt_of_lt_of_le hs (hd k g hk))
    refine ⟨t, ht, ?_, ?_⟩
    · rw [e2, e]; rfl
    · have : wb t ∘ g ∘ x = u ∘ (wb s ∘ x) := by
        funext p
        have := congrFun e3 (x p)
        exact this.symm
      rw [this]
      exact hK.2.1 _ _ hu hx

/-- with all pairs done, the part below is the part that leaves the place -/
theorem lk_stab {i : Nat} {D : List Nat} {gs gs' : List gp_f} {sn : Nat} {sp : Nat → Nat} {wb : Nat → gp_f}
    {pr : Nat → Nat} (h : lk_ok i D gs sn sp wb) (hp : lk_pairs gs pr sn sp wb (gp_gen (fun g => g ∈ gs')))
    (hd : ∀ k g, gs[k]? = some g → sn ≤ pr k) (hK : gp_sg (gp_gen (fun g => g ∈ gs')))
    (hin : ∀ g, g ∈ gs' → gp_gen (fun g => g ∈ gs) g ∧ g i = i) :
    ∀ x, gp_gen (fun g => g ∈ gs') x ↔ gp_gen (fun g => g ∈ gs) x ∧ x i = i := by
  intro x
  constructor
  · intro hx
    refine ⟨gp_gen_sub (fun g hg => (hin g hg).1) x hx, ?_⟩
    refine gp_gen_min (M := fun x => x i = i) rfl ?_ x hx
    intro t y ht hy
    show t (y i) = i
    rw [hy, (hin t ht).2]
  · rintro ⟨hx, hxi⟩
    obtain ⟨t, ht, e, hk⟩ := lk_schreier h hp hd hK x hx
    have : t = 0 := h.2.2.2.2.2 t 0 ht h.2.1 (by rw [e, hxi, h.2.2.1])
    rw [this, h.2.2.2.1] at hk
    exact hk

/-- the spread is where the link's group puts the link's place -/
theorem lk_spread {i : Nat} {D : List Nat} {gs : List gp_f} {sn : Nat} {sp : Nat → Nat} {wb : Nat → gp_f}
    {pr : Nat → Nat} {K : gp_f → Prop} (hn : D.Nodup) (h : lk_ok i D gs sn sp wb) (hp : lk_pairs gs pr sn sp wb K)
    (hd : ∀ k g, gs[k]? = some g → sn ≤ pr k) (hK : gp_sg K) :
    ∀ q, (∃ s, s < sn ∧ sp s = q) ↔ ∃ x, gp_gen (fun g => g ∈ gs) x ∧ x i = q := by
  intro q
  constructor
  · rintro ⟨s, hs, rfl⟩
    obtain ⟨h1, h2⟩ := h.2.2.2.2.1 s hs
    obtain ⟨y, hy, hi⟩ := (gp_gen_sg hn h.1).2.2 _ h1
    refine ⟨y, hy, ?_⟩
    have := hi.2 (sp s)
    rw [h2] at this
    exact this
  · rintro ⟨x, hx, rfl⟩
    obtain ⟨t, ht, e, _⟩ := lk_schreier h hp hd hK x hx
    exact ⟨t, ht, e⟩

end
end
section
/-! The whole chain: links 0 .. n - 1; sifting; what level and spread are. Pure. -/
section

def ch_D (n i : Nat) : List Nat := List.range' i (n - i)

theorem ch_D_nodup (n i : Nat) : (ch_D n i).Nodup := List.nodup_range' (step := 1)

theorem ch_D_mem {n i p : Nat} : p ∈ ch_D n i ↔ i ≤ p ∧ p < n := by
  unfold ch_D
  rw [List.mem_range'_1]
  omega

theorem ch_D_len (n i : Nat) : (ch_D n i).length = n - i := by
  unfold ch_D
  rw [List.length_range']

def ch_G (gs : List gp_f) : gp_f → Prop := gp_gen (fun g => g ∈ gs)

/-- the links: each as a link is, its pairs looked at are of the link below, the rows below are of it -/
def ch_ok (n : Nat) (gs : Nat → List gp_f) (pr : Nat → Nat → Nat) (sn : Nat → Nat) (sp : Nat → Nat → Nat)
    (wb : Nat → Nat → gp_f) : Prop :=
  gs n = [] ∧ ∀ i, i < n → lk_ok i (ch_D n i) (gs i) (sn i) (sp i) (wb i) ∧
    lk_pairs (gs i) (pr i) (sn i) (sp i) (wb i) (ch_G (gs (i + 1))) ∧
    (∀ g, g ∈ gs (i + 1) → ch_G (gs i) g) ∧ (∀ k, pr i k ≤ sn i)

/-- all pairs of a link are done -/
def ch_done (gs : Nat → List gp_f) (pr : Nat → Nat → Nat) (sn : Nat → Nat) (i : Nat) : Prop :=
  ∀ k g, (gs i)[k]? = some g → sn i ≤ pr i k

section
variable {n : Nat} {gs : Nat → List gp_f} {pr : Nat → Nat → Nat} {sn : Nat → Nat} {sp : Nat → Nat → Nat}
  {wb : Nat → Nat → gp_f}

theorem ch_sym (h : ch_ok n gs pr sn sp wb) {i : Nat} (hi : i ≤ n) : ∀ g, g ∈ gs i → gp_sym (ch_D n i) g := by
  intro g hg
  rcases Nat.lt_or_eq_of_le hi with h1 | h1
  · exact (h.2 i h1).1.1 g hg
  · rw [h1, h.1] at hg
    exact absurd hg (List.not_mem_nil)

theorem ch_sg (h : ch_ok n gs pr sn sp wb) {i : Nat} (hi : i ≤ n) : gp_sg (ch_G (gs i)) :=
  gp_gen_sg (ch_D_nodup n i) (ch_sym h hi)

theorem ch_in_sym (h : ch_ok n gs pr sn sp wb) {i : Nat} (hi : i ≤ n) : gp_sub (ch_G (gs i)) (gp_sym (ch_D n i)) :=
  gp_gen_in (gp_sym_sg _) (ch_sym h hi)

theorem ch_fix (h : ch_ok n gs pr sn sp wb) {i : Nat} (hi : i ≤ n) {x : gp_f} (hx : ch_G (gs i) x) {j : Nat} (hj : j < i) :
    x j = j := (ch_in_sym h hi x hx).2 j (fun hm => by have := ch_D_mem.1 hm; omega)

theorem ch_stab (h : ch_ok n gs pr sn sp wb) {i : Nat} (hi : i < n) (hd : ch_done gs pr sn i) :
    ∀ x, ch_G (gs (i + 1)) x ↔ ch_G (gs i) x ∧ x i = i := by
  have hl := h.2 i hi
  refine lk_stab hl.1 hl.2.1 hd (ch_sg h hi) (fun g hg => ⟨hl.2.2.1 g hg, ?_⟩)
  exact (ch_sym h hi g hg).2 i (fun hm => by have := ch_D_mem.1 hm; omega)

/-- from link b on all is done: link i is the part of link b that leaves b .. i - 1 -/
theorem ch_part (h : ch_ok n gs pr sn sp wb) {b : Nat} (hd : ∀ i, b ≤ i → i < n → ch_done gs pr sn i) :
    ∀ i, b ≤ i → i ≤ n → ∀ x, ch_G (gs i) x ↔ ch_G (gs b) x ∧ ∀ j, b ≤ j → j < i → x j = j := by
  intro i
  induction i with
  | zero =>
    intro hb _ x
    have : b = 0 := by omega
    subst this
    exact ⟨fun hx => ⟨hx, fun j _ hj => absurd hj (Nat.not_lt_zero _)⟩, fun hx => hx.1⟩
  | succ i ih =>
    intro hb hi x
    rcases Nat.lt_or_eq_of_le hb with h1 | h1
    · rw [ch_stab h (by omega) (hd i (by omega) (by omega)) x, ih (by omega) (by omega) x]
      constructor
      · rintro ⟨⟨h2, h3⟩, h4⟩
        refine ⟨h2, fun j hj1 hj2 => ?_⟩
        rcases Nat.lt_or_eq_of_le (Nat.le_of_lt_succ hj2) with h5 | h5
        · exact h3 j hj1 h5
        · rw [h5]; exact h4
      · rintro ⟨h2, h3⟩
        exact ⟨⟨h2, fun j hj1 hj2 => h3 j hj1 (by omega)⟩, h3 i (by omega) (by omega)⟩
    · subst h1
      exact ⟨fun hx => ⟨hx, fun j hj1 hj2 => by omega⟩, fun hx => hx.1⟩

/-- where the link's part puts the link's place -/
theorem ch_spread (h : ch_ok n gs pr sn sp wb) {i : Nat} (hi : i < n) (hd : ch_done gs pr sn i) :
    ∀ q, (∃ s, s < sn i ∧ sp i s = q) ↔ ∃ x, ch_G (gs i) x ∧ x i = q := by
  have hl := h.2 i hi
  exact lk_spread (ch_D_nodup n i) hl.1 hl.2.1 hd (ch_sg h hi)

/-- one more way back: still behind it something of link b -/
theorem ch_undo (h : ch_ok n gs pr sn sp wb) {b i t : Nat} (hb : b ≤ i) (hi : i < n) (ht : t < sn i) {u : gp_f}
    (hu : ch_G (gs b) u) : ch_G (gs b) (wb i t ∘ u) := by
  have hl := (h.2 i hi).1.2.2.2.2.1 t ht
  have hsub : ∀ k, b + k ≤ n → gp_sub (ch_G (gs (b + k))) (ch_G (gs b)) := by
    intro k
    induction k with
    | zero => intro _ x hx; exact hx
    | succ k ih =>
      intro hk x hx
      exact ih (by omega) x (gp_gen_sub (h.2 (b + k) (by omega)).2.2.1 x hx)
  obtain ⟨k, rfl⟩ : ∃ k, i = b + k := ⟨i - b, by omega⟩
  exact gp_gen_comp (hsub k (by omega) _ hl.1) hu

/-- a row that leaves the chain at i, behind u: nothing of link b goes with it further -/
theorem ch_fails (h : ch_ok n gs pr sn sp wb) {b : Nat} (hd : ∀ i, b ≤ i → i < n → ch_done gs pr sn i) {i : Nat} (hb : b ≤ i)
    (hi : i < n) {u σ : gp_f} (hu : ch_G (gs b) u) (hf : ∀ j, b ≤ j → j < i → u (σ j) = j)
    (hn : ¬ ∃ s, s < sn i ∧ sp i s = u (σ i)) : ¬ ∃ x, ch_G (gs b) x ∧ ∀ j, b ≤ j → j ≤ i → x j = σ j := by
  rintro ⟨x, hx, he⟩
  apply hn
  rw [ch_spread h hi (hd i hb hi)]
  refine ⟨u ∘ x, ?_, ?_⟩
  · rw [ch_part h hd i hb (Nat.le_of_lt hi)]
    refine ⟨gp_gen_comp hu hx, fun j hj1 hj2 => ?_⟩
    show u (x j) = j
    rw [he j hj1 (by omega), hf j hj1 hj2]
  · show u (x i) = u (σ i)
    rw [he i hb (Nat.le_refl i)]

/-- and something of link b goes with it that far -/
theorem ch_goes (h : ch_ok n gs pr sn sp wb) {b i : Nat} (hb : b ≤ n) {u σ : gp_f} (hu : ch_G (gs b) u)
    (hf : ∀ j, b ≤ j → j < i → u (σ j) = j) : ∃ x, ch_G (gs b) x ∧ ∀ j, b ≤ j → j < i → x j = σ j := by
  obtain ⟨x, hx, hi⟩ := (ch_sg h hb).2.2 u hu
  refine ⟨x, hx, fun j hj1 hj2 => ?_⟩
  have := hi.2 (σ j)
  rw [hf j hj1 hj2] at this
  exact this

end

/-- the level of a row: how far something of the group goes with it -/
def ch_lv (G : gp_f → Prop) (n : Nat) (σ : gp_f) (L : Nat) : Prop :=
  L ≤ n ∧ (∃ x, G x ∧ ∀ j, j < L → x j = σ j) ∧ (L < n → ¬ ∃ x, G x ∧ ∀ j, j ≤ L → x j = σ j)

theorem ch_lv_uniq {G : gp_f → Prop} {n : Nat} {σ : gp_f} {L M : Nat} (h1 : ch_lv G n σ L) (h2 : ch_lv G n σ M) : L = M := by
  rcases Nat.lt_trichotomy L M with h | h | h
  · exfalso
    obtain ⟨x, hx, he⟩ := h2.2.1
    exact h1.2.2 (by have := h2.1; omega) ⟨x, hx, fun j hj => he j (by omega)⟩
  · exact h
  · exfalso
    obtain ⟨x, hx, he⟩ := h1.2.1
    exact h2.2.2 (by have := h1.1; omega) ⟨x, hx, fun j hj => he j (by omega)⟩

/-- how many places the spread of i has -/
def ch_sz (G : gp_f → Prop) (i : Nat) (k : Nat) : Prop :=
  gp_card (fun q => ∃ x, G x ∧ (∀ j, j < i → x j = j) ∧ x i = q) k

section
variable {n : Nat} {gs : Nat → List gp_f} {pr : Nat → Nat → Nat} {sn : Nat → Nat} {sp : Nat → Nat → Nat}
  {wb : Nat → Nat → gp_f}

theorem ch_size (h : ch_ok n gs pr sn sp wb) (hd : ∀ i, i < n → ch_done gs pr sn i) {i : Nat} (hi : i < n) :
    ch_sz (ch_G (gs 0)) i (sn i) := by
  have hl := (h.2 i hi).1
  refine ⟨(List.range (sn i)).map (sp i), ?_, ?_, fun q => ?_⟩
  · refine gp_nodup_map List.nodup_range (fun s t hs ht e => ?_)
    exact hl.2.2.2.2.2 s t (List.mem_range.1 hs) (List.mem_range.1 ht) e
  · rw [List.length_map, List.length_range]
  · rw [List.mem_map]
    have h1 := ch_spread h hi (hd i hi) q
    have h2 := ch_part h (b := 0) (fun j _ hj => hd j hj) i (Nat.zero_le i) (Nat.le_of_lt hi)
    constructor
    · rintro ⟨s, hs, e⟩
      obtain ⟨x, hx, hxi⟩ := h1.1 ⟨s, List.mem_range.1 hs, e⟩
      obtain ⟨h3, h4⟩ := (h2 x).1 hx
      exact ⟨x, h3, fun j hj => h4 j (Nat.zero_le j) hj, hxi⟩
    · rintro ⟨x, hx, h3, h4⟩
      obtain ⟨s, hs, e⟩ := h1.2 ⟨x, (h2 x).2 ⟨hx, fun j _ hj => h3 j hj⟩, h4⟩
      exact ⟨s, List.mem_range.2 hs, e⟩

end

end
end
section
/-! How many there are: a group by where it puts a place, and by the chain. Pure. -/
section

theorem gp_orb_stab {G : gp_f → Prop} (hG : gp_sg G) {p a o b : Nat} (ha : gp_card G a)
    (ho : gp_card (fun q => ∃ x, G x ∧ x p = q) o) (hb : gp_card (fun x => G x ∧ x p = p) b) : a = o * b := by
  obtain ⟨l, hn, hl, hm⟩ := ho
  have := gp_fib (fun x : gp_f => x p) l hn G a ha (fun x hx => (hm _).2 ⟨x, hx, rfl⟩) (m := b) (by
    intro q hq
    obtain ⟨y, hy, hyq⟩ := (hm q).1 hq
    obtain ⟨y', hy', hi⟩ := hG.2.2 y hy
    refine gp_card_congr (gp_card_img hb (fun x => y ∘ x) ?_) (fun z => ?_)
    · intro x z _ _ e
      funext r
      exact gp_inv_inj hi (congrFun e r)
    · constructor
      · rintro ⟨x, ⟨hx, hxp⟩, rfl⟩
        refine ⟨hG.2.1 _ _ hy hx, ?_⟩
        show y (x p) = q
        rw [hxp, hyq]
      · rintro ⟨hz, hzq⟩
        refine ⟨y' ∘ z, ⟨hG.2.1 _ _ hy' hz, ?_⟩, ?_⟩
        · show y' (z p) = p
          rw [hzq, ← hyq, hi.2]
        · funext r
          exact hi.1 (z r))
  rw [this, hl]

/-- sn i ... sn (i + k - 1), multiplied -/
def ch_pr (sn : Nat → Nat) : Nat → Nat → Nat
  | _, 0 => 1
  | i, k + 1 => sn i * ch_pr sn (i + 1) k

theorem ch_pr_last (sn : Nat → Nat) : ∀ (k i : Nat), ch_pr sn i (k + 1) = ch_pr sn i k * sn (i + k) := by
  intro k
  induction k with
  | zero => intro i; simp [ch_pr]
  | succ k ih =>
    intro i
    show sn i * ch_pr sn (i + 1) (k + 1) = sn i * ch_pr sn (i + 1) k * sn (i + (k + 1))
    rw [ih (i + 1), Nat.mul_assoc]
    have : i + 1 + k = i + (k + 1) := by omega
    rw [this]

section
variable {n : Nat} {gs : Nat → List gp_f} {pr : Nat → Nat → Nat} {sn : Nat → Nat} {sp : Nat → Nat → Nat}
  {wb : Nat → Nat → gp_f}

theorem ch_card (h : ch_ok n gs pr sn sp wb) (hd : ∀ i, i < n → ch_done gs pr sn i) : ∀ k i, i + k = n →
    gp_card (ch_G (gs i)) (ch_pr sn i k) := by
  intro k
  induction k with
  | zero =>
    intro i hi
    have : i = n := by omega
    subst this
    rw [h.1]
    refine ⟨[id], by simp, rfl, fun x => ?_⟩
    rw [List.mem_singleton]
    constructor
    · intro e; rw [e]; exact gp_gen_id
    · intro hx
      exact gp_gen_min (M := fun x => x = id) rfl (fun t _ ht _ => absurd ht (List.not_mem_nil)) x hx
  | succ k ih =>
    intro i hi
    have hin : i < n := by omega
    obtain ⟨a, ha⟩ := gp_card_sub (gp_card_sym (ch_D n i) (ch_D_nodup n i)) (ch_in_sym h (Nat.le_of_lt hin))
    have h1 := ih (i + 1) (by omega)
    have h2 : gp_card (fun x => ch_G (gs i) x ∧ x i = i) (ch_pr sn (i + 1) k) :=
      gp_card_congr h1 (ch_stab h hin (hd i hin))
    have h3 : gp_card (fun q => ∃ x, ch_G (gs i) x ∧ x i = q) (sn i) := by
      have hl := (h.2 i hin).1
      refine ⟨(List.range (sn i)).map (sp i), ?_, ?_, fun q => ?_⟩
      · refine gp_nodup_map List.nodup_range (fun s t hs ht e => ?_)
        exact hl.2.2.2.2.2 s t (List.mem_range.1 hs) (List.mem_range.1 ht) e
      · rw [List.length_map, List.length_range]
      · rw [List.mem_map]
        refine Iff.trans ?_ (ch_spread h hin (hd i hin) q)
        constructor
        · rintro ⟨s, hs, e⟩; exact ⟨s, List.mem_range.1 hs, e⟩
        · rintro ⟨s, hs, e⟩; exact ⟨s, List.mem_range.2 hs, e⟩
    have h4 := gp_orb_stab (ch_sg h (Nat.le_of_lt hin)) ha h3 h2
    rw [h4] at ha
    exact ha

end

end
end
section
/-! The chain as it is made: what each step keeps. Pure. -/
section

/-- the links from a on are done; each row of a link made its group larger -/
def ch_inv (n : Nat) (gs : Nat → List gp_f) (pr : Nat → Nat → Nat) (sn : Nat → Nat) (sp : Nat → Nat → Nat)
    (wb : Nat → Nat → gp_f) (a : Nat) : Prop :=
  ch_ok n gs pr sn sp wb ∧ (∀ i, a ≤ i → i < n → ch_done gs pr sn i) ∧
    ∀ i, i < n → gp_lam (gs i).length (ch_G (gs i))

section
variable {n : Nat} {gs : Nat → List gp_f} {pr : Nat → Nat → Nat} {sn : Nat → Nat} {sp : Nat → Nat → Nat}
  {wb : Nat → Nat → gp_f} {a : Nat}

/-- a link is left upwards -/
theorem ch_pop (h : ch_inv n gs pr sn sp wb (a + 1)) (hd : a < n → ch_done gs pr sn a) : ch_inv n gs pr sn sp wb a := by
  refine ⟨h.1, fun i hi hin => ?_, h.2.2⟩
  rcases Nat.lt_or_eq_of_le hi with h1 | h1
  · exact h.2.1 i h1 hin
  · rw [← h1]
    exact hd (by omega)

/-- one pair more of link a is done: what it gives is of the link below -/
theorem ch_pair (h : ch_inv n gs pr sn sp wb (a + 1)) (ha : a < n) {k s t : Nat} {g u : gp_f} (hk : (gs a)[k]? = some g)
    (hs : s = pr a k) (hsn : s < sn a) (ht : t < sn a) (hq : sp a t = g (sp a s)) (hu : u ∘ wb a s = wb a t ∘ g)
    (hin : ch_G (gs (a + 1)) u) : ch_inv n gs (va_up pr a (va_up (pr a) k (s + 1))) sn sp wb (a + 1) := by
  obtain ⟨⟨h0, h1⟩, h2, h3⟩ := h
  refine ⟨⟨h0, fun i hi => ?_⟩, fun i hi hin => ?_, h3⟩
  · obtain ⟨c1, c2, c3, c4⟩ := h1 i hi
    by_cases e : i = a
    · subst e
      refine ⟨c1, ?_, c3, ?_⟩
      · rw [va_up_self]
        intro k' g' hk' s' hs'
        by_cases ek : k' = k
        · subst ek
          rw [va_up_self] at hs'
          by_cases es : s' = s
          · subst es
            rw [hk] at hk'
            cases hk'
            exact ⟨t, ht, hq, u, hin, hu⟩
          · exact c2 k' g' hk' s' (by omega)
        · rw [va_up_ne _ _ ek] at hs'
          exact c2 k' g' hk' s' hs'
      · rw [va_up_self]
        intro k'
        by_cases ek : k' = k
        · subst ek
          rw [va_up_self]
          omega
        · rw [va_up_ne _ _ ek]
          exact c4 k'
    · rw [va_up_ne _ _ e]
      exact ⟨c1, c2, c3, c4⟩
  · have e : i ≠ a := by omega
    have := h2 i hi hin
    unfold ch_done at this ⊢
    rw [va_up_ne _ _ e]
    exact this

/-- a pair of link a reaches a new place -/
theorem ch_wide (h : ch_inv n gs pr sn sp wb (a + 1)) (ha : a < n) {k s : Nat} {g g' : gp_f} (hk : (gs a)[k]? = some g)
    (hs : s = pr a k) (hsn : s < sn a) (hi : gp_inv g g') (hnew : ∀ t, t < sn a → sp a t ≠ g (sp a s)) :
    ch_inv n gs (va_up pr a (va_up (pr a) k (s + 1))) (va_up sn a (sn a + 1))
      (va_up sp a (va_up (sp a) (sn a) (g (sp a s)))) (va_up wb a (va_up (wb a) (sn a) (wb a s ∘ g'))) (a + 1) := by
  obtain ⟨⟨h0, h1⟩, h2, h3⟩ := h
  refine ⟨⟨h0, fun i hi' => ?_⟩, fun i hi' hin => ?_, h3⟩
  · obtain ⟨c1, c2, c3, c4⟩ := h1 i hi'
    by_cases e : i = a
    · subst e
      obtain ⟨d1, d2, d3, d4, d5, d6⟩ := c1
      have hgm : g ∈ gs i := List.mem_of_getElem? hk
      have hsg : gp_sg (ch_G (gs i)) := gp_gen_sg (ch_D_nodup n i) d1
      have hg'm : ch_G (gs i) g' := gp_sg_inv hsg (gp_gen_mem hgm) hi
      have hne : ∀ x, x < sn i → x ≠ sn i := fun x hx => Nat.ne_of_lt hx
      simp only [va_up_self]
      refine ⟨⟨d1, by omega, ?_, ?_, ?_, ?_⟩, ?_, c3, ?_⟩
      · rw [va_up_ne _ _ (hne 0 d2)]; exact d3
      · rw [va_up_ne _ _ (hne 0 d2)]; exact d4
      · intro x hx
        by_cases ex : x = sn i
        · rw [ex, va_up_self, va_up_self]
          refine ⟨gp_gen_comp (d5 s hsn).1 hg'm, ?_⟩
          show wb i s (g' (g (sp i s))) = i
          rw [hi.2]
          exact (d5 s hsn).2
        · rw [va_up_ne _ _ ex, va_up_ne _ _ ex]
          exact d5 x (by omega)
      · intro x y hx hy
        by_cases ex : x = sn i
        · by_cases ey : y = sn i
          · intro _; rw [ex, ey]
          · rw [ex, va_up_self, va_up_ne _ _ ey]
            intro exy
            exact absurd exy.symm (hnew y (by omega))
        · by_cases ey : y = sn i
          · rw [ey, va_up_self, va_up_ne _ _ ex]
            intro exy
            exact absurd exy (hnew x (by omega))
          · rw [va_up_ne _ _ ex, va_up_ne _ _ ey]
            exact d6 x y (by omega) (by omega)
      · intro k' f hk' s' hs'
        have old : s' < pr i k' → ∃ t, t < sn i + 1 ∧ va_up (sp i) (sn i) (g (sp i s)) t = f (va_up (sp i) (sn i) (g (sp i s)) s') ∧
            ∃ u, ch_G (gs (i + 1)) u ∧ u ∘ va_up (wb i) (sn i) (wb i s ∘ g') s' = va_up (wb i) (sn i) (wb i s ∘ g') t ∘ f := by
          intro hs''
          obtain ⟨t, ht, e1, u, hu, e2⟩ := c2 k' f hk' s' hs''
          have hs3 : s' < sn i := Nat.lt_of_lt_of_le hs'' (c4 k')
          refine ⟨t, by omega, ?_, u, hu, ?_⟩
          · rw [va_up_ne _ _ (hne t ht), va_up_ne _ _ (hne s' hs3)]; exact e1
          · rw [va_up_ne _ _ (hne t ht), va_up_ne _ _ (hne s' hs3)]; exact e2
        by_cases ek : k' = k
        · subst ek
          rw [va_up_self] at hs'
          by_cases es : s' = s
          · rw [hk] at hk'
            cases hk'
            rw [es]
            refine ⟨sn i, by omega, ?_, id, gp_gen_id, ?_⟩
            · rw [va_up_self, va_up_ne _ _ (hne s hsn)]
            · rw [va_up_self, va_up_ne _ _ (hne s hsn)]
              funext x
              show wb i s x = wb i s (g' (g x))
              rw [hi.2]
          · exact old (by omega)
        · rw [va_up_ne _ _ ek] at hs'
          exact old hs'
      · intro k'
        by_cases ek : k' = k
        · subst ek
          rw [va_up_self]
          omega
        · rw [va_up_ne _ _ ek]
          have := c4 k'
          omega
    · simp only [va_up_ne _ _ e]
      exact ⟨c1, c2, c3, c4⟩
  · have e : i ≠ a := by omega
    have := h2 i hi' hin
    unfold ch_done at this ⊢
    simp only [va_up_ne _ _ e]
    exact this

/-- a row that isn't of link b is put to it -/
theorem ch_add {b : Nat} (h : ch_inv n gs pr sn sp wb b) (hb : b < n) {r : gp_f} (hr : gp_sym (ch_D n b) r) (hnr : ¬ ch_G (gs b) r)
    (hup : ∀ i, i + 1 = b → ch_G (gs i) r) :
    ch_inv n (va_up gs b (gs b ++ [r])) (va_up pr b (va_up (pr b) (gs b).length 0)) sn sp wb (b + 1) := by
  obtain ⟨⟨h0, h1⟩, h2, h3⟩ := h
  have hmono : ∀ x, ch_G (gs b) x → ch_G (gs b ++ [r]) x :=
    gp_gen_mono (fun t ht => List.mem_append_left _ ht)
  have hsym : ∀ g, g ∈ gs b ++ [r] → gp_sym (ch_D n b) g := by
    intro g hg
    rcases List.mem_append.1 hg with hg | hg
    · exact (h1 b hb).1.1 g hg
    · rw [List.mem_singleton.1 hg]; exact hr
  refine ⟨⟨?_, fun i hi => ?_⟩, fun i hi hin => ?_, fun i hi => ?_⟩
  · rw [va_up_ne _ _ (by omega : n ≠ b)]; exact h0
  · obtain ⟨c1, c2, c3, c4⟩ := h1 i hi
    by_cases e : i = b
    · subst e
      have e1 : i + 1 ≠ i := by omega
      rw [va_up_self, va_up_self, va_up_ne _ _ e1]
      refine ⟨⟨hsym, c1.2.1, c1.2.2.1, c1.2.2.2.1, fun s hs => ⟨hmono _ (c1.2.2.2.2.1 s hs).1, (c1.2.2.2.2.1 s hs).2⟩, c1.2.2.2.2.2⟩, ?_, ?_, ?_⟩
      · intro k g hk s hs
        by_cases ek : k = (gs i).length
        · rw [ek, va_up_self] at hs
          exact absurd hs (Nat.not_lt_zero _)
        · rw [va_up_ne _ _ ek] at hs
          have hk' : k < (gs i).length := by
            have := (List.getElem?_eq_some_iff.1 hk).1
            rw [List.length_append] at this
            simp at this
            omega
          rw [List.getElem?_append_left hk'] at hk
          exact c2 k g hk s hs
      · exact fun g hg => hmono g (c3 g hg)
      · intro k
        by_cases ek : k = (gs i).length
        · rw [ek, va_up_self]; exact Nat.zero_le _
        · rw [va_up_ne _ _ ek]; exact c4 k
    · rw [va_up_ne _ _ e, va_up_ne _ _ e]
      by_cases e1 : i + 1 = b
      · subst e1
        rw [va_up_self]
        refine ⟨c1, ?_, ?_, c4⟩
        · intro k g hk s hs
          obtain ⟨t, ht, e2, u, hu, e3⟩ := c2 k g hk s hs
          exact ⟨t, ht, e2, u, hmono u hu, e3⟩
        · intro g hg
          rcases List.mem_append.1 hg with hg | hg
          · exact c3 g hg
          · rw [List.mem_singleton.1 hg]; exact hup i rfl
      · rw [va_up_ne _ _ e1]
        exact ⟨c1, c2, c3, c4⟩
  · have e : i ≠ b := by omega
    have := h2 i (by omega) hin
    unfold ch_done at this ⊢
    rw [va_up_ne _ _ e, va_up_ne _ _ e]
    exact this
  · by_cases e : i = b
    · subst e
      rw [va_up_self, List.length_append]
      refine ⟨gp_gen_sg (ch_D_nodup n i) hsym, ch_G (gs i), h3 i hi, hmono, r, ?_, hnr⟩
      exact gp_gen_mem (List.mem_append_right _ (List.mem_singleton.2 rfl))
    · rw [va_up_ne _ _ e]
      exact h3 i hi

/-- how many rows a link has at most -/
theorem ch_most (h : ch_inv n gs pr sn sp wb a) (hn : n ≤ 24) {i : Nat} (hi : i < n) (hi0 : 0 < i ∨ n < 24) :
    (gs i).length ≤ (n - i) * 3 / 2 := by
  have := gp_chain (D := ch_D n i) (ch_D_nodup n i) (by rw [ch_D_len]; omega) (ch_in_sym h.1 (Nat.le_of_lt hi)) (h.2.2 i hi)
  rw [ch_D_len] at this
  exact this

/-- what a pair gives: it leaves the places up to the link's -/
theorem ch_round (h : ch_ok n gs pr sn sp wb) (ha : a < n) {s t : Nat} {g u : gp_f} (hg : g ∈ gs a) (hsn : s < sn a)
    (ht : t < sn a) (hq : sp a t = g (sp a s)) (hu : u ∘ wb a s = wb a t ∘ g) :
    ch_G (gs a) u ∧ gp_sym (ch_D n (a + 1)) u := by
  obtain ⟨c1, c2, c3, c4⟩ := h.2 a ha
  have hsg := ch_sg h (Nat.le_of_lt ha)
  obtain ⟨w, hw, hwi⟩ := hsg.2.2 _ (c1.2.2.2.2.1 s hsn).1
  have e : u = (wb a t ∘ g) ∘ w := by
    rw [← hu]
    funext x
    show u x = u (wb a s (w x))
    rw [hwi.1]
  have hG : ch_G (gs a) u := by
    rw [e]
    exact hsg.2.1 _ _ (hsg.2.1 _ _ (c1.2.2.2.2.1 t ht).1 (gp_gen_mem hg)) hw
  refine ⟨hG, ?_⟩
  have hs := ch_in_sym h (Nat.le_of_lt ha) u hG
  refine ⟨hs.1, fun p hp => ?_⟩
  by_cases ep : p = a
  · subst ep
    have := congrFun hu (sp p s)
    have h2 : u (wb p s (sp p s)) = wb p t (g (sp p s)) := this
    rw [(c1.2.2.2.2.1 s hsn).2, ← hq, (c1.2.2.2.2.1 t ht).2] at h2
    exact h2
  · refine hs.2 p (fun hm => hp ?_)
    rw [ch_D_mem] at hm ⊢
    omega

end

end
end
